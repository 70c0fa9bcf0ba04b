def f_X4_isWord_L28  (fu : Nat) (iw : Nat) (s0 : St) (b1 : Nat → Int32) : Nat → Int32 → Option (Int32)
  | 0, _ => none
  | n_28 + 1, x2 => if (nI (slen iw)) ≤ x2 then (some 1) else (if inb ((s0.1 2) + x2) 1500 = true then (if inb x2 (slen iw) = true then (if (b1 ((s0.1 2) + x2).toNatClampNeg) = (sbyt iw x2.toNatClampNeg) then (f_X4_isWord_L28 fu iw s0 b1 n_28 (x2 + 1)) else (some 0)) else none) else none)
set_option maxHeartbeats 4000000 in
set_option maxRecDepth 100000 in
theorem b_X4_isWord_L28 {p : Program} {e : Env} {s : State} {m : MethodId} {args : Array Value} {below : List Frame} {meth : Method} {c : Code} {A : Nat → Prop} (l : Launch) (D : va_G) (cy : Nat → ClassId) (adK adV : Nat → Nat) (h0 : Nat) (s0 : St) (h1 : Nat) (b1 : Nat → Int32) (iw : Nat) (hiw : iw < 7) (fu : Nat) (out : Int32) (C : gC p s m args meth c (WS yX4_isWord cX4_isWord 3 (some .boolean)) cX4_isWord 3 (some .boolean) RX4) (hA : ∀ q : Nat, s.heap.size ≤ q → A q) (hE : gE adK adV A s s.heap) (hK : va_K D vwCl (TY cy) s)  :
    ∀ (n_28 : Nat), ∀ (x2 : Int32), f_X4_isWord_L28 fu iw s0 b1 n_28 x2 = some out → ∀ (H : Heap) (locs : List Loc) (ls : Array Slot), va_P D vwCl ((w4 cy h0 h1 s0) ++ (wB cy h1 b1)) H → va_D A ((w4 cy h0 h1 s0) ++ (wB cy h1 b1)) → va_S A s.heap H locs → lv_has ls 3 [(0, .ref h0), (1, .ref (adK iw)), (2, .int x2)] → W p l e ({ frames := 4, cells := 0, slots := 0, locals := 85 } : Room) s m args below meth c H locs 0 0 (MQ below (gQi D cy A out ((w4 cy h0 h1 s0) ++ (wB cy h1 b1))) args s 0 0 A) (F0 m 28 ls []) := by
  obtain ⟨hx, hb, hr, hml, hown, hts, hlk⟩ := id C
  have hown : s.vm.findClass RX4 = some m.cls := hown
  have hk_9 := hts _ (List.mem_cons_of_mem _ fl_RX4_9)
  have hk_34 := hts _ (List.mem_cons_of_mem _ fl_RX4_34)
  intro n_28
  induction n_28 with
  | zero => intro x2 hf; exact op_no hf
  | succ n_28 ih_28 =>
    intro x2 hf H locs ls hP hD hS hl
    rw [f_X4_isWord_L28] at hf
    refine lv_iload_n hx hb dX4_isWord_28 rfl (lv_at hl 2 rfl) ?_
    refine lv_aload_n hx hb dX4_isWord_29 rfl (lv_at hl 1 rfl) ?_
    refine g_callViE (As := []) (rest := [.int x2]) (w2 := (w4 cy h0 h1 s0) ++ (wB cy h1 b1)) ⟨hx, hb, hml, hown, hts⟩ (c_str_length l D cy adK adV iw _ hiw) (cwV 0 hts (gi_V ml_RX4_57 im_J0_length_8abf5 se_J0_length_8abf5 in_RJ0 cd_J0_length_8abf5) rfl rfl rfl hdJ0_length ⟨Nat.le_of_ble_eq_true rfl, Nat.le_of_ble_eq_true rfl⟩) (vk_recv hE.1 hiw hS) rfl hl.1 rfl (Nat.le_of_ble_eq_true rfl) dX4_isWord_30 hE hK hP hD hS hA [] [0, 1] [0, 1] rfl rfl rfl rfl (by decide) rfl rfl (fun H locs hP hD hS => ?_)
    refine lv_icmp_ge (tgt := 63) hx hb dX4_isWord_33 (by decide) (fun c_33 => ?_) (fun c_33 => ?_)
    · have hf := op_pos c_33 hf
      refine lv_iconst (v := 1) hx hb dX4_isWord_63 (by decide) ?_
      rw [← Option.some.inj hf]
      exact g_zret hx hb hr hlk (show isB 1 = true by decide) hK hP hD hS dX4_isWord_64
    · have hf := op_neg c_33 hf
      refine lv_aload_n hx hb dX4_isWord_36 rfl (lv_at hl 0 rfl) ?_
      refine va_get (ci := 4) (v := .ref h1) (C := RX4) (T := TX4) (N := 6) hx hb hts (fun w h => List.mem_cons_of_mem _ (inX4 w h)) hown hK hP 0 rfl rfl 0 (by decide) hk_9 (fun _ h9 => h9) rfl dX4_isWord_37 ?_
      refine lv_aload_n hx hb dX4_isWord_40 rfl (lv_at hl 0 rfl) ?_
      refine va_get (ci := 4) (v := .int (s0.1 2)) (C := RX4) (T := TX4) (N := 6) hx hb hts (fun w h => List.mem_cons_of_mem _ (inX4 w h)) hown hK hP 0 rfl rfl 2 (by decide) hk_34 (fun _ h9 => h9) rfl dX4_isWord_41 ?_
      refine lv_iload_n hx hb dX4_isWord_44 rfl (lv_at hl 2 rfl) ?_
      refine lv_iadd hx hb dX4_isWord_45 ?_
      obtain ⟨hg_46, hf⟩ := op_if hf
      refine va_bald (f := b1) hx hb hK hP 1 1 rfl rfl (inb_in hg_46) dX4_isWord_46 ?_
      refine lv_aload_n hx hb dX4_isWord_47 rfl (lv_at hl 1 rfl) ?_
      refine lv_iload_n hx hb dX4_isWord_48 rfl (lv_at hl 2 rfl) ?_
      obtain ⟨hg_49, hf⟩ := op_if hf
      refine g_callViE (As := [.int x2]) (rest := [.int (b1 ((s0.1 2) + x2).toNatClampNeg)]) (w2 := (w4 cy h0 h1 s0) ++ (wB cy h1 b1)) ⟨hx, hb, hml, hown, hts⟩ (c_str_charAt l D cy adK adV iw _ hiw x2 hg_49) (cwV 1 hts (gi_V ml_RX4_62 im_J0_charAt_5068e se_J0_charAt_5068e in_RJ0 cd_J0_charAt_5068e) rfl rfl rfl hdJ0_charAt ⟨Nat.le_of_ble_eq_true rfl, Nat.le_of_ble_eq_true rfl⟩) (vk_recv hE.1 hiw hS) rfl hl.1 rfl (Nat.le_of_ble_eq_true rfl) dX4_isWord_49 hE hK hP hD hS hA [] [0, 1] [0, 1] rfl rfl rfl rfl (by decide) rfl rfl (fun H locs hP hD hS => ?_)
      refine lv_icmp_eq (tgt := 57) hx hb dX4_isWord_52 (by decide) (fun c_52 => ?_) (fun c_52 => ?_)
      · have hf := op_pos c_52 hf
        refine lv_iinc (v := x2 + 1) (lv' := [(2, .int (x2 + 1)), (0, .ref h0), (1, .ref (adK iw))]) hx hb dX4_isWord_57 hl (k := 2) rfl rfl (by decide) rfl (fun ls hl => ?_)
        refine lv_goto (tgt := 28) hx hb dX4_isWord_60 (by decide) ?_
        exact ih_28 (x2 + 1) hf _ _ ls hP hD hS (lv_sub hl [1, 2, 0] rfl)
      · have hf := op_neg c_52 hf
        refine lv_iconst (v := 0) hx hb dX4_isWord_55 (by decide) ?_
        rw [← Option.some.inj hf]
        exact g_zret hx hb hr hlk (show isB 0 = true by decide) hK hP hD hS dX4_isWord_56
def f_X4_isWord (fu : Nat) (iw : Nat) (s0 : St) (b1 : Nat → Int32)   : Option (Int32) := if (s0.1 1) = 1 then (if ((s0.1 5) - (s0.1 2)) = (nI (slen iw)) then (f_X4_isWord_L28 fu iw s0 b1 fu 0) else (some 0)) else (some 0)
theorem hdX4_isWord : yX4_isWord.cls = RX4 ∧ yX4_isWord.cls ≠ "java/lang/invoke/MethodHandle" ∧ yX4_isWord.cls ≠ "java/lang/invoke/VarHandle" ∧ (parseMethodDescriptor yX4_isWord.desc).map (fun d => d.parameters.length) = some 1 := by decide +kernel
set_option maxHeartbeats 4000000 in
set_option maxRecDepth 100000 in
theorem c_X4_isWord (l : Launch) (D : va_G) (cy : Nat → ClassId) (adK adV : Nat → Nat) (h0 : Nat) (s0 : St) (h1 : Nat) (b1 : Nat → Int32) (iw : Nat) (hiw : iw < 7) (sz fu : Nat)  (out : Int32) (hf : f_X4_isWord fu iw s0 b1 = some out) :
    Met l yX4_isWord (WS yX4_isWord cX4_isWord 3 (some .boolean)) ({ frames := 4, cells := 0, slots := 0, locals := 85 } : Room) (va_Pc [.ref h0, .ref (adK iw)] (gPE D cy adK adV sz ((w4 cy h0 h1 s0) ++ (wB cy h1 b1)))) ((fun A : Nat → Prop => gQi D cy A out ((w4 cy h0 h1 s0) ++ (wB cy h1 b1))) (va_A ((w4 cy h0 h1 s0) ++ (wB cy h1 b1)) sz)) 0 0 (va_A ((w4 cy h0 h1 s0) ++ (wB cy h1 b1)) sz) := by
  refine g_metE (cc := cX4_isWord) (maxL := 3) (ret := (some .boolean)) (fun A : Nat → Prop => gQi D cy A out ((w4 cy h0 h1 s0) ++ (wB cy h1 b1))) (by decide +kernel) rfl (Nat.le_of_ble_eq_true rfl) ?_
  intro p e s m below meth c A C hA hE hK hP hD ls hl
  obtain ⟨hx, hb, hr, hml, hown, hts, hlk⟩ := id C
  have hown : s.vm.findClass RX4 = some m.cls := hown
  have hS : va_S A s.heap s.heap [] := va_S.rf
  have hl : lv_has ls 3 [(0, .ref h0), (1, .ref (adK iw))] := hl
  have hk_37 := hts _ (List.mem_cons_of_mem _ fl_RX4_37)
  have hkf_28 := hts _ (List.mem_cons_of_mem _ fl_RX4_28)
  have hk_34 := hts _ (List.mem_cons_of_mem _ fl_RX4_34)
  unfold f_X4_isWord at hf
  refine lv_aload_n hx hb dX4_isWord_0 rfl (lv_at hl 0 rfl) ?_
  refine va_get (ci := 4) (v := .int (s0.1 1)) (C := RX4) (T := TX4) (N := 6) hx hb hts (fun w h => List.mem_cons_of_mem _ (inX4 w h)) hown hK hP 0 rfl rfl 1 (by decide) hk_37 (fun _ h9 => h9) rfl dX4_isWord_1 ?_
  refine lv_iconst (v := 1) hx hb dX4_isWord_4 (by decide) ?_
  refine lv_icmp_ne (tgt := 24) hx hb dX4_isWord_5 (by decide) (fun c_5 => ?_) (fun c_5 => ?_)
  · have hf := op_neg c_5 hf
    refine lv_iconst (v := 0) hx hb dX4_isWord_24 (by decide) ?_
    rw [← Option.some.inj hf]
    exact g_zret hx hb hr hlk (show isB 0 = true by decide) hK hP hD hS dX4_isWord_25
  · have hf := op_pos c_5 hf
    refine lv_aload_n hx hb dX4_isWord_8 rfl (lv_at hl 0 rfl) ?_
    refine va_get (ci := 4) (v := .int (s0.1 5)) (C := RX4) (T := TX4) (N := 6) hx hb hts (fun w h => List.mem_cons_of_mem _ (inX4 w h)) hown hK hP 0 rfl rfl 5 (by decide) hkf_28 (fun _ h9 => h9) rfl dX4_isWord_9 ?_
    refine lv_aload_n hx hb dX4_isWord_12 rfl (lv_at hl 0 rfl) ?_
    refine va_get (ci := 4) (v := .int (s0.1 2)) (C := RX4) (T := TX4) (N := 6) hx hb hts (fun w h => List.mem_cons_of_mem _ (inX4 w h)) hown hK hP 0 rfl rfl 2 (by decide) hk_34 (fun _ h9 => h9) rfl dX4_isWord_13 ?_
    refine lv_isub hx hb dX4_isWord_16 ?_
    refine lv_aload_n hx hb dX4_isWord_17 rfl (lv_at hl 1 rfl) ?_
    refine g_callViE (As := []) (rest := [.int ((s0.1 5) - (s0.1 2))]) (w2 := (w4 cy h0 h1 s0) ++ (wB cy h1 b1)) ⟨hx, hb, hml, hown, hts⟩ (c_str_length l D cy adK adV iw _ hiw) (cwV 0 hts (gi_V ml_RX4_57 im_J0_length_8abf5 se_J0_length_8abf5 in_RJ0 cd_J0_length_8abf5) rfl rfl rfl hdJ0_length ⟨Nat.le_of_ble_eq_true rfl, Nat.le_of_ble_eq_true rfl⟩) (vk_recv hE.1 hiw hS) rfl hl.1 rfl (Nat.le_of_ble_eq_true rfl) dX4_isWord_18 hE hK hP hD hS hA [] [0, 1] [0, 1] rfl rfl rfl rfl (by decide) rfl rfl (fun H locs hP hD hS => ?_)
    refine lv_icmp_eq (tgt := 26) hx hb dX4_isWord_21 (by decide) (fun c_21 => ?_) (fun c_21 => ?_)
    · have hf := op_pos c_21 hf
      refine lv_iconst (v := 0) hx hb dX4_isWord_26 (by decide) ?_
      refine lv_istore_n (lv' := [(2, .int 0), (0, .ref h0), (1, .ref (adK iw))]) hx hb dX4_isWord_27 rfl hl (by decide) rfl (fun ls hl => ?_)
      exact b_X4_isWord_L28 l D cy adK adV h0 s0 h1 b1 iw hiw fu out C hA hE hK fu 0 hf _ _ ls hP hD hS (lv_sub hl [1, 2, 0] rfl)
    · have hf := op_neg c_21 hf
      refine lv_iconst (v := 0) hx hb dX4_isWord_24 (by decide) ?_
      rw [← Option.some.inj hf]
      exact g_zret hx hb hr hlk (show isB 0 = true by decide) hK hP hD hS dX4_isWord_25
def f_X3_readTongues (fu : Nat) (b2 : Nat → Int32) (s0 : St) (s1 : St) (s3 : St)  : Option (Int32 × St × St × St) := (f_X4_isWord fu 0 s1 b2).bind (fun q_6 => if q_6 = 0 then ((f_X3_fail fu s0 1 (s1.1 2)).bind (fun q_21 => if isB q_21.1 = true then (some (q_21.1, q_21.2, s1, s3)) else none)) else ((f_X4_step fu b2 s1).bind (fun q_29 => (f_X3_readNumber fu b2 s0 q_29 1 4).bind (fun q_35 => if q_35.1 = 0 then (some (0, q_35.2.1, q_35.2.2, s3)) else ((f_X3_readSemicolon fu b2 q_35.2.1 q_35.2.2).bind (fun q_55 => if isB q_55.1 = true then (some (q_55.1, q_55.2.1, q_55.2.2, sF s3 0 (q_35.2.1.1 4))) else none))))))
theorem hdX3_readTongues : yX3_readTongues.cls = RX3 ∧ yX3_readTongues.cls ≠ "java/lang/invoke/MethodHandle" ∧ yX3_readTongues.cls ≠ "java/lang/invoke/VarHandle" ∧ (parseMethodDescriptor yX3_readTongues.desc).map (fun d => d.parameters.length) = some 0 := by decide +kernel
set_option maxHeartbeats 4000000 in
set_option maxRecDepth 100000 in
theorem c_X3_readTongues (l : Launch) (D : va_G) (cy : Nat → ClassId) (adK adV : Nat → Nat) (h0 : Nat) (s0 : St) (h1 : Nat) (s1 : St) (h2 : Nat) (b2 : Nat → Int32) (h3 : Nat) (a3 : Nat → Nat) (s3 : St) (sz fu : Nat)  (out : Int32 × St × St × St) (hf : f_X3_readTongues fu b2 s0 s1 s3 = some out) :
    Met l yX3_readTongues (WS yX3_readTongues cX3_readTongues 1 (some .boolean)) ({ frames := 5, cells := 0, slots := 0, locals := 107 } : Room) (va_Pc [.ref h0] (gPE D cy adK adV sz ((w3 cy h0 h1 h3 s0) ++ (w4 cy h1 h2 s1) ++ (wB cy h2 b2) ++ (w5 cy h3 a3 s3)))) ((fun A : Nat → Prop => gQi D cy A out.1 ((w3 cy h0 h1 h3 out.2.1) ++ (w4 cy h1 h2 out.2.2.1) ++ (wB cy h2 b2) ++ (w5 cy h3 a3 out.2.2.2))) (va_A ((w3 cy h0 h1 h3 s0) ++ (w4 cy h1 h2 s1) ++ (wB cy h2 b2) ++ (w5 cy h3 a3 s3)) sz)) 0 0 (va_A ((w3 cy h0 h1 h3 s0) ++ (w4 cy h1 h2 s1) ++ (wB cy h2 b2) ++ (w5 cy h3 a3 s3)) sz) := by
  refine g_metE (cc := cX3_readTongues) (maxL := 1) (ret := (some .boolean)) (fun A : Nat → Prop => gQi D cy A out.1 ((w3 cy h0 h1 h3 out.2.1) ++ (w4 cy h1 h2 out.2.2.1) ++ (wB cy h2 b2) ++ (w5 cy h3 a3 out.2.2.2))) (by decide +kernel) rfl (Nat.le_of_ble_eq_true rfl) ?_
  intro p e s m below meth c A C hA hE hK hP hD ls hl
  obtain ⟨hx, hb, hr, hml, hown, hts, hlk⟩ := id C
  have hown : s.vm.findClass RX3 = some m.cls := hown
  have hS : va_S A s.heap s.heap [] := va_S.rf
  have hl : lv_has ls 1 [(0, .ref h0)] := hl
  have hk_24 := hts _ (List.mem_cons_of_mem _ fl_RX3_24)
  have hk_15 := hts _ (List.mem_cons_of_mem _ fl_RX3_15)
  have hk_70 := hts _ (List.mem_cons_of_mem _ fl_RX3_70)
  have hk_73 := hts _ (List.mem_cons_of_mem _ fl_RX3_73)
  have hk_57 := hts _ (List.mem_cons_of_mem _ fl_RX3_57)
  unfold f_X3_readTongues at hf
  refine lv_aload_n hx hb dX3_readTongues_0 rfl (lv_at hl 0 rfl) ?_
  refine va_get (ci := 3) (v := .ref h1) (C := RX3) (T := TX3) (N := 6) hx hb hts (fun w h => List.mem_cons_of_mem _ (inX3 w h)) hown hK hP 0 rfl rfl 2 (by decide) hk_24 (fun _ h9 => h9) rfl dX3_readTongues_1 ?_
  refine va_ldcS hx hb hown (hE.2.2.2 0 (by decide)) dX3_readTongues_4 ?_
  obtain ⟨q_6, hc_6, hf⟩ := op_bind hf
  refine g_callViE (As := [.ref (adK 0)]) (rest := []) (w2 := (w3 cy h0 h1 h3 s0) ++ (w4 cy h1 h2 s1) ++ (wB cy h2 b2) ++ (w5 cy h3 a3 s3)) ⟨hx, hb, hml, hown, hts⟩ (c_X4_isWord l D cy adK adV h1 s1 h2 b2 0 (by decide) _ fu _ hc_6) (cwV 1 hts (gi_V ml_RX3_53 im_X4_isWord se_X4_isWord in_RX4 cd_X4_isWord) rfl rfl rfl hdX4_isWord ⟨Nat.le_of_ble_eq_true rfl, Nat.le_of_ble_eq_true rfl⟩) (va_recv hK hP (ci := 4) (q0 := 1) rfl rfl) rfl hl.1 rfl (Nat.le_of_ble_eq_true rfl) dX3_readTongues_6 hE hK hP hD hS hA [1, 2] [0, 3, 4, 5, 6, 7, 8, 9, 10, 11] [0, 10, 11, 1, 2, 3, 4, 5, 6, 7, 8, 9] rfl rfl rfl rfl (by decide) rfl rfl (fun H locs hP hD hS => ?_)
  refine lv_if_ne (tgt := 25) hx hb dX3_readTongues_9 (by decide) (fun c_9 => ?_) (fun c_9 => ?_)
  · have hf := op_neg c_9 hf
    refine lv_aload_n hx hb dX3_readTongues_25 rfl (lv_at hl 0 rfl) ?_
    refine va_get (ci := 3) (v := .ref h1) (C := RX3) (T := TX3) (N := 6) hx hb hts (fun w h => List.mem_cons_of_mem _ (inX3 w h)) hown hK hP 0 rfl rfl 2 (by decide) hk_24 (fun _ h9 => h9) rfl dX3_readTongues_26 ?_
    obtain ⟨q_29, hc_29, hf⟩ := op_bind hf
    refine g_callVv (As := []) (rest := []) (w2 := (w3 cy h0 h1 h3 s0) ++ (w4 cy h1 h2 q_29) ++ (wB cy h2 b2) ++ (w5 cy h3 a3 s3)) ⟨hx, hb, hml, hown, hts⟩ (c_X4_step l D cy h1 s1 h2 b2 _ fu _ hc_29) (cwV 0 hts (gi_V ml_RX3_64 im_X4_step se_X4_step in_RX4 cd_X4_step) rfl rfl rfl hdX4_step ⟨Nat.le_of_ble_eq_true rfl, Nat.le_of_ble_eq_true rfl⟩) (va_recv hK hP (ci := 4) (q0 := 1) rfl rfl) rfl hl.1 rfl (Nat.le_of_ble_eq_true rfl) dX3_readTongues_29 hK hP hD hS hA [1, 2] [0, 3, 4, 5, 6, 7, 8, 9, 10, 11] [0, 10, 11, 1, 2, 3, 4, 5, 6, 7, 8, 9] rfl rfl rfl rfl (by decide) rfl rfl (fun H locs hP hD hS => ?_)
    refine lv_aload_n hx hb dX3_readTongues_32 rfl (lv_at hl 0 rfl) ?_
    refine lv_iconst (v := 1) hx hb dX3_readTongues_33 (by decide) ?_
    refine lv_iconst (v := 4) hx hb dX3_readTongues_34 (by decide) ?_
    obtain ⟨q_35, hc_35, hf⟩ := op_bind hf
    refine g_callVi (As := [.int 1, .int 4]) (rest := []) (w2 := (w3 cy h0 h1 h3 q_35.2.1) ++ (w4 cy h1 h2 q_35.2.2) ++ (wB cy h2 b2) ++ (w5 cy h3 a3 s3)) ⟨hx, hb, hml, hown, hts⟩ (c_X3_readNumber l D cy h0 h3 s0 h1 q_29 h2 b2 _ fu 1 4 _ hc_35) (cwV 2 hts (gi_V ml_RX3_67 im_X3_readNumber se_X3_readNumber in_RX3 cd_X3_readNumber) rfl rfl rfl hdX3_readNumber ⟨Nat.le_of_ble_eq_true rfl, Nat.le_of_ble_eq_true rfl⟩) (va_recv hK hP (ci := 3) (q0 := 0) rfl rfl) rfl hl.1 rfl (Nat.le_of_ble_eq_true rfl) dX3_readTongues_35 hK hP hD hS hA [0, 1, 2] [3, 4, 5, 6, 7, 8, 9, 10, 11] [9, 10, 11, 0, 1, 2, 3, 4, 5, 6, 7, 8] rfl rfl rfl rfl (by decide) rfl rfl (fun H locs hP hD hS => ?_)
    refine lv_if_ne (tgt := 43) hx hb dX3_readTongues_38 (by decide) (fun c_38 => ?_) (fun c_38 => ?_)
    · have hf := op_neg c_38 hf
      refine lv_aload_n hx hb dX3_readTongues_43 rfl (lv_at hl 0 rfl) ?_
      refine va_get (ci := 3) (v := .ref h3) (C := RX3) (T := TX3) (N := 6) hx hb hts (fun w h => List.mem_cons_of_mem _ (inX3 w h)) hown hK hP 0 rfl rfl 3 (by decide) hk_15 (fun _ h9 => h9) rfl dX3_readTongues_44 ?_
      refine lv_aload_n hx hb dX3_readTongues_47 rfl (lv_at hl 0 rfl) ?_
      refine va_get (ci := 3) (v := .int (q_35.2.1.1 4)) (C := RX3) (T := TX3) (N := 6) hx hb hts (fun w h => List.mem_cons_of_mem _ (inX3 w h)) hown hK hP 0 rfl rfl 4 (by decide) hk_70 (fun _ h9 => h9) rfl dX3_readTongues_48 ?_
      refine va_put (ci := 5) (v := .int (q_35.2.1.1 4)) (ty := tyX5 0) (C := RX5) (T := TX5) (N := 13) hx hb hts (fun w h => List.mem_cons_of_mem _ (inX5 w h)) tyX5 tyX5_ok nmX5 hown hK hP hD hS 3 rfl rfl 0 (by decide) hk_73 (fun _ h9 => h9) rfl (tyX5_ok 0 (by decide)) rfl rfl (Nat.le_of_ble_eq_true rfl) dX3_readTongues_51 (fun H locs hP hD hS => ?_)
      have hP : va_P D vwCl ((w3 cy h0 h1 h3 q_35.2.1) ++ (w4 cy h1 h2 q_35.2.2) ++ (wB cy h2 b2) ++ (w5 cy h3 a3 (sF s3 0 (q_35.2.1.1 4)))) H := hP
      have hD : va_D A ((w3 cy h0 h1 h3 q_35.2.1) ++ (w4 cy h1 h2 q_35.2.2) ++ (wB cy h2 b2) ++ (w5 cy h3 a3 (sF s3 0 (q_35.2.1.1 4)))) := hD
      refine lv_aload_n hx hb dX3_readTongues_54 rfl (lv_at hl 0 rfl) ?_
      obtain ⟨q_55, hc_55, hf⟩ := op_bind hf
      refine g_callVi (As := []) (rest := []) (w2 := (w3 cy h0 h1 h3 q_55.2.1) ++ (w4 cy h1 h2 q_55.2.2) ++ (wB cy h2 b2) ++ (w5 cy h3 a3 (sF s3 0 (q_35.2.1.1 4)))) ⟨hx, hb, hml, hown, hts⟩ (c_X3_readSemicolon l D cy h0 h3 q_35.2.1 h1 q_35.2.2 h2 b2 _ fu _ hc_55) (cwV 0 hts (gi_V ml_RX3_75 im_X3_readSemicolon se_X3_readSemicolon in_RX3 cd_X3_readSemicolon) rfl rfl rfl hdX3_readSemicolon ⟨Nat.le_of_ble_eq_true rfl, Nat.le_of_ble_eq_true rfl⟩) (va_recv hK hP (ci := 3) (q0 := 0) rfl rfl) rfl hl.1 rfl (Nat.le_of_ble_eq_true rfl) dX3_readTongues_55 hK hP hD hS hA [0, 1, 2] [3, 4, 5, 6, 7, 8, 9, 10, 11] [9, 10, 11, 0, 1, 2, 3, 4, 5, 6, 7, 8] rfl rfl rfl rfl (by decide) rfl rfl (fun H locs hP hD hS => ?_)
      obtain ⟨hg_58, hf⟩ := op_if hf
      rw [← Option.some.inj hf]
      exact g_zret hx hb hr hlk hg_58 hK hP hD hS dX3_readTongues_58
    · have hf := op_pos c_38 hf
      refine lv_iconst (v := 0) hx hb dX3_readTongues_41 (by decide) ?_
      rw [← Option.some.inj hf]
      exact g_zret hx hb hr hlk (show isB 0 = true by decide) hK hP hD hS dX3_readTongues_42
  · have hf := op_pos c_9 hf
    refine lv_aload_n hx hb dX3_readTongues_12 rfl (lv_at hl 0 rfl) ?_
    refine lv_iconst (v := 1) hx hb dX3_readTongues_13 (by decide) ?_
    refine lv_aload_n hx hb dX3_readTongues_14 rfl (lv_at hl 0 rfl) ?_
    refine va_get (ci := 3) (v := .ref h1) (C := RX3) (T := TX3) (N := 6) hx hb hts (fun w h => List.mem_cons_of_mem _ (inX3 w h)) hown hK hP 0 rfl rfl 2 (by decide) hk_24 (fun _ h9 => h9) rfl dX3_readTongues_15 ?_
    refine va_get (ci := 4) (v := .int (s1.1 2)) (C := RX4) (T := TX4) (N := 6) hx hb hts (fun w h => List.mem_cons_of_mem _ (inX4 w h)) hown hK hP 1 rfl rfl 2 (by decide) hk_57 (fun _ h9 => h9) rfl dX3_readTongues_18 ?_
    obtain ⟨q_21, hc_21, hf⟩ := op_bind hf
    refine g_callVi (As := [.int 1, .int (s1.1 2)]) (rest := []) (w2 := (w3 cy h0 h1 h3 q_21.2) ++ (w4 cy h1 h2 s1) ++ (wB cy h2 b2) ++ (w5 cy h3 a3 s3)) ⟨hx, hb, hml, hown, hts⟩ (c_X3_fail l D cy h0 h1 h3 s0 _ fu 1 (s1.1 2) _ hc_21) (cwV 2 hts (gi_V ml_RX3_60 im_X3_fail se_X3_fail in_RX3 cd_X3_fail) rfl rfl rfl hdX3_fail ⟨Nat.le_of_ble_eq_true rfl, Nat.le_of_ble_eq_true rfl⟩) (va_recv hK hP (ci := 3) (q0 := 0) rfl rfl) rfl hl.1 rfl (Nat.le_of_ble_eq_true rfl) dX3_readTongues_21 hK hP hD hS hA [0] [1, 2, 3, 4, 5, 6, 7, 8, 9, 10, 11] [11, 0, 1, 2, 3, 4, 5, 6, 7, 8, 9, 10] rfl rfl rfl rfl (by decide) rfl rfl (fun H locs hP hD hS => ?_)
    obtain ⟨hg_24, hf⟩ := op_if hf
    rw [← Option.some.inj hf]
    exact g_zret hx hb hr hlk hg_24 hK hP hD hS dX3_readTongues_24
def f_X3_readSettings_L89 (k_2 : St → St → St → Int32 → Int32 → Option (Int32 × St × St × St)) (fu : Nat) (b2 : Nat → Int32) (u0 : St) (u1 : St) (u3 : St) (x1 : Int32) (x2 : Int32) (x3 : Int32) : Option (Int32 × St × St × St) := if x3 = 0 then (some (0, u0, u1, u3)) else (k_2 u0 u1 u3 x1 (x2 + 1))
set_option maxHeartbeats 4000000 in
set_option maxRecDepth 100000 in
theorem b_X3_readSettings_L89 {p : Program} {e : Env} {s : State} {m : MethodId} {args : Array Value} {below : List Frame} {meth : Method} {c : Code} {A : Nat → Prop} (l : Launch) (D : va_G) (cy : Nat → ClassId) (adK adV : Nat → Nat) (h0 : Nat) (h1 : Nat) (h2 : Nat) (b2 : Nat → Int32) (h3 : Nat) (a3 : Nat → Nat) (fu : Nat) (out : Int32 × St × St × St) (C : gC p s m args meth c (WS yX3_readSettings cX3_readSettings 4 (some .boolean)) cX3_readSettings 4 (some .boolean) RX3) (hA : ∀ q : Nat, s.heap.size ≤ q → A q) (hE : gE adK adV A s s.heap) (hK : va_K D vwCl (TY cy) s) (k_2 : St → St → St → Int32 → Int32 → Option (Int32 × St × St × St)) (hk_2 : ∀ (u0 : St) (u1 : St) (u3 : St) (x1 : Int32) (x2 : Int32), k_2 u0 u1 u3 x1 x2 = some out → ∀ (H : Heap) (locs : List Loc) (ls : Array Slot), va_P D vwCl ((w3 cy h0 h1 h3 u0) ++ (w4 cy h1 h2 u1) ++ (wB cy h2 b2) ++ (w5 cy h3 a3 u3)) H → va_D A ((w3 cy h0 h1 h3 u0) ++ (w4 cy h1 h2 u1) ++ (wB cy h2 b2) ++ (w5 cy h3 a3 u3)) → va_S A s.heap H locs → lv_has ls 4 [(0, .ref h0), (1, .int x1), (2, .int x2)] → W p l e ({ frames := 5, cells := 0, slots := 0, locals := 109 } : Room) s m args below meth c H locs 0 0 (MQ below (gQi D cy A out.1 ((w3 cy h0 h1 h3 out.2.1) ++ (w4 cy h1 h2 out.2.2.1) ++ (wB cy h2 b2) ++ (w5 cy h3 a3 out.2.2.2))) args s 0 0 A) (F0 m 2 ls [])) :
    ∀ (u0 : St) (u1 : St) (u3 : St) (x1 : Int32) (x2 : Int32) (x3 : Int32), f_X3_readSettings_L89 k_2 fu b2 u0 u1 u3 x1 x2 x3 = some out → ∀ (H : Heap) (locs : List Loc) (ls : Array Slot), va_P D vwCl ((w3 cy h0 h1 h3 u0) ++ (w4 cy h1 h2 u1) ++ (wB cy h2 b2) ++ (w5 cy h3 a3 u3)) H → va_D A ((w3 cy h0 h1 h3 u0) ++ (w4 cy h1 h2 u1) ++ (wB cy h2 b2) ++ (w5 cy h3 a3 u3)) → va_S A s.heap H locs → lv_has ls 4 [(0, .ref h0), (1, .int x1), (2, .int x2), (3, .int x3)] → W p l e ({ frames := 5, cells := 0, slots := 0, locals := 109 } : Room) s m args below meth c H locs 0 0 (MQ below (gQi D cy A out.1 ((w3 cy h0 h1 h3 out.2.1) ++ (w4 cy h1 h2 out.2.2.1) ++ (wB cy h2 b2) ++ (w5 cy h3 a3 out.2.2.2))) args s 0 0 A) (F0 m 89 ls []) := by
  obtain ⟨hx, hb, hr, hml, hown, hts, hlk⟩ := id C
  have hown : s.vm.findClass RX3 = some m.cls := hown
  intro u0 u1 u3 x1 x2 x3 hf H locs ls hP hD hS hl
  unfold f_X3_readSettings_L89 at hf
  refine lv_iload_n hx hb dX3_readSettings_89 rfl (lv_at hl 3 rfl) ?_
  refine lv_if_ne (tgt := 95) hx hb dX3_readSettings_90 (by decide) (fun c_90 => ?_) (fun c_90 => ?_)
  · have hf := op_neg c_90 hf
    refine lv_iinc (v := x2 + 1) (lv' := [(2, .int (x2 + 1)), (0, .ref h0), (1, .int x1), (3, .int x3)]) hx hb dX3_readSettings_95 hl (k := 2) rfl rfl (by decide) rfl (fun ls hl => ?_)
    refine lv_goto (tgt := 2) hx hb dX3_readSettings_98 (by decide) ?_
    exact hk_2 u0 u1 u3 x1 (x2 + 1) hf _ _ ls hP hD hS (lv_sub hl [1, 2, 0] rfl)
  · have hf := op_pos c_90 hf
    refine lv_iconst (v := 0) hx hb dX3_readSettings_93 (by decide) ?_
    rw [← Option.some.inj hf]
    exact g_zret hx hb hr hlk (show isB 0 = true by decide) hK hP hD hS dX3_readSettings_94
def f_X3_readSettings_L2  (fu : Nat) (b2 : Nat → Int32) : Nat → St → St → St → Int32 → Int32 → Option (Int32 × St × St × St)
  | 0, _, _, _, _, _ => none
  | n_2 + 1, u0, u1, u3, x1, x2 => if x1 ≤ x2 then (some (1, u0, u1, u3)) else ((f_X4_isWord fu 1 u1 b2).bind (fun q_13 => if q_13 = 0 then ((f_X4_isWord fu 2 u1 b2).bind (fun q_43 => if q_43 = 0 then ((f_X4_isWord fu 3 u1 b2).bind (fun q_73 => if q_73 = 0 then (some (1, u0, u1, u3)) else ((f_X3_readBeats fu b2 u0 u1 u3).bind (fun q_80 => f_X3_readSettings_L89 (f_X3_readSettings_L2 fu b2 n_2) fu b2 q_80.2.1 q_80.2.2.1 q_80.2.2.2 x1 x2 q_80.1)))) else ((f_X3_readTongueSettingS fu b2 u0 u1 u3 1 20).bind (fun q_60 => f_X3_readSettings_L89 (f_X3_readSettings_L2 fu b2 n_2) fu b2 q_60.2.1 q_60.2.2.1 q_60.2.2.2 x1 x2 q_60.1)))) else ((f_X3_readTongueSettingW fu b2 u0 u1 u3 4 40).bind (fun q_30 => f_X3_readSettings_L89 (f_X3_readSettings_L2 fu b2 n_2) fu b2 q_30.2.1 q_30.2.2.1 q_30.2.2.2 x1 x2 q_30.1))))
set_option maxHeartbeats 4000000 in
set_option maxRecDepth 100000 in
theorem b_X3_readSettings_L2 {p : Program} {e : Env} {s : State} {m : MethodId} {args : Array Value} {below : List Frame} {meth : Method} {c : Code} {A : Nat → Prop} (l : Launch) (D : va_G) (cy : Nat → ClassId) (adK adV : Nat → Nat) (h0 : Nat) (h1 : Nat) (h2 : Nat) (b2 : Nat → Int32) (h3 : Nat) (a3 : Nat → Nat) (fu : Nat) (out : Int32 × St × St × St) (C : gC p s m args meth c (WS yX3_readSettings cX3_readSettings 4 (some .boolean)) cX3_readSettings 4 (some .boolean) RX3) (hA : ∀ q : Nat, s.heap.size ≤ q → A q) (hE : gE adK adV A s s.heap) (hK : va_K D vwCl (TY cy) s)  :
    ∀ (n_2 : Nat), ∀ (u0 : St) (u1 : St) (u3 : St) (x1 : Int32) (x2 : Int32), f_X3_readSettings_L2 fu b2 n_2 u0 u1 u3 x1 x2 = some out → ∀ (H : Heap) (locs : List Loc) (ls : Array Slot), va_P D vwCl ((w3 cy h0 h1 h3 u0) ++ (w4 cy h1 h2 u1) ++ (wB cy h2 b2) ++ (w5 cy h3 a3 u3)) H → va_D A ((w3 cy h0 h1 h3 u0) ++ (w4 cy h1 h2 u1) ++ (wB cy h2 b2) ++ (w5 cy h3 a3 u3)) → va_S A s.heap H locs → lv_has ls 4 [(0, .ref h0), (1, .int x1), (2, .int x2)] → W p l e ({ frames := 5, cells := 0, slots := 0, locals := 109 } : Room) s m args below meth c H locs 0 0 (MQ below (gQi D cy A out.1 ((w3 cy h0 h1 h3 out.2.1) ++ (w4 cy h1 h2 out.2.2.1) ++ (wB cy h2 b2) ++ (w5 cy h3 a3 out.2.2.2))) args s 0 0 A) (F0 m 2 ls []) := by
  obtain ⟨hx, hb, hr, hml, hown, hts, hlk⟩ := id C
  have hown : s.vm.findClass RX3 = some m.cls := hown
  have hk_24 := hts _ (List.mem_cons_of_mem _ fl_RX3_24)
  have hk_15 := hts _ (List.mem_cons_of_mem _ fl_RX3_15)
  have hk_99 := hts _ (List.mem_cons_of_mem _ fl_RX3_99)
  have hk_89 := hts _ (List.mem_cons_of_mem _ fl_RX3_89)
  intro n_2
  induction n_2 with
  | zero => intro u0 u1 u3 x1 x2 hf; exact op_no hf
  | succ n_2 ih_2 =>
    intro u0 u1 u3 x1 x2 hf H locs ls hP hD hS hl
    rw [f_X3_readSettings_L2] at hf
    refine lv_iload_n hx hb dX3_readSettings_2 rfl (lv_at hl 2 rfl) ?_
    refine lv_iload_n hx hb dX3_readSettings_3 rfl (lv_at hl 1 rfl) ?_
    refine lv_icmp_ge (tgt := 101) hx hb dX3_readSettings_4 (by decide) (fun c_4 => ?_) (fun c_4 => ?_)
    · have hf := op_pos c_4 hf
      refine lv_iconst (v := 1) hx hb dX3_readSettings_101 (by decide) ?_
      rw [← Option.some.inj hf]
      exact g_zret hx hb hr hlk (show isB 1 = true by decide) hK hP hD hS dX3_readSettings_102
    · have hf := op_neg c_4 hf
      refine lv_aload_n hx hb dX3_readSettings_7 rfl (lv_at hl 0 rfl) ?_
      refine va_get (ci := 3) (v := .ref h1) (C := RX3) (T := TX3) (N := 6) hx hb hts (fun w h => List.mem_cons_of_mem _ (inX3 w h)) hown hK hP 0 rfl rfl 2 (by decide) hk_24 (fun _ h9 => h9) rfl dX3_readSettings_8 ?_
      refine va_ldcS hx hb hown (hE.2.2.2 1 (by decide)) dX3_readSettings_11 ?_
      obtain ⟨q_13, hc_13, hf⟩ := op_bind hf
      refine g_callViE (As := [.ref (adK 1)]) (rest := []) (w2 := (w3 cy h0 h1 h3 u0) ++ (w4 cy h1 h2 u1) ++ (wB cy h2 b2) ++ (w5 cy h3 a3 u3)) ⟨hx, hb, hml, hown, hts⟩ (c_X4_isWord l D cy adK adV h1 u1 h2 b2 1 (by decide) _ fu _ hc_13) (cwV 1 hts (gi_V ml_RX3_53 im_X4_isWord se_X4_isWord in_RX4 cd_X4_isWord) rfl rfl rfl hdX4_isWord ⟨Nat.le_of_ble_eq_true rfl, Nat.le_of_ble_eq_true rfl⟩) (va_recv hK hP (ci := 4) (q0 := 1) rfl rfl) rfl hl.1 rfl (Nat.le_of_ble_eq_true rfl) dX3_readSettings_13 hE hK hP hD hS hA [1, 2] [0, 3, 4, 5, 6, 7, 8, 9, 10, 11] [0, 10, 11, 1, 2, 3, 4, 5, 6, 7, 8, 9] rfl rfl rfl rfl (by decide) rfl rfl (fun H locs hP hD hS => ?_)
      refine lv_if_eq (tgt := 37) hx hb dX3_readSettings_16 (by decide) (fun c_16 => ?_) (fun c_16 => ?_)
      · have hf := op_pos c_16 hf
        refine lv_aload_n hx hb dX3_readSettings_37 rfl (lv_at hl 0 rfl) ?_
        refine va_get (ci := 3) (v := .ref h1) (C := RX3) (T := TX3) (N := 6) hx hb hts (fun w h => List.mem_cons_of_mem _ (inX3 w h)) hown hK hP 0 rfl rfl 2 (by decide) hk_24 (fun _ h9 => h9) rfl dX3_readSettings_38 ?_
        refine va_ldcS hx hb hown (hE.2.2.2 2 (by decide)) dX3_readSettings_41 ?_
        obtain ⟨q_43, hc_43, hf⟩ := op_bind hf
        refine g_callViE (As := [.ref (adK 2)]) (rest := []) (w2 := (w3 cy h0 h1 h3 u0) ++ (w4 cy h1 h2 u1) ++ (wB cy h2 b2) ++ (w5 cy h3 a3 u3)) ⟨hx, hb, hml, hown, hts⟩ (c_X4_isWord l D cy adK adV h1 u1 h2 b2 2 (by decide) _ fu _ hc_43) (cwV 1 hts (gi_V ml_RX3_53 im_X4_isWord se_X4_isWord in_RX4 cd_X4_isWord) rfl rfl rfl hdX4_isWord ⟨Nat.le_of_ble_eq_true rfl, Nat.le_of_ble_eq_true rfl⟩) (va_recv hK hP (ci := 4) (q0 := 1) rfl rfl) rfl hl.1 rfl (Nat.le_of_ble_eq_true rfl) dX3_readSettings_43 hE hK hP hD hS hA [1, 2] [0, 3, 4, 5, 6, 7, 8, 9, 10, 11] [0, 10, 11, 1, 2, 3, 4, 5, 6, 7, 8, 9] rfl rfl rfl rfl (by decide) rfl rfl (fun H locs hP hD hS => ?_)
        refine lv_if_eq (tgt := 67) hx hb dX3_readSettings_46 (by decide) (fun c_46 => ?_) (fun c_46 => ?_)
        · have hf := op_pos c_46 hf
          refine lv_aload_n hx hb dX3_readSettings_67 rfl (lv_at hl 0 rfl) ?_
          refine va_get (ci := 3) (v := .ref h1) (C := RX3) (T := TX3) (N := 6) hx hb hts (fun w h => List.mem_cons_of_mem _ (inX3 w h)) hown hK hP 0 rfl rfl 2 (by decide) hk_24 (fun _ h9 => h9) rfl dX3_readSettings_68 ?_
          refine va_ldcS hx hb hown (hE.2.2.2 3 (by decide)) dX3_readSettings_71 ?_
          obtain ⟨q_73, hc_73, hf⟩ := op_bind hf
          refine g_callViE (As := [.ref (adK 3)]) (rest := []) (w2 := (w3 cy h0 h1 h3 u0) ++ (w4 cy h1 h2 u1) ++ (wB cy h2 b2) ++ (w5 cy h3 a3 u3)) ⟨hx, hb, hml, hown, hts⟩ (c_X4_isWord l D cy adK adV h1 u1 h2 b2 3 (by decide) _ fu _ hc_73) (cwV 1 hts (gi_V ml_RX3_53 im_X4_isWord se_X4_isWord in_RX4 cd_X4_isWord) rfl rfl rfl hdX4_isWord ⟨Nat.le_of_ble_eq_true rfl, Nat.le_of_ble_eq_true rfl⟩) (va_recv hK hP (ci := 4) (q0 := 1) rfl rfl) rfl hl.1 rfl (Nat.le_of_ble_eq_true rfl) dX3_readSettings_73 hE hK hP hD hS hA [1, 2] [0, 3, 4, 5, 6, 7, 8, 9, 10, 11] [0, 10, 11, 1, 2, 3, 4, 5, 6, 7, 8, 9] rfl rfl rfl rfl (by decide) rfl rfl (fun H locs hP hD hS => ?_)
          refine lv_if_eq (tgt := 87) hx hb dX3_readSettings_76 (by decide) (fun c_76 => ?_) (fun c_76 => ?_)
          · have hf := op_pos c_76 hf
            refine lv_iconst (v := 1) hx hb dX3_readSettings_87 (by decide) ?_
            rw [← Option.some.inj hf]
            exact g_zret hx hb hr hlk (show isB 1 = true by decide) hK hP hD hS dX3_readSettings_88
          · have hf := op_neg c_76 hf
            refine lv_aload_n hx hb dX3_readSettings_79 rfl (lv_at hl 0 rfl) ?_
            obtain ⟨q_80, hc_80, hf⟩ := op_bind hf
            refine g_callVi (As := []) (rest := []) (w2 := (w3 cy h0 h1 h3 q_80.2.1) ++ (w4 cy h1 h2 q_80.2.2.1) ++ (wB cy h2 b2) ++ (w5 cy h3 a3 q_80.2.2.2)) ⟨hx, hb, hml, hown, hts⟩ (c_X3_readBeats l D cy h0 u0 h1 u1 h2 b2 h3 a3 u3 _ fu _ hc_80) (cwV 0 hts (gi_V ml_RX3_104 im_X3_readBeats se_X3_readBeats in_RX3 cd_X3_readBeats) rfl rfl rfl hdX3_readBeats ⟨Nat.le_of_ble_eq_true rfl, Nat.le_of_ble_eq_true rfl⟩) (va_recv hK hP (ci := 3) (q0 := 0) rfl rfl) rfl hl.1 rfl (Nat.le_of_ble_eq_true rfl) dX3_readSettings_80 hK hP hD hS hA [0, 1, 2, 3, 4, 5, 6, 7, 8, 9, 10, 11] [] [0, 1, 2, 3, 4, 5, 6, 7, 8, 9, 10, 11] rfl rfl rfl rfl (by decide) rfl rfl (fun H locs hP hD hS => ?_)
            refine lv_istore_n (lv' := [(3, .int q_80.1), (0, .ref h0), (1, .int x1), (2, .int x2)]) hx hb dX3_readSettings_83 rfl hl (by decide) rfl (fun ls hl => ?_)
            refine lv_goto (tgt := 89) hx hb dX3_readSettings_84 (by decide) ?_
            exact b_X3_readSettings_L89 l D cy adK adV h0 h1 h2 b2 h3 a3 fu out C hA hE hK (f_X3_readSettings_L2 fu b2 n_2) ih_2 q_80.2.1 q_80.2.2.1 q_80.2.2.2 x1 x2 q_80.1 hf _ _ ls hP hD hS (lv_sub hl [1, 2, 3, 0] rfl)
        · have hf := op_neg c_46 hf
          refine lv_aload_n hx hb dX3_readSettings_49 rfl (lv_at hl 0 rfl) ?_
          refine lv_aload_n hx hb dX3_readSettings_50 rfl (lv_at hl 0 rfl) ?_
          refine va_get (ci := 3) (v := .ref h3) (C := RX3) (T := TX3) (N := 6) hx hb hts (fun w h => List.mem_cons_of_mem _ (inX3 w h)) hown hK hP 0 rfl rfl 3 (by decide) hk_15 (fun _ h9 => h9) rfl dX3_readSettings_51 ?_
          refine va_get (ci := 5) (v := .ref (a3 6)) (C := RX5) (T := TX5) (N := 13) hx hb hts (fun w h => List.mem_cons_of_mem _ (inX5 w h)) hown hK hP 3 rfl rfl 6 (by decide) hk_99 (fun _ h9 => h9) rfl dX3_readSettings_54 ?_
          refine lv_iconst (v := 1) hx hb dX3_readSettings_57 (by decide) ?_
          refine lv_bipush (v := 20) hx hb dX3_readSettings_58 (by decide) ?_
          obtain ⟨q_60, hc_60, hf⟩ := op_bind hf
          refine g_callVi (As := [.ref (a3 6), .int 1, .int 20]) (rest := []) (w2 := (w3 cy h0 h1 h3 q_60.2.1) ++ (w4 cy h1 h2 q_60.2.2.1) ++ (wB cy h2 b2) ++ (w5 cy h3 a3 q_60.2.2.2)) ⟨hx, hb, hml, hown, hts⟩ (c_X3_readTongueSettingS l D cy h0 u0 h1 u1 h2 b2 h3 a3 u3 _ fu 1 20 _ hc_60) (cwV 3 hts (gi_V ml_RX3_93 im_X3_readTongueSetting se_X3_readTongueSetting in_RX3 cd_X3_readTongueSetting) rfl rfl rfl hdX3_readTongueSetting ⟨Nat.le_of_ble_eq_true rfl, Nat.le_of_ble_eq_true rfl⟩) (va_recv hK hP (ci := 3) (q0 := 0) rfl rfl) rfl hl.1 rfl (Nat.le_of_ble_eq_true rfl) dX3_readSettings_60 hK hP hD hS hA [0, 1, 2, 3, 4, 5, 6, 7, 8, 9, 10, 11] [] [0, 1, 2, 3, 4, 5, 6, 7, 8, 9, 10, 11] rfl rfl rfl rfl (by decide) rfl rfl (fun H locs hP hD hS => ?_)
          refine lv_istore_n (lv' := [(3, .int q_60.1), (0, .ref h0), (1, .int x1), (2, .int x2)]) hx hb dX3_readSettings_63 rfl hl (by decide) rfl (fun ls hl => ?_)
          refine lv_goto (tgt := 89) hx hb dX3_readSettings_64 (by decide) ?_
          exact b_X3_readSettings_L89 l D cy adK adV h0 h1 h2 b2 h3 a3 fu out C hA hE hK (f_X3_readSettings_L2 fu b2 n_2) ih_2 q_60.2.1 q_60.2.2.1 q_60.2.2.2 x1 x2 q_60.1 hf _ _ ls hP hD hS (lv_sub hl [1, 2, 3, 0] rfl)
      · have hf := op_neg c_16 hf
        refine lv_aload_n hx hb dX3_readSettings_19 rfl (lv_at hl 0 rfl) ?_
        refine lv_aload_n hx hb dX3_readSettings_20 rfl (lv_at hl 0 rfl) ?_
        refine va_get (ci := 3) (v := .ref h3) (C := RX3) (T := TX3) (N := 6) hx hb hts (fun w h => List.mem_cons_of_mem _ (inX3 w h)) hown hK hP 0 rfl rfl 3 (by decide) hk_15 (fun _ h9 => h9) rfl dX3_readSettings_21 ?_
        refine va_get (ci := 5) (v := .ref (a3 5)) (C := RX5) (T := TX5) (N := 13) hx hb hts (fun w h => List.mem_cons_of_mem _ (inX5 w h)) hown hK hP 3 rfl rfl 5 (by decide) hk_89 (fun _ h9 => h9) rfl dX3_readSettings_24 ?_
        refine lv_iconst (v := 4) hx hb dX3_readSettings_27 (by decide) ?_
        refine lv_bipush (v := 40) hx hb dX3_readSettings_28 (by decide) ?_
        obtain ⟨q_30, hc_30, hf⟩ := op_bind hf
        refine g_callVi (As := [.ref (a3 5), .int 4, .int 40]) (rest := []) (w2 := (w3 cy h0 h1 h3 q_30.2.1) ++ (w4 cy h1 h2 q_30.2.2.1) ++ (wB cy h2 b2) ++ (w5 cy h3 a3 q_30.2.2.2)) ⟨hx, hb, hml, hown, hts⟩ (c_X3_readTongueSettingW l D cy h0 u0 h1 u1 h2 b2 h3 a3 u3 _ fu 4 40 _ hc_30) (cwV 3 hts (gi_V ml_RX3_93 im_X3_readTongueSetting se_X3_readTongueSetting in_RX3 cd_X3_readTongueSetting) rfl rfl rfl hdX3_readTongueSetting ⟨Nat.le_of_ble_eq_true rfl, Nat.le_of_ble_eq_true rfl⟩) (va_recv hK hP (ci := 3) (q0 := 0) rfl rfl) rfl hl.1 rfl (Nat.le_of_ble_eq_true rfl) dX3_readSettings_30 hK hP hD hS hA [0, 1, 2, 3, 4, 5, 6, 7, 8, 9, 10, 11] [] [0, 1, 2, 3, 4, 5, 6, 7, 8, 9, 10, 11] rfl rfl rfl rfl (by decide) rfl rfl (fun H locs hP hD hS => ?_)
        refine lv_istore_n (lv' := [(3, .int q_30.1), (0, .ref h0), (1, .int x1), (2, .int x2)]) hx hb dX3_readSettings_33 rfl hl (by decide) rfl (fun ls hl => ?_)
        refine lv_goto (tgt := 89) hx hb dX3_readSettings_34 (by decide) ?_
        exact b_X3_readSettings_L89 l D cy adK adV h0 h1 h2 b2 h3 a3 fu out C hA hE hK (f_X3_readSettings_L2 fu b2 n_2) ih_2 q_30.2.1 q_30.2.2.1 q_30.2.2.2 x1 x2 q_30.1 hf _ _ ls hP hD hS (lv_sub hl [1, 2, 3, 0] rfl)
def f_X3_readSettings (fu : Nat) (b2 : Nat → Int32) (s0 : St) (s1 : St) (s3 : St) (p1 : Int32) : Option (Int32 × St × St × St) := f_X3_readSettings_L2 fu b2 fu s0 s1 s3 p1 0
theorem hdX3_readSettings : yX3_readSettings.cls = RX3 ∧ yX3_readSettings.cls ≠ "java/lang/invoke/MethodHandle" ∧ yX3_readSettings.cls ≠ "java/lang/invoke/VarHandle" ∧ (parseMethodDescriptor yX3_readSettings.desc).map (fun d => d.parameters.length) = some 1 := by decide +kernel
set_option maxHeartbeats 4000000 in
set_option maxRecDepth 100000 in
theorem c_X3_readSettings (l : Launch) (D : va_G) (cy : Nat → ClassId) (adK adV : Nat → Nat) (h0 : Nat) (s0 : St) (h1 : Nat) (s1 : St) (h2 : Nat) (b2 : Nat → Int32) (h3 : Nat) (a3 : Nat → Nat) (s3 : St) (sz fu : Nat) (p1 : Int32) (out : Int32 × St × St × St) (hf : f_X3_readSettings fu b2 s0 s1 s3 p1 = some out) :
    Met l yX3_readSettings (WS yX3_readSettings cX3_readSettings 4 (some .boolean)) ({ frames := 5, cells := 0, slots := 0, locals := 109 } : Room) (va_Pc [.ref h0, .int p1] (gPE D cy adK adV sz ((w3 cy h0 h1 h3 s0) ++ (w4 cy h1 h2 s1) ++ (wB cy h2 b2) ++ (w5 cy h3 a3 s3)))) ((fun A : Nat → Prop => gQi D cy A out.1 ((w3 cy h0 h1 h3 out.2.1) ++ (w4 cy h1 h2 out.2.2.1) ++ (wB cy h2 b2) ++ (w5 cy h3 a3 out.2.2.2))) (va_A ((w3 cy h0 h1 h3 s0) ++ (w4 cy h1 h2 s1) ++ (wB cy h2 b2) ++ (w5 cy h3 a3 s3)) sz)) 0 0 (va_A ((w3 cy h0 h1 h3 s0) ++ (w4 cy h1 h2 s1) ++ (wB cy h2 b2) ++ (w5 cy h3 a3 s3)) sz) := by
  refine g_metE (cc := cX3_readSettings) (maxL := 4) (ret := (some .boolean)) (fun A : Nat → Prop => gQi D cy A out.1 ((w3 cy h0 h1 h3 out.2.1) ++ (w4 cy h1 h2 out.2.2.1) ++ (wB cy h2 b2) ++ (w5 cy h3 a3 out.2.2.2))) (by decide +kernel) rfl (Nat.le_of_ble_eq_true rfl) ?_
  intro p e s m below meth c A C hA hE hK hP hD ls hl
  obtain ⟨hx, hb, hr, hml, hown, hts, hlk⟩ := id C
  have hown : s.vm.findClass RX3 = some m.cls := hown
  have hS : va_S A s.heap s.heap [] := va_S.rf
  have hl : lv_has ls 4 [(0, .ref h0), (1, .int p1)] := hl
  unfold f_X3_readSettings at hf
  refine lv_iconst (v := 0) hx hb dX3_readSettings_0 (by decide) ?_
  refine lv_istore_n (lv' := [(2, .int 0), (0, .ref h0), (1, .int p1)]) hx hb dX3_readSettings_1 rfl hl (by decide) rfl (fun ls hl => ?_)
  exact b_X3_readSettings_L2 l D cy adK adV h0 h1 h2 b2 h3 a3 fu out C hA hE hK fu s0 s1 s3 p1 0 hf _ _ ls hP hD hS (lv_sub hl [1, 2, 0] rfl)
def f_X3_readItems_L134 (k_2 : St → St → St → Int32 → Int32 → Option (Int32 × St × St × St)) (fu : Nat) (b2 : Nat → Int32) (u0 : St) (u1 : St) (u3 : St) (x1 : Int32) (x2 : Int32) (x3 : Int32) : Option (Int32 × St × St × St) := if x3 = 0 then (some (0, u0, u1, u3)) else (k_2 u0 u1 u3 x1 (x2 + 1))
set_option maxHeartbeats 4000000 in
set_option maxRecDepth 100000 in
theorem b_X3_readItems_L134 {p : Program} {e : Env} {s : State} {m : MethodId} {args : Array Value} {below : List Frame} {meth : Method} {c : Code} {A : Nat → Prop} (l : Launch) (D : va_G) (cy : Nat → ClassId) (adK adV : Nat → Nat) (h0 : Nat) (h1 : Nat) (h2 : Nat) (b2 : Nat → Int32) (h3 : Nat) (a3 : Nat → Nat) (fu : Nat) (out : Int32 × St × St × St) (C : gC p s m args meth c (WS yX3_readItems cX3_readItems 4 (some .boolean)) cX3_readItems 4 (some .boolean) RX3) (hA : ∀ q : Nat, s.heap.size ≤ q → A q) (hE : gE adK adV A s s.heap) (hK : va_K D vwCl (TY cy) s) (k_2 : St → St → St → Int32 → Int32 → Option (Int32 × St × St × St)) (hk_2 : ∀ (u0 : St) (u1 : St) (u3 : St) (x1 : Int32) (x2 : Int32), k_2 u0 u1 u3 x1 x2 = some out → ∀ (H : Heap) (locs : List Loc) (ls : Array Slot), va_P D vwCl ((w3 cy h0 h1 h3 u0) ++ (w4 cy h1 h2 u1) ++ (wB cy h2 b2) ++ (w5 cy h3 a3 u3)) H → va_D A ((w3 cy h0 h1 h3 u0) ++ (w4 cy h1 h2 u1) ++ (wB cy h2 b2) ++ (w5 cy h3 a3 u3)) → va_S A s.heap H locs → lv_has ls 4 [(0, .ref h0), (1, .int x1), (2, .int x2)] → W p l e ({ frames := 5, cells := 0, slots := 0, locals := 108 } : Room) s m args below meth c H locs 0 0 (MQ below (gQi D cy A out.1 ((w3 cy h0 h1 h3 out.2.1) ++ (w4 cy h1 h2 out.2.2.1) ++ (wB cy h2 b2) ++ (w5 cy h3 a3 out.2.2.2))) args s 0 0 A) (F0 m 2 ls [])) :
    ∀ (u0 : St) (u1 : St) (u3 : St) (x1 : Int32) (x2 : Int32) (x3 : Int32), f_X3_readItems_L134 k_2 fu b2 u0 u1 u3 x1 x2 x3 = some out → ∀ (H : Heap) (locs : List Loc) (ls : Array Slot), va_P D vwCl ((w3 cy h0 h1 h3 u0) ++ (w4 cy h1 h2 u1) ++ (wB cy h2 b2) ++ (w5 cy h3 a3 u3)) H → va_D A ((w3 cy h0 h1 h3 u0) ++ (w4 cy h1 h2 u1) ++ (wB cy h2 b2) ++ (w5 cy h3 a3 u3)) → va_S A s.heap H locs → lv_has ls 4 [(0, .ref h0), (1, .int x1), (2, .int x2), (3, .int x3)] → W p l e ({ frames := 5, cells := 0, slots := 0, locals := 108 } : Room) s m args below meth c H locs 0 0 (MQ below (gQi D cy A out.1 ((w3 cy h0 h1 h3 out.2.1) ++ (w4 cy h1 h2 out.2.2.1) ++ (wB cy h2 b2) ++ (w5 cy h3 a3 out.2.2.2))) args s 0 0 A) (F0 m 134 ls []) := by
  obtain ⟨hx, hb, hr, hml, hown, hts, hlk⟩ := id C
  have hown : s.vm.findClass RX3 = some m.cls := hown
  intro u0 u1 u3 x1 x2 x3 hf H locs ls hP hD hS hl
  unfold f_X3_readItems_L134 at hf
  refine lv_iload_n hx hb dX3_readItems_134 rfl (lv_at hl 3 rfl) ?_
  refine lv_if_ne (tgt := 140) hx hb dX3_readItems_135 (by decide) (fun c_135 => ?_) (fun c_135 => ?_)
  · have hf := op_neg c_135 hf
    refine lv_iinc (v := x2 + 1) (lv' := [(2, .int (x2 + 1)), (0, .ref h0), (1, .int x1), (3, .int x3)]) hx hb dX3_readItems_140 hl (k := 2) rfl rfl (by decide) rfl (fun ls hl => ?_)
    refine lv_goto (tgt := 2) hx hb dX3_readItems_143 (by decide) ?_
    exact hk_2 u0 u1 u3 x1 (x2 + 1) hf _ _ ls hP hD hS (lv_sub hl [1, 2, 0] rfl)
  · have hf := op_pos c_135 hf
    refine lv_iconst (v := 0) hx hb dX3_readItems_138 (by decide) ?_
    rw [← Option.some.inj hf]
    exact g_zret hx hb hr hlk (show isB 0 = true by decide) hK hP hD hS dX3_readItems_139
def f_X3_readItems_L62 (k_2 : St → St → St → Int32 → Int32 → Option (Int32 × St × St × St)) (fu : Nat) (b2 : Nat → Int32) (u0 : St) (u1 : St) (u3 : St) (x1 : Int32) (x2 : Int32) (t0 : Int32) : Option (Int32 × St × St × St) := f_X3_readItems_L134 k_2 fu b2 u0 u1 u3 x1 x2 t0
set_option maxHeartbeats 4000000 in
set_option maxRecDepth 100000 in
theorem b_X3_readItems_L62 {p : Program} {e : Env} {s : State} {m : MethodId} {args : Array Value} {below : List Frame} {meth : Method} {c : Code} {A : Nat → Prop} (l : Launch) (D : va_G) (cy : Nat → ClassId) (adK adV : Nat → Nat) (h0 : Nat) (h1 : Nat) (h2 : Nat) (b2 : Nat → Int32) (h3 : Nat) (a3 : Nat → Nat) (fu : Nat) (out : Int32 × St × St × St) (C : gC p s m args meth c (WS yX3_readItems cX3_readItems 4 (some .boolean)) cX3_readItems 4 (some .boolean) RX3) (hA : ∀ q : Nat, s.heap.size ≤ q → A q) (hE : gE adK adV A s s.heap) (hK : va_K D vwCl (TY cy) s) (k_2 : St → St → St → Int32 → Int32 → Option (Int32 × St × St × St)) (hk_2 : ∀ (u0 : St) (u1 : St) (u3 : St) (x1 : Int32) (x2 : Int32), k_2 u0 u1 u3 x1 x2 = some out → ∀ (H : Heap) (locs : List Loc) (ls : Array Slot), va_P D vwCl ((w3 cy h0 h1 h3 u0) ++ (w4 cy h1 h2 u1) ++ (wB cy h2 b2) ++ (w5 cy h3 a3 u3)) H → va_D A ((w3 cy h0 h1 h3 u0) ++ (w4 cy h1 h2 u1) ++ (wB cy h2 b2) ++ (w5 cy h3 a3 u3)) → va_S A s.heap H locs → lv_has ls 4 [(0, .ref h0), (1, .int x1), (2, .int x2)] → W p l e ({ frames := 5, cells := 0, slots := 0, locals := 108 } : Room) s m args below meth c H locs 0 0 (MQ below (gQi D cy A out.1 ((w3 cy h0 h1 h3 out.2.1) ++ (w4 cy h1 h2 out.2.2.1) ++ (wB cy h2 b2) ++ (w5 cy h3 a3 out.2.2.2))) args s 0 0 A) (F0 m 2 ls [])) :
    ∀ (u0 : St) (u1 : St) (u3 : St) (x1 : Int32) (x2 : Int32) (t0 : Int32), f_X3_readItems_L62 k_2 fu b2 u0 u1 u3 x1 x2 t0 = some out → ∀ (H : Heap) (locs : List Loc) (ls : Array Slot), va_P D vwCl ((w3 cy h0 h1 h3 u0) ++ (w4 cy h1 h2 u1) ++ (wB cy h2 b2) ++ (w5 cy h3 a3 u3)) H → va_D A ((w3 cy h0 h1 h3 u0) ++ (w4 cy h1 h2 u1) ++ (wB cy h2 b2) ++ (w5 cy h3 a3 u3)) → va_S A s.heap H locs → lv_has ls 4 [(0, .ref h0), (1, .int x1), (2, .int x2)] → W p l e ({ frames := 5, cells := 0, slots := 0, locals := 108 } : Room) s m args below meth c H locs 0 0 (MQ below (gQi D cy A out.1 ((w3 cy h0 h1 h3 out.2.1) ++ (w4 cy h1 h2 out.2.2.1) ++ (wB cy h2 b2) ++ (w5 cy h3 a3 out.2.2.2))) args s 0 0 A) (F0 m 62 ls [.int t0]) := by
  obtain ⟨hx, hb, hr, hml, hown, hts, hlk⟩ := id C
  have hown : s.vm.findClass RX3 = some m.cls := hown
  intro u0 u1 u3 x1 x2 t0 hf H locs ls hP hD hS hl
  unfold f_X3_readItems_L62 at hf
  refine lv_istore_n (lv' := [(3, .int t0), (0, .ref h0), (1, .int x1), (2, .int x2)]) hx hb dX3_readItems_62 rfl hl (by decide) rfl (fun ls hl => ?_)
  refine lv_goto (tgt := 134) hx hb dX3_readItems_63 (by decide) ?_
  exact b_X3_readItems_L134 l D cy adK adV h0 h1 h2 b2 h3 a3 fu out C hA hE hK k_2 hk_2 u0 u1 u3 x1 x2 t0 hf _ _ ls hP hD hS (lv_sub hl [1, 2, 3, 0] rfl)
def f_X3_readItems_L61 (k_2 : St → St → St → Int32 → Int32 → Option (Int32 × St × St × St)) (fu : Nat) (b2 : Nat → Int32) (u0 : St) (u1 : St) (u3 : St) (x1 : Int32) (x2 : Int32) : Option (Int32 × St × St × St) := f_X3_readItems_L62 k_2 fu b2 u0 u1 u3 x1 x2 0
set_option maxHeartbeats 4000000 in
set_option maxRecDepth 100000 in
theorem b_X3_readItems_L61 {p : Program} {e : Env} {s : State} {m : MethodId} {args : Array Value} {below : List Frame} {meth : Method} {c : Code} {A : Nat → Prop} (l : Launch) (D : va_G) (cy : Nat → ClassId) (adK adV : Nat → Nat) (h0 : Nat) (h1 : Nat) (h2 : Nat) (b2 : Nat → Int32) (h3 : Nat) (a3 : Nat → Nat) (fu : Nat) (out : Int32 × St × St × St) (C : gC p s m args meth c (WS yX3_readItems cX3_readItems 4 (some .boolean)) cX3_readItems 4 (some .boolean) RX3) (hA : ∀ q : Nat, s.heap.size ≤ q → A q) (hE : gE adK adV A s s.heap) (hK : va_K D vwCl (TY cy) s) (k_2 : St → St → St → Int32 → Int32 → Option (Int32 × St × St × St)) (hk_2 : ∀ (u0 : St) (u1 : St) (u3 : St) (x1 : Int32) (x2 : Int32), k_2 u0 u1 u3 x1 x2 = some out → ∀ (H : Heap) (locs : List Loc) (ls : Array Slot), va_P D vwCl ((w3 cy h0 h1 h3 u0) ++ (w4 cy h1 h2 u1) ++ (wB cy h2 b2) ++ (w5 cy h3 a3 u3)) H → va_D A ((w3 cy h0 h1 h3 u0) ++ (w4 cy h1 h2 u1) ++ (wB cy h2 b2) ++ (w5 cy h3 a3 u3)) → va_S A s.heap H locs → lv_has ls 4 [(0, .ref h0), (1, .int x1), (2, .int x2)] → W p l e ({ frames := 5, cells := 0, slots := 0, locals := 108 } : Room) s m args below meth c H locs 0 0 (MQ below (gQi D cy A out.1 ((w3 cy h0 h1 h3 out.2.1) ++ (w4 cy h1 h2 out.2.2.1) ++ (wB cy h2 b2) ++ (w5 cy h3 a3 out.2.2.2))) args s 0 0 A) (F0 m 2 ls [])) :
    ∀ (u0 : St) (u1 : St) (u3 : St) (x1 : Int32) (x2 : Int32), f_X3_readItems_L61 k_2 fu b2 u0 u1 u3 x1 x2 = some out → ∀ (H : Heap) (locs : List Loc) (ls : Array Slot), va_P D vwCl ((w3 cy h0 h1 h3 u0) ++ (w4 cy h1 h2 u1) ++ (wB cy h2 b2) ++ (w5 cy h3 a3 u3)) H → va_D A ((w3 cy h0 h1 h3 u0) ++ (w4 cy h1 h2 u1) ++ (wB cy h2 b2) ++ (w5 cy h3 a3 u3)) → va_S A s.heap H locs → lv_has ls 4 [(0, .ref h0), (1, .int x1), (2, .int x2)] → W p l e ({ frames := 5, cells := 0, slots := 0, locals := 108 } : Room) s m args below meth c H locs 0 0 (MQ below (gQi D cy A out.1 ((w3 cy h0 h1 h3 out.2.1) ++ (w4 cy h1 h2 out.2.2.1) ++ (wB cy h2 b2) ++ (w5 cy h3 a3 out.2.2.2))) args s 0 0 A) (F0 m 61 ls []) := by
  obtain ⟨hx, hb, hr, hml, hown, hts, hlk⟩ := id C
  have hown : s.vm.findClass RX3 = some m.cls := hown
  intro u0 u1 u3 x1 x2 hf H locs ls hP hD hS hl
  unfold f_X3_readItems_L61 at hf
  refine lv_iconst (v := 0) hx hb dX3_readItems_61 (by decide) ?_
  exact b_X3_readItems_L62 l D cy adK adV h0 h1 h2 b2 h3 a3 fu out C hA hE hK k_2 hk_2 u0 u1 u3 x1 x2 0 hf _ _ ls hP hD hS (lv_sub hl [0, 1, 2] rfl)
def f_X3_readItems_L97 (k_2 : St → St → St → Int32 → Int32 → Option (Int32 × St × St × St)) (fu : Nat) (b2 : Nat → Int32) (u0 : St) (u1 : St) (u3 : St) (x1 : Int32) (x2 : Int32) (t0 : Int32) : Option (Int32 × St × St × St) := f_X3_readItems_L134 k_2 fu b2 u0 u1 u3 x1 x2 t0
set_option maxHeartbeats 4000000 in
set_option maxRecDepth 100000 in
theorem b_X3_readItems_L97 {p : Program} {e : Env} {s : State} {m : MethodId} {args : Array Value} {below : List Frame} {meth : Method} {c : Code} {A : Nat → Prop} (l : Launch) (D : va_G) (cy : Nat → ClassId) (adK adV : Nat → Nat) (h0 : Nat) (h1 : Nat) (h2 : Nat) (b2 : Nat → Int32) (h3 : Nat) (a3 : Nat → Nat) (fu : Nat) (out : Int32 × St × St × St) (C : gC p s m args meth c (WS yX3_readItems cX3_readItems 4 (some .boolean)) cX3_readItems 4 (some .boolean) RX3) (hA : ∀ q : Nat, s.heap.size ≤ q → A q) (hE : gE adK adV A s s.heap) (hK : va_K D vwCl (TY cy) s) (k_2 : St → St → St → Int32 → Int32 → Option (Int32 × St × St × St)) (hk_2 : ∀ (u0 : St) (u1 : St) (u3 : St) (x1 : Int32) (x2 : Int32), k_2 u0 u1 u3 x1 x2 = some out → ∀ (H : Heap) (locs : List Loc) (ls : Array Slot), va_P D vwCl ((w3 cy h0 h1 h3 u0) ++ (w4 cy h1 h2 u1) ++ (wB cy h2 b2) ++ (w5 cy h3 a3 u3)) H → va_D A ((w3 cy h0 h1 h3 u0) ++ (w4 cy h1 h2 u1) ++ (wB cy h2 b2) ++ (w5 cy h3 a3 u3)) → va_S A s.heap H locs → lv_has ls 4 [(0, .ref h0), (1, .int x1), (2, .int x2)] → W p l e ({ frames := 5, cells := 0, slots := 0, locals := 108 } : Room) s m args below meth c H locs 0 0 (MQ below (gQi D cy A out.1 ((w3 cy h0 h1 h3 out.2.1) ++ (w4 cy h1 h2 out.2.2.1) ++ (wB cy h2 b2) ++ (w5 cy h3 a3 out.2.2.2))) args s 0 0 A) (F0 m 2 ls [])) :
    ∀ (u0 : St) (u1 : St) (u3 : St) (x1 : Int32) (x2 : Int32) (t0 : Int32), f_X3_readItems_L97 k_2 fu b2 u0 u1 u3 x1 x2 t0 = some out → ∀ (H : Heap) (locs : List Loc) (ls : Array Slot), va_P D vwCl ((w3 cy h0 h1 h3 u0) ++ (w4 cy h1 h2 u1) ++ (wB cy h2 b2) ++ (w5 cy h3 a3 u3)) H → va_D A ((w3 cy h0 h1 h3 u0) ++ (w4 cy h1 h2 u1) ++ (wB cy h2 b2) ++ (w5 cy h3 a3 u3)) → va_S A s.heap H locs → lv_has ls 4 [(0, .ref h0), (1, .int x1), (2, .int x2)] → W p l e ({ frames := 5, cells := 0, slots := 0, locals := 108 } : Room) s m args below meth c H locs 0 0 (MQ below (gQi D cy A out.1 ((w3 cy h0 h1 h3 out.2.1) ++ (w4 cy h1 h2 out.2.2.1) ++ (wB cy h2 b2) ++ (w5 cy h3 a3 out.2.2.2))) args s 0 0 A) (F0 m 97 ls [.int t0]) := by
  obtain ⟨hx, hb, hr, hml, hown, hts, hlk⟩ := id C
  have hown : s.vm.findClass RX3 = some m.cls := hown
  intro u0 u1 u3 x1 x2 t0 hf H locs ls hP hD hS hl
  unfold f_X3_readItems_L97 at hf
  refine lv_istore_n (lv' := [(3, .int t0), (0, .ref h0), (1, .int x1), (2, .int x2)]) hx hb dX3_readItems_97 rfl hl (by decide) rfl (fun ls hl => ?_)
  refine lv_goto (tgt := 134) hx hb dX3_readItems_98 (by decide) ?_
  exact b_X3_readItems_L134 l D cy adK adV h0 h1 h2 b2 h3 a3 fu out C hA hE hK k_2 hk_2 u0 u1 u3 x1 x2 t0 hf _ _ ls hP hD hS (lv_sub hl [1, 2, 3, 0] rfl)
def f_X3_readItems_L96 (k_2 : St → St → St → Int32 → Int32 → Option (Int32 × St × St × St)) (fu : Nat) (b2 : Nat → Int32) (u0 : St) (u1 : St) (u3 : St) (x1 : Int32) (x2 : Int32) : Option (Int32 × St × St × St) := f_X3_readItems_L97 k_2 fu b2 u0 u1 u3 x1 x2 0
set_option maxHeartbeats 4000000 in
set_option maxRecDepth 100000 in
theorem b_X3_readItems_L96 {p : Program} {e : Env} {s : State} {m : MethodId} {args : Array Value} {below : List Frame} {meth : Method} {c : Code} {A : Nat → Prop} (l : Launch) (D : va_G) (cy : Nat → ClassId) (adK adV : Nat → Nat) (h0 : Nat) (h1 : Nat) (h2 : Nat) (b2 : Nat → Int32) (h3 : Nat) (a3 : Nat → Nat) (fu : Nat) (out : Int32 × St × St × St) (C : gC p s m args meth c (WS yX3_readItems cX3_readItems 4 (some .boolean)) cX3_readItems 4 (some .boolean) RX3) (hA : ∀ q : Nat, s.heap.size ≤ q → A q) (hE : gE adK adV A s s.heap) (hK : va_K D vwCl (TY cy) s) (k_2 : St → St → St → Int32 → Int32 → Option (Int32 × St × St × St)) (hk_2 : ∀ (u0 : St) (u1 : St) (u3 : St) (x1 : Int32) (x2 : Int32), k_2 u0 u1 u3 x1 x2 = some out → ∀ (H : Heap) (locs : List Loc) (ls : Array Slot), va_P D vwCl ((w3 cy h0 h1 h3 u0) ++ (w4 cy h1 h2 u1) ++ (wB cy h2 b2) ++ (w5 cy h3 a3 u3)) H → va_D A ((w3 cy h0 h1 h3 u0) ++ (w4 cy h1 h2 u1) ++ (wB cy h2 b2) ++ (w5 cy h3 a3 u3)) → va_S A s.heap H locs → lv_has ls 4 [(0, .ref h0), (1, .int x1), (2, .int x2)] → W p l e ({ frames := 5, cells := 0, slots := 0, locals := 108 } : Room) s m args below meth c H locs 0 0 (MQ below (gQi D cy A out.1 ((w3 cy h0 h1 h3 out.2.1) ++ (w4 cy h1 h2 out.2.2.1) ++ (wB cy h2 b2) ++ (w5 cy h3 a3 out.2.2.2))) args s 0 0 A) (F0 m 2 ls [])) :
    ∀ (u0 : St) (u1 : St) (u3 : St) (x1 : Int32) (x2 : Int32), f_X3_readItems_L96 k_2 fu b2 u0 u1 u3 x1 x2 = some out → ∀ (H : Heap) (locs : List Loc) (ls : Array Slot), va_P D vwCl ((w3 cy h0 h1 h3 u0) ++ (w4 cy h1 h2 u1) ++ (wB cy h2 b2) ++ (w5 cy h3 a3 u3)) H → va_D A ((w3 cy h0 h1 h3 u0) ++ (w4 cy h1 h2 u1) ++ (wB cy h2 b2) ++ (w5 cy h3 a3 u3)) → va_S A s.heap H locs → lv_has ls 4 [(0, .ref h0), (1, .int x1), (2, .int x2)] → W p l e ({ frames := 5, cells := 0, slots := 0, locals := 108 } : Room) s m args below meth c H locs 0 0 (MQ below (gQi D cy A out.1 ((w3 cy h0 h1 h3 out.2.1) ++ (w4 cy h1 h2 out.2.2.1) ++ (wB cy h2 b2) ++ (w5 cy h3 a3 out.2.2.2))) args s 0 0 A) (F0 m 96 ls []) := by
  obtain ⟨hx, hb, hr, hml, hown, hts, hlk⟩ := id C
  have hown : s.vm.findClass RX3 = some m.cls := hown
  intro u0 u1 u3 x1 x2 hf H locs ls hP hD hS hl
  unfold f_X3_readItems_L96 at hf
  refine lv_iconst (v := 0) hx hb dX3_readItems_96 (by decide) ?_
  exact b_X3_readItems_L97 l D cy adK adV h0 h1 h2 b2 h3 a3 fu out C hA hE hK k_2 hk_2 u0 u1 u3 x1 x2 0 hf _ _ ls hP hD hS (lv_sub hl [0, 1, 2] rfl)
def f_X3_readItems_L2  (fu : Nat) (b2 : Nat → Int32) : Nat → St → St → St → Int32 → Int32 → Option (Int32 × St × St × St)
  | 0, _, _, _, _, _ => none
  | n_2 + 1, u0, u1, u3, x1, x2 => if x1 ≤ x2 then (some (1, u0, u1, u3)) else (if (u1.1 1) = 0 then (some (1, u0, u1, u3)) else ((f_X4_isWord fu 4 u1 b2).bind (fun q_23 => if q_23 = 0 then ((f_X4_isWord fu 5 u1 b2).bind (fun q_72 => if q_72 = 0 then ((f_X4_isWord fu 6 u1 b2).bind (fun q_107 => if q_107 = 0 then ((f_X3_fail fu u0 1 (u1.1 2)).bind (fun q_130 => f_X3_readItems_L134 (f_X3_readItems_L2 fu b2 n_2) fu b2 q_130.2 u1 u3 x1 x2 q_130.1)) else ((f_X3_readCut fu b2 u0 u1 u3).bind (fun q_114 => f_X3_readItems_L134 (f_X3_readItems_L2 fu b2 n_2) fu b2 q_114.2.1 q_114.2.2.1 q_114.2.2.2 x1 x2 q_114.1)))) else ((f_X3_readMark fu b2 u0 u1 u3).bind (fun q_79 => if q_79.1 = 0 then (f_X3_readItems_L96 (f_X3_readItems_L2 fu b2 n_2) fu b2 q_79.2.1 q_79.2.2.1 q_79.2.2.2 x1 x2) else ((f_X3_readSemicolon fu b2 q_79.2.1 q_79.2.2.1).bind (fun q_86 => if q_86.1 = 0 then (f_X3_readItems_L96 (f_X3_readItems_L2 fu b2 n_2) fu b2 q_86.2.1 q_86.2.2 q_79.2.2.2 x1 x2) else (f_X3_readItems_L97 (f_X3_readItems_L2 fu b2 n_2) fu b2 q_86.2.1 q_86.2.2 q_79.2.2.2 x1 x2 1))))))) else ((f_X3_readMark fu b2 u0 u1 u3).bind (fun q_30 => if q_30.1 = 0 then (f_X3_readItems_L61 (f_X3_readItems_L2 fu b2 n_2) fu b2 q_30.2.1 q_30.2.2.1 q_30.2.2.2 x1 x2) else ((f_X3_readStrings fu b2 q_30.2.1 q_30.2.2.1 q_30.2.2.2).bind (fun q_37 => if q_37.1 = 0 then (f_X3_readItems_L61 (f_X3_readItems_L2 fu b2 n_2) fu b2 q_37.2.1 q_37.2.2.1 q_37.2.2.2 x1 x2) else ((f_X3_readSemicolon fu b2 q_37.2.1 q_37.2.2.1).bind (fun q_44 => if q_44.1 = 0 then (f_X3_readItems_L61 (f_X3_readItems_L2 fu b2 n_2) fu b2 q_44.2.1 q_44.2.2 q_37.2.2.2 x1 x2) else ((f_X3_stringsFit fu q_44.2.2 b2 q_37.2.2.2 q_44.2.1).bind (fun q_51 => if q_51.1 = 0 then (f_X3_readItems_L61 (f_X3_readItems_L2 fu b2 n_2) fu b2 q_51.2 q_44.2.2 q_37.2.2.2 x1 x2) else (f_X3_readItems_L62 (f_X3_readItems_L2 fu b2 n_2) fu b2 q_51.2 q_44.2.2 q_37.2.2.2 x1 x2 1))))))))))))
set_option maxHeartbeats 4000000 in
set_option maxRecDepth 100000 in
theorem b_X3_readItems_L2 {p : Program} {e : Env} {s : State} {m : MethodId} {args : Array Value} {below : List Frame} {meth : Method} {c : Code} {A : Nat → Prop} (l : Launch) (D : va_G) (cy : Nat → ClassId) (adK adV : Nat → Nat) (h0 : Nat) (h1 : Nat) (h2 : Nat) (b2 : Nat → Int32) (h3 : Nat) (a3 : Nat → Nat) (fu : Nat) (out : Int32 × St × St × St) (C : gC p s m args meth c (WS yX3_readItems cX3_readItems 4 (some .boolean)) cX3_readItems 4 (some .boolean) RX3) (hA : ∀ q : Nat, s.heap.size ≤ q → A q) (hE : gE adK adV A s s.heap) (hK : va_K D vwCl (TY cy) s)  :
    ∀ (n_2 : Nat), ∀ (u0 : St) (u1 : St) (u3 : St) (x1 : Int32) (x2 : Int32), f_X3_readItems_L2 fu b2 n_2 u0 u1 u3 x1 x2 = some out → ∀ (H : Heap) (locs : List Loc) (ls : Array Slot), va_P D vwCl ((w3 cy h0 h1 h3 u0) ++ (w4 cy h1 h2 u1) ++ (wB cy h2 b2) ++ (w5 cy h3 a3 u3)) H → va_D A ((w3 cy h0 h1 h3 u0) ++ (w4 cy h1 h2 u1) ++ (wB cy h2 b2) ++ (w5 cy h3 a3 u3)) → va_S A s.heap H locs → lv_has ls 4 [(0, .ref h0), (1, .int x1), (2, .int x2)] → W p l e ({ frames := 5, cells := 0, slots := 0, locals := 108 } : Room) s m args below meth c H locs 0 0 (MQ below (gQi D cy A out.1 ((w3 cy h0 h1 h3 out.2.1) ++ (w4 cy h1 h2 out.2.2.1) ++ (wB cy h2 b2) ++ (w5 cy h3 a3 out.2.2.2))) args s 0 0 A) (F0 m 2 ls []) := by
  obtain ⟨hx, hb, hr, hml, hown, hts, hlk⟩ := id C
  have hown : s.vm.findClass RX3 = some m.cls := hown
  have hk_24 := hts _ (List.mem_cons_of_mem _ fl_RX3_24)
  have hk_78 := hts _ (List.mem_cons_of_mem _ fl_RX3_78)
  have hk_57 := hts _ (List.mem_cons_of_mem _ fl_RX3_57)
  intro n_2
  induction n_2 with
  | zero => intro u0 u1 u3 x1 x2 hf; exact op_no hf
  | succ n_2 ih_2 =>
    intro u0 u1 u3 x1 x2 hf H locs ls hP hD hS hl
    rw [f_X3_readItems_L2] at hf
    refine lv_iload_n hx hb dX3_readItems_2 rfl (lv_at hl 2 rfl) ?_
    refine lv_iload_n hx hb dX3_readItems_3 rfl (lv_at hl 1 rfl) ?_
    refine lv_icmp_ge (tgt := 146) hx hb dX3_readItems_4 (by decide) (fun c_4 => ?_) (fun c_4 => ?_)
    · have hf := op_pos c_4 hf
      refine lv_iconst (v := 1) hx hb dX3_readItems_146 (by decide) ?_
      rw [← Option.some.inj hf]
      exact g_zret hx hb hr hlk (show isB 1 = true by decide) hK hP hD hS dX3_readItems_147
    · have hf := op_neg c_4 hf
      refine lv_aload_n hx hb dX3_readItems_7 rfl (lv_at hl 0 rfl) ?_
      refine va_get (ci := 3) (v := .ref h1) (C := RX3) (T := TX3) (N := 6) hx hb hts (fun w h => List.mem_cons_of_mem _ (inX3 w h)) hown hK hP 0 rfl rfl 2 (by decide) hk_24 (fun _ h9 => h9) rfl dX3_readItems_8 ?_
      refine va_get (ci := 4) (v := .int (u1.1 1)) (C := RX4) (T := TX4) (N := 6) hx hb hts (fun w h => List.mem_cons_of_mem _ (inX4 w h)) hown hK hP 1 rfl rfl 1 (by decide) hk_78 (fun _ h9 => h9) rfl dX3_readItems_11 ?_
      refine lv_if_eq (tgt := 146) hx hb dX3_readItems_14 (by decide) (fun c_14 => ?_) (fun c_14 => ?_)
      · have hf := op_pos c_14 hf
        refine lv_iconst (v := 1) hx hb dX3_readItems_146 (by decide) ?_
        rw [← Option.some.inj hf]
        exact g_zret hx hb hr hlk (show isB 1 = true by decide) hK hP hD hS dX3_readItems_147
      · have hf := op_neg c_14 hf
        refine lv_aload_n hx hb dX3_readItems_17 rfl (lv_at hl 0 rfl) ?_
        refine va_get (ci := 3) (v := .ref h1) (C := RX3) (T := TX3) (N := 6) hx hb hts (fun w h => List.mem_cons_of_mem _ (inX3 w h)) hown hK hP 0 rfl rfl 2 (by decide) hk_24 (fun _ h9 => h9) rfl dX3_readItems_18 ?_
        refine va_ldcS hx hb hown (hE.2.2.2 4 (by decide)) dX3_readItems_21 ?_
        obtain ⟨q_23, hc_23, hf⟩ := op_bind hf
        refine g_callViE (As := [.ref (adK 4)]) (rest := []) (w2 := (w3 cy h0 h1 h3 u0) ++ (w4 cy h1 h2 u1) ++ (wB cy h2 b2) ++ (w5 cy h3 a3 u3)) ⟨hx, hb, hml, hown, hts⟩ (c_X4_isWord l D cy adK adV h1 u1 h2 b2 4 (by decide) _ fu _ hc_23) (cwV 1 hts (gi_V ml_RX3_53 im_X4_isWord se_X4_isWord in_RX4 cd_X4_isWord) rfl rfl rfl hdX4_isWord ⟨Nat.le_of_ble_eq_true rfl, Nat.le_of_ble_eq_true rfl⟩) (va_recv hK hP (ci := 4) (q0 := 1) rfl rfl) rfl hl.1 rfl (Nat.le_of_ble_eq_true rfl) dX3_readItems_23 hE hK hP hD hS hA [1, 2] [0, 3, 4, 5, 6, 7, 8, 9, 10, 11] [0, 10, 11, 1, 2, 3, 4, 5, 6, 7, 8, 9] rfl rfl rfl rfl (by decide) rfl rfl (fun H locs hP hD hS => ?_)
        refine lv_if_eq (tgt := 66) hx hb dX3_readItems_26 (by decide) (fun c_26 => ?_) (fun c_26 => ?_)
        · have hf := op_pos c_26 hf
          refine lv_aload_n hx hb dX3_readItems_66 rfl (lv_at hl 0 rfl) ?_
          refine va_get (ci := 3) (v := .ref h1) (C := RX3) (T := TX3) (N := 6) hx hb hts (fun w h => List.mem_cons_of_mem _ (inX3 w h)) hown hK hP 0 rfl rfl 2 (by decide) hk_24 (fun _ h9 => h9) rfl dX3_readItems_67 ?_
          refine va_ldcS hx hb hown (hE.2.2.2 5 (by decide)) dX3_readItems_70 ?_
          obtain ⟨q_72, hc_72, hf⟩ := op_bind hf
          refine g_callViE (As := [.ref (adK 5)]) (rest := []) (w2 := (w3 cy h0 h1 h3 u0) ++ (w4 cy h1 h2 u1) ++ (wB cy h2 b2) ++ (w5 cy h3 a3 u3)) ⟨hx, hb, hml, hown, hts⟩ (c_X4_isWord l D cy adK adV h1 u1 h2 b2 5 (by decide) _ fu _ hc_72) (cwV 1 hts (gi_V ml_RX3_53 im_X4_isWord se_X4_isWord in_RX4 cd_X4_isWord) rfl rfl rfl hdX4_isWord ⟨Nat.le_of_ble_eq_true rfl, Nat.le_of_ble_eq_true rfl⟩) (va_recv hK hP (ci := 4) (q0 := 1) rfl rfl) rfl hl.1 rfl (Nat.le_of_ble_eq_true rfl) dX3_readItems_72 hE hK hP hD hS hA [1, 2] [0, 3, 4, 5, 6, 7, 8, 9, 10, 11] [0, 10, 11, 1, 2, 3, 4, 5, 6, 7, 8, 9] rfl rfl rfl rfl (by decide) rfl rfl (fun H locs hP hD hS => ?_)
          refine lv_if_eq (tgt := 101) hx hb dX3_readItems_75 (by decide) (fun c_75 => ?_) (fun c_75 => ?_)
          · have hf := op_pos c_75 hf
            refine lv_aload_n hx hb dX3_readItems_101 rfl (lv_at hl 0 rfl) ?_
            refine va_get (ci := 3) (v := .ref h1) (C := RX3) (T := TX3) (N := 6) hx hb hts (fun w h => List.mem_cons_of_mem _ (inX3 w h)) hown hK hP 0 rfl rfl 2 (by decide) hk_24 (fun _ h9 => h9) rfl dX3_readItems_102 ?_
            refine va_ldcS hx hb hown (hE.2.2.2 6 (by decide)) dX3_readItems_105 ?_
            obtain ⟨q_107, hc_107, hf⟩ := op_bind hf
            refine g_callViE (As := [.ref (adK 6)]) (rest := []) (w2 := (w3 cy h0 h1 h3 u0) ++ (w4 cy h1 h2 u1) ++ (wB cy h2 b2) ++ (w5 cy h3 a3 u3)) ⟨hx, hb, hml, hown, hts⟩ (c_X4_isWord l D cy adK adV h1 u1 h2 b2 6 (by decide) _ fu _ hc_107) (cwV 1 hts (gi_V ml_RX3_53 im_X4_isWord se_X4_isWord in_RX4 cd_X4_isWord) rfl rfl rfl hdX4_isWord ⟨Nat.le_of_ble_eq_true rfl, Nat.le_of_ble_eq_true rfl⟩) (va_recv hK hP (ci := 4) (q0 := 1) rfl rfl) rfl hl.1 rfl (Nat.le_of_ble_eq_true rfl) dX3_readItems_107 hE hK hP hD hS hA [1, 2] [0, 3, 4, 5, 6, 7, 8, 9, 10, 11] [0, 10, 11, 1, 2, 3, 4, 5, 6, 7, 8, 9] rfl rfl rfl rfl (by decide) rfl rfl (fun H locs hP hD hS => ?_)
            refine lv_if_eq (tgt := 121) hx hb dX3_readItems_110 (by decide) (fun c_110 => ?_) (fun c_110 => ?_)
            · have hf := op_pos c_110 hf
              refine lv_aload_n hx hb dX3_readItems_121 rfl (lv_at hl 0 rfl) ?_
              refine lv_iconst (v := 1) hx hb dX3_readItems_122 (by decide) ?_
              refine lv_aload_n hx hb dX3_readItems_123 rfl (lv_at hl 0 rfl) ?_
              refine va_get (ci := 3) (v := .ref h1) (C := RX3) (T := TX3) (N := 6) hx hb hts (fun w h => List.mem_cons_of_mem _ (inX3 w h)) hown hK hP 0 rfl rfl 2 (by decide) hk_24 (fun _ h9 => h9) rfl dX3_readItems_124 ?_
              refine va_get (ci := 4) (v := .int (u1.1 2)) (C := RX4) (T := TX4) (N := 6) hx hb hts (fun w h => List.mem_cons_of_mem _ (inX4 w h)) hown hK hP 1 rfl rfl 2 (by decide) hk_57 (fun _ h9 => h9) rfl dX3_readItems_127 ?_
              obtain ⟨q_130, hc_130, hf⟩ := op_bind hf
              refine g_callVi (As := [.int 1, .int (u1.1 2)]) (rest := []) (w2 := (w3 cy h0 h1 h3 q_130.2) ++ (w4 cy h1 h2 u1) ++ (wB cy h2 b2) ++ (w5 cy h3 a3 u3)) ⟨hx, hb, hml, hown, hts⟩ (c_X3_fail l D cy h0 h1 h3 u0 _ fu 1 (u1.1 2) _ hc_130) (cwV 2 hts (gi_V ml_RX3_60 im_X3_fail se_X3_fail in_RX3 cd_X3_fail) rfl rfl rfl hdX3_fail ⟨Nat.le_of_ble_eq_true rfl, Nat.le_of_ble_eq_true rfl⟩) (va_recv hK hP (ci := 3) (q0 := 0) rfl rfl) rfl hl.1 rfl (Nat.le_of_ble_eq_true rfl) dX3_readItems_130 hK hP hD hS hA [0] [1, 2, 3, 4, 5, 6, 7, 8, 9, 10, 11] [11, 0, 1, 2, 3, 4, 5, 6, 7, 8, 9, 10] rfl rfl rfl rfl (by decide) rfl rfl (fun H locs hP hD hS => ?_)
              refine lv_istore_n (lv' := [(3, .int q_130.1), (0, .ref h0), (1, .int x1), (2, .int x2)]) hx hb dX3_readItems_133 rfl hl (by decide) rfl (fun ls hl => ?_)
              exact b_X3_readItems_L134 l D cy adK adV h0 h1 h2 b2 h3 a3 fu out C hA hE hK (f_X3_readItems_L2 fu b2 n_2) ih_2 q_130.2 u1 u3 x1 x2 q_130.1 hf _ _ ls hP hD hS (lv_sub hl [1, 2, 3, 0] rfl)
            · have hf := op_neg c_110 hf
              refine lv_aload_n hx hb dX3_readItems_113 rfl (lv_at hl 0 rfl) ?_
              obtain ⟨q_114, hc_114, hf⟩ := op_bind hf
              refine g_callVi (As := []) (rest := []) (w2 := (w3 cy h0 h1 h3 q_114.2.1) ++ (w4 cy h1 h2 q_114.2.2.1) ++ (wB cy h2 b2) ++ (w5 cy h3 a3 q_114.2.2.2)) ⟨hx, hb, hml, hown, hts⟩ (c_X3_readCut l D cy h0 u0 h1 u1 h2 b2 h3 a3 u3 _ fu _ hc_114) (cwV 0 hts (gi_V ml_RX3_137 im_X3_readCut se_X3_readCut in_RX3 cd_X3_readCut) rfl rfl rfl hdX3_readCut ⟨Nat.le_of_ble_eq_true rfl, Nat.le_of_ble_eq_true rfl⟩) (va_recv hK hP (ci := 3) (q0 := 0) rfl rfl) rfl hl.1 rfl (Nat.le_of_ble_eq_true rfl) dX3_readItems_114 hK hP hD hS hA [0, 1, 2, 3, 4, 5, 6, 7, 8, 9, 10, 11] [] [0, 1, 2, 3, 4, 5, 6, 7, 8, 9, 10, 11] rfl rfl rfl rfl (by decide) rfl rfl (fun H locs hP hD hS => ?_)
              refine lv_istore_n (lv' := [(3, .int q_114.1), (0, .ref h0), (1, .int x1), (2, .int x2)]) hx hb dX3_readItems_117 rfl hl (by decide) rfl (fun ls hl => ?_)
              refine lv_goto (tgt := 134) hx hb dX3_readItems_118 (by decide) ?_
              exact b_X3_readItems_L134 l D cy adK adV h0 h1 h2 b2 h3 a3 fu out C hA hE hK (f_X3_readItems_L2 fu b2 n_2) ih_2 q_114.2.1 q_114.2.2.1 q_114.2.2.2 x1 x2 q_114.1 hf _ _ ls hP hD hS (lv_sub hl [1, 2, 3, 0] rfl)
          · have hf := op_neg c_75 hf
            refine lv_aload_n hx hb dX3_readItems_78 rfl (lv_at hl 0 rfl) ?_
            obtain ⟨q_79, hc_79, hf⟩ := op_bind hf
            refine g_callVi (As := []) (rest := []) (w2 := (w3 cy h0 h1 h3 q_79.2.1) ++ (w4 cy h1 h2 q_79.2.2.1) ++ (wB cy h2 b2) ++ (w5 cy h3 a3 q_79.2.2.2)) ⟨hx, hb, hml, hown, hts⟩ (c_X3_readMark l D cy h0 u0 h1 u1 h2 b2 h3 a3 u3 _ fu _ hc_79) (cwV 0 hts (gi_V ml_RX3_124 im_X3_readMark se_X3_readMark in_RX3 cd_X3_readMark) rfl rfl rfl hdX3_readMark ⟨Nat.le_of_ble_eq_true rfl, Nat.le_of_ble_eq_true rfl⟩) (va_recv hK hP (ci := 3) (q0 := 0) rfl rfl) rfl hl.1 rfl (Nat.le_of_ble_eq_true rfl) dX3_readItems_79 hK hP hD hS hA [0, 1, 2, 3, 4, 5, 6, 7, 8, 9, 10, 11] [] [0, 1, 2, 3, 4, 5, 6, 7, 8, 9, 10, 11] rfl rfl rfl rfl (by decide) rfl rfl (fun H locs hP hD hS => ?_)
            refine lv_if_eq (tgt := 96) hx hb dX3_readItems_82 (by decide) (fun c_82 => ?_) (fun c_82 => ?_)
            · have hf := op_pos c_82 hf
              exact b_X3_readItems_L96 l D cy adK adV h0 h1 h2 b2 h3 a3 fu out C hA hE hK (f_X3_readItems_L2 fu b2 n_2) ih_2 q_79.2.1 q_79.2.2.1 q_79.2.2.2 x1 x2 hf _ _ ls hP hD hS (lv_sub hl [0, 1, 2] rfl)
            · have hf := op_neg c_82 hf
              refine lv_aload_n hx hb dX3_readItems_85 rfl (lv_at hl 0 rfl) ?_
              obtain ⟨q_86, hc_86, hf⟩ := op_bind hf
              refine g_callVi (As := []) (rest := []) (w2 := (w3 cy h0 h1 h3 q_86.2.1) ++ (w4 cy h1 h2 q_86.2.2) ++ (wB cy h2 b2) ++ (w5 cy h3 a3 q_79.2.2.2)) ⟨hx, hb, hml, hown, hts⟩ (c_X3_readSemicolon l D cy h0 h3 q_79.2.1 h1 q_79.2.2.1 h2 b2 _ fu _ hc_86) (cwV 0 hts (gi_V ml_RX3_75 im_X3_readSemicolon se_X3_readSemicolon in_RX3 cd_X3_readSemicolon) rfl rfl rfl hdX3_readSemicolon ⟨Nat.le_of_ble_eq_true rfl, Nat.le_of_ble_eq_true rfl⟩) (va_recv hK hP (ci := 3) (q0 := 0) rfl rfl) rfl hl.1 rfl (Nat.le_of_ble_eq_true rfl) dX3_readItems_86 hK hP hD hS hA [0, 1, 2] [3, 4, 5, 6, 7, 8, 9, 10, 11] [9, 10, 11, 0, 1, 2, 3, 4, 5, 6, 7, 8] rfl rfl rfl rfl (by decide) rfl rfl (fun H locs hP hD hS => ?_)
              refine lv_if_eq (tgt := 96) hx hb dX3_readItems_89 (by decide) (fun c_89 => ?_) (fun c_89 => ?_)
              · have hf := op_pos c_89 hf
                exact b_X3_readItems_L96 l D cy adK adV h0 h1 h2 b2 h3 a3 fu out C hA hE hK (f_X3_readItems_L2 fu b2 n_2) ih_2 q_86.2.1 q_86.2.2 q_79.2.2.2 x1 x2 hf _ _ ls hP hD hS (lv_sub hl [0, 1, 2] rfl)
              · have hf := op_neg c_89 hf
                refine lv_iconst (v := 1) hx hb dX3_readItems_92 (by decide) ?_
                refine lv_goto (tgt := 97) hx hb dX3_readItems_93 (by decide) ?_
                exact b_X3_readItems_L97 l D cy adK adV h0 h1 h2 b2 h3 a3 fu out C hA hE hK (f_X3_readItems_L2 fu b2 n_2) ih_2 q_86.2.1 q_86.2.2 q_79.2.2.2 x1 x2 1 hf _ _ ls hP hD hS (lv_sub hl [0, 1, 2] rfl)
        · have hf := op_neg c_26 hf
          refine lv_aload_n hx hb dX3_readItems_29 rfl (lv_at hl 0 rfl) ?_
          obtain ⟨q_30, hc_30, hf⟩ := op_bind hf
          refine g_callVi (As := []) (rest := []) (w2 := (w3 cy h0 h1 h3 q_30.2.1) ++ (w4 cy h1 h2 q_30.2.2.1) ++ (wB cy h2 b2) ++ (w5 cy h3 a3 q_30.2.2.2)) ⟨hx, hb, hml, hown, hts⟩ (c_X3_readMark l D cy h0 u0 h1 u1 h2 b2 h3 a3 u3 _ fu _ hc_30) (cwV 0 hts (gi_V ml_RX3_124 im_X3_readMark se_X3_readMark in_RX3 cd_X3_readMark) rfl rfl rfl hdX3_readMark ⟨Nat.le_of_ble_eq_true rfl, Nat.le_of_ble_eq_true rfl⟩) (va_recv hK hP (ci := 3) (q0 := 0) rfl rfl) rfl hl.1 rfl (Nat.le_of_ble_eq_true rfl) dX3_readItems_30 hK hP hD hS hA [0, 1, 2, 3, 4, 5, 6, 7, 8, 9, 10, 11] [] [0, 1, 2, 3, 4, 5, 6, 7, 8, 9, 10, 11] rfl rfl rfl rfl (by decide) rfl rfl (fun H locs hP hD hS => ?_)
          refine lv_if_eq (tgt := 61) hx hb dX3_readItems_33 (by decide) (fun c_33 => ?_) (fun c_33 => ?_)
          · have hf := op_pos c_33 hf
            exact b_X3_readItems_L61 l D cy adK adV h0 h1 h2 b2 h3 a3 fu out C hA hE hK (f_X3_readItems_L2 fu b2 n_2) ih_2 q_30.2.1 q_30.2.2.1 q_30.2.2.2 x1 x2 hf _ _ ls hP hD hS (lv_sub hl [0, 1, 2] rfl)
          · have hf := op_neg c_33 hf
            refine lv_aload_n hx hb dX3_readItems_36 rfl (lv_at hl 0 rfl) ?_
            obtain ⟨q_37, hc_37, hf⟩ := op_bind hf
            refine g_callVi (As := []) (rest := []) (w2 := (w3 cy h0 h1 h3 q_37.2.1) ++ (w4 cy h1 h2 q_37.2.2.1) ++ (wB cy h2 b2) ++ (w5 cy h3 a3 q_37.2.2.2)) ⟨hx, hb, hml, hown, hts⟩ (c_X3_readStrings l D cy h0 q_30.2.1 h1 q_30.2.2.1 h2 b2 h3 a3 q_30.2.2.2 _ fu _ hc_37) (cwV 0 hts (gi_V ml_RX3_127 im_X3_readStrings se_X3_readStrings in_RX3 cd_X3_readStrings) rfl rfl rfl hdX3_readStrings ⟨Nat.le_of_ble_eq_true rfl, Nat.le_of_ble_eq_true rfl⟩) (va_recv hK hP (ci := 3) (q0 := 0) rfl rfl) rfl hl.1 rfl (Nat.le_of_ble_eq_true rfl) dX3_readItems_37 hK hP hD hS hA [0, 1, 2, 3, 4, 5, 6, 7, 8, 9, 10, 11] [] [0, 1, 2, 3, 4, 5, 6, 7, 8, 9, 10, 11] rfl rfl rfl rfl (by decide) rfl rfl (fun H locs hP hD hS => ?_)
            refine lv_if_eq (tgt := 61) hx hb dX3_readItems_40 (by decide) (fun c_40 => ?_) (fun c_40 => ?_)
            · have hf := op_pos c_40 hf
              exact b_X3_readItems_L61 l D cy adK adV h0 h1 h2 b2 h3 a3 fu out C hA hE hK (f_X3_readItems_L2 fu b2 n_2) ih_2 q_37.2.1 q_37.2.2.1 q_37.2.2.2 x1 x2 hf _ _ ls hP hD hS (lv_sub hl [0, 1, 2] rfl)
            · have hf := op_neg c_40 hf
              refine lv_aload_n hx hb dX3_readItems_43 rfl (lv_at hl 0 rfl) ?_
              obtain ⟨q_44, hc_44, hf⟩ := op_bind hf
              refine g_callVi (As := []) (rest := []) (w2 := (w3 cy h0 h1 h3 q_44.2.1) ++ (w4 cy h1 h2 q_44.2.2) ++ (wB cy h2 b2) ++ (w5 cy h3 a3 q_37.2.2.2)) ⟨hx, hb, hml, hown, hts⟩ (c_X3_readSemicolon l D cy h0 h3 q_37.2.1 h1 q_37.2.2.1 h2 b2 _ fu _ hc_44) (cwV 0 hts (gi_V ml_RX3_75 im_X3_readSemicolon se_X3_readSemicolon in_RX3 cd_X3_readSemicolon) rfl rfl rfl hdX3_readSemicolon ⟨Nat.le_of_ble_eq_true rfl, Nat.le_of_ble_eq_true rfl⟩) (va_recv hK hP (ci := 3) (q0 := 0) rfl rfl) rfl hl.1 rfl (Nat.le_of_ble_eq_true rfl) dX3_readItems_44 hK hP hD hS hA [0, 1, 2] [3, 4, 5, 6, 7, 8, 9, 10, 11] [9, 10, 11, 0, 1, 2, 3, 4, 5, 6, 7, 8] rfl rfl rfl rfl (by decide) rfl rfl (fun H locs hP hD hS => ?_)
              refine lv_if_eq (tgt := 61) hx hb dX3_readItems_47 (by decide) (fun c_47 => ?_) (fun c_47 => ?_)
              · have hf := op_pos c_47 hf
                exact b_X3_readItems_L61 l D cy adK adV h0 h1 h2 b2 h3 a3 fu out C hA hE hK (f_X3_readItems_L2 fu b2 n_2) ih_2 q_44.2.1 q_44.2.2 q_37.2.2.2 x1 x2 hf _ _ ls hP hD hS (lv_sub hl [0, 1, 2] rfl)
              · have hf := op_neg c_47 hf
                refine lv_aload_n hx hb dX3_readItems_50 rfl (lv_at hl 0 rfl) ?_
                obtain ⟨q_51, hc_51, hf⟩ := op_bind hf
                refine g_callVi (As := []) (rest := []) (w2 := (w3 cy h0 h1 h3 q_51.2) ++ (w4 cy h1 h2 q_44.2.2) ++ (wB cy h2 b2) ++ (w5 cy h3 a3 q_37.2.2.2)) ⟨hx, hb, hml, hown, hts⟩ (c_X3_stringsFit l D cy h0 q_44.2.1 h1 q_44.2.2 h2 b2 h3 a3 q_37.2.2.2 _ fu _ hc_51) (cwV 0 hts (gi_V ml_RX3_130 im_X3_stringsFit se_X3_stringsFit in_RX3 cd_X3_stringsFit) rfl rfl rfl hdX3_stringsFit ⟨Nat.le_of_ble_eq_true rfl, Nat.le_of_ble_eq_true rfl⟩) (va_recv hK hP (ci := 3) (q0 := 0) rfl rfl) rfl hl.1 rfl (Nat.le_of_ble_eq_true rfl) dX3_readItems_51 hK hP hD hS hA [0, 1, 2, 3, 4, 5, 6, 7, 8, 9, 10, 11] [] [0, 1, 2, 3, 4, 5, 6, 7, 8, 9, 10, 11] rfl rfl rfl rfl (by decide) rfl rfl (fun H locs hP hD hS => ?_)
                refine lv_if_eq (tgt := 61) hx hb dX3_readItems_54 (by decide) (fun c_54 => ?_) (fun c_54 => ?_)
                · have hf := op_pos c_54 hf
                  exact b_X3_readItems_L61 l D cy adK adV h0 h1 h2 b2 h3 a3 fu out C hA hE hK (f_X3_readItems_L2 fu b2 n_2) ih_2 q_51.2 q_44.2.2 q_37.2.2.2 x1 x2 hf _ _ ls hP hD hS (lv_sub hl [0, 1, 2] rfl)
                · have hf := op_neg c_54 hf
                  refine lv_iconst (v := 1) hx hb dX3_readItems_57 (by decide) ?_
                  refine lv_goto (tgt := 62) hx hb dX3_readItems_58 (by decide) ?_
                  exact b_X3_readItems_L62 l D cy adK adV h0 h1 h2 b2 h3 a3 fu out C hA hE hK (f_X3_readItems_L2 fu b2 n_2) ih_2 q_51.2 q_44.2.2 q_37.2.2.2 x1 x2 1 hf _ _ ls hP hD hS (lv_sub hl [0, 1, 2] rfl)
def f_X3_readItems (fu : Nat) (b2 : Nat → Int32) (s0 : St) (s1 : St) (s3 : St) (p1 : Int32) : Option (Int32 × St × St × St) := f_X3_readItems_L2 fu b2 fu s0 s1 s3 p1 0
theorem hdX3_readItems : yX3_readItems.cls = RX3 ∧ yX3_readItems.cls ≠ "java/lang/invoke/MethodHandle" ∧ yX3_readItems.cls ≠ "java/lang/invoke/VarHandle" ∧ (parseMethodDescriptor yX3_readItems.desc).map (fun d => d.parameters.length) = some 1 := by decide +kernel
set_option maxHeartbeats 4000000 in
set_option maxRecDepth 100000 in
theorem c_X3_readItems (l : Launch) (D : va_G) (cy : Nat → ClassId) (adK adV : Nat → Nat) (h0 : Nat) (s0 : St) (h1 : Nat) (s1 : St) (h2 : Nat) (b2 : Nat → Int32) (h3 : Nat) (a3 : Nat → Nat) (s3 : St) (sz fu : Nat) (p1 : Int32) (out : Int32 × St × St × St) (hf : f_X3_readItems fu b2 s0 s1 s3 p1 = some out) :
    Met l yX3_readItems (WS yX3_readItems cX3_readItems 4 (some .boolean)) ({ frames := 5, cells := 0, slots := 0, locals := 108 } : Room) (va_Pc [.ref h0, .int p1] (gPE D cy adK adV sz ((w3 cy h0 h1 h3 s0) ++ (w4 cy h1 h2 s1) ++ (wB cy h2 b2) ++ (w5 cy h3 a3 s3)))) ((fun A : Nat → Prop => gQi D cy A out.1 ((w3 cy h0 h1 h3 out.2.1) ++ (w4 cy h1 h2 out.2.2.1) ++ (wB cy h2 b2) ++ (w5 cy h3 a3 out.2.2.2))) (va_A ((w3 cy h0 h1 h3 s0) ++ (w4 cy h1 h2 s1) ++ (wB cy h2 b2) ++ (w5 cy h3 a3 s3)) sz)) 0 0 (va_A ((w3 cy h0 h1 h3 s0) ++ (w4 cy h1 h2 s1) ++ (wB cy h2 b2) ++ (w5 cy h3 a3 s3)) sz) := by
  refine g_metE (cc := cX3_readItems) (maxL := 4) (ret := (some .boolean)) (fun A : Nat → Prop => gQi D cy A out.1 ((w3 cy h0 h1 h3 out.2.1) ++ (w4 cy h1 h2 out.2.2.1) ++ (wB cy h2 b2) ++ (w5 cy h3 a3 out.2.2.2))) (by decide +kernel) rfl (Nat.le_of_ble_eq_true rfl) ?_
  intro p e s m below meth c A C hA hE hK hP hD ls hl
  obtain ⟨hx, hb, hr, hml, hown, hts, hlk⟩ := id C
  have hown : s.vm.findClass RX3 = some m.cls := hown
  have hS : va_S A s.heap s.heap [] := va_S.rf
  have hl : lv_has ls 4 [(0, .ref h0), (1, .int p1)] := hl
  unfold f_X3_readItems at hf
  refine lv_iconst (v := 0) hx hb dX3_readItems_0 (by decide) ?_
  refine lv_istore_n (lv' := [(2, .int 0), (0, .ref h0), (1, .int p1)]) hx hb dX3_readItems_1 rfl hl (by decide) rfl (fun ls hl => ?_)
  exact b_X3_readItems_L2 l D cy adK adV h0 h1 h2 b2 h3 a3 fu out C hA hE hK fu s0 s1 s3 p1 0 hf _ _ ls hP hD hS (lv_sub hl [1, 2, 0] rfl)
def f_X3_read (fu : Nat) (b2 : Nat → Int32) (s0 : St) (s1 : St) (s3 : St) (p2 : Int32) : Option (Int32 × St × St × St) := (f_X5_clear fu s3).bind (fun q_19 => (f_X4_open fu b2 s1 p2).bind (fun q_28 => (f_X3_readTongues fu b2 (sF (sF s0 0 0) 1 (-1)) q_28 q_19).bind (fun q_32 => if q_32.1 = 0 then (some (0, q_32.2.1, q_32.2.2.1, q_32.2.2.2)) else ((f_X3_readSettings fu b2 q_32.2.1 q_32.2.2.1 q_32.2.2.2 p2).bind (fun q_40 => if q_40.1 = 0 then (some (0, q_40.2.1, q_40.2.2.1, q_40.2.2.2)) else ((f_X3_readItems fu b2 q_40.2.1 q_40.2.2.1 q_40.2.2.2 p2).bind (fun q_48 => if q_48.1 = 0 then (some (0, q_48.2.1, q_48.2.2.1, q_48.2.2.2)) else (some (1, q_48.2.1, q_48.2.2.1, q_48.2.2.2)))))))))
theorem hdX3_read : yX3_read.cls = RX3 ∧ yX3_read.cls ≠ "java/lang/invoke/MethodHandle" ∧ yX3_read.cls ≠ "java/lang/invoke/VarHandle" ∧ (parseMethodDescriptor yX3_read.desc).map (fun d => d.parameters.length) = some 3 := by decide +kernel
set_option maxHeartbeats 4000000 in
set_option maxRecDepth 100000 in
theorem c_X3_read (l : Launch) (D : va_G) (cy : Nat → ClassId) (adK adV : Nat → Nat) (h0 : Nat) (r0_3 : Nat) (s0 : St) (h1 : Nat) (r1_0 : Nat) (s1 : St) (h2 : Nat) (b2 : Nat → Int32) (h3 : Nat) (a3 : Nat → Nat) (s3 : St) (sz fu : Nat) (p2 : Int32) (out : Int32 × St × St × St) (hf : f_X3_read fu b2 s0 s1 s3 p2 = some out) :
    Met l yX3_read (WS yX3_read cX3_read 4 (some .boolean)) ({ frames := 6, cells := 0, slots := 0, locals := 132 } : Room) (va_Pc [.ref h0, .ref h2, .int p2, .ref h3] (gPE D cy adK adV sz ((w3 cy h0 h1 r0_3 s0) ++ (w4 cy h1 r1_0 s1) ++ (wB cy h2 b2) ++ (w5 cy h3 a3 s3)))) ((fun A : Nat → Prop => gQi D cy A out.1 ((w3 cy h0 h1 h3 out.2.1) ++ (w4 cy h1 h2 out.2.2.1) ++ (wB cy h2 b2) ++ (w5 cy h3 a3 out.2.2.2))) (va_A ((w3 cy h0 h1 r0_3 s0) ++ (w4 cy h1 r1_0 s1) ++ (wB cy h2 b2) ++ (w5 cy h3 a3 s3)) sz)) 0 0 (va_A ((w3 cy h0 h1 r0_3 s0) ++ (w4 cy h1 r1_0 s1) ++ (wB cy h2 b2) ++ (w5 cy h3 a3 s3)) sz) := by
  refine g_metE (cc := cX3_read) (maxL := 4) (ret := (some .boolean)) (fun A : Nat → Prop => gQi D cy A out.1 ((w3 cy h0 h1 h3 out.2.1) ++ (w4 cy h1 h2 out.2.2.1) ++ (wB cy h2 b2) ++ (w5 cy h3 a3 out.2.2.2))) (by decide +kernel) rfl (Nat.le_of_ble_eq_true rfl) ?_
  intro p e s m below meth c A C hA hE hK hP hD ls hl
  obtain ⟨hx, hb, hr, hml, hown, hts, hlk⟩ := id C
  have hown : s.vm.findClass RX3 = some m.cls := hown
  have hS : va_S A s.heap s.heap [] := va_S.rf
  have hl : lv_has ls 4 [(0, .ref h0), (1, .ref h2), (2, .int p2), (3, .ref h3)] := hl
  have hk_28 := hts _ (List.mem_cons_of_mem _ fl_RX3_28)
  have hk_9 := hts _ (List.mem_cons_of_mem _ fl_RX3_9)
  have hk_15 := hts _ (List.mem_cons_of_mem _ fl_RX3_15)
  have hk_24 := hts _ (List.mem_cons_of_mem _ fl_RX3_24)
  unfold f_X3_read at hf
  refine lv_aload_n hx hb dX3_read_0 rfl (lv_at hl 0 rfl) ?_
  refine lv_iconst (v := 0) hx hb dX3_read_1 (by decide) ?_
  refine va_put (ci := 3) (v := .int 0) (ty := tyX3 0) (C := RX3) (T := TX3) (N := 6) hx hb hts (fun w h => List.mem_cons_of_mem _ (inX3 w h)) tyX3 tyX3_ok nmX3 hown hK hP hD hS 0 rfl rfl 0 (by decide) hk_28 (fun _ h9 => h9) rfl (tyX3_ok 0 (by decide)) rfl rfl (Nat.le_of_ble_eq_true rfl) dX3_read_2 (fun H locs hP hD hS => ?_)
  have hP : va_P D vwCl ((w3 cy h0 h1 r0_3 (sF s0 0 0)) ++ (w4 cy h1 r1_0 s1) ++ (wB cy h2 b2) ++ (w5 cy h3 a3 s3)) H := hP
  have hD : va_D A ((w3 cy h0 h1 r0_3 (sF s0 0 0)) ++ (w4 cy h1 r1_0 s1) ++ (wB cy h2 b2) ++ (w5 cy h3 a3 s3)) := hD
  refine lv_aload_n hx hb dX3_read_5 rfl (lv_at hl 0 rfl) ?_
  refine lv_iconst (v := (-1)) hx hb dX3_read_6 (by decide) ?_
  refine va_put (ci := 3) (v := .int (-1)) (ty := tyX3 1) (C := RX3) (T := TX3) (N := 6) hx hb hts (fun w h => List.mem_cons_of_mem _ (inX3 w h)) tyX3 tyX3_ok nmX3 hown hK hP hD hS 0 rfl rfl 1 (by decide) hk_9 (fun _ h9 => h9) rfl (tyX3_ok 1 (by decide)) rfl rfl (Nat.le_of_ble_eq_true rfl) dX3_read_7 (fun H locs hP hD hS => ?_)
  have hP : va_P D vwCl ((w3 cy h0 h1 r0_3 (sF (sF s0 0 0) 1 (-1))) ++ (w4 cy h1 r1_0 s1) ++ (wB cy h2 b2) ++ (w5 cy h3 a3 s3)) H := hP
  have hD : va_D A ((w3 cy h0 h1 r0_3 (sF (sF s0 0 0) 1 (-1))) ++ (w4 cy h1 r1_0 s1) ++ (wB cy h2 b2) ++ (w5 cy h3 a3 s3)) := hD
  refine lv_aload_n hx hb dX3_read_10 rfl (lv_at hl 0 rfl) ?_
  refine lv_aload_n hx hb dX3_read_11 rfl (lv_at hl 3 rfl) ?_
  refine va_put (ci := 3) (v := .ref h3) (ty := tyX3 3) (C := RX3) (T := TX3) (N := 6) hx hb hts (fun w h => List.mem_cons_of_mem _ (inX3 w h)) tyX3 tyX3_ok nmX3 hown hK hP hD hS 0 rfl rfl 3 (by decide) hk_15 (fun _ h9 => h9) rfl (tyX3_ok 3 (by decide)) rfl rfl (Nat.le_of_ble_eq_true rfl) dX3_read_12 (fun H locs hP hD hS => ?_)
  have hP : va_P D vwCl ((w3 cy h0 h1 h3 (sF (sF s0 0 0) 1 (-1))) ++ (w4 cy h1 r1_0 s1) ++ (wB cy h2 b2) ++ (w5 cy h3 a3 s3)) H := hP
  have hD : va_D A ((w3 cy h0 h1 h3 (sF (sF s0 0 0) 1 (-1))) ++ (w4 cy h1 r1_0 s1) ++ (wB cy h2 b2) ++ (w5 cy h3 a3 s3)) := hD
  refine lv_aload_n hx hb dX3_read_15 rfl (lv_at hl 0 rfl) ?_
  refine va_get (ci := 3) (v := .ref h3) (C := RX3) (T := TX3) (N := 6) hx hb hts (fun w h => List.mem_cons_of_mem _ (inX3 w h)) hown hK hP 0 rfl rfl 3 (by decide) hk_15 (fun _ h9 => h9) rfl dX3_read_16 ?_
  obtain ⟨q_19, hc_19, hf⟩ := op_bind hf
  refine g_callVv (As := []) (rest := []) (w2 := (w3 cy h0 h1 h3 (sF (sF s0 0 0) 1 (-1))) ++ (w4 cy h1 r1_0 s1) ++ (wB cy h2 b2) ++ (w5 cy h3 a3 q_19)) ⟨hx, hb, hml, hown, hts⟩ (c_X5_clear l D cy h3 a3 s3 _ fu _ hc_19) (cwV 0 hts (gi_V ml_RX3_31 im_X5_clear se_X5_clear in_RX5 cd_X5_clear) rfl rfl rfl hdX5_clear ⟨Nat.le_of_ble_eq_true rfl, Nat.le_of_ble_eq_true rfl⟩) (va_recv hK hP (ci := 5) (q0 := 3) rfl rfl) rfl hl.1 rfl (Nat.le_of_ble_eq_true rfl) dX3_read_19 hK hP hD hS hA [3, 4, 5, 6, 7, 8, 9, 10, 11] [0, 1, 2] [0, 1, 2, 3, 4, 5, 6, 7, 8, 9, 10, 11] rfl rfl rfl rfl (by decide) rfl rfl (fun H locs hP hD hS => ?_)
  refine lv_aload_n hx hb dX3_read_22 rfl (lv_at hl 0 rfl) ?_
  refine va_get (ci := 3) (v := .ref h1) (C := RX3) (T := TX3) (N := 6) hx hb hts (fun w h => List.mem_cons_of_mem _ (inX3 w h)) hown hK hP 0 rfl rfl 2 (by decide) hk_24 (fun _ h9 => h9) rfl dX3_read_23 ?_
  refine lv_aload_n hx hb dX3_read_26 rfl (lv_at hl 1 rfl) ?_
  refine lv_iload_n hx hb dX3_read_27 rfl (lv_at hl 2 rfl) ?_
  obtain ⟨q_28, hc_28, hf⟩ := op_bind hf
  refine g_callVv (As := [.ref h2, .int p2]) (rest := []) (w2 := (w3 cy h0 h1 h3 (sF (sF s0 0 0) 1 (-1))) ++ (w4 cy h1 h2 q_28) ++ (wB cy h2 b2) ++ (w5 cy h3 a3 q_19)) ⟨hx, hb, hml, hown, hts⟩ (c_X4_open l D cy h1 r1_0 s1 h2 b2 _ fu p2 _ hc_28) (cwV 2 hts (gi_V ml_RX3_36 im_X4_open se_X4_open in_RX4 cd_X4_open) rfl rfl rfl hdX4_open ⟨Nat.le_of_ble_eq_true rfl, Nat.le_of_ble_eq_true rfl⟩) (va_recv hK hP (ci := 4) (q0 := 1) rfl rfl) rfl hl.1 rfl (Nat.le_of_ble_eq_true rfl) dX3_read_28 hK hP hD hS hA [1, 2] [0, 3, 4, 5, 6, 7, 8, 9, 10, 11] [0, 10, 11, 1, 2, 3, 4, 5, 6, 7, 8, 9] rfl rfl rfl rfl (by decide) rfl rfl (fun H locs hP hD hS => ?_)
  refine lv_aload_n hx hb dX3_read_31 rfl (lv_at hl 0 rfl) ?_
  obtain ⟨q_32, hc_32, hf⟩ := op_bind hf
  refine g_callViE (As := []) (rest := []) (w2 := (w3 cy h0 h1 h3 q_32.2.1) ++ (w4 cy h1 h2 q_32.2.2.1) ++ (wB cy h2 b2) ++ (w5 cy h3 a3 q_32.2.2.2)) ⟨hx, hb, hml, hown, hts⟩ (c_X3_readTongues l D cy adK adV h0 (sF (sF s0 0 0) 1 (-1)) h1 q_28 h2 b2 h3 a3 q_19 _ fu _ hc_32) (cwV 0 hts (gi_V ml_RX3_40 im_X3_readTongues se_X3_readTongues in_RX3 cd_X3_readTongues) rfl rfl rfl hdX3_readTongues ⟨Nat.le_of_ble_eq_true rfl, Nat.le_of_ble_eq_true rfl⟩) (va_recv hK hP (ci := 3) (q0 := 0) rfl rfl) rfl hl.1 rfl (Nat.le_of_ble_eq_true rfl) dX3_read_32 hE hK hP hD hS hA [0, 1, 2, 3, 4, 5, 6, 7, 8, 9, 10, 11] [] [0, 1, 2, 3, 4, 5, 6, 7, 8, 9, 10, 11] rfl rfl rfl rfl (by decide) rfl rfl (fun H locs hP hD hS => ?_)
  refine lv_if_eq (tgt := 58) hx hb dX3_read_35 (by decide) (fun c_35 => ?_) (fun c_35 => ?_)
  · have hf := op_pos c_35 hf
    refine lv_iconst (v := 0) hx hb dX3_read_58 (by decide) ?_
    rw [← Option.some.inj hf]
    exact g_zret hx hb hr hlk (show isB 0 = true by decide) hK hP hD hS dX3_read_59
  · have hf := op_neg c_35 hf
    refine lv_aload_n hx hb dX3_read_38 rfl (lv_at hl 0 rfl) ?_
    refine lv_iload_n hx hb dX3_read_39 rfl (lv_at hl 2 rfl) ?_
    obtain ⟨q_40, hc_40, hf⟩ := op_bind hf
    refine g_callViE (As := [.int p2]) (rest := []) (w2 := (w3 cy h0 h1 h3 q_40.2.1) ++ (w4 cy h1 h2 q_40.2.2.1) ++ (wB cy h2 b2) ++ (w5 cy h3 a3 q_40.2.2.2)) ⟨hx, hb, hml, hown, hts⟩ (c_X3_readSettings l D cy adK adV h0 q_32.2.1 h1 q_32.2.2.1 h2 b2 h3 a3 q_32.2.2.2 _ fu p2 _ hc_40) (cwV 1 hts (gi_V ml_RX3_44 im_X3_readSettings se_X3_readSettings in_RX3 cd_X3_readSettings) rfl rfl rfl hdX3_readSettings ⟨Nat.le_of_ble_eq_true rfl, Nat.le_of_ble_eq_true rfl⟩) (va_recv hK hP (ci := 3) (q0 := 0) rfl rfl) rfl hl.1 rfl (Nat.le_of_ble_eq_true rfl) dX3_read_40 hE hK hP hD hS hA [0, 1, 2, 3, 4, 5, 6, 7, 8, 9, 10, 11] [] [0, 1, 2, 3, 4, 5, 6, 7, 8, 9, 10, 11] rfl rfl rfl rfl (by decide) rfl rfl (fun H locs hP hD hS => ?_)
    refine lv_if_eq (tgt := 58) hx hb dX3_read_43 (by decide) (fun c_43 => ?_) (fun c_43 => ?_)
    · have hf := op_pos c_43 hf
      refine lv_iconst (v := 0) hx hb dX3_read_58 (by decide) ?_
      rw [← Option.some.inj hf]
      exact g_zret hx hb hr hlk (show isB 0 = true by decide) hK hP hD hS dX3_read_59
    · have hf := op_neg c_43 hf
      refine lv_aload_n hx hb dX3_read_46 rfl (lv_at hl 0 rfl) ?_
      refine lv_iload_n hx hb dX3_read_47 rfl (lv_at hl 2 rfl) ?_
      obtain ⟨q_48, hc_48, hf⟩ := op_bind hf
      refine g_callViE (As := [.int p2]) (rest := []) (w2 := (w3 cy h0 h1 h3 q_48.2.1) ++ (w4 cy h1 h2 q_48.2.2.1) ++ (wB cy h2 b2) ++ (w5 cy h3 a3 q_48.2.2.2)) ⟨hx, hb, hml, hown, hts⟩ (c_X3_readItems l D cy adK adV h0 q_40.2.1 h1 q_40.2.2.1 h2 b2 h3 a3 q_40.2.2.2 _ fu p2 _ hc_48) (cwV 1 hts (gi_V ml_RX3_48 im_X3_readItems se_X3_readItems in_RX3 cd_X3_readItems) rfl rfl rfl hdX3_readItems ⟨Nat.le_of_ble_eq_true rfl, Nat.le_of_ble_eq_true rfl⟩) (va_recv hK hP (ci := 3) (q0 := 0) rfl rfl) rfl hl.1 rfl (Nat.le_of_ble_eq_true rfl) dX3_read_48 hE hK hP hD hS hA [0, 1, 2, 3, 4, 5, 6, 7, 8, 9, 10, 11] [] [0, 1, 2, 3, 4, 5, 6, 7, 8, 9, 10, 11] rfl rfl rfl rfl (by decide) rfl rfl (fun H locs hP hD hS => ?_)
      refine lv_if_eq (tgt := 58) hx hb dX3_read_51 (by decide) (fun c_51 => ?_) (fun c_51 => ?_)
      · have hf := op_pos c_51 hf
        refine lv_iconst (v := 0) hx hb dX3_read_58 (by decide) ?_
        rw [← Option.some.inj hf]
        exact g_zret hx hb hr hlk (show isB 0 = true by decide) hK hP hD hS dX3_read_59
      · have hf := op_neg c_51 hf
        refine lv_iconst (v := 1) hx hb dX3_read_54 (by decide) ?_
        refine lv_goto (tgt := 59) hx hb dX3_read_55 (by decide) ?_
        rw [← Option.some.inj hf]
        exact g_zret hx hb hr hlk (show isB 1 = true by decide) hK hP hD hS dX3_read_59
