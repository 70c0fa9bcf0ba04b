def f_X10_lay_L171 (k_106 : St → Int32 → Int32 → Option (Int32 × St)) (k_121 : St → Int32 → Int32 → Int32 → Option (Int32 × St)) (fu : Nat)  (u0 : St) (x2 : Int32) (x5 : Int32) (x6 : Int32) (t0 : Int32) (t1 : Int32) : Option (Int32 × St) := if inb t1 1778 = true then (k_121 (sA u0 30 t1.toNatClampNeg t0) x2 x5 (x6 + (-1))) else none
set_option maxHeartbeats 4000000 in
set_option maxRecDepth 100000 in
theorem b_X10_lay_L171 {p : Program} {e : Env} {s : State} {m : MethodId} {args : Array Value} {below : List Frame} {meth : Method} {c : Code} {A : Nat → Prop} (l : Launch) (D : va_G) (cy : Nat → ClassId) (h0 : Nat) (a0 : Nat → Nat) (fu : Nat) (out : Int32 × St) (C : gC p s m args meth c (WS yX10_lay cX10_lay 10 (some .boolean)) cX10_lay 10 (some .boolean) RX10) (hA : ∀ q : Nat, s.heap.size ≤ q → A q) (hK : va_K D vwCl (TY cy) s) (k_106 : St → Int32 → Int32 → Option (Int32 × St)) (hk_106 : ∀ (u0 : St) (x2 : Int32) (x5 : Int32), k_106 u0 x2 x5 = some out → ∀ (H : Heap) (locs : List Loc) (ls : Array Slot), va_P D vwCl (w10 cy h0 a0 u0) H → va_D A (w10 cy h0 a0 u0) → va_S A s.heap H locs → lv_has ls 10 [(0, .ref h0), (2, .int x2), (5, .int x5)] → W p l e ({ frames := 3, cells := 0, slots := 0, locals := 75 } : Room) s m args below meth c H locs 0 0 (MQ below (gQi D cy A out.1 (w10 cy h0 a0 out.2)) args s 0 0 A) (F0 m 106 ls [])) (k_121 : St → Int32 → Int32 → Int32 → Option (Int32 × St)) (hk_121 : ∀ (u0 : St) (x2 : Int32) (x5 : Int32) (x6 : Int32), k_121 u0 x2 x5 x6 = some out → ∀ (H : Heap) (locs : List Loc) (ls : Array Slot), va_P D vwCl (w10 cy h0 a0 u0) H → va_D A (w10 cy h0 a0 u0) → va_S A s.heap H locs → lv_has ls 10 [(0, .ref h0), (2, .int x2), (5, .int x5), (6, .int x6)] → W p l e ({ frames := 3, cells := 0, slots := 0, locals := 75 } : Room) s m args below meth c H locs 0 0 (MQ below (gQi D cy A out.1 (w10 cy h0 a0 out.2)) args s 0 0 A) (F0 m 121 ls [])) :
    ∀ (u0 : St) (x2 : Int32) (x5 : Int32) (x6 : Int32) (t0 : Int32) (t1 : Int32), f_X10_lay_L171 k_106 k_121 fu u0 x2 x5 x6 t0 t1 = some out → ∀ (H : Heap) (locs : List Loc) (ls : Array Slot), va_P D vwCl (w10 cy h0 a0 u0) H → va_D A (w10 cy h0 a0 u0) → va_S A s.heap H locs → lv_has ls 10 [(0, .ref h0), (2, .int x2), (5, .int x5), (6, .int x6)] → W p l e ({ frames := 3, cells := 0, slots := 0, locals := 75 } : Room) s m args below meth c H locs 0 0 (MQ below (gQi D cy A out.1 (w10 cy h0 a0 out.2)) args s 0 0 A) (F0 m 171 ls [.int t0, .int t1, .ref (a0 30)]) := by
  obtain ⟨hx, hb, hr, hml, hown, hts, hlk⟩ := id C
  have hown : s.vm.findClass RX10 = some m.cls := hown
  intro u0 x2 x5 x6 t0 t1 hf H locs ls hP hD hS hl
  unfold f_X10_lay_L171 at hf
  obtain ⟨hg_171, hf⟩ := op_if hf
  refine va_iast (f := u0.2 30) (x := t0) hx hb hK hP hD hS 19 0 rfl rfl (inb_in hg_171) dX10_lay_171 (fun H locs hP hD hS => ?_)
  have hP : va_P D vwCl (w10 cy h0 a0 (sA u0 30 t1.toNatClampNeg t0)) H := pP10_30 hP
  have hD : va_D A (w10 cy h0 a0 (sA u0 30 t1.toNatClampNeg t0)) := pD10_30 hD
  refine lv_iinc (v := x6 + (-1)) (lv' := [(6, .int (x6 + (-1))), (0, .ref h0), (2, .int x2), (5, .int x5)]) hx hb dX10_lay_172 hl (k := 3) rfl rfl (by decide) rfl (fun ls hl => ?_)
  refine lv_goto (tgt := 121) hx hb dX10_lay_175 (by decide) ?_
  exact hk_121 (sA u0 30 t1.toNatClampNeg t0) x2 x5 (x6 + (-1)) hf _ _ ls hP hD hS (lv_sub hl [1, 2, 3, 0] rfl)
def f_X10_lay_L121 (k_106 : St → Int32 → Int32 → Option (Int32 × St)) (fu : Nat)  : Nat → St → Int32 → Int32 → Int32 → Option (Int32 × St)
  | 0, _, _, _, _ => none
  | n_121 + 1, u0, x2, x5, x6 => if x6 < 0 then (k_106 u0 x2 (x5 + 1)) else (if x5 = 0 then (if x6 = (u0.1 29) then (f_X10_lay_L171 k_106 (f_X10_lay_L121 k_106 fu n_121) fu u0 x2 x5 x6 0 ((254 * x5) + x6)) else (f_X10_lay_L171 k_106 (f_X10_lay_L121 k_106 fu n_121) fu u0 x2 x5 x6 1000000 ((254 * x5) + x6))) else ((f_X10_best fu u0 x5 x6 x2).bind (fun q_168 => f_X10_lay_L171 k_106 (f_X10_lay_L121 k_106 fu n_121) fu u0 x2 x5 x6 q_168 ((254 * x5) + x6))))
set_option maxHeartbeats 4000000 in
set_option maxRecDepth 100000 in
theorem b_X10_lay_L121 {p : Program} {e : Env} {s : State} {m : MethodId} {args : Array Value} {below : List Frame} {meth : Method} {c : Code} {A : Nat → Prop} (l : Launch) (D : va_G) (cy : Nat → ClassId) (h0 : Nat) (a0 : Nat → Nat) (fu : Nat) (out : Int32 × St) (C : gC p s m args meth c (WS yX10_lay cX10_lay 10 (some .boolean)) cX10_lay 10 (some .boolean) RX10) (hA : ∀ q : Nat, s.heap.size ≤ q → A q) (hK : va_K D vwCl (TY cy) s) (k_106 : St → Int32 → Int32 → Option (Int32 × St)) (hk_106 : ∀ (u0 : St) (x2 : Int32) (x5 : Int32), k_106 u0 x2 x5 = some out → ∀ (H : Heap) (locs : List Loc) (ls : Array Slot), va_P D vwCl (w10 cy h0 a0 u0) H → va_D A (w10 cy h0 a0 u0) → va_S A s.heap H locs → lv_has ls 10 [(0, .ref h0), (2, .int x2), (5, .int x5)] → W p l e ({ frames := 3, cells := 0, slots := 0, locals := 75 } : Room) s m args below meth c H locs 0 0 (MQ below (gQi D cy A out.1 (w10 cy h0 a0 out.2)) args s 0 0 A) (F0 m 106 ls [])) :
    ∀ (n_121 : Nat), ∀ (u0 : St) (x2 : Int32) (x5 : Int32) (x6 : Int32), f_X10_lay_L121 k_106 fu n_121 u0 x2 x5 x6 = some out → ∀ (H : Heap) (locs : List Loc) (ls : Array Slot), va_P D vwCl (w10 cy h0 a0 u0) H → va_D A (w10 cy h0 a0 u0) → va_S A s.heap H locs → lv_has ls 10 [(0, .ref h0), (2, .int x2), (5, .int x5), (6, .int x6)] → W p l e ({ frames := 3, cells := 0, slots := 0, locals := 75 } : Room) s m args below meth c H locs 0 0 (MQ below (gQi D cy A out.1 (w10 cy h0 a0 out.2)) args s 0 0 A) (F0 m 121 ls []) := by
  obtain ⟨hx, hb, hr, hml, hown, hts, hlk⟩ := id C
  have hown : s.vm.findClass RX10 = some m.cls := hown
  have hk_77 := hts _ (List.mem_cons_of_mem _ fl_RX10_77)
  have hk_119 := hts _ (List.mem_cons_of_mem _ fl_RX10_119)
  have hcn_136 := hts _ (List.mem_cons_of_mem _ cn_RX10_136)
  intro n_121
  induction n_121 with
  | zero => intro u0 x2 x5 x6 hf; exact op_no hf
  | succ n_121 ih_121 =>
    intro u0 x2 x5 x6 hf H locs ls hP hD hS hl
    rw [f_X10_lay_L121] at hf
    refine lv_iload hx hb dX10_lay_121 (lv_at hl 3 rfl) ?_
    refine lv_if_lt (tgt := 178) hx hb dX10_lay_123 (by decide) (fun c_123 => ?_) (fun c_123 => ?_)
    · have hf := op_pos c_123 hf
      refine lv_iinc (v := x5 + 1) (lv' := [(5, .int (x5 + 1)), (0, .ref h0), (2, .int x2), (6, .int x6)]) hx hb dX10_lay_178 hl (k := 2) rfl rfl (by decide) rfl (fun ls hl => ?_)
      refine lv_goto (tgt := 106) hx hb dX10_lay_181 (by decide) ?_
      exact hk_106 u0 x2 (x5 + 1) hf _ _ ls hP hD hS (lv_sub hl [1, 2, 0] rfl)
    · have hf := op_neg c_123 hf
      refine lv_aload_n hx hb dX10_lay_126 rfl (lv_at hl 0 rfl) ?_
      refine va_get (ci := 9) (v := .ref (a0 30)) (C := RX10) (T := TX10) (N := 56) hx hb hts (fun w h => List.mem_cons_of_mem _ (inX10 w h)) hown hK hP 0 rfl rfl 30 (by decide) hk_77 (fun _ h9 => h9) rfl dX10_lay_127 ?_
      refine lv_sipush (v := 254) hx hb dX10_lay_130 (by decide) ?_
      refine lv_iload hx hb dX10_lay_133 (lv_at hl 2 rfl) ?_
      refine lv_imul hx hb dX10_lay_135 ?_
      refine lv_iload hx hb dX10_lay_136 (lv_at hl 3 rfl) ?_
      refine lv_iadd hx hb dX10_lay_138 ?_
      refine lv_iload hx hb dX10_lay_139 (lv_at hl 2 rfl) ?_
      refine lv_if_ne (tgt := 162) hx hb dX10_lay_141 (by decide) (fun c_141 => ?_) (fun c_141 => ?_)
      · have hf := op_neg c_141 hf
        refine lv_aload_n hx hb dX10_lay_162 rfl (lv_at hl 0 rfl) ?_
        refine lv_iload hx hb dX10_lay_163 (lv_at hl 2 rfl) ?_
        refine lv_iload hx hb dX10_lay_165 (lv_at hl 3 rfl) ?_
        refine lv_iload_n hx hb dX10_lay_167 rfl (lv_at hl 1 rfl) ?_
        obtain ⟨q_168, hc_168, hf⟩ := op_bind hf
        refine g_callVi (As := [.int x5, .int x6, .int x2]) (rest := [.int ((254 * x5) + x6), .ref (a0 30)]) (w2 := w10 cy h0 a0 u0) ⟨hx, hb, hml, hown, hts⟩ (c_X10_best l D cy h0 a0 u0 _ fu x5 x6 x2 _ hc_168) (cwV 3 hts (gi_V ml_RX10_137 im_X10_best se_X10_best in_RX10 cd_X10_best) rfl rfl rfl hdX10_best ⟨Nat.le_of_ble_eq_true rfl, Nat.le_of_ble_eq_true rfl⟩) (va_recv hK hP (ci := 9) (q0 := 0) rfl rfl) rfl hl.1 rfl (Nat.le_of_ble_eq_true rfl) dX10_lay_168 hK hP hD hS hA [0, 1, 2, 3, 4, 5, 6, 7, 8, 9, 10, 11, 12, 13, 14, 15, 16, 17, 18, 19, 20, 21, 22, 23, 24, 25, 26, 27, 28, 29] [] [0, 1, 2, 3, 4, 5, 6, 7, 8, 9, 10, 11, 12, 13, 14, 15, 16, 17, 18, 19, 20, 21, 22, 23, 24, 25, 26, 27, 28, 29] rfl rfl rfl rfl (by decide) rfl rfl (fun H locs hP hD hS => ?_)
        exact b_X10_lay_L171 l D cy h0 a0 fu out C hA hK k_106 hk_106 (f_X10_lay_L121 k_106 fu n_121) ih_121 u0 x2 x5 x6 q_168 ((254 * x5) + x6) hf _ _ ls hP hD hS (lv_sub hl [0, 1, 2, 3] rfl)
      · have hf := op_pos c_141 hf
        refine lv_iload hx hb dX10_lay_144 (lv_at hl 3 rfl) ?_
        refine lv_aload_n hx hb dX10_lay_146 rfl (lv_at hl 0 rfl) ?_
        refine va_get (ci := 9) (v := .int (u0.1 29)) (C := RX10) (T := TX10) (N := 56) hx hb hts (fun w h => List.mem_cons_of_mem _ (inX10 w h)) hown hK hP 0 rfl rfl 29 (by decide) hk_119 (fun _ h9 => h9) rfl dX10_lay_147 ?_
        refine lv_icmp_ne (tgt := 157) hx hb dX10_lay_150 (by decide) (fun c_150 => ?_) (fun c_150 => ?_)
        · have hf := op_neg c_150 hf
          refine lv_ldc (v := 1000000) hx hb hown hcn_136 dX10_lay_157 ?_
          refine lv_goto (tgt := 171) hx hb dX10_lay_159 (by decide) ?_
          exact b_X10_lay_L171 l D cy h0 a0 fu out C hA hK k_106 hk_106 (f_X10_lay_L121 k_106 fu n_121) ih_121 u0 x2 x5 x6 1000000 ((254 * x5) + x6) hf _ _ ls hP hD hS (lv_sub hl [0, 1, 2, 3] rfl)
        · have hf := op_pos c_150 hf
          refine lv_iconst (v := 0) hx hb dX10_lay_153 (by decide) ?_
          refine lv_goto (tgt := 171) hx hb dX10_lay_154 (by decide) ?_
          exact b_X10_lay_L171 l D cy h0 a0 fu out C hA hK k_106 hk_106 (f_X10_lay_L121 k_106 fu n_121) ih_121 u0 x2 x5 x6 0 ((254 * x5) + x6) hf _ _ ls hP hD hS (lv_sub hl [0, 1, 2, 3] rfl)
def f_X10_lay_L276 (k_210 : St → Int32 → Int32 → Int32 → Option (Int32 × St)) (k_238 : St → Int32 → Int32 → Int32 → Int32 → Int32 → Int32 → Option (Int32 × St)) (fu : Nat)  : Nat → St → Int32 → Int32 → Int32 → Int32 → Int32 → Int32 → Int32 → Option (Int32 × St)
  | 0, _, _, _, _, _, _, _, _ => none
  | n_276 + 1, u0, x2, x4, x5, x6, x7, x8, x9 => if x9 < 0 then (k_238 u0 x2 x4 x5 x6 x7 (x8 + (-1))) else (if x7 = 0 then (if inb (((((254 * x5) - 254) + x4) + x8) + x9) 1778 = true then ((f_X10_paid fu u0 x4 x8 x2).bind (fun q_316 => (f_X10_paid fu u0 (x4 + x8) x9 x2).bind (fun q_329 => if inb ((254 * x5) + x4) 1778 = true then (if (((u0.2 30 (((((254 * x5) - 254) + x4) + x8) + x9).toNatClampNeg) + q_316) + q_329) = (u0.2 30 ((254 * x5) + x4).toNatClampNeg) then (if inb x6 12 = true then (if inb (x6 + 1) 12 = true then (f_X10_lay_L276 k_210 k_238 fu n_276 (sA (sA u0 31 x6.toNatClampNeg x8) 31 ((x6 + 1).toNatClampNeg) x9) x2 x4 x5 x6 1 x8 (x9 + (-1))) else none) else none) else (f_X10_lay_L276 k_210 k_238 fu n_276 u0 x2 x4 x5 x6 x7 x8 (x9 + (-1)))) else none))) else none) else (k_238 u0 x2 x4 x5 x6 x7 (x8 + (-1))))
set_option maxHeartbeats 4000000 in
set_option maxRecDepth 100000 in
theorem b_X10_lay_L276 {p : Program} {e : Env} {s : State} {m : MethodId} {args : Array Value} {below : List Frame} {meth : Method} {c : Code} {A : Nat → Prop} (l : Launch) (D : va_G) (cy : Nat → ClassId) (h0 : Nat) (a0 : Nat → Nat) (fu : Nat) (out : Int32 × St) (C : gC p s m args meth c (WS yX10_lay cX10_lay 10 (some .boolean)) cX10_lay 10 (some .boolean) RX10) (hA : ∀ q : Nat, s.heap.size ≤ q → A q) (hK : va_K D vwCl (TY cy) s) (k_210 : St → Int32 → Int32 → Int32 → Option (Int32 × St)) (hk_210 : ∀ (u0 : St) (x2 : Int32) (x4 : Int32) (x5 : Int32), k_210 u0 x2 x4 x5 = some out → ∀ (H : Heap) (locs : List Loc) (ls : Array Slot), va_P D vwCl (w10 cy h0 a0 u0) H → va_D A (w10 cy h0 a0 u0) → va_S A s.heap H locs → lv_has ls 10 [(0, .ref h0), (2, .int x2), (4, .int x4), (5, .int x5)] → W p l e ({ frames := 3, cells := 0, slots := 0, locals := 75 } : Room) s m args below meth c H locs 0 0 (MQ below (gQi D cy A out.1 (w10 cy h0 a0 out.2)) args s 0 0 A) (F0 m 210 ls [])) (k_238 : St → Int32 → Int32 → Int32 → Int32 → Int32 → Int32 → Option (Int32 × St)) (hk_238 : ∀ (u0 : St) (x2 : Int32) (x4 : Int32) (x5 : Int32) (x6 : Int32) (x7 : Int32) (x8 : Int32), k_238 u0 x2 x4 x5 x6 x7 x8 = some out → ∀ (H : Heap) (locs : List Loc) (ls : Array Slot), va_P D vwCl (w10 cy h0 a0 u0) H → va_D A (w10 cy h0 a0 u0) → va_S A s.heap H locs → lv_has ls 10 [(0, .ref h0), (2, .int x2), (4, .int x4), (5, .int x5), (6, .int x6), (7, .int x7), (8, .int x8)] → W p l e ({ frames := 3, cells := 0, slots := 0, locals := 75 } : Room) s m args below meth c H locs 0 0 (MQ below (gQi D cy A out.1 (w10 cy h0 a0 out.2)) args s 0 0 A) (F0 m 238 ls [])) :
    ∀ (n_276 : Nat), ∀ (u0 : St) (x2 : Int32) (x4 : Int32) (x5 : Int32) (x6 : Int32) (x7 : Int32) (x8 : Int32) (x9 : Int32), f_X10_lay_L276 k_210 k_238 fu n_276 u0 x2 x4 x5 x6 x7 x8 x9 = some out → ∀ (H : Heap) (locs : List Loc) (ls : Array Slot), va_P D vwCl (w10 cy h0 a0 u0) H → va_D A (w10 cy h0 a0 u0) → va_S A s.heap H locs → lv_has ls 10 [(0, .ref h0), (2, .int x2), (4, .int x4), (5, .int x5), (6, .int x6), (7, .int x7), (8, .int x8), (9, .int x9)] → W p l e ({ frames := 3, cells := 0, slots := 0, locals := 75 } : Room) s m args below meth c H locs 0 0 (MQ below (gQi D cy A out.1 (w10 cy h0 a0 out.2)) args s 0 0 A) (F0 m 276 ls []) := by
  obtain ⟨hx, hb, hr, hml, hown, hts, hlk⟩ := id C
  have hown : s.vm.findClass RX10 = some m.cls := hown
  have hk_77 := hts _ (List.mem_cons_of_mem _ fl_RX10_77)
  have hk_80 := hts _ (List.mem_cons_of_mem _ fl_RX10_80)
  intro n_276
  induction n_276 with
  | zero => intro u0 x2 x4 x5 x6 x7 x8 x9 hf; exact op_no hf
  | succ n_276 ih_276 =>
    intro u0 x2 x4 x5 x6 x7 x8 x9 hf H locs ls hP hD hS hl
    rw [f_X10_lay_L276] at hf
    refine lv_iload hx hb dX10_lay_276 (lv_at hl 7 rfl) ?_
    refine lv_if_lt (tgt := 382) hx hb dX10_lay_278 (by decide) (fun c_278 => ?_) (fun c_278 => ?_)
    · have hf := op_pos c_278 hf
      refine lv_iinc (v := x8 + (-1)) (lv' := [(8, .int (x8 + (-1))), (0, .ref h0), (2, .int x2), (4, .int x4), (5, .int x5), (6, .int x6), (7, .int x7), (9, .int x9)]) hx hb dX10_lay_382 hl (k := 6) rfl rfl (by decide) rfl (fun ls hl => ?_)
      refine lv_goto (tgt := 238) hx hb dX10_lay_385 (by decide) ?_
      exact hk_238 u0 x2 x4 x5 x6 x7 (x8 + (-1)) hf _ _ ls hP hD hS (lv_sub hl [1, 2, 3, 4, 5, 6, 0] rfl)
    · have hf := op_neg c_278 hf
      refine lv_iload hx hb dX10_lay_281 (lv_at hl 5 rfl) ?_
      refine lv_if_ne (tgt := 382) hx hb dX10_lay_283 (by decide) (fun c_283 => ?_) (fun c_283 => ?_)
      · have hf := op_neg c_283 hf
        refine lv_iinc (v := x8 + (-1)) (lv' := [(8, .int (x8 + (-1))), (0, .ref h0), (2, .int x2), (4, .int x4), (5, .int x5), (6, .int x6), (7, .int x7), (9, .int x9)]) hx hb dX10_lay_382 hl (k := 6) rfl rfl (by decide) rfl (fun ls hl => ?_)
        refine lv_goto (tgt := 238) hx hb dX10_lay_385 (by decide) ?_
        exact hk_238 u0 x2 x4 x5 x6 x7 (x8 + (-1)) hf _ _ ls hP hD hS (lv_sub hl [1, 2, 3, 4, 5, 6, 0] rfl)
      · have hf := op_pos c_283 hf
        refine lv_aload_n hx hb dX10_lay_286 rfl (lv_at hl 0 rfl) ?_
        refine va_get (ci := 9) (v := .ref (a0 30)) (C := RX10) (T := TX10) (N := 56) hx hb hts (fun w h => List.mem_cons_of_mem _ (inX10 w h)) hown hK hP 0 rfl rfl 30 (by decide) hk_77 (fun _ h9 => h9) rfl dX10_lay_287 ?_
        refine lv_sipush (v := 254) hx hb dX10_lay_290 (by decide) ?_
        refine lv_iload hx hb dX10_lay_293 (lv_at hl 3 rfl) ?_
        refine lv_imul hx hb dX10_lay_295 ?_
        refine lv_sipush (v := 254) hx hb dX10_lay_296 (by decide) ?_
        refine lv_isub hx hb dX10_lay_299 ?_
        refine lv_iload hx hb dX10_lay_300 (lv_at hl 2 rfl) ?_
        refine lv_iadd hx hb dX10_lay_302 ?_
        refine lv_iload hx hb dX10_lay_303 (lv_at hl 6 rfl) ?_
        refine lv_iadd hx hb dX10_lay_305 ?_
        refine lv_iload hx hb dX10_lay_306 (lv_at hl 7 rfl) ?_
        refine lv_iadd hx hb dX10_lay_308 ?_
        obtain ⟨hg_309, hf⟩ := op_if hf
        refine va_iald (f := u0.2 30) hx hb hK hP 19 0 rfl rfl (inb_in hg_309) dX10_lay_309 ?_
        refine lv_aload_n hx hb dX10_lay_310 rfl (lv_at hl 0 rfl) ?_
        refine lv_iload hx hb dX10_lay_311 (lv_at hl 2 rfl) ?_
        refine lv_iload hx hb dX10_lay_313 (lv_at hl 6 rfl) ?_
        refine lv_iload_n hx hb dX10_lay_315 rfl (lv_at hl 1 rfl) ?_
        obtain ⟨q_316, hc_316, hf⟩ := op_bind hf
        refine g_callVi (As := [.int x4, .int x8, .int x2]) (rest := [.int (u0.2 30 (((((254 * x5) - 254) + x4) + x8) + x9).toNatClampNeg)]) (w2 := w10 cy h0 a0 u0) ⟨hx, hb, hml, hown, hts⟩ (c_X10_paid l D cy h0 a0 u0 _ fu x4 x8 x2 _ hc_316) (cwV 3 hts (gi_V ml_RX10_144 im_X10_paid se_X10_paid in_RX10 cd_X10_paid) rfl rfl rfl hdX10_paid ⟨Nat.le_of_ble_eq_true rfl, Nat.le_of_ble_eq_true rfl⟩) (va_recv hK hP (ci := 9) (q0 := 0) rfl rfl) rfl hl.1 rfl (Nat.le_of_ble_eq_true rfl) dX10_lay_316 hK hP hD hS hA [0, 1, 2, 3, 4, 5, 6, 7, 8, 9, 10, 11, 12, 13, 14, 15, 16, 17, 18, 19, 20, 21, 22, 23, 24, 25, 26, 27, 28, 29] [] [0, 1, 2, 3, 4, 5, 6, 7, 8, 9, 10, 11, 12, 13, 14, 15, 16, 17, 18, 19, 20, 21, 22, 23, 24, 25, 26, 27, 28, 29] rfl rfl rfl rfl (by decide) rfl rfl (fun H locs hP hD hS => ?_)
        refine lv_iadd hx hb dX10_lay_319 ?_
        refine lv_aload_n hx hb dX10_lay_320 rfl (lv_at hl 0 rfl) ?_
        refine lv_iload hx hb dX10_lay_321 (lv_at hl 2 rfl) ?_
        refine lv_iload hx hb dX10_lay_323 (lv_at hl 6 rfl) ?_
        refine lv_iadd hx hb dX10_lay_325 ?_
        refine lv_iload hx hb dX10_lay_326 (lv_at hl 7 rfl) ?_
        refine lv_iload_n hx hb dX10_lay_328 rfl (lv_at hl 1 rfl) ?_
        obtain ⟨q_329, hc_329, hf⟩ := op_bind hf
        refine g_callVi (As := [.int (x4 + x8), .int x9, .int x2]) (rest := [.int ((u0.2 30 (((((254 * x5) - 254) + x4) + x8) + x9).toNatClampNeg) + q_316)]) (w2 := w10 cy h0 a0 u0) ⟨hx, hb, hml, hown, hts⟩ (c_X10_paid l D cy h0 a0 u0 _ fu (x4 + x8) x9 x2 _ hc_329) (cwV 3 hts (gi_V ml_RX10_144 im_X10_paid se_X10_paid in_RX10 cd_X10_paid) rfl rfl rfl hdX10_paid ⟨Nat.le_of_ble_eq_true rfl, Nat.le_of_ble_eq_true rfl⟩) (va_recv hK hP (ci := 9) (q0 := 0) rfl rfl) rfl hl.1 rfl (Nat.le_of_ble_eq_true rfl) dX10_lay_329 hK hP hD hS hA [0, 1, 2, 3, 4, 5, 6, 7, 8, 9, 10, 11, 12, 13, 14, 15, 16, 17, 18, 19, 20, 21, 22, 23, 24, 25, 26, 27, 28, 29] [] [0, 1, 2, 3, 4, 5, 6, 7, 8, 9, 10, 11, 12, 13, 14, 15, 16, 17, 18, 19, 20, 21, 22, 23, 24, 25, 26, 27, 28, 29] rfl rfl rfl rfl (by decide) rfl rfl (fun H locs hP hD hS => ?_)
        refine lv_iadd hx hb dX10_lay_332 ?_
        refine lv_aload_n hx hb dX10_lay_333 rfl (lv_at hl 0 rfl) ?_
        refine va_get (ci := 9) (v := .ref (a0 30)) (C := RX10) (T := TX10) (N := 56) hx hb hts (fun w h => List.mem_cons_of_mem _ (inX10 w h)) hown hK hP 0 rfl rfl 30 (by decide) hk_77 (fun _ h9 => h9) rfl dX10_lay_334 ?_
        refine lv_sipush (v := 254) hx hb dX10_lay_337 (by decide) ?_
        refine lv_iload hx hb dX10_lay_340 (lv_at hl 3 rfl) ?_
        refine lv_imul hx hb dX10_lay_342 ?_
        refine lv_iload hx hb dX10_lay_343 (lv_at hl 2 rfl) ?_
        refine lv_iadd hx hb dX10_lay_345 ?_
        obtain ⟨hg_346, hf⟩ := op_if hf
        refine va_iald (f := u0.2 30) hx hb hK hP 19 0 rfl rfl (inb_in hg_346) dX10_lay_346 ?_
        refine lv_icmp_eq (tgt := 353) hx hb dX10_lay_347 (by decide) (fun c_347 => ?_) (fun c_347 => ?_)
        · have hf := op_pos c_347 hf
          refine lv_iconst (v := 1) hx hb dX10_lay_353 (by decide) ?_
          refine lv_istore (lv' := [(7, .int 1), (0, .ref h0), (2, .int x2), (4, .int x4), (5, .int x5), (6, .int x6), (8, .int x8), (9, .int x9)]) hx hb dX10_lay_354 hl (by decide) rfl (fun ls hl => ?_)
          refine lv_aload_n hx hb dX10_lay_356 rfl (lv_at hl 1 rfl) ?_
          refine va_get (ci := 9) (v := .ref (a0 31)) (C := RX10) (T := TX10) (N := 56) hx hb hts (fun w h => List.mem_cons_of_mem _ (inX10 w h)) hown hK hP 0 rfl rfl 31 (by decide) hk_80 (fun _ h9 => h9) rfl dX10_lay_357 ?_
          refine lv_iload hx hb dX10_lay_360 (lv_at hl 5 rfl) ?_
          refine lv_iload hx hb dX10_lay_362 (lv_at hl 6 rfl) ?_
          obtain ⟨hg_364, hf⟩ := op_if hf
          refine va_iast (f := u0.2 31) (x := x8) hx hb hK hP hD hS 20 0 rfl rfl (inb_in hg_364) dX10_lay_364 (fun H locs hP hD hS => ?_)
          have hP : va_P D vwCl (w10 cy h0 a0 (sA u0 31 x6.toNatClampNeg x8)) H := pP10_31 hP
          have hD : va_D A (w10 cy h0 a0 (sA u0 31 x6.toNatClampNeg x8)) := pD10_31 hD
          refine lv_aload_n hx hb dX10_lay_365 rfl (lv_at hl 1 rfl) ?_
          refine va_get (ci := 9) (v := .ref (a0 31)) (C := RX10) (T := TX10) (N := 56) hx hb hts (fun w h => List.mem_cons_of_mem _ (inX10 w h)) hown hK hP 0 rfl rfl 31 (by decide) hk_80 (fun _ h9 => h9) rfl dX10_lay_366 ?_
          refine lv_iload hx hb dX10_lay_369 (lv_at hl 5 rfl) ?_
          refine lv_iconst (v := 1) hx hb dX10_lay_371 (by decide) ?_
          refine lv_iadd hx hb dX10_lay_372 ?_
          refine lv_iload hx hb dX10_lay_373 (lv_at hl 7 rfl) ?_
          obtain ⟨hg_375, hf⟩ := op_if hf
          refine va_iast (f := (sA u0 31 x6.toNatClampNeg x8).2 31) (x := x9) hx hb hK hP hD hS 20 0 rfl rfl (inb_in hg_375) dX10_lay_375 (fun H locs hP hD hS => ?_)
          have hP : va_P D vwCl (w10 cy h0 a0 (sA (sA u0 31 x6.toNatClampNeg x8) 31 ((x6 + 1).toNatClampNeg) x9)) H := pP10_31 hP
          have hD : va_D A (w10 cy h0 a0 (sA (sA u0 31 x6.toNatClampNeg x8) 31 ((x6 + 1).toNatClampNeg) x9)) := pD10_31 hD
          refine lv_iinc (v := x9 + (-1)) (lv' := [(9, .int (x9 + (-1))), (7, .int 1), (0, .ref h0), (2, .int x2), (4, .int x4), (5, .int x5), (6, .int x6), (8, .int x8)]) hx hb dX10_lay_376 hl (k := 7) rfl rfl (by decide) rfl (fun ls hl => ?_)
          refine lv_goto (tgt := 276) hx hb dX10_lay_379 (by decide) ?_
          exact ih_276 (sA (sA u0 31 x6.toNatClampNeg x8) 31 ((x6 + 1).toNatClampNeg) x9) x2 x4 x5 x6 1 x8 (x9 + (-1)) hf _ _ ls hP hD hS (lv_sub hl [2, 3, 4, 5, 6, 1, 7, 0] rfl)
        · have hf := op_neg c_347 hf
          refine lv_goto (tgt := 376) hx hb dX10_lay_350 (by decide) ?_
          refine lv_iinc (v := x9 + (-1)) (lv' := [(9, .int (x9 + (-1))), (0, .ref h0), (2, .int x2), (4, .int x4), (5, .int x5), (6, .int x6), (7, .int x7), (8, .int x8)]) hx hb dX10_lay_376 hl (k := 7) rfl rfl (by decide) rfl (fun ls hl => ?_)
          refine lv_goto (tgt := 276) hx hb dX10_lay_379 (by decide) ?_
          exact ih_276 u0 x2 x4 x5 x6 x7 x8 (x9 + (-1)) hf _ _ ls hP hD hS (lv_sub hl [1, 2, 3, 4, 5, 6, 7, 0] rfl)
def f_X10_lay_L388 (k_210 : St → Int32 → Int32 → Int32 → Option (Int32 × St)) (fu : Nat)  (u0 : St) (x2 : Int32) (x4 : Int32) (x5 : Int32) (x6 : Int32) : Option (Int32 × St) := if inb x6 12 = true then (if inb (x6 + 1) 12 = true then (k_210 u0 x2 (x4 + ((u0.2 31 x6.toNatClampNeg) + (u0.2 31 (x6 + 1).toNatClampNeg))) (x5 + (-1))) else none) else none
set_option maxHeartbeats 4000000 in
set_option maxRecDepth 100000 in
theorem b_X10_lay_L388 {p : Program} {e : Env} {s : State} {m : MethodId} {args : Array Value} {below : List Frame} {meth : Method} {c : Code} {A : Nat → Prop} (l : Launch) (D : va_G) (cy : Nat → ClassId) (h0 : Nat) (a0 : Nat → Nat) (fu : Nat) (out : Int32 × St) (C : gC p s m args meth c (WS yX10_lay cX10_lay 10 (some .boolean)) cX10_lay 10 (some .boolean) RX10) (hA : ∀ q : Nat, s.heap.size ≤ q → A q) (hK : va_K D vwCl (TY cy) s) (k_210 : St → Int32 → Int32 → Int32 → Option (Int32 × St)) (hk_210 : ∀ (u0 : St) (x2 : Int32) (x4 : Int32) (x5 : Int32), k_210 u0 x2 x4 x5 = some out → ∀ (H : Heap) (locs : List Loc) (ls : Array Slot), va_P D vwCl (w10 cy h0 a0 u0) H → va_D A (w10 cy h0 a0 u0) → va_S A s.heap H locs → lv_has ls 10 [(0, .ref h0), (2, .int x2), (4, .int x4), (5, .int x5)] → W p l e ({ frames := 3, cells := 0, slots := 0, locals := 75 } : Room) s m args below meth c H locs 0 0 (MQ below (gQi D cy A out.1 (w10 cy h0 a0 out.2)) args s 0 0 A) (F0 m 210 ls [])) :
    ∀ (u0 : St) (x2 : Int32) (x4 : Int32) (x5 : Int32) (x6 : Int32), f_X10_lay_L388 k_210 fu u0 x2 x4 x5 x6 = some out → ∀ (H : Heap) (locs : List Loc) (ls : Array Slot), va_P D vwCl (w10 cy h0 a0 u0) H → va_D A (w10 cy h0 a0 u0) → va_S A s.heap H locs → lv_has ls 10 [(0, .ref h0), (2, .int x2), (4, .int x4), (5, .int x5), (6, .int x6)] → W p l e ({ frames := 3, cells := 0, slots := 0, locals := 75 } : Room) s m args below meth c H locs 0 0 (MQ below (gQi D cy A out.1 (w10 cy h0 a0 out.2)) args s 0 0 A) (F0 m 388 ls []) := by
  obtain ⟨hx, hb, hr, hml, hown, hts, hlk⟩ := id C
  have hown : s.vm.findClass RX10 = some m.cls := hown
  have hk_80 := hts _ (List.mem_cons_of_mem _ fl_RX10_80)
  intro u0 x2 x4 x5 x6 hf H locs ls hP hD hS hl
  unfold f_X10_lay_L388 at hf
  refine lv_iload hx hb dX10_lay_388 (lv_at hl 2 rfl) ?_
  refine lv_aload_n hx hb dX10_lay_390 rfl (lv_at hl 0 rfl) ?_
  refine va_get (ci := 9) (v := .ref (a0 31)) (C := RX10) (T := TX10) (N := 56) hx hb hts (fun w h => List.mem_cons_of_mem _ (inX10 w h)) hown hK hP 0 rfl rfl 31 (by decide) hk_80 (fun _ h9 => h9) rfl dX10_lay_391 ?_
  refine lv_iload hx hb dX10_lay_394 (lv_at hl 4 rfl) ?_
  obtain ⟨hg_396, hf⟩ := op_if hf
  refine va_iald (f := u0.2 31) hx hb hK hP 20 0 rfl rfl (inb_in hg_396) dX10_lay_396 ?_
  refine lv_aload_n hx hb dX10_lay_397 rfl (lv_at hl 0 rfl) ?_
  refine va_get (ci := 9) (v := .ref (a0 31)) (C := RX10) (T := TX10) (N := 56) hx hb hts (fun w h => List.mem_cons_of_mem _ (inX10 w h)) hown hK hP 0 rfl rfl 31 (by decide) hk_80 (fun _ h9 => h9) rfl dX10_lay_398 ?_
  refine lv_iload hx hb dX10_lay_401 (lv_at hl 4 rfl) ?_
  refine lv_iconst (v := 1) hx hb dX10_lay_403 (by decide) ?_
  refine lv_iadd hx hb dX10_lay_404 ?_
  obtain ⟨hg_405, hf⟩ := op_if hf
  refine va_iald (f := u0.2 31) hx hb hK hP 20 0 rfl rfl (inb_in hg_405) dX10_lay_405 ?_
  refine lv_iadd hx hb dX10_lay_406 ?_
  refine lv_iadd hx hb dX10_lay_407 ?_
  refine lv_istore (lv' := [(4, .int (x4 + ((u0.2 31 x6.toNatClampNeg) + (u0.2 31 (x6 + 1).toNatClampNeg)))), (0, .ref h0), (2, .int x2), (5, .int x5), (6, .int x6)]) hx hb dX10_lay_408 hl (by decide) rfl (fun ls hl => ?_)
  refine lv_iinc (v := x5 + (-1)) (lv' := [(5, .int (x5 + (-1))), (4, .int (x4 + ((u0.2 31 x6.toNatClampNeg) + (u0.2 31 (x6 + 1).toNatClampNeg)))), (0, .ref h0), (2, .int x2), (6, .int x6)]) hx hb dX10_lay_410 hl (k := 3) rfl rfl (by decide) rfl (fun ls hl => ?_)
  refine lv_goto (tgt := 210) hx hb dX10_lay_413 (by decide) ?_
  exact hk_210 u0 x2 (x4 + ((u0.2 31 x6.toNatClampNeg) + (u0.2 31 (x6 + 1).toNatClampNeg))) (x5 + (-1)) hf _ _ ls hP hD hS (lv_sub hl [2, 3, 1, 0] rfl)
def f_X10_lay_L238 (k_210 : St → Int32 → Int32 → Int32 → Option (Int32 × St)) (fu : Nat)  : Nat → St → Int32 → Int32 → Int32 → Int32 → Int32 → Int32 → Option (Int32 × St)
  | 0, _, _, _, _, _, _, _ => none
  | n_238 + 1, u0, x2, x4, x5, x6, x7, x8 => if x8 ≤ 0 then (f_X10_lay_L388 k_210 fu u0 x2 x4 x5 x6) else (if x7 = 0 then (if (u0.1 29) ≤ (x4 + x8) then (f_X10_lay_L276 k_210 (f_X10_lay_L238 k_210 fu n_238) fu fu u0 x2 x4 x5 x6 x7 x8 0) else ((f_X10_fits fu u0 (x4 + x8) x2).bind (fun q_267 => f_X10_lay_L276 k_210 (f_X10_lay_L238 k_210 fu n_238) fu fu u0 x2 x4 x5 x6 x7 x8 q_267))) else (f_X10_lay_L388 k_210 fu u0 x2 x4 x5 x6))
set_option maxHeartbeats 4000000 in
set_option maxRecDepth 100000 in
theorem b_X10_lay_L238 {p : Program} {e : Env} {s : State} {m : MethodId} {args : Array Value} {below : List Frame} {meth : Method} {c : Code} {A : Nat → Prop} (l : Launch) (D : va_G) (cy : Nat → ClassId) (h0 : Nat) (a0 : Nat → Nat) (fu : Nat) (out : Int32 × St) (C : gC p s m args meth c (WS yX10_lay cX10_lay 10 (some .boolean)) cX10_lay 10 (some .boolean) RX10) (hA : ∀ q : Nat, s.heap.size ≤ q → A q) (hK : va_K D vwCl (TY cy) s) (k_210 : St → Int32 → Int32 → Int32 → Option (Int32 × St)) (hk_210 : ∀ (u0 : St) (x2 : Int32) (x4 : Int32) (x5 : Int32), k_210 u0 x2 x4 x5 = some out → ∀ (H : Heap) (locs : List Loc) (ls : Array Slot), va_P D vwCl (w10 cy h0 a0 u0) H → va_D A (w10 cy h0 a0 u0) → va_S A s.heap H locs → lv_has ls 10 [(0, .ref h0), (2, .int x2), (4, .int x4), (5, .int x5)] → W p l e ({ frames := 3, cells := 0, slots := 0, locals := 75 } : Room) s m args below meth c H locs 0 0 (MQ below (gQi D cy A out.1 (w10 cy h0 a0 out.2)) args s 0 0 A) (F0 m 210 ls [])) :
    ∀ (n_238 : Nat), ∀ (u0 : St) (x2 : Int32) (x4 : Int32) (x5 : Int32) (x6 : Int32) (x7 : Int32) (x8 : Int32), f_X10_lay_L238 k_210 fu n_238 u0 x2 x4 x5 x6 x7 x8 = some out → ∀ (H : Heap) (locs : List Loc) (ls : Array Slot), va_P D vwCl (w10 cy h0 a0 u0) H → va_D A (w10 cy h0 a0 u0) → va_S A s.heap H locs → lv_has ls 10 [(0, .ref h0), (2, .int x2), (4, .int x4), (5, .int x5), (6, .int x6), (7, .int x7), (8, .int x8)] → W p l e ({ frames := 3, cells := 0, slots := 0, locals := 75 } : Room) s m args below meth c H locs 0 0 (MQ below (gQi D cy A out.1 (w10 cy h0 a0 out.2)) args s 0 0 A) (F0 m 238 ls []) := by
  obtain ⟨hx, hb, hr, hml, hown, hts, hlk⟩ := id C
  have hown : s.vm.findClass RX10 = some m.cls := hown
  have hk_119 := hts _ (List.mem_cons_of_mem _ fl_RX10_119)
  intro n_238
  induction n_238 with
  | zero => intro u0 x2 x4 x5 x6 x7 x8 hf; exact op_no hf
  | succ n_238 ih_238 =>
    intro u0 x2 x4 x5 x6 x7 x8 hf H locs ls hP hD hS hl
    rw [f_X10_lay_L238] at hf
    refine lv_iload hx hb dX10_lay_238 (lv_at hl 6 rfl) ?_
    refine lv_if_le (tgt := 388) hx hb dX10_lay_240 (by decide) (fun c_240 => ?_) (fun c_240 => ?_)
    · have hf := op_pos c_240 hf
      exact b_X10_lay_L388 l D cy h0 a0 fu out C hA hK k_210 hk_210 u0 x2 x4 x5 x6 hf _ _ ls hP hD hS (lv_sub hl [0, 1, 2, 3, 4] rfl)
    · have hf := op_neg c_240 hf
      refine lv_iload hx hb dX10_lay_243 (lv_at hl 5 rfl) ?_
      refine lv_if_ne (tgt := 388) hx hb dX10_lay_245 (by decide) (fun c_245 => ?_) (fun c_245 => ?_)
      · have hf := op_neg c_245 hf
        exact b_X10_lay_L388 l D cy h0 a0 fu out C hA hK k_210 hk_210 u0 x2 x4 x5 x6 hf _ _ ls hP hD hS (lv_sub hl [0, 1, 2, 3, 4] rfl)
      · have hf := op_pos c_245 hf
        refine lv_iload hx hb dX10_lay_248 (lv_at hl 2 rfl) ?_
        refine lv_iload hx hb dX10_lay_250 (lv_at hl 6 rfl) ?_
        refine lv_iadd hx hb dX10_lay_252 ?_
        refine lv_aload_n hx hb dX10_lay_253 rfl (lv_at hl 0 rfl) ?_
        refine va_get (ci := 9) (v := .int (u0.1 29)) (C := RX10) (T := TX10) (N := 56) hx hb hts (fun w h => List.mem_cons_of_mem _ (inX10 w h)) hown hK hP 0 rfl rfl 29 (by decide) hk_119 (fun _ h9 => h9) rfl dX10_lay_254 ?_
        refine lv_icmp_ge (tgt := 273) hx hb dX10_lay_257 (by decide) (fun c_257 => ?_) (fun c_257 => ?_)
        · have hf := op_pos c_257 hf
          refine lv_iconst (v := 0) hx hb dX10_lay_273 (by decide) ?_
          refine lv_istore (lv' := [(9, .int 0), (0, .ref h0), (2, .int x2), (4, .int x4), (5, .int x5), (6, .int x6), (7, .int x7), (8, .int x8)]) hx hb dX10_lay_274 hl (by decide) rfl (fun ls hl => ?_)
          exact b_X10_lay_L276 l D cy h0 a0 fu out C hA hK k_210 hk_210 (f_X10_lay_L238 k_210 fu n_238) ih_238 fu u0 x2 x4 x5 x6 x7 x8 0 hf _ _ ls hP hD hS (lv_sub hl [1, 2, 3, 4, 5, 6, 7, 0] rfl)
        · have hf := op_neg c_257 hf
          refine lv_aload_n hx hb dX10_lay_260 rfl (lv_at hl 0 rfl) ?_
          refine lv_iload hx hb dX10_lay_261 (lv_at hl 2 rfl) ?_
          refine lv_iload hx hb dX10_lay_263 (lv_at hl 6 rfl) ?_
          refine lv_iadd hx hb dX10_lay_265 ?_
          refine lv_iload_n hx hb dX10_lay_266 rfl (lv_at hl 1 rfl) ?_
          obtain ⟨q_267, hc_267, hf⟩ := op_bind hf
          refine g_callVi (As := [.int (x4 + x8), .int x2]) (rest := []) (w2 := w10 cy h0 a0 u0) ⟨hx, hb, hml, hown, hts⟩ (c_X10_fits l D cy h0 a0 u0 _ fu (x4 + x8) x2 _ hc_267) (cwV 2 hts (gi_V ml_RX10_130 im_X10_fits se_X10_fits in_RX10 cd_X10_fits) rfl rfl rfl hdX10_fits ⟨Nat.le_of_ble_eq_true rfl, Nat.le_of_ble_eq_true rfl⟩) (va_recv hK hP (ci := 9) (q0 := 0) rfl rfl) rfl hl.1 rfl (Nat.le_of_ble_eq_true rfl) dX10_lay_267 hK hP hD hS hA [0, 1, 2, 3, 4, 5, 6, 7, 8, 9, 10, 11, 12, 13, 14, 15, 16, 17, 18, 19, 20, 21, 22, 23, 24, 25, 26, 27, 28, 29] [] [0, 1, 2, 3, 4, 5, 6, 7, 8, 9, 10, 11, 12, 13, 14, 15, 16, 17, 18, 19, 20, 21, 22, 23, 24, 25, 26, 27, 28, 29] rfl rfl rfl rfl (by decide) rfl rfl (fun H locs hP hD hS => ?_)
          refine lv_goto (tgt := 274) hx hb dX10_lay_270 (by decide) ?_
          refine lv_istore (lv' := [(9, .int q_267), (0, .ref h0), (2, .int x2), (4, .int x4), (5, .int x5), (6, .int x6), (7, .int x7), (8, .int x8)]) hx hb dX10_lay_274 hl (by decide) rfl (fun ls hl => ?_)
          exact b_X10_lay_L276 l D cy h0 a0 fu out C hA hK k_210 hk_210 (f_X10_lay_L238 k_210 fu n_238) ih_238 fu u0 x2 x4 x5 x6 x7 x8 q_267 hf _ _ ls hP hD hS (lv_sub hl [1, 2, 3, 4, 5, 6, 7, 0] rfl)
def f_X10_lay_L210  (fu : Nat)  : Nat → St → Int32 → Int32 → Int32 → Option (Int32 × St)
  | 0, _, _, _, _ => none
  | n_210 + 1, u0, x2, x4, x5 => if x5 ≤ 0 then (some (1, u0)) else ((f_X10_fits fu u0 x4 x2).bind (fun q_233 => f_X10_lay_L238 (f_X10_lay_L210 fu n_210) fu fu u0 x2 x4 x5 (2 * ((u0.1 32) - x5)) 0 q_233))
set_option maxHeartbeats 4000000 in
set_option maxRecDepth 100000 in
theorem b_X10_lay_L210 {p : Program} {e : Env} {s : State} {m : MethodId} {args : Array Value} {below : List Frame} {meth : Method} {c : Code} {A : Nat → Prop} (l : Launch) (D : va_G) (cy : Nat → ClassId) (h0 : Nat) (a0 : Nat → Nat) (fu : Nat) (out : Int32 × St) (C : gC p s m args meth c (WS yX10_lay cX10_lay 10 (some .boolean)) cX10_lay 10 (some .boolean) RX10) (hA : ∀ q : Nat, s.heap.size ≤ q → A q) (hK : va_K D vwCl (TY cy) s)  :
    ∀ (n_210 : Nat), ∀ (u0 : St) (x2 : Int32) (x4 : Int32) (x5 : Int32), f_X10_lay_L210 fu n_210 u0 x2 x4 x5 = some out → ∀ (H : Heap) (locs : List Loc) (ls : Array Slot), va_P D vwCl (w10 cy h0 a0 u0) H → va_D A (w10 cy h0 a0 u0) → va_S A s.heap H locs → lv_has ls 10 [(0, .ref h0), (2, .int x2), (4, .int x4), (5, .int x5)] → W p l e ({ frames := 3, cells := 0, slots := 0, locals := 75 } : Room) s m args below meth c H locs 0 0 (MQ below (gQi D cy A out.1 (w10 cy h0 a0 out.2)) args s 0 0 A) (F0 m 210 ls []) := by
  obtain ⟨hx, hb, hr, hml, hown, hts, hlk⟩ := id C
  have hown : s.vm.findClass RX10 = some m.cls := hown
  have hk_133 := hts _ (List.mem_cons_of_mem _ fl_RX10_133)
  intro n_210
  induction n_210 with
  | zero => intro u0 x2 x4 x5 hf; exact op_no hf
  | succ n_210 ih_210 =>
    intro u0 x2 x4 x5 hf H locs ls hP hD hS hl
    rw [f_X10_lay_L210] at hf
    refine lv_iload hx hb dX10_lay_210 (lv_at hl 3 rfl) ?_
    refine lv_if_le (tgt := 416) hx hb dX10_lay_212 (by decide) (fun c_212 => ?_) (fun c_212 => ?_)
    · have hf := op_pos c_212 hf
      refine lv_iconst (v := 1) hx hb dX10_lay_416 (by decide) ?_
      rw [← Option.some.inj hf]
      exact g_zret hx hb hr hlk (show isB 1 = true by decide) hK hP hD hS dX10_lay_417
    · have hf := op_neg c_212 hf
      refine lv_iconst (v := 2) hx hb dX10_lay_215 (by decide) ?_
      refine lv_aload_n hx hb dX10_lay_216 rfl (lv_at hl 0 rfl) ?_
      refine va_get (ci := 9) (v := .int (u0.1 32)) (C := RX10) (T := TX10) (N := 56) hx hb hts (fun w h => List.mem_cons_of_mem _ (inX10 w h)) hown hK hP 0 rfl rfl 32 (by decide) hk_133 (fun _ h9 => h9) rfl dX10_lay_217 ?_
      refine lv_iload hx hb dX10_lay_220 (lv_at hl 3 rfl) ?_
      refine lv_isub hx hb dX10_lay_222 ?_
      refine lv_imul hx hb dX10_lay_223 ?_
      refine lv_istore (lv' := [(6, .int (2 * ((u0.1 32) - x5))), (0, .ref h0), (2, .int x2), (4, .int x4), (5, .int x5)]) hx hb dX10_lay_224 hl (by decide) rfl (fun ls hl => ?_)
      refine lv_iconst (v := 0) hx hb dX10_lay_226 (by decide) ?_
      refine lv_istore (lv' := [(7, .int 0), (6, .int (2 * ((u0.1 32) - x5))), (0, .ref h0), (2, .int x2), (4, .int x4), (5, .int x5)]) hx hb dX10_lay_227 hl (by decide) rfl (fun ls hl => ?_)
      refine lv_aload_n hx hb dX10_lay_229 rfl (lv_at hl 2 rfl) ?_
      refine lv_iload hx hb dX10_lay_230 (lv_at hl 4 rfl) ?_
      refine lv_iload_n hx hb dX10_lay_232 rfl (lv_at hl 3 rfl) ?_
      obtain ⟨q_233, hc_233, hf⟩ := op_bind hf
      refine g_callVi (As := [.int x4, .int x2]) (rest := []) (w2 := w10 cy h0 a0 u0) ⟨hx, hb, hml, hown, hts⟩ (c_X10_fits l D cy h0 a0 u0 _ fu x4 x2 _ hc_233) (cwV 2 hts (gi_V ml_RX10_130 im_X10_fits se_X10_fits in_RX10 cd_X10_fits) rfl rfl rfl hdX10_fits ⟨Nat.le_of_ble_eq_true rfl, Nat.le_of_ble_eq_true rfl⟩) (va_recv hK hP (ci := 9) (q0 := 0) rfl rfl) rfl hl.1 rfl (Nat.le_of_ble_eq_true rfl) dX10_lay_233 hK hP hD hS hA [0, 1, 2, 3, 4, 5, 6, 7, 8, 9, 10, 11, 12, 13, 14, 15, 16, 17, 18, 19, 20, 21, 22, 23, 24, 25, 26, 27, 28, 29] [] [0, 1, 2, 3, 4, 5, 6, 7, 8, 9, 10, 11, 12, 13, 14, 15, 16, 17, 18, 19, 20, 21, 22, 23, 24, 25, 26, 27, 28, 29] rfl rfl rfl rfl (by decide) rfl rfl (fun H locs hP hD hS => ?_)
      refine lv_istore (lv' := [(8, .int q_233), (7, .int 0), (6, .int (2 * ((u0.1 32) - x5))), (0, .ref h0), (2, .int x2), (4, .int x4), (5, .int x5)]) hx hb dX10_lay_236 hl (by decide) rfl (fun ls hl => ?_)
      exact b_X10_lay_L238 l D cy h0 a0 fu out C hA hK (f_X10_lay_L210 fu n_210) ih_210 fu u0 x2 x4 x5 (2 * ((u0.1 32) - x5)) 0 q_233 hf _ _ ls hP hD hS (lv_sub hl [3, 4, 5, 6, 2, 1, 0] rfl)
def f_X10_lay_L106  (fu : Nat)  : Nat → St → Int32 → Int32 → Option (Int32 × St)
  | 0, _, _, _ => none
  | n_106 + 1, u0, x2, x5 => if (u0.1 32) < x5 then (if inb (254 * (u0.1 32)) 1778 = true then (f_X10_lay_L210 fu fu (sF u0 33 (u0.2 30 (254 * (u0.1 32)).toNatClampNeg)) x2 0 (u0.1 32)) else none) else (f_X10_lay_L121 (f_X10_lay_L106 fu n_106) fu fu u0 x2 x5 (u0.1 29))
set_option maxHeartbeats 4000000 in
set_option maxRecDepth 100000 in
theorem b_X10_lay_L106 {p : Program} {e : Env} {s : State} {m : MethodId} {args : Array Value} {below : List Frame} {meth : Method} {c : Code} {A : Nat → Prop} (l : Launch) (D : va_G) (cy : Nat → ClassId) (h0 : Nat) (a0 : Nat → Nat) (fu : Nat) (out : Int32 × St) (C : gC p s m args meth c (WS yX10_lay cX10_lay 10 (some .boolean)) cX10_lay 10 (some .boolean) RX10) (hA : ∀ q : Nat, s.heap.size ≤ q → A q) (hK : va_K D vwCl (TY cy) s)  :
    ∀ (n_106 : Nat), ∀ (u0 : St) (x2 : Int32) (x5 : Int32), f_X10_lay_L106 fu n_106 u0 x2 x5 = some out → ∀ (H : Heap) (locs : List Loc) (ls : Array Slot), va_P D vwCl (w10 cy h0 a0 u0) H → va_D A (w10 cy h0 a0 u0) → va_S A s.heap H locs → lv_has ls 10 [(0, .ref h0), (2, .int x2), (5, .int x5)] → W p l e ({ frames := 3, cells := 0, slots := 0, locals := 75 } : Room) s m args below meth c H locs 0 0 (MQ below (gQi D cy A out.1 (w10 cy h0 a0 out.2)) args s 0 0 A) (F0 m 106 ls []) := by
  obtain ⟨hx, hb, hr, hml, hown, hts, hlk⟩ := id C
  have hown : s.vm.findClass RX10 = some m.cls := hown
  have hk_133 := hts _ (List.mem_cons_of_mem _ fl_RX10_133)
  have hk_77 := hts _ (List.mem_cons_of_mem _ fl_RX10_77)
  have hk_141 := hts _ (List.mem_cons_of_mem _ fl_RX10_141)
  have hk_119 := hts _ (List.mem_cons_of_mem _ fl_RX10_119)
  intro n_106
  induction n_106 with
  | zero => intro u0 x2 x5 hf; exact op_no hf
  | succ n_106 ih_106 =>
    intro u0 x2 x5 hf H locs ls hP hD hS hl
    rw [f_X10_lay_L106] at hf
    refine lv_iload hx hb dX10_lay_106 (lv_at hl 2 rfl) ?_
    refine lv_aload_n hx hb dX10_lay_108 rfl (lv_at hl 0 rfl) ?_
    refine va_get (ci := 9) (v := .int (u0.1 32)) (C := RX10) (T := TX10) (N := 56) hx hb hts (fun w h => List.mem_cons_of_mem _ (inX10 w h)) hown hK hP 0 rfl rfl 32 (by decide) hk_133 (fun _ h9 => h9) rfl dX10_lay_109 ?_
    refine lv_icmp_gt (tgt := 184) hx hb dX10_lay_112 (by decide) (fun c_112 => ?_) (fun c_112 => ?_)
    · have hf := op_pos c_112 hf
      refine lv_aload_n hx hb dX10_lay_184 rfl (lv_at hl 0 rfl) ?_
      refine lv_aload_n hx hb dX10_lay_185 rfl (lv_at hl 0 rfl) ?_
      refine va_get (ci := 9) (v := .ref (a0 30)) (C := RX10) (T := TX10) (N := 56) hx hb hts (fun w h => List.mem_cons_of_mem _ (inX10 w h)) hown hK hP 0 rfl rfl 30 (by decide) hk_77 (fun _ h9 => h9) rfl dX10_lay_186 ?_
      refine lv_sipush (v := 254) hx hb dX10_lay_189 (by decide) ?_
      refine lv_aload_n hx hb dX10_lay_192 rfl (lv_at hl 0 rfl) ?_
      refine va_get (ci := 9) (v := .int (u0.1 32)) (C := RX10) (T := TX10) (N := 56) hx hb hts (fun w h => List.mem_cons_of_mem _ (inX10 w h)) hown hK hP 0 rfl rfl 32 (by decide) hk_133 (fun _ h9 => h9) rfl dX10_lay_193 ?_
      refine lv_imul hx hb dX10_lay_196 ?_
      obtain ⟨hg_197, hf⟩ := op_if hf
      refine va_iald (f := u0.2 30) hx hb hK hP 19 0 rfl rfl (inb_in hg_197) dX10_lay_197 ?_
      refine va_put (ci := 9) (v := .int (u0.2 30 (254 * (u0.1 32)).toNatClampNeg)) (ty := tyX10 33) (C := RX10) (T := TX10) (N := 56) hx hb hts (fun w h => List.mem_cons_of_mem _ (inX10 w h)) tyX10 tyX10_ok nmX10 hown hK hP hD hS 0 rfl rfl 33 (by decide) hk_141 (fun _ h9 => h9) rfl (tyX10_ok 33 (by decide)) rfl rfl (Nat.le_of_ble_eq_true rfl) dX10_lay_198 (fun H locs hP hD hS => ?_)
      have hP : va_P D vwCl (w10 cy h0 a0 (sF u0 33 (u0.2 30 (254 * (u0.1 32)).toNatClampNeg))) H := pP10_33 hP
      have hD : va_D A (w10 cy h0 a0 (sF u0 33 (u0.2 30 (254 * (u0.1 32)).toNatClampNeg))) := pD10_33 hD
      refine lv_iconst (v := 0) hx hb dX10_lay_201 (by decide) ?_
      refine lv_istore (lv' := [(4, .int 0), (0, .ref h0), (2, .int x2), (5, .int x5)]) hx hb dX10_lay_202 hl (by decide) rfl (fun ls hl => ?_)
      refine lv_aload_n hx hb dX10_lay_204 rfl (lv_at hl 1 rfl) ?_
      refine va_get (ci := 9) (v := .int (u0.1 32)) (C := RX10) (T := TX10) (N := 56) hx hb hts (fun w h => List.mem_cons_of_mem _ (inX10 w h)) hown hK hP 0 rfl rfl 32 (by decide) hk_133 (fun _ h9 => h9) rfl dX10_lay_205 ?_
      refine lv_istore (lv' := [(5, .int (u0.1 32)), (4, .int 0), (0, .ref h0), (2, .int x2)]) hx hb dX10_lay_208 hl (by decide) rfl (fun ls hl => ?_)
      exact b_X10_lay_L210 l D cy h0 a0 fu out C hA hK fu (sF u0 33 (u0.2 30 (254 * (u0.1 32)).toNatClampNeg)) x2 0 (u0.1 32) hf _ _ ls hP hD hS (lv_sub hl [2, 3, 1, 0] rfl)
    · have hf := op_neg c_112 hf
      refine lv_aload_n hx hb dX10_lay_115 rfl (lv_at hl 0 rfl) ?_
      refine va_get (ci := 9) (v := .int (u0.1 29)) (C := RX10) (T := TX10) (N := 56) hx hb hts (fun w h => List.mem_cons_of_mem _ (inX10 w h)) hown hK hP 0 rfl rfl 29 (by decide) hk_119 (fun _ h9 => h9) rfl dX10_lay_116 ?_
      refine lv_istore (lv' := [(6, .int (u0.1 29)), (0, .ref h0), (2, .int x2), (5, .int x5)]) hx hb dX10_lay_119 hl (by decide) rfl (fun ls hl => ?_)
      exact b_X10_lay_L121 l D cy h0 a0 fu out C hA hK (f_X10_lay_L106 fu n_106) ih_106 fu u0 x2 x5 (u0.1 29) hf _ _ ls hP hD hS (lv_sub hl [1, 2, 3, 0] rfl)
def f_X10_lay_L58  (fu : Nat)  : Nat → St → Int32 → Int32 → Int32 → Option (Int32 × St)
  | 0, _, _, _, _ => none
  | n_58 + 1, u0, x2, x3, x5 => if (u0.1 29) ≤ x5 then (if x3 ≤ 12 then (if nz 2 = true then (f_X10_lay_L106 fu fu (sF u0 32 ((x3 + 1) / 2)) x2 0) else none) else (some (0, u0))) else ((f_X10_rowLength fu u0 x5 1).bind (fun q_71 => if q_71 ≤ x2 then (f_X10_lay_L58 fu n_58 u0 x2 x3 (x5 + 1)) else (some (0, u0))))
set_option maxHeartbeats 4000000 in
set_option maxRecDepth 100000 in
theorem b_X10_lay_L58 {p : Program} {e : Env} {s : State} {m : MethodId} {args : Array Value} {below : List Frame} {meth : Method} {c : Code} {A : Nat → Prop} (l : Launch) (D : va_G) (cy : Nat → ClassId) (h0 : Nat) (a0 : Nat → Nat) (fu : Nat) (out : Int32 × St) (C : gC p s m args meth c (WS yX10_lay cX10_lay 10 (some .boolean)) cX10_lay 10 (some .boolean) RX10) (hA : ∀ q : Nat, s.heap.size ≤ q → A q) (hK : va_K D vwCl (TY cy) s)  :
    ∀ (n_58 : Nat), ∀ (u0 : St) (x2 : Int32) (x3 : Int32) (x5 : Int32), f_X10_lay_L58 fu n_58 u0 x2 x3 x5 = some out → ∀ (H : Heap) (locs : List Loc) (ls : Array Slot), va_P D vwCl (w10 cy h0 a0 u0) H → va_D A (w10 cy h0 a0 u0) → va_S A s.heap H locs → lv_has ls 10 [(0, .ref h0), (2, .int x2), (3, .int x3), (5, .int x5)] → W p l e ({ frames := 3, cells := 0, slots := 0, locals := 75 } : Room) s m args below meth c H locs 0 0 (MQ below (gQi D cy A out.1 (w10 cy h0 a0 out.2)) args s 0 0 A) (F0 m 58 ls []) := by
  obtain ⟨hx, hb, hr, hml, hown, hts, hlk⟩ := id C
  have hown : s.vm.findClass RX10 = some m.cls := hown
  have hk_119 := hts _ (List.mem_cons_of_mem _ fl_RX10_119)
  have hk_133 := hts _ (List.mem_cons_of_mem _ fl_RX10_133)
  intro n_58
  induction n_58 with
  | zero => intro u0 x2 x3 x5 hf; exact op_no hf
  | succ n_58 ih_58 =>
    intro u0 x2 x3 x5 hf H locs ls hP hD hS hl
    rw [f_X10_lay_L58] at hf
    refine lv_iload hx hb dX10_lay_58 (lv_at hl 3 rfl) ?_
    refine lv_aload_n hx hb dX10_lay_60 rfl (lv_at hl 0 rfl) ?_
    refine va_get (ci := 9) (v := .int (u0.1 29)) (C := RX10) (T := TX10) (N := 56) hx hb hts (fun w h => List.mem_cons_of_mem _ (inX10 w h)) hown hK hP 0 rfl rfl 29 (by decide) hk_119 (fun _ h9 => h9) rfl dX10_lay_61 ?_
    refine lv_icmp_ge (tgt := 86) hx hb dX10_lay_64 (by decide) (fun c_64 => ?_) (fun c_64 => ?_)
    · have hf := op_pos c_64 hf
      refine lv_iload_n hx hb dX10_lay_86 rfl (lv_at hl 2 rfl) ?_
      refine lv_bipush (v := 12) hx hb dX10_lay_87 (by decide) ?_
      refine lv_icmp_le (tgt := 94) hx hb dX10_lay_89 (by decide) (fun c_89 => ?_) (fun c_89 => ?_)
      · have hf := op_pos c_89 hf
        refine lv_aload_n hx hb dX10_lay_94 rfl (lv_at hl 0 rfl) ?_
        refine lv_iload_n hx hb dX10_lay_95 rfl (lv_at hl 2 rfl) ?_
        refine lv_iconst (v := 1) hx hb dX10_lay_96 (by decide) ?_
        refine lv_iadd hx hb dX10_lay_97 ?_
        refine lv_iconst (v := 2) hx hb dX10_lay_98 (by decide) ?_
        obtain ⟨hg_99, hf⟩ := op_if hf
        refine lv_idiv hx hb dX10_lay_99 (nz_ne hg_99) ?_
        refine va_put (ci := 9) (v := .int ((x3 + 1) / 2)) (ty := tyX10 32) (C := RX10) (T := TX10) (N := 56) hx hb hts (fun w h => List.mem_cons_of_mem _ (inX10 w h)) tyX10 tyX10_ok nmX10 hown hK hP hD hS 0 rfl rfl 32 (by decide) hk_133 (fun _ h9 => h9) rfl (tyX10_ok 32 (by decide)) rfl rfl (Nat.le_of_ble_eq_true rfl) dX10_lay_100 (fun H locs hP hD hS => ?_)
        have hP : va_P D vwCl (w10 cy h0 a0 (sF u0 32 ((x3 + 1) / 2))) H := pP10_32 hP
        have hD : va_D A (w10 cy h0 a0 (sF u0 32 ((x3 + 1) / 2))) := pD10_32 hD
        refine lv_iconst (v := 0) hx hb dX10_lay_103 (by decide) ?_
        refine lv_istore (lv' := [(5, .int 0), (0, .ref h0), (2, .int x2), (3, .int x3)]) hx hb dX10_lay_104 hl (by decide) rfl (fun ls hl => ?_)
        exact b_X10_lay_L106 l D cy h0 a0 fu out C hA hK fu (sF u0 32 ((x3 + 1) / 2)) x2 0 hf _ _ ls hP hD hS (lv_sub hl [1, 2, 0] rfl)
      · have hf := op_neg c_89 hf
        refine lv_iconst (v := 0) hx hb dX10_lay_92 (by decide) ?_
        rw [← Option.some.inj hf]
        exact g_zret hx hb hr hlk (show isB 0 = true by decide) hK hP hD hS dX10_lay_93
    · have hf := op_neg c_64 hf
      refine lv_aload_n hx hb dX10_lay_67 rfl (lv_at hl 0 rfl) ?_
      refine lv_iload hx hb dX10_lay_68 (lv_at hl 3 rfl) ?_
      refine lv_iconst (v := 1) hx hb dX10_lay_70 (by decide) ?_
      obtain ⟨q_71, hc_71, hf⟩ := op_bind hf
      refine g_callVi (As := [.int x5, .int 1]) (rest := []) (w2 := w10 cy h0 a0 u0) ⟨hx, hb, hml, hown, hts⟩ (c_X10_rowLength l D cy h0 a0 u0 _ fu x5 1 _ hc_71) (cwV 2 hts (gi_V ml_RX10_122 im_X10_rowLength se_X10_rowLength in_RX10 cd_X10_rowLength) rfl rfl rfl hdX10_rowLength ⟨Nat.le_of_ble_eq_true rfl, Nat.le_of_ble_eq_true rfl⟩) (va_recv hK hP (ci := 9) (q0 := 0) rfl rfl) rfl hl.1 rfl (Nat.le_of_ble_eq_true rfl) dX10_lay_71 hK hP hD hS hA [0, 1, 2, 3, 4, 5, 6, 7, 8, 9, 10, 11, 12, 13, 14, 15, 16, 17, 18, 19, 20, 21, 22, 23, 24, 25, 26, 27, 28, 29] [] [0, 1, 2, 3, 4, 5, 6, 7, 8, 9, 10, 11, 12, 13, 14, 15, 16, 17, 18, 19, 20, 21, 22, 23, 24, 25, 26, 27, 28, 29] rfl rfl rfl rfl (by decide) rfl rfl (fun H locs hP hD hS => ?_)
      refine lv_iload_n hx hb dX10_lay_74 rfl (lv_at hl 1 rfl) ?_
      refine lv_icmp_le (tgt := 80) hx hb dX10_lay_75 (by decide) (fun c_75 => ?_) (fun c_75 => ?_)
      · have hf := op_pos c_75 hf
        refine lv_iinc (v := x5 + 1) (lv' := [(5, .int (x5 + 1)), (0, .ref h0), (2, .int x2), (3, .int x3)]) hx hb dX10_lay_80 hl (k := 3) rfl rfl (by decide) rfl (fun ls hl => ?_)
        refine lv_goto (tgt := 58) hx hb dX10_lay_83 (by decide) ?_
        exact ih_58 u0 x2 x3 (x5 + 1) hf _ _ ls hP hD hS (lv_sub hl [1, 2, 3, 0] rfl)
      · have hf := op_neg c_75 hf
        refine lv_iconst (v := 0) hx hb dX10_lay_78 (by decide) ?_
        rw [← Option.some.inj hf]
        exact g_zret hx hb hr hlk (show isB 0 = true by decide) hK hP hD hS dX10_lay_79
def f_X10_lay_L10  (fu : Nat)  : Nat → St → Int32 → Int32 → Int32 → Option (Int32 × St)
  | 0, _, _, _, _ => none
  | n_10 + 1, u0, x2, x3, x4 => if (u0.1 29) ≤ x4 then (f_X10_lay_L58 fu fu u0 x2 x3 x4) else (if 13 ≤ x3 then (f_X10_lay_L58 fu fu u0 x2 x3 x4) else ((f_X10_fits fu u0 x4 x2).bind (fun q_29 => if q_29 = 0 then (some (0, u0)) else (f_X10_lay_L10 fu n_10 u0 x2 (x3 + 1) (x4 + q_29)))))
set_option maxHeartbeats 4000000 in
set_option maxRecDepth 100000 in
theorem b_X10_lay_L10 {p : Program} {e : Env} {s : State} {m : MethodId} {args : Array Value} {below : List Frame} {meth : Method} {c : Code} {A : Nat → Prop} (l : Launch) (D : va_G) (cy : Nat → ClassId) (h0 : Nat) (a0 : Nat → Nat) (fu : Nat) (out : Int32 × St) (C : gC p s m args meth c (WS yX10_lay cX10_lay 10 (some .boolean)) cX10_lay 10 (some .boolean) RX10) (hA : ∀ q : Nat, s.heap.size ≤ q → A q) (hK : va_K D vwCl (TY cy) s)  :
    ∀ (n_10 : Nat), ∀ (u0 : St) (x2 : Int32) (x3 : Int32) (x4 : Int32), f_X10_lay_L10 fu n_10 u0 x2 x3 x4 = some out → ∀ (H : Heap) (locs : List Loc) (ls : Array Slot), va_P D vwCl (w10 cy h0 a0 u0) H → va_D A (w10 cy h0 a0 u0) → va_S A s.heap H locs → lv_has ls 10 [(0, .ref h0), (2, .int x2), (3, .int x3), (4, .int x4)] → W p l e ({ frames := 3, cells := 0, slots := 0, locals := 75 } : Room) s m args below meth c H locs 0 0 (MQ below (gQi D cy A out.1 (w10 cy h0 a0 out.2)) args s 0 0 A) (F0 m 10 ls []) := by
  obtain ⟨hx, hb, hr, hml, hown, hts, hlk⟩ := id C
  have hown : s.vm.findClass RX10 = some m.cls := hown
  have hk_119 := hts _ (List.mem_cons_of_mem _ fl_RX10_119)
  intro n_10
  induction n_10 with
  | zero => intro u0 x2 x3 x4 hf; exact op_no hf
  | succ n_10 ih_10 =>
    intro u0 x2 x3 x4 hf H locs ls hP hD hS hl
    rw [f_X10_lay_L10] at hf
    refine lv_iload hx hb dX10_lay_10 (lv_at hl 3 rfl) ?_
    refine lv_aload_n hx hb dX10_lay_12 rfl (lv_at hl 0 rfl) ?_
    refine va_get (ci := 9) (v := .int (u0.1 29)) (C := RX10) (T := TX10) (N := 56) hx hb hts (fun w h => List.mem_cons_of_mem _ (inX10 w h)) hown hK hP 0 rfl rfl 29 (by decide) hk_119 (fun _ h9 => h9) rfl dX10_lay_13 ?_
    refine lv_icmp_ge (tgt := 54) hx hb dX10_lay_16 (by decide) (fun c_16 => ?_) (fun c_16 => ?_)
    · have hf := op_pos c_16 hf
      refine lv_iload hx hb dX10_lay_54 (lv_at hl 3 rfl) ?_
      refine lv_istore (lv' := [(5, .int x4), (0, .ref h0), (2, .int x2), (3, .int x3), (4, .int x4)]) hx hb dX10_lay_56 hl (by decide) rfl (fun ls hl => ?_)
      exact b_X10_lay_L58 l D cy h0 a0 fu out C hA hK fu u0 x2 x3 x4 hf _ _ ls hP hD hS (lv_sub hl [1, 2, 3, 0] rfl)
    · have hf := op_neg c_16 hf
      refine lv_iload_n hx hb dX10_lay_19 rfl (lv_at hl 2 rfl) ?_
      refine lv_bipush (v := 13) hx hb dX10_lay_20 (by decide) ?_
      refine lv_icmp_ge (tgt := 54) hx hb dX10_lay_22 (by decide) (fun c_22 => ?_) (fun c_22 => ?_)
      · have hf := op_pos c_22 hf
        refine lv_iload hx hb dX10_lay_54 (lv_at hl 3 rfl) ?_
        refine lv_istore (lv' := [(5, .int x4), (0, .ref h0), (2, .int x2), (3, .int x3), (4, .int x4)]) hx hb dX10_lay_56 hl (by decide) rfl (fun ls hl => ?_)
        exact b_X10_lay_L58 l D cy h0 a0 fu out C hA hK fu u0 x2 x3 x4 hf _ _ ls hP hD hS (lv_sub hl [1, 2, 3, 0] rfl)
      · have hf := op_neg c_22 hf
        refine lv_aload_n hx hb dX10_lay_25 rfl (lv_at hl 0 rfl) ?_
        refine lv_iload hx hb dX10_lay_26 (lv_at hl 3 rfl) ?_
        refine lv_iload_n hx hb dX10_lay_28 rfl (lv_at hl 1 rfl) ?_
        obtain ⟨q_29, hc_29, hf⟩ := op_bind hf
        refine g_callVi (As := [.int x4, .int x2]) (rest := []) (w2 := w10 cy h0 a0 u0) ⟨hx, hb, hml, hown, hts⟩ (c_X10_fits l D cy h0 a0 u0 _ fu x4 x2 _ hc_29) (cwV 2 hts (gi_V ml_RX10_130 im_X10_fits se_X10_fits in_RX10 cd_X10_fits) rfl rfl rfl hdX10_fits ⟨Nat.le_of_ble_eq_true rfl, Nat.le_of_ble_eq_true rfl⟩) (va_recv hK hP (ci := 9) (q0 := 0) rfl rfl) rfl hl.1 rfl (Nat.le_of_ble_eq_true rfl) dX10_lay_29 hK hP hD hS hA [0, 1, 2, 3, 4, 5, 6, 7, 8, 9, 10, 11, 12, 13, 14, 15, 16, 17, 18, 19, 20, 21, 22, 23, 24, 25, 26, 27, 28, 29] [] [0, 1, 2, 3, 4, 5, 6, 7, 8, 9, 10, 11, 12, 13, 14, 15, 16, 17, 18, 19, 20, 21, 22, 23, 24, 25, 26, 27, 28, 29] rfl rfl rfl rfl (by decide) rfl rfl (fun H locs hP hD hS => ?_)
        refine lv_istore (lv' := [(5, .int q_29), (0, .ref h0), (2, .int x2), (3, .int x3), (4, .int x4)]) hx hb dX10_lay_32 hl (by decide) rfl (fun ls hl => ?_)
        refine lv_iload hx hb dX10_lay_34 (lv_at hl 0 rfl) ?_
        refine lv_if_ne (tgt := 41) hx hb dX10_lay_36 (by decide) (fun c_36 => ?_) (fun c_36 => ?_)
        · have hf := op_neg c_36 hf
          refine lv_iload hx hb dX10_lay_41 (lv_at hl 4 rfl) ?_
          refine lv_iload hx hb dX10_lay_43 (lv_at hl 0 rfl) ?_
          refine lv_iadd hx hb dX10_lay_45 ?_
          refine lv_istore (lv' := [(4, .int (x4 + q_29)), (5, .int q_29), (0, .ref h0), (2, .int x2), (3, .int x3)]) hx hb dX10_lay_46 hl (by decide) rfl (fun ls hl => ?_)
          refine lv_iinc (v := x3 + 1) (lv' := [(3, .int (x3 + 1)), (4, .int (x4 + q_29)), (5, .int q_29), (0, .ref h0), (2, .int x2)]) hx hb dX10_lay_48 hl (k := 4) rfl rfl (by decide) rfl (fun ls hl => ?_)
          refine lv_goto (tgt := 10) hx hb dX10_lay_51 (by decide) ?_
          exact ih_10 u0 x2 (x3 + 1) (x4 + q_29) hf _ _ ls hP hD hS (lv_sub hl [3, 4, 0, 1] rfl)
        · have hf := op_pos c_36 hf
          refine lv_iconst (v := 0) hx hb dX10_lay_39 (by decide) ?_
          rw [← Option.some.inj hf]
          exact g_zret hx hb hr hlk (show isB 0 = true by decide) hK hP hD hS dX10_lay_40
def f_X10_lay (fu : Nat)  (s0 : St) (p1 : Int32) (p2 : Int32) : Option (Int32 × St) := (f_X10_cutWords fu s0 p1).bind (fun q_2 => f_X10_lay_L10 fu fu q_2 p2 0 0)
theorem hdX10_lay : yX10_lay.cls = RX10 ∧ yX10_lay.cls ≠ "java/lang/invoke/MethodHandle" ∧ yX10_lay.cls ≠ "java/lang/invoke/VarHandle" ∧ (parseMethodDescriptor yX10_lay.desc).map (fun d => d.parameters.length) = some 2 := by decide +kernel
set_option maxHeartbeats 4000000 in
set_option maxRecDepth 100000 in
theorem c_X10_lay (l : Launch) (D : va_G) (cy : Nat → ClassId) (h0 : Nat) (a0 : Nat → Nat) (s0 : St) (sz fu : Nat) (p1 : Int32) (p2 : Int32) (out : Int32 × St) (hf : f_X10_lay fu s0 p1 p2 = some out) :
    Met l yX10_lay (WS yX10_lay cX10_lay 10 (some .boolean)) ({ frames := 3, cells := 0, slots := 0, locals := 75 } : Room) (va_Pc [.ref h0, .int p1, .int p2] (gP D cy sz (w10 cy h0 a0 s0))) ((fun A : Nat → Prop => gQi D cy A out.1 (w10 cy h0 a0 out.2)) (va_A (w10 cy h0 a0 s0) sz)) 0 0 (va_A (w10 cy h0 a0 s0) sz) := by
  refine g_met (cc := cX10_lay) (maxL := 10) (ret := (some .boolean)) (fun A : Nat → Prop => gQi D cy A out.1 (w10 cy h0 a0 out.2)) (by decide +kernel) rfl (Nat.le_of_ble_eq_true rfl) ?_
  intro p e s m below meth c A C hA hK hP hD ls hl
  obtain ⟨hx, hb, hr, hml, hown, hts, hlk⟩ := id C
  have hown : s.vm.findClass RX10 = some m.cls := hown
  have hS : va_S A s.heap s.heap [] := va_S.rf
  have hl : lv_has ls 10 [(0, .ref h0), (1, .int p1), (2, .int p2)] := hl
  unfold f_X10_lay at hf
  refine lv_aload_n hx hb dX10_lay_0 rfl (lv_at hl 0 rfl) ?_
  refine lv_iload_n hx hb dX10_lay_1 rfl (lv_at hl 1 rfl) ?_
  obtain ⟨q_2, hc_2, hf⟩ := op_bind hf
  refine g_callVv (As := [.int p1]) (rest := []) (w2 := w10 cy h0 a0 q_2) ⟨hx, hb, hml, hown, hts⟩ (c_X10_cutWords l D cy h0 a0 s0 _ fu p1 _ hc_2) (cwV 1 hts (gi_V ml_RX10_126 im_X10_cutWords se_X10_cutWords in_RX10 cd_X10_cutWords) rfl rfl rfl hdX10_cutWords ⟨Nat.le_of_ble_eq_true rfl, Nat.le_of_ble_eq_true rfl⟩) (va_recv hK hP (ci := 9) (q0 := 0) rfl rfl) rfl hl.1 rfl (Nat.le_of_ble_eq_true rfl) dX10_lay_2 hK hP hD hS hA [0, 1, 2, 3, 4, 5, 6, 7, 8, 9, 10, 11, 12, 13, 14, 15, 16, 17, 18, 19, 20, 21, 22, 23, 24, 25, 26, 27, 28, 29] [] [0, 1, 2, 3, 4, 5, 6, 7, 8, 9, 10, 11, 12, 13, 14, 15, 16, 17, 18, 19, 20, 21, 22, 23, 24, 25, 26, 27, 28, 29] rfl rfl rfl rfl (by decide) rfl rfl (fun H locs hP hD hS => ?_)
  refine lv_iconst (v := 0) hx hb dX10_lay_5 (by decide) ?_
  refine lv_istore_n (lv' := [(3, .int 0), (0, .ref h0), (1, .int p1), (2, .int p2)]) hx hb dX10_lay_6 rfl hl (by decide) rfl (fun ls hl => ?_)
  refine lv_iconst (v := 0) hx hb dX10_lay_7 (by decide) ?_
  refine lv_istore (lv' := [(4, .int 0), (3, .int 0), (0, .ref h0), (1, .int p1), (2, .int p2)]) hx hb dX10_lay_8 hl (by decide) rfl (fun ls hl => ?_)
  exact b_X10_lay_L10 l D cy h0 a0 fu out C hA hK fu q_2 p2 0 0 hf _ _ ls hP hD hS (lv_sub hl [2, 4, 1, 0] rfl)
def f_X10_layTongue_L126  (fu : Nat)  (u0 : St) (x2 : Int32) (x4 : Int32) : Option (St) := if inb x2 4 = true then ((f_X10_lay fu u0 x4 (u0.2 4 x2.toNatClampNeg)).bind (fun q_135 => some q_135.2)) else none
set_option maxHeartbeats 4000000 in
set_option maxRecDepth 100000 in
theorem b_X10_layTongue_L126 {p : Program} {e : Env} {s : State} {m : MethodId} {args : Array Value} {below : List Frame} {meth : Method} {c : Code} {A : Nat → Prop} (l : Launch) (D : va_G) (cy : Nat → ClassId) (h0 : Nat) (a0 : Nat → Nat) (fu : Nat) (out : St) (C : gC p s m args meth c (WS yX10_layTongue cX10_layTongue 7 none) cX10_layTongue 7 none RX10) (hA : ∀ q : Nat, s.heap.size ≤ q → A q) (hK : va_K D vwCl (TY cy) s)  :
    ∀ (u0 : St) (x2 : Int32) (x4 : Int32), f_X10_layTongue_L126 fu u0 x2 x4 = some out → ∀ (H : Heap) (locs : List Loc) (ls : Array Slot), va_P D vwCl (w10 cy h0 a0 u0) H → va_D A (w10 cy h0 a0 u0) → va_S A s.heap H locs → lv_has ls 7 [(0, .ref h0), (2, .int x2), (4, .int x4)] → W p l e ({ frames := 4, cells := 0, slots := 0, locals := 104 } : Room) s m args below meth c H locs 0 0 (MQ below (gQv D cy A (w10 cy h0 a0 out)) args s 0 0 A) (F0 m 126 ls []) := by
  obtain ⟨hx, hb, hr, hml, hown, hts, hlk⟩ := id C
  have hown : s.vm.findClass RX10 = some m.cls := hown
  have hk_17 := hts _ (List.mem_cons_of_mem _ fl_RX10_17)
  intro u0 x2 x4 hf H locs ls hP hD hS hl
  unfold f_X10_layTongue_L126 at hf
  refine lv_aload_n hx hb dX10_layTongue_126 rfl (lv_at hl 0 rfl) ?_
  refine lv_iload hx hb dX10_layTongue_127 (lv_at hl 2 rfl) ?_
  refine lv_aload_n hx hb dX10_layTongue_129 rfl (lv_at hl 0 rfl) ?_
  refine va_get (ci := 9) (v := .ref (a0 4)) (C := RX10) (T := TX10) (N := 56) hx hb hts (fun w h => List.mem_cons_of_mem _ (inX10 w h)) hown hK hP 0 rfl rfl 4 (by decide) hk_17 (fun _ h9 => h9) rfl dX10_layTongue_130 ?_
  refine lv_iload_n hx hb dX10_layTongue_133 rfl (lv_at hl 1 rfl) ?_
  obtain ⟨hg_134, hf⟩ := op_if hf
  refine va_iald (f := u0.2 4) hx hb hK hP 2 0 rfl rfl (inb_in hg_134) dX10_layTongue_134 ?_
  obtain ⟨q_135, hc_135, hf⟩ := op_bind hf
  refine g_callVi (As := [.int x4, .int (u0.2 4 x2.toNatClampNeg)]) (rest := []) (w2 := w10 cy h0 a0 q_135.2) ⟨hx, hb, hml, hown, hts⟩ (c_X10_lay l D cy h0 a0 u0 _ fu x4 (u0.2 4 x2.toNatClampNeg) _ hc_135) (cwV 2 hts (gi_V ml_RX10_147 im_X10_lay se_X10_lay in_RX10 cd_X10_lay) rfl rfl rfl hdX10_lay ⟨Nat.le_of_ble_eq_true rfl, Nat.le_of_ble_eq_true rfl⟩) (va_recv hK hP (ci := 9) (q0 := 0) rfl rfl) rfl hl.1 rfl (Nat.le_of_ble_eq_true rfl) dX10_layTongue_135 hK hP hD hS hA [0, 1, 2, 3, 4, 5, 6, 7, 8, 9, 10, 11, 12, 13, 14, 15, 16, 17, 18, 19, 20, 21, 22, 23, 24, 25, 26, 27, 28, 29] [] [0, 1, 2, 3, 4, 5, 6, 7, 8, 9, 10, 11, 12, 13, 14, 15, 16, 17, 18, 19, 20, 21, 22, 23, 24, 25, 26, 27, 28, 29] rfl rfl rfl rfl (by decide) rfl rfl (fun H locs hP hD hS => ?_)
  refine lv_istore (lv' := [(5, .int q_135.1), (0, .ref h0), (2, .int x2), (4, .int x4)]) hx hb dX10_layTongue_138 hl (by decide) rfl (fun ls hl => ?_)
  rw [← Option.some.inj hf]
  exact g_vret hx hb hr hlk hK hP hD hS dX10_layTongue_140
def f_X10_layTongue_L26  (fu : Nat)  : Nat → St → Int32 → Int32 → Int32 → Int32 → Option (St)
  | 0, _, _, _, _, _ => none
  | n_26 + 1, u0, x2, x3, x4, x5 => if x4 ≤ x5 then (f_X10_layTongue_L126 fu u0 x2 x4) else (if inb ((500 * x3) + x5) 80000 = true then (if inb x5 1500 = true then (f_X10_layTongue_L26 fu n_26 (sA u0 26 x5.toNatClampNeg (u0.2 20 ((500 * x3) + x5).toNatClampNeg)) x2 x3 x4 (x5 + 1)) else none) else none)
set_option maxHeartbeats 4000000 in
set_option maxRecDepth 100000 in
theorem b_X10_layTongue_L26 {p : Program} {e : Env} {s : State} {m : MethodId} {args : Array Value} {below : List Frame} {meth : Method} {c : Code} {A : Nat → Prop} (l : Launch) (D : va_G) (cy : Nat → ClassId) (h0 : Nat) (a0 : Nat → Nat) (fu : Nat) (out : St) (C : gC p s m args meth c (WS yX10_layTongue cX10_layTongue 7 none) cX10_layTongue 7 none RX10) (hA : ∀ q : Nat, s.heap.size ≤ q → A q) (hK : va_K D vwCl (TY cy) s)  :
    ∀ (n_26 : Nat), ∀ (u0 : St) (x2 : Int32) (x3 : Int32) (x4 : Int32) (x5 : Int32), f_X10_layTongue_L26 fu n_26 u0 x2 x3 x4 x5 = some out → ∀ (H : Heap) (locs : List Loc) (ls : Array Slot), va_P D vwCl (w10 cy h0 a0 u0) H → va_D A (w10 cy h0 a0 u0) → va_S A s.heap H locs → lv_has ls 7 [(0, .ref h0), (2, .int x2), (3, .int x3), (4, .int x4), (5, .int x5)] → W p l e ({ frames := 4, cells := 0, slots := 0, locals := 104 } : Room) s m args below meth c H locs 0 0 (MQ below (gQv D cy A (w10 cy h0 a0 out)) args s 0 0 A) (F0 m 26 ls []) := by
  obtain ⟨hx, hb, hr, hml, hown, hts, hlk⟩ := id C
  have hown : s.vm.findClass RX10 = some m.cls := hown
  have hk_68 := hts _ (List.mem_cons_of_mem _ fl_RX10_68)
  have hk_58 := hts _ (List.mem_cons_of_mem _ fl_RX10_58)
  intro n_26
  induction n_26 with
  | zero => intro u0 x2 x3 x4 x5 hf; exact op_no hf
  | succ n_26 ih_26 =>
    intro u0 x2 x3 x4 x5 hf H locs ls hP hD hS hl
    rw [f_X10_layTongue_L26] at hf
    refine lv_iload hx hb dX10_layTongue_26 (lv_at hl 4 rfl) ?_
    refine lv_iload hx hb dX10_layTongue_28 (lv_at hl 3 rfl) ?_
    refine lv_icmp_ge (tgt := 59) hx hb dX10_layTongue_30 (by decide) (fun c_30 => ?_) (fun c_30 => ?_)
    · have hf := op_pos c_30 hf
      refine lv_goto (tgt := 126) hx hb dX10_layTongue_59 (by decide) ?_
      exact b_X10_layTongue_L126 l D cy h0 a0 fu out C hA hK u0 x2 x4 hf _ _ ls hP hD hS (lv_sub hl [0, 1, 3] rfl)
    · have hf := op_neg c_30 hf
      refine lv_aload_n hx hb dX10_layTongue_33 rfl (lv_at hl 0 rfl) ?_
      refine va_get (ci := 9) (v := .ref (a0 26)) (C := RX10) (T := TX10) (N := 56) hx hb hts (fun w h => List.mem_cons_of_mem _ (inX10 w h)) hown hK hP 0 rfl rfl 26 (by decide) hk_68 (fun _ h9 => h9) rfl dX10_layTongue_34 ?_
      refine lv_iload hx hb dX10_layTongue_37 (lv_at hl 4 rfl) ?_
      refine lv_aload_n hx hb dX10_layTongue_39 rfl (lv_at hl 0 rfl) ?_
      refine va_get (ci := 9) (v := .ref (a0 20)) (C := RX10) (T := TX10) (N := 56) hx hb hts (fun w h => List.mem_cons_of_mem _ (inX10 w h)) hown hK hP 0 rfl rfl 20 (by decide) hk_58 (fun _ h9 => h9) rfl dX10_layTongue_40 ?_
      refine lv_sipush (v := 500) hx hb dX10_layTongue_43 (by decide) ?_
      refine lv_iload_n hx hb dX10_layTongue_46 rfl (lv_at hl 2 rfl) ?_
      refine lv_imul hx hb dX10_layTongue_47 ?_
      refine lv_iload hx hb dX10_layTongue_48 (lv_at hl 4 rfl) ?_
      refine lv_iadd hx hb dX10_layTongue_50 ?_
      obtain ⟨hg_51, hf⟩ := op_if hf
      refine va_iald (f := u0.2 20) hx hb hK hP 14 0 rfl rfl (inb_in hg_51) dX10_layTongue_51 ?_
      obtain ⟨hg_52, hf⟩ := op_if hf
      refine va_iast (f := u0.2 26) (x := u0.2 20 ((500 * x3) + x5).toNatClampNeg) hx hb hK hP hD hS 16 0 rfl rfl (inb_in hg_52) dX10_layTongue_52 (fun H locs hP hD hS => ?_)
      have hP : va_P D vwCl (w10 cy h0 a0 (sA u0 26 x5.toNatClampNeg (u0.2 20 ((500 * x3) + x5).toNatClampNeg))) H := pP10_26 hP
      have hD : va_D A (w10 cy h0 a0 (sA u0 26 x5.toNatClampNeg (u0.2 20 ((500 * x3) + x5).toNatClampNeg))) := pD10_26 hD
      refine lv_iinc (v := x5 + 1) (lv' := [(5, .int (x5 + 1)), (0, .ref h0), (2, .int x2), (3, .int x3), (4, .int x4)]) hx hb dX10_layTongue_53 hl (k := 4) rfl rfl (by decide) rfl (fun ls hl => ?_)
      refine lv_goto (tgt := 26) hx hb dX10_layTongue_56 (by decide) ?_
      exact ih_26 (sA u0 26 x5.toNatClampNeg (u0.2 20 ((500 * x3) + x5).toNatClampNeg)) x2 x3 x4 (x5 + 1) hf _ _ ls hP hD hS (lv_sub hl [1, 2, 3, 4, 0] rfl)
def f_X10_layTongue_L92  (fu : Nat)  : Nat → St → Int32 → Int32 → Int32 → Int32 → Option (St)
  | 0, _, _, _, _, _ => none
  | n_92 + 1, u0, x2, x4, x5, x6 => if x4 ≤ x6 then (f_X10_layTongue_L126 fu u0 x2 x4) else (if inb ((500 * x5) + x6) 80000 = true then (if inb x6 1500 = true then (f_X10_layTongue_L92 fu n_92 (sA u0 26 x6.toNatClampNeg (u0.2 15 ((500 * x5) + x6).toNatClampNeg)) x2 x4 x5 (x6 + 1)) else none) else none)
set_option maxHeartbeats 4000000 in
set_option maxRecDepth 100000 in
theorem b_X10_layTongue_L92 {p : Program} {e : Env} {s : State} {m : MethodId} {args : Array Value} {below : List Frame} {meth : Method} {c : Code} {A : Nat → Prop} (l : Launch) (D : va_G) (cy : Nat → ClassId) (h0 : Nat) (a0 : Nat → Nat) (fu : Nat) (out : St) (C : gC p s m args meth c (WS yX10_layTongue cX10_layTongue 7 none) cX10_layTongue 7 none RX10) (hA : ∀ q : Nat, s.heap.size ≤ q → A q) (hK : va_K D vwCl (TY cy) s)  :
    ∀ (n_92 : Nat), ∀ (u0 : St) (x2 : Int32) (x4 : Int32) (x5 : Int32) (x6 : Int32), f_X10_layTongue_L92 fu n_92 u0 x2 x4 x5 x6 = some out → ∀ (H : Heap) (locs : List Loc) (ls : Array Slot), va_P D vwCl (w10 cy h0 a0 u0) H → va_D A (w10 cy h0 a0 u0) → va_S A s.heap H locs → lv_has ls 7 [(0, .ref h0), (2, .int x2), (4, .int x4), (5, .int x5), (6, .int x6)] → W p l e ({ frames := 4, cells := 0, slots := 0, locals := 104 } : Room) s m args below meth c H locs 0 0 (MQ below (gQv D cy A (w10 cy h0 a0 out)) args s 0 0 A) (F0 m 92 ls []) := by
  obtain ⟨hx, hb, hr, hml, hown, hts, hlk⟩ := id C
  have hown : s.vm.findClass RX10 = some m.cls := hown
  have hk_68 := hts _ (List.mem_cons_of_mem _ fl_RX10_68)
  have hk_42 := hts _ (List.mem_cons_of_mem _ fl_RX10_42)
  intro n_92
  induction n_92 with
  | zero => intro u0 x2 x4 x5 x6 hf; exact op_no hf
  | succ n_92 ih_92 =>
    intro u0 x2 x4 x5 x6 hf H locs ls hP hD hS hl
    rw [f_X10_layTongue_L92] at hf
    refine lv_iload hx hb dX10_layTongue_92 (lv_at hl 4 rfl) ?_
    refine lv_iload hx hb dX10_layTongue_94 (lv_at hl 2 rfl) ?_
    refine lv_icmp_ge (tgt := 126) hx hb dX10_layTongue_96 (by decide) (fun c_96 => ?_) (fun c_96 => ?_)
    · have hf := op_pos c_96 hf
      exact b_X10_layTongue_L126 l D cy h0 a0 fu out C hA hK u0 x2 x4 hf _ _ ls hP hD hS (lv_sub hl [0, 1, 2] rfl)
    · have hf := op_neg c_96 hf
      refine lv_aload_n hx hb dX10_layTongue_99 rfl (lv_at hl 0 rfl) ?_
      refine va_get (ci := 9) (v := .ref (a0 26)) (C := RX10) (T := TX10) (N := 56) hx hb hts (fun w h => List.mem_cons_of_mem _ (inX10 w h)) hown hK hP 0 rfl rfl 26 (by decide) hk_68 (fun _ h9 => h9) rfl dX10_layTongue_100 ?_
      refine lv_iload hx hb dX10_layTongue_103 (lv_at hl 4 rfl) ?_
      refine lv_aload_n hx hb dX10_layTongue_105 rfl (lv_at hl 0 rfl) ?_
      refine va_get (ci := 9) (v := .ref (a0 15)) (C := RX10) (T := TX10) (N := 56) hx hb hts (fun w h => List.mem_cons_of_mem _ (inX10 w h)) hown hK hP 0 rfl rfl 15 (by decide) hk_42 (fun _ h9 => h9) rfl dX10_layTongue_106 ?_
      refine lv_sipush (v := 500) hx hb dX10_layTongue_109 (by decide) ?_
      refine lv_iload hx hb dX10_layTongue_112 (lv_at hl 3 rfl) ?_
      refine lv_imul hx hb dX10_layTongue_114 ?_
      refine lv_iload hx hb dX10_layTongue_115 (lv_at hl 4 rfl) ?_
      refine lv_iadd hx hb dX10_layTongue_117 ?_
      obtain ⟨hg_118, hf⟩ := op_if hf
      refine va_iald (f := u0.2 15) hx hb hK hP 9 0 rfl rfl (inb_in hg_118) dX10_layTongue_118 ?_
      obtain ⟨hg_119, hf⟩ := op_if hf
      refine va_iast (f := u0.2 26) (x := u0.2 15 ((500 * x5) + x6).toNatClampNeg) hx hb hK hP hD hS 16 0 rfl rfl (inb_in hg_119) dX10_layTongue_119 (fun H locs hP hD hS => ?_)
      have hP : va_P D vwCl (w10 cy h0 a0 (sA u0 26 x6.toNatClampNeg (u0.2 15 ((500 * x5) + x6).toNatClampNeg))) H := pP10_26 hP
      have hD : va_D A (w10 cy h0 a0 (sA u0 26 x6.toNatClampNeg (u0.2 15 ((500 * x5) + x6).toNatClampNeg))) := pD10_26 hD
      refine lv_iinc (v := x6 + 1) (lv' := [(6, .int (x6 + 1)), (0, .ref h0), (2, .int x2), (4, .int x4), (5, .int x5)]) hx hb dX10_layTongue_120 hl (k := 4) rfl rfl (by decide) rfl (fun ls hl => ?_)
      refine lv_goto (tgt := 92) hx hb dX10_layTongue_123 (by decide) ?_
      exact ih_92 (sA u0 26 x6.toNatClampNeg (u0.2 15 ((500 * x5) + x6).toNatClampNeg)) x2 x4 x5 (x6 + 1) hf _ _ ls hP hD hS (lv_sub hl [1, 2, 3, 4, 0] rfl)
def f_X10_layTongue_L78  (fu : Nat)  (u0 : St) (x2 : Int32) (t0 : Int32) : Option (St) := if inb t0 160 = true then (f_X10_layTongue_L92 fu fu u0 x2 (u0.2 16 t0.toNatClampNeg) t0 0) else none
set_option maxHeartbeats 4000000 in
set_option maxRecDepth 100000 in
theorem b_X10_layTongue_L78 {p : Program} {e : Env} {s : State} {m : MethodId} {args : Array Value} {below : List Frame} {meth : Method} {c : Code} {A : Nat → Prop} (l : Launch) (D : va_G) (cy : Nat → ClassId) (h0 : Nat) (a0 : Nat → Nat) (fu : Nat) (out : St) (C : gC p s m args meth c (WS yX10_layTongue cX10_layTongue 7 none) cX10_layTongue 7 none RX10) (hA : ∀ q : Nat, s.heap.size ≤ q → A q) (hK : va_K D vwCl (TY cy) s)  :
    ∀ (u0 : St) (x2 : Int32) (t0 : Int32), f_X10_layTongue_L78 fu u0 x2 t0 = some out → ∀ (H : Heap) (locs : List Loc) (ls : Array Slot), va_P D vwCl (w10 cy h0 a0 u0) H → va_D A (w10 cy h0 a0 u0) → va_S A s.heap H locs → lv_has ls 7 [(0, .ref h0), (2, .int x2)] → W p l e ({ frames := 4, cells := 0, slots := 0, locals := 104 } : Room) s m args below meth c H locs 0 0 (MQ below (gQv D cy A (w10 cy h0 a0 out)) args s 0 0 A) (F0 m 78 ls [.int t0]) := by
  obtain ⟨hx, hb, hr, hml, hown, hts, hlk⟩ := id C
  have hown : s.vm.findClass RX10 = some m.cls := hown
  have hk_45 := hts _ (List.mem_cons_of_mem _ fl_RX10_45)
  intro u0 x2 t0 hf H locs ls hP hD hS hl
  unfold f_X10_layTongue_L78 at hf
  refine lv_istore (lv' := [(5, .int t0), (0, .ref h0), (2, .int x2)]) hx hb dX10_layTongue_78 hl (by decide) rfl (fun ls hl => ?_)
  refine lv_aload_n hx hb dX10_layTongue_80 rfl (lv_at hl 1 rfl) ?_
  refine va_get (ci := 9) (v := .ref (a0 16)) (C := RX10) (T := TX10) (N := 56) hx hb hts (fun w h => List.mem_cons_of_mem _ (inX10 w h)) hown hK hP 0 rfl rfl 16 (by decide) hk_45 (fun _ h9 => h9) rfl dX10_layTongue_81 ?_
  refine lv_iload hx hb dX10_layTongue_84 (lv_at hl 0 rfl) ?_
  obtain ⟨hg_86, hf⟩ := op_if hf
  refine va_iald (f := u0.2 16) hx hb hK hP 10 0 rfl rfl (inb_in hg_86) dX10_layTongue_86 ?_
  refine lv_istore (lv' := [(4, .int (u0.2 16 t0.toNatClampNeg)), (5, .int t0), (0, .ref h0), (2, .int x2)]) hx hb dX10_layTongue_87 hl (by decide) rfl (fun ls hl => ?_)
  refine lv_iconst (v := 0) hx hb dX10_layTongue_89 (by decide) ?_
  refine lv_istore (lv' := [(6, .int 0), (4, .int (u0.2 16 t0.toNatClampNeg)), (5, .int t0), (0, .ref h0), (2, .int x2)]) hx hb dX10_layTongue_90 hl (by decide) rfl (fun ls hl => ?_)
  exact b_X10_layTongue_L92 l D cy h0 a0 fu out C hA hK fu u0 x2 (u0.2 16 t0.toNatClampNeg) t0 0 hf _ _ ls hP hD hS (lv_sub hl [3, 4, 1, 2, 0] rfl)
def f_X10_layTongue (fu : Nat)  (s0 : St) (p1 : Int32) (p2 : Int32) : Option (St) := if inb ((4 * p1) + p2) 160 = true then (if (s0.2 19 ((4 * p1) + p2).toNatClampNeg) = 0 then (if inb ((4 * p1) + p2) 160 = true then (if (s0.2 17 ((4 * p1) + p2).toNatClampNeg) = 0 then (f_X10_layTongue_L78 fu s0 p2 (4 * p1)) else (f_X10_layTongue_L78 fu s0 p2 ((4 * p1) + p2))) else none) else (if inb ((4 * p1) + p2) 160 = true then (f_X10_layTongue_L26 fu fu s0 p2 ((4 * p1) + p2) (s0.2 21 ((4 * p1) + p2).toNatClampNeg) 0) else none)) else none
theorem hdX10_layTongue : yX10_layTongue.cls = RX10 ∧ yX10_layTongue.cls ≠ "java/lang/invoke/MethodHandle" ∧ yX10_layTongue.cls ≠ "java/lang/invoke/VarHandle" ∧ (parseMethodDescriptor yX10_layTongue.desc).map (fun d => d.parameters.length) = some 2 := by decide +kernel
set_option maxHeartbeats 4000000 in
set_option maxRecDepth 100000 in
theorem c_X10_layTongue (l : Launch) (D : va_G) (cy : Nat → ClassId) (h0 : Nat) (a0 : Nat → Nat) (s0 : St) (sz fu : Nat) (p1 : Int32) (p2 : Int32) (out : St) (hf : f_X10_layTongue fu s0 p1 p2 = some out) :
    Met l yX10_layTongue (WS yX10_layTongue cX10_layTongue 7 none) ({ frames := 4, cells := 0, slots := 0, locals := 104 } : Room) (va_Pc [.ref h0, .int p1, .int p2] (gP D cy sz (w10 cy h0 a0 s0))) ((fun A : Nat → Prop => gQv D cy A (w10 cy h0 a0 out)) (va_A (w10 cy h0 a0 s0) sz)) 0 0 (va_A (w10 cy h0 a0 s0) sz) := by
  refine g_met (cc := cX10_layTongue) (maxL := 7) (ret := none) (fun A : Nat → Prop => gQv D cy A (w10 cy h0 a0 out)) (by decide +kernel) rfl (Nat.le_of_ble_eq_true rfl) ?_
  intro p e s m below meth c A C hA hK hP hD ls hl
  obtain ⟨hx, hb, hr, hml, hown, hts, hlk⟩ := id C
  have hown : s.vm.findClass RX10 = some m.cls := hown
  have hS : va_S A s.heap s.heap [] := va_S.rf
  have hl : lv_has ls 7 [(0, .ref h0), (1, .int p1), (2, .int p2)] := hl
  have hk_55 := hts _ (List.mem_cons_of_mem _ fl_RX10_55)
  have hk_48 := hts _ (List.mem_cons_of_mem _ fl_RX10_48)
  have hk_61 := hts _ (List.mem_cons_of_mem _ fl_RX10_61)
  unfold f_X10_layTongue at hf
  refine lv_iconst (v := 4) hx hb dX10_layTongue_0 (by decide) ?_
  refine lv_iload_n hx hb dX10_layTongue_1 rfl (lv_at hl 1 rfl) ?_
  refine lv_imul hx hb dX10_layTongue_2 ?_
  refine lv_iload_n hx hb dX10_layTongue_3 rfl (lv_at hl 2 rfl) ?_
  refine lv_iadd hx hb dX10_layTongue_4 ?_
  refine lv_istore_n (lv' := [(3, .int ((4 * p1) + p2)), (0, .ref h0), (1, .int p1), (2, .int p2)]) hx hb dX10_layTongue_5 rfl hl (by decide) rfl (fun ls hl => ?_)
  refine lv_aload_n hx hb dX10_layTongue_6 rfl (lv_at hl 1 rfl) ?_
  refine va_get (ci := 9) (v := .ref (a0 19)) (C := RX10) (T := TX10) (N := 56) hx hb hts (fun w h => List.mem_cons_of_mem _ (inX10 w h)) hown hK hP 0 rfl rfl 19 (by decide) hk_55 (fun _ h9 => h9) rfl dX10_layTongue_7 ?_
  refine lv_iload_n hx hb dX10_layTongue_10 rfl (lv_at hl 0 rfl) ?_
  obtain ⟨hg_11, hf⟩ := op_if hf
  refine va_zald (f := s0.2 19) hx hb hK hP 13 2 rfl rfl (inb_in hg_11) dX10_layTongue_11 ?_
  refine lv_if_eq (tgt := 62) hx hb dX10_layTongue_12 (by decide) (fun c_12 => ?_) (fun c_12 => ?_)
  · have hf := op_pos c_12 hf
    refine lv_aload_n hx hb dX10_layTongue_62 rfl (lv_at hl 1 rfl) ?_
    refine va_get (ci := 9) (v := .ref (a0 17)) (C := RX10) (T := TX10) (N := 56) hx hb hts (fun w h => List.mem_cons_of_mem _ (inX10 w h)) hown hK hP 0 rfl rfl 17 (by decide) hk_48 (fun _ h9 => h9) rfl dX10_layTongue_63 ?_
    refine lv_iload_n hx hb dX10_layTongue_66 rfl (lv_at hl 0 rfl) ?_
    obtain ⟨hg_67, hf⟩ := op_if hf
    refine va_zald (f := s0.2 17) hx hb hK hP 11 2 rfl rfl (inb_in hg_67) dX10_layTongue_67 ?_
    refine lv_if_eq (tgt := 75) hx hb dX10_layTongue_68 (by decide) (fun c_68 => ?_) (fun c_68 => ?_)
    · have hf := op_pos c_68 hf
      refine lv_iconst (v := 4) hx hb dX10_layTongue_75 (by decide) ?_
      refine lv_iload_n hx hb dX10_layTongue_76 rfl (lv_at hl 2 rfl) ?_
      refine lv_imul hx hb dX10_layTongue_77 ?_
      exact b_X10_layTongue_L78 l D cy h0 a0 fu out C hA hK s0 p2 (4 * p1) hf _ _ ls hP hD hS (lv_sub hl [1, 3] rfl)
    · have hf := op_neg c_68 hf
      refine lv_iload_n hx hb dX10_layTongue_71 rfl (lv_at hl 0 rfl) ?_
      refine lv_goto (tgt := 78) hx hb dX10_layTongue_72 (by decide) ?_
      exact b_X10_layTongue_L78 l D cy h0 a0 fu out C hA hK s0 p2 ((4 * p1) + p2) hf _ _ ls hP hD hS (lv_sub hl [1, 3] rfl)
  · have hf := op_neg c_12 hf
    refine lv_aload_n hx hb dX10_layTongue_15 rfl (lv_at hl 1 rfl) ?_
    refine va_get (ci := 9) (v := .ref (a0 21)) (C := RX10) (T := TX10) (N := 56) hx hb hts (fun w h => List.mem_cons_of_mem _ (inX10 w h)) hown hK hP 0 rfl rfl 21 (by decide) hk_61 (fun _ h9 => h9) rfl dX10_layTongue_16 ?_
    refine lv_iload_n hx hb dX10_layTongue_19 rfl (lv_at hl 0 rfl) ?_
    obtain ⟨hg_20, hf⟩ := op_if hf
    refine va_iald (f := s0.2 21) hx hb hK hP 15 0 rfl rfl (inb_in hg_20) dX10_layTongue_20 ?_
    refine lv_istore (lv' := [(4, .int (s0.2 21 ((4 * p1) + p2).toNatClampNeg)), (3, .int ((4 * p1) + p2)), (0, .ref h0), (1, .int p1), (2, .int p2)]) hx hb dX10_layTongue_21 hl (by decide) rfl (fun ls hl => ?_)
    refine lv_iconst (v := 0) hx hb dX10_layTongue_23 (by decide) ?_
    refine lv_istore (lv' := [(5, .int 0), (4, .int (s0.2 21 ((4 * p1) + p2).toNatClampNeg)), (3, .int ((4 * p1) + p2)), (0, .ref h0), (1, .int p1), (2, .int p2)]) hx hb dX10_layTongue_24 hl (by decide) rfl (fun ls hl => ?_)
    exact b_X10_layTongue_L26 l D cy h0 a0 fu out C hA hK fu s0 p2 ((4 * p1) + p2) (s0.2 21 ((4 * p1) + p2).toNatClampNeg) 0 hf _ _ ls hP hD hS (lv_sub hl [3, 5, 2, 1, 0] rfl)
