def f_X10_text_L157 (k_102 : St → Int32 → Option (Int32 × St)) (fu : Nat)  (u0 : St) (x2 : Int32) (t0 : Int32) (t1 : Int32) : Option (Int32 × St) := if inb t1 4 = true then (k_102 (sA u0 5 t1.toNatClampNeg t0) (x2 + 1)) else none
set_option maxHeartbeats 4000000 in
set_option maxRecDepth 100000 in
theorem b_X10_text_L157 {p : Program} {e : Env} {s : State} {m : MethodId} {args : Array Value} {below : List Frame} {meth : Method} {c : Code} {A : Nat → Prop} (l : Launch) (D : va_G) (cy : Nat → ClassId) (h0 : Nat) (a0 : Nat → Nat) (fu : Nat) (out : Int32 × St) (C : gC p s m args meth c (WS yX10_text cX10_text 4 (some .int)) cX10_text 4 (some .int) RX10) (hA : ∀ q : Nat, s.heap.size ≤ q → A q) (hK : va_K D vwCl (TY cy) s) (k_102 : St → Int32 → Option (Int32 × St)) (hk_102 : ∀ (u0 : St) (x2 : Int32), k_102 u0 x2 = some out → ∀ (H : Heap) (locs : List Loc) (ls : Array Slot), va_P D vwCl (w10 cy h0 a0 u0) H → va_D A (w10 cy h0 a0 u0) → va_S A s.heap H locs → lv_has ls 4 [(0, .ref h0), (2, .int x2)] → W p l e ({ frames := 7, cells := 0, slots := 0, locals := 172 } : Room) s m args below meth c H locs 0 0 (MQ below (gQi D cy A out.1 (w10 cy h0 a0 out.2)) args s 0 0 A) (F0 m 102 ls [])) :
    ∀ (u0 : St) (x2 : Int32) (t0 : Int32) (t1 : Int32), f_X10_text_L157 k_102 fu u0 x2 t0 t1 = some out → ∀ (H : Heap) (locs : List Loc) (ls : Array Slot), va_P D vwCl (w10 cy h0 a0 u0) H → va_D A (w10 cy h0 a0 u0) → va_S A s.heap H locs → lv_has ls 4 [(0, .ref h0), (2, .int x2)] → W p l e ({ frames := 7, cells := 0, slots := 0, locals := 172 } : Room) s m args below meth c H locs 0 0 (MQ below (gQi D cy A out.1 (w10 cy h0 a0 out.2)) args s 0 0 A) (F0 m 157 ls [.int t0, .int t1, .ref (a0 5)]) := by
  obtain ⟨hx, hb, hr, hml, hown, hts, hlk⟩ := id C
  have hown : s.vm.findClass RX10 = some m.cls := hown
  intro u0 x2 t0 t1 hf H locs ls hP hD hS hl
  unfold f_X10_text_L157 at hf
  obtain ⟨hg_157, hf⟩ := op_if hf
  refine va_iast (f := u0.2 5) (x := t0) hx hb hK hP hD hS 3 0 rfl rfl (inb_in hg_157) dX10_text_157 (fun H locs hP hD hS => ?_)
  have hP : va_P D vwCl (w10 cy h0 a0 (sA u0 5 t1.toNatClampNeg t0)) H := pP10_5 hP
  have hD : va_D A (w10 cy h0 a0 (sA u0 5 t1.toNatClampNeg t0)) := pD10_5 hD
  refine lv_iinc (v := x2 + 1) (lv' := [(2, .int (x2 + 1)), (0, .ref h0)]) hx hb dX10_text_158 hl (k := 1) rfl rfl (by decide) rfl (fun ls hl => ?_)
  refine lv_goto (tgt := 102) hx hb dX10_text_161 (by decide) ?_
  exact hk_102 (sA u0 5 t1.toNatClampNeg t0) (x2 + 1) hf _ _ ls hP hD hS (lv_sub hl [1, 0] rfl)
def f_X10_text_L132 (k_102 : St → Int32 → Option (Int32 × St)) (fu : Nat)  (u0 : St) (x2 : Int32) (t0 : Int32) (t1 : Int32) : Option (Int32 × St) := if inb t1 4 = true then (if inb x2 4 = true then (if (u0.2 43 x2.toNatClampNeg) ≤ 0 then (f_X10_text_L157 k_102 fu (sA u0 4 t1.toNatClampNeg t0) x2 4 x2) else (if inb x2 4 = true then (f_X10_text_L157 k_102 fu (sA u0 4 t1.toNatClampNeg t0) x2 (u0.2 43 x2.toNatClampNeg) x2) else none)) else none) else none
set_option maxHeartbeats 4000000 in
set_option maxRecDepth 100000 in
theorem b_X10_text_L132 {p : Program} {e : Env} {s : State} {m : MethodId} {args : Array Value} {below : List Frame} {meth : Method} {c : Code} {A : Nat → Prop} (l : Launch) (D : va_G) (cy : Nat → ClassId) (h0 : Nat) (a0 : Nat → Nat) (fu : Nat) (out : Int32 × St) (C : gC p s m args meth c (WS yX10_text cX10_text 4 (some .int)) cX10_text 4 (some .int) RX10) (hA : ∀ q : Nat, s.heap.size ≤ q → A q) (hK : va_K D vwCl (TY cy) s) (k_102 : St → Int32 → Option (Int32 × St)) (hk_102 : ∀ (u0 : St) (x2 : Int32), k_102 u0 x2 = some out → ∀ (H : Heap) (locs : List Loc) (ls : Array Slot), va_P D vwCl (w10 cy h0 a0 u0) H → va_D A (w10 cy h0 a0 u0) → va_S A s.heap H locs → lv_has ls 4 [(0, .ref h0), (2, .int x2)] → W p l e ({ frames := 7, cells := 0, slots := 0, locals := 172 } : Room) s m args below meth c H locs 0 0 (MQ below (gQi D cy A out.1 (w10 cy h0 a0 out.2)) args s 0 0 A) (F0 m 102 ls [])) :
    ∀ (u0 : St) (x2 : Int32) (t0 : Int32) (t1 : Int32), f_X10_text_L132 k_102 fu u0 x2 t0 t1 = some out → ∀ (H : Heap) (locs : List Loc) (ls : Array Slot), va_P D vwCl (w10 cy h0 a0 u0) H → va_D A (w10 cy h0 a0 u0) → va_S A s.heap H locs → lv_has ls 4 [(0, .ref h0), (2, .int x2)] → W p l e ({ frames := 7, cells := 0, slots := 0, locals := 172 } : Room) s m args below meth c H locs 0 0 (MQ below (gQi D cy A out.1 (w10 cy h0 a0 out.2)) args s 0 0 A) (F0 m 132 ls [.int t0, .int t1, .ref (a0 4)]) := by
  obtain ⟨hx, hb, hr, hml, hown, hts, hlk⟩ := id C
  have hown : s.vm.findClass RX10 = some m.cls := hown
  have hk_20 := hts _ (List.mem_cons_of_mem _ fl_RX10_20)
  have hk_89 := hts _ (List.mem_cons_of_mem _ fl_RX10_89)
  intro u0 x2 t0 t1 hf H locs ls hP hD hS hl
  unfold f_X10_text_L132 at hf
  obtain ⟨hg_132, hf⟩ := op_if hf
  refine va_iast (f := u0.2 4) (x := t0) hx hb hK hP hD hS 2 0 rfl rfl (inb_in hg_132) dX10_text_132 (fun H locs hP hD hS => ?_)
  have hP : va_P D vwCl (w10 cy h0 a0 (sA u0 4 t1.toNatClampNeg t0)) H := pP10_4 hP
  have hD : va_D A (w10 cy h0 a0 (sA u0 4 t1.toNatClampNeg t0)) := pD10_4 hD
  refine lv_aload_n hx hb dX10_text_133 rfl (lv_at hl 0 rfl) ?_
  refine va_get (ci := 9) (v := .ref (a0 5)) (C := RX10) (T := TX10) (N := 56) hx hb hts (fun w h => List.mem_cons_of_mem _ (inX10 w h)) hown hK hP 0 rfl rfl 5 (by decide) hk_20 (fun _ h9 => h9) rfl dX10_text_134 ?_
  refine lv_iload_n hx hb dX10_text_137 rfl (lv_at hl 1 rfl) ?_
  refine lv_aload_n hx hb dX10_text_138 rfl (lv_at hl 0 rfl) ?_
  refine va_get (ci := 9) (v := .ref (a0 43)) (C := RX10) (T := TX10) (N := 56) hx hb hts (fun w h => List.mem_cons_of_mem _ (inX10 w h)) hown hK hP 0 rfl rfl 43 (by decide) hk_89 (fun _ h9 => h9) rfl dX10_text_139 ?_
  refine lv_iload_n hx hb dX10_text_142 rfl (lv_at hl 1 rfl) ?_
  obtain ⟨hg_143, hf⟩ := op_if hf
  refine va_iald (f := u0.2 43) hx hb hK hP 22 0 rfl rfl (inb_in hg_143) dX10_text_143 ?_
  refine lv_if_le (tgt := 156) hx hb dX10_text_144 (by decide) (fun c_144 => ?_) (fun c_144 => ?_)
  · have hf := op_pos c_144 hf
    refine lv_iconst (v := 4) hx hb dX10_text_156 (by decide) ?_
    exact b_X10_text_L157 l D cy h0 a0 fu out C hA hK k_102 hk_102 (sA u0 4 t1.toNatClampNeg t0) x2 4 x2 hf _ _ ls hP hD hS (lv_sub hl [0, 1] rfl)
  · have hf := op_neg c_144 hf
    refine lv_aload_n hx hb dX10_text_147 rfl (lv_at hl 0 rfl) ?_
    refine va_get (ci := 9) (v := .ref (a0 43)) (C := RX10) (T := TX10) (N := 56) hx hb hts (fun w h => List.mem_cons_of_mem _ (inX10 w h)) hown hK hP 0 rfl rfl 43 (by decide) hk_89 (fun _ h9 => h9) rfl dX10_text_148 ?_
    refine lv_iload_n hx hb dX10_text_151 rfl (lv_at hl 1 rfl) ?_
    obtain ⟨hg_152, hf⟩ := op_if hf
    refine va_iald (f := u0.2 43) hx hb hK hP 22 0 rfl rfl (inb_in hg_152) dX10_text_152 ?_
    refine lv_goto (tgt := 157) hx hb dX10_text_153 (by decide) ?_
    exact b_X10_text_L157 l D cy h0 a0 fu out C hA hK k_102 hk_102 (sA u0 4 t1.toNatClampNeg t0) x2 (u0.2 43 x2.toNatClampNeg) x2 hf _ _ ls hP hD hS (lv_sub hl [0, 1] rfl)
def f_X10_text_L309 (k_265 : St → Int32 → Option (Int32 × St)) (fu : Nat)  : Nat → St → Int32 → Int32 → Option (Int32 × St)
  | 0, _, _, _ => none
  | n_309 + 1, u0, x2, x3 => if inb x2 160 = true then (if (u0.2 16 x2.toNatClampNeg) ≤ x3 then (k_265 u0 (x2 + 1)) else (if 500 ≤ x3 then (k_265 u0 (x2 + 1)) else (if inb x2 160 = true then (if inb ((u0.2 52 x2.toNatClampNeg) + x3) 1500 = true then (if inb ((500 * x2) + x3) 80000 = true then (f_X10_text_L309 k_265 fu n_309 (sA u0 15 (((500 * x2) + x3).toNatClampNeg) (u0.2 0 ((u0.2 52 x2.toNatClampNeg) + x3).toNatClampNeg)) x2 (x3 + 1)) else none) else none) else none))) else none
set_option maxHeartbeats 4000000 in
set_option maxRecDepth 100000 in
theorem b_X10_text_L309 {p : Program} {e : Env} {s : State} {m : MethodId} {args : Array Value} {below : List Frame} {meth : Method} {c : Code} {A : Nat → Prop} (l : Launch) (D : va_G) (cy : Nat → ClassId) (h0 : Nat) (a0 : Nat → Nat) (fu : Nat) (out : Int32 × St) (C : gC p s m args meth c (WS yX10_text cX10_text 4 (some .int)) cX10_text 4 (some .int) RX10) (hA : ∀ q : Nat, s.heap.size ≤ q → A q) (hK : va_K D vwCl (TY cy) s) (k_265 : St → Int32 → Option (Int32 × St)) (hk_265 : ∀ (u0 : St) (x2 : Int32), k_265 u0 x2 = some out → ∀ (H : Heap) (locs : List Loc) (ls : Array Slot), va_P D vwCl (w10 cy h0 a0 u0) H → va_D A (w10 cy h0 a0 u0) → va_S A s.heap H locs → lv_has ls 4 [(0, .ref h0), (2, .int x2)] → W p l e ({ frames := 7, cells := 0, slots := 0, locals := 172 } : Room) s m args below meth c H locs 0 0 (MQ below (gQi D cy A out.1 (w10 cy h0 a0 out.2)) args s 0 0 A) (F0 m 265 ls [])) :
    ∀ (n_309 : Nat), ∀ (u0 : St) (x2 : Int32) (x3 : Int32), f_X10_text_L309 k_265 fu n_309 u0 x2 x3 = some out → ∀ (H : Heap) (locs : List Loc) (ls : Array Slot), va_P D vwCl (w10 cy h0 a0 u0) H → va_D A (w10 cy h0 a0 u0) → va_S A s.heap H locs → lv_has ls 4 [(0, .ref h0), (2, .int x2), (3, .int x3)] → W p l e ({ frames := 7, cells := 0, slots := 0, locals := 172 } : Room) s m args below meth c H locs 0 0 (MQ below (gQi D cy A out.1 (w10 cy h0 a0 out.2)) args s 0 0 A) (F0 m 309 ls []) := by
  obtain ⟨hx, hb, hr, hml, hown, hts, hlk⟩ := id C
  have hown : s.vm.findClass RX10 = some m.cls := hown
  have hk_45 := hts _ (List.mem_cons_of_mem _ fl_RX10_45)
  have hk_42 := hts _ (List.mem_cons_of_mem _ fl_RX10_42)
  have hk_7 := hts _ (List.mem_cons_of_mem _ fl_RX10_7)
  have hk_104 := hts _ (List.mem_cons_of_mem _ fl_RX10_104)
  intro n_309
  induction n_309 with
  | zero => intro u0 x2 x3 hf; exact op_no hf
  | succ n_309 ih_309 =>
    intro u0 x2 x3 hf H locs ls hP hD hS hl
    rw [f_X10_text_L309] at hf
    refine lv_iload_n hx hb dX10_text_309 rfl (lv_at hl 2 rfl) ?_
    refine lv_aload_n hx hb dX10_text_310 rfl (lv_at hl 0 rfl) ?_
    refine va_get (ci := 9) (v := .ref (a0 16)) (C := RX10) (T := TX10) (N := 56) hx hb hts (fun w h => List.mem_cons_of_mem _ (inX10 w h)) hown hK hP 0 rfl rfl 16 (by decide) hk_45 (fun _ h9 => h9) rfl dX10_text_311 ?_
    refine lv_iload_n hx hb dX10_text_314 rfl (lv_at hl 1 rfl) ?_
    obtain ⟨hg_315, hf⟩ := op_if hf
    refine va_iald (f := u0.2 16) hx hb hK hP 10 0 rfl rfl (inb_in hg_315) dX10_text_315 ?_
    refine lv_icmp_ge (tgt := 357) hx hb dX10_text_316 (by decide) (fun c_316 => ?_) (fun c_316 => ?_)
    · have hf := op_pos c_316 hf
      refine lv_iinc (v := x2 + 1) (lv' := [(2, .int (x2 + 1)), (0, .ref h0), (3, .int x3)]) hx hb dX10_text_357 hl (k := 1) rfl rfl (by decide) rfl (fun ls hl => ?_)
      refine lv_goto (tgt := 265) hx hb dX10_text_360 (by decide) ?_
      exact hk_265 u0 (x2 + 1) hf _ _ ls hP hD hS (lv_sub hl [1, 0] rfl)
    · have hf := op_neg c_316 hf
      refine lv_iload_n hx hb dX10_text_319 rfl (lv_at hl 2 rfl) ?_
      refine lv_sipush (v := 500) hx hb dX10_text_320 (by decide) ?_
      refine lv_icmp_ge (tgt := 357) hx hb dX10_text_323 (by decide) (fun c_323 => ?_) (fun c_323 => ?_)
      · have hf := op_pos c_323 hf
        refine lv_iinc (v := x2 + 1) (lv' := [(2, .int (x2 + 1)), (0, .ref h0), (3, .int x3)]) hx hb dX10_text_357 hl (k := 1) rfl rfl (by decide) rfl (fun ls hl => ?_)
        refine lv_goto (tgt := 265) hx hb dX10_text_360 (by decide) ?_
        exact hk_265 u0 (x2 + 1) hf _ _ ls hP hD hS (lv_sub hl [1, 0] rfl)
      · have hf := op_neg c_323 hf
        refine lv_aload_n hx hb dX10_text_326 rfl (lv_at hl 0 rfl) ?_
        refine va_get (ci := 9) (v := .ref (a0 15)) (C := RX10) (T := TX10) (N := 56) hx hb hts (fun w h => List.mem_cons_of_mem _ (inX10 w h)) hown hK hP 0 rfl rfl 15 (by decide) hk_42 (fun _ h9 => h9) rfl dX10_text_327 ?_
        refine lv_sipush (v := 500) hx hb dX10_text_330 (by decide) ?_
        refine lv_iload_n hx hb dX10_text_333 rfl (lv_at hl 1 rfl) ?_
        refine lv_imul hx hb dX10_text_334 ?_
        refine lv_iload_n hx hb dX10_text_335 rfl (lv_at hl 2 rfl) ?_
        refine lv_iadd hx hb dX10_text_336 ?_
        refine lv_aload_n hx hb dX10_text_337 rfl (lv_at hl 0 rfl) ?_
        refine va_get (ci := 9) (v := .ref (a0 0)) (C := RX10) (T := TX10) (N := 56) hx hb hts (fun w h => List.mem_cons_of_mem _ (inX10 w h)) hown hK hP 0 rfl rfl 0 (by decide) hk_7 (fun _ h9 => h9) rfl dX10_text_338 ?_
        refine lv_aload_n hx hb dX10_text_341 rfl (lv_at hl 0 rfl) ?_
        refine va_get (ci := 9) (v := .ref (a0 52)) (C := RX10) (T := TX10) (N := 56) hx hb hts (fun w h => List.mem_cons_of_mem _ (inX10 w h)) hown hK hP 0 rfl rfl 52 (by decide) hk_104 (fun _ h9 => h9) rfl dX10_text_342 ?_
        refine lv_iload_n hx hb dX10_text_345 rfl (lv_at hl 1 rfl) ?_
        obtain ⟨hg_346, hf⟩ := op_if hf
        refine va_iald (f := u0.2 52) hx hb hK hP 27 0 rfl rfl (inb_in hg_346) dX10_text_346 ?_
        refine lv_iload_n hx hb dX10_text_347 rfl (lv_at hl 2 rfl) ?_
        refine lv_iadd hx hb dX10_text_348 ?_
        obtain ⟨hg_349, hf⟩ := op_if hf
        refine va_iald (f := u0.2 0) hx hb hK hP 1 0 rfl rfl (inb_in hg_349) dX10_text_349 ?_
        obtain ⟨hg_350, hf⟩ := op_if hf
        refine va_iast (f := u0.2 15) (x := u0.2 0 ((u0.2 52 x2.toNatClampNeg) + x3).toNatClampNeg) hx hb hK hP hD hS 9 0 rfl rfl (inb_in hg_350) dX10_text_350 (fun H locs hP hD hS => ?_)
        have hP : va_P D vwCl (w10 cy h0 a0 (sA u0 15 (((500 * x2) + x3).toNatClampNeg) (u0.2 0 ((u0.2 52 x2.toNatClampNeg) + x3).toNatClampNeg))) H := pP10_15 hP
        have hD : va_D A (w10 cy h0 a0 (sA u0 15 (((500 * x2) + x3).toNatClampNeg) (u0.2 0 ((u0.2 52 x2.toNatClampNeg) + x3).toNatClampNeg))) := pD10_15 hD
        refine lv_iinc (v := x3 + 1) (lv' := [(3, .int (x3 + 1)), (0, .ref h0), (2, .int x2)]) hx hb dX10_text_351 hl (k := 2) rfl rfl (by decide) rfl (fun ls hl => ?_)
        refine lv_goto (tgt := 309) hx hb dX10_text_354 (by decide) ?_
        exact ih_309 (sA u0 15 (((500 * x2) + x3).toNatClampNeg) (u0.2 0 ((u0.2 52 x2.toNatClampNeg) + x3).toNatClampNeg)) x2 (x3 + 1) hf _ _ ls hP hD hS (lv_sub hl [1, 2, 0] rfl)
def f_X10_text_L294 (k_265 : St → Int32 → Option (Int32 × St)) (fu : Nat)  (u0 : St) (x2 : Int32) (t0 : Int32) (t1 : Int32) : Option (Int32 × St) := if inb t1 160 = true then (if isB t0 = true then (if inb x2 160 = true then (if inb x2 160 = true then (f_X10_text_L309 k_265 fu fu (sA (sA u0 17 t1.toNatClampNeg t0) 16 x2.toNatClampNeg (u0.2 53 x2.toNatClampNeg)) x2 0) else none) else none) else none) else none
set_option maxHeartbeats 4000000 in
set_option maxRecDepth 100000 in
theorem b_X10_text_L294 {p : Program} {e : Env} {s : State} {m : MethodId} {args : Array Value} {below : List Frame} {meth : Method} {c : Code} {A : Nat → Prop} (l : Launch) (D : va_G) (cy : Nat → ClassId) (h0 : Nat) (a0 : Nat → Nat) (fu : Nat) (out : Int32 × St) (C : gC p s m args meth c (WS yX10_text cX10_text 4 (some .int)) cX10_text 4 (some .int) RX10) (hA : ∀ q : Nat, s.heap.size ≤ q → A q) (hK : va_K D vwCl (TY cy) s) (k_265 : St → Int32 → Option (Int32 × St)) (hk_265 : ∀ (u0 : St) (x2 : Int32), k_265 u0 x2 = some out → ∀ (H : Heap) (locs : List Loc) (ls : Array Slot), va_P D vwCl (w10 cy h0 a0 u0) H → va_D A (w10 cy h0 a0 u0) → va_S A s.heap H locs → lv_has ls 4 [(0, .ref h0), (2, .int x2)] → W p l e ({ frames := 7, cells := 0, slots := 0, locals := 172 } : Room) s m args below meth c H locs 0 0 (MQ below (gQi D cy A out.1 (w10 cy h0 a0 out.2)) args s 0 0 A) (F0 m 265 ls [])) :
    ∀ (u0 : St) (x2 : Int32) (t0 : Int32) (t1 : Int32), f_X10_text_L294 k_265 fu u0 x2 t0 t1 = some out → ∀ (H : Heap) (locs : List Loc) (ls : Array Slot), va_P D vwCl (w10 cy h0 a0 u0) H → va_D A (w10 cy h0 a0 u0) → va_S A s.heap H locs → lv_has ls 4 [(0, .ref h0), (2, .int x2)] → W p l e ({ frames := 7, cells := 0, slots := 0, locals := 172 } : Room) s m args below meth c H locs 0 0 (MQ below (gQi D cy A out.1 (w10 cy h0 a0 out.2)) args s 0 0 A) (F0 m 294 ls [.int t0, .int t1, .ref (a0 17)]) := by
  obtain ⟨hx, hb, hr, hml, hown, hts, hlk⟩ := id C
  have hown : s.vm.findClass RX10 = some m.cls := hown
  have hk_45 := hts _ (List.mem_cons_of_mem _ fl_RX10_45)
  have hk_107 := hts _ (List.mem_cons_of_mem _ fl_RX10_107)
  intro u0 x2 t0 t1 hf H locs ls hP hD hS hl
  unfold f_X10_text_L294 at hf
  obtain ⟨hg_294, hf⟩ := op_if hf
  obtain ⟨hz_294, hf⟩ := op_if hf
  refine va_zast (f := u0.2 17) (x := t0) hx hb hK hP hD hS 11 2 rfl rfl (inb_in hg_294) dX10_text_294 (fun H locs hP hD hS => ?_)
  rw [isB_v hz_294] at hP hD
  have hP : va_P D vwCl (w10 cy h0 a0 (sA u0 17 t1.toNatClampNeg t0)) H := pP10_17 hP
  have hD : va_D A (w10 cy h0 a0 (sA u0 17 t1.toNatClampNeg t0)) := pD10_17 hD
  refine lv_aload_n hx hb dX10_text_295 rfl (lv_at hl 0 rfl) ?_
  refine va_get (ci := 9) (v := .ref (a0 16)) (C := RX10) (T := TX10) (N := 56) hx hb hts (fun w h => List.mem_cons_of_mem _ (inX10 w h)) hown hK hP 0 rfl rfl 16 (by decide) hk_45 (fun _ h9 => h9) rfl dX10_text_296 ?_
  refine lv_iload_n hx hb dX10_text_299 rfl (lv_at hl 1 rfl) ?_
  refine lv_aload_n hx hb dX10_text_300 rfl (lv_at hl 0 rfl) ?_
  refine va_get (ci := 9) (v := .ref (a0 53)) (C := RX10) (T := TX10) (N := 56) hx hb hts (fun w h => List.mem_cons_of_mem _ (inX10 w h)) hown hK hP 0 rfl rfl 53 (by decide) hk_107 (fun _ h9 => h9) rfl dX10_text_301 ?_
  refine lv_iload_n hx hb dX10_text_304 rfl (lv_at hl 1 rfl) ?_
  obtain ⟨hg_305, hf⟩ := op_if hf
  refine va_iald (f := u0.2 53) hx hb hK hP 28 0 rfl rfl (inb_in hg_305) dX10_text_305 ?_
  obtain ⟨hg_306, hf⟩ := op_if hf
  refine va_iast (f := (sA u0 17 t1.toNatClampNeg t0).2 16) (x := u0.2 53 x2.toNatClampNeg) hx hb hK hP hD hS 10 0 rfl rfl (inb_in hg_306) dX10_text_306 (fun H locs hP hD hS => ?_)
  have hP : va_P D vwCl (w10 cy h0 a0 (sA (sA u0 17 t1.toNatClampNeg t0) 16 x2.toNatClampNeg (u0.2 53 x2.toNatClampNeg))) H := pP10_16 hP
  have hD : va_D A (w10 cy h0 a0 (sA (sA u0 17 t1.toNatClampNeg t0) 16 x2.toNatClampNeg (u0.2 53 x2.toNatClampNeg))) := pD10_16 hD
  refine lv_iconst (v := 0) hx hb dX10_text_307 (by decide) ?_
  refine lv_istore_n (lv' := [(3, .int 0), (0, .ref h0), (2, .int x2)]) hx hb dX10_text_308 rfl hl (by decide) rfl (fun ls hl => ?_)
  exact b_X10_text_L309 l D cy h0 a0 fu out C hA hK k_265 hk_265 fu (sA (sA u0 17 t1.toNatClampNeg t0) 16 x2.toNatClampNeg (u0.2 53 x2.toNatClampNeg)) x2 0 hf _ _ ls hP hD hS (lv_sub hl [1, 2, 0] rfl)
def f_X10_text_L265  (fu : Nat)  : Nat → St → Int32 → Option (Int32 × St)
  | 0, _, _ => none
  | n_265 + 1, u0, x2 => if (4 * (u0.1 8)) ≤ x2 then ((f_X10_opens fu u0).bind (fun q_364 => some (q_364.1 8, q_364))) else (if inb x2 160 = true then (if (u0.2 53 x2.toNatClampNeg) ≤ 0 then (f_X10_text_L294 (f_X10_text_L265 fu n_265) fu u0 x2 0 x2) else (f_X10_text_L294 (f_X10_text_L265 fu n_265) fu u0 x2 1 x2)) else none)
set_option maxHeartbeats 4000000 in
set_option maxRecDepth 100000 in
theorem b_X10_text_L265 {p : Program} {e : Env} {s : State} {m : MethodId} {args : Array Value} {below : List Frame} {meth : Method} {c : Code} {A : Nat → Prop} (l : Launch) (D : va_G) (cy : Nat → ClassId) (h0 : Nat) (a0 : Nat → Nat) (fu : Nat) (out : Int32 × St) (C : gC p s m args meth c (WS yX10_text cX10_text 4 (some .int)) cX10_text 4 (some .int) RX10) (hA : ∀ q : Nat, s.heap.size ≤ q → A q) (hK : va_K D vwCl (TY cy) s)  :
    ∀ (n_265 : Nat), ∀ (u0 : St) (x2 : Int32), f_X10_text_L265 fu n_265 u0 x2 = some out → ∀ (H : Heap) (locs : List Loc) (ls : Array Slot), va_P D vwCl (w10 cy h0 a0 u0) H → va_D A (w10 cy h0 a0 u0) → va_S A s.heap H locs → lv_has ls 4 [(0, .ref h0), (2, .int x2)] → W p l e ({ frames := 7, cells := 0, slots := 0, locals := 172 } : Room) s m args below meth c H locs 0 0 (MQ below (gQi D cy A out.1 (w10 cy h0 a0 out.2)) args s 0 0 A) (F0 m 265 ls []) := by
  obtain ⟨hx, hb, hr, hml, hown, hts, hlk⟩ := id C
  have hown : s.vm.findClass RX10 = some m.cls := hown
  have hk_238 := hts _ (List.mem_cons_of_mem _ fl_RX10_238)
  have hk_48 := hts _ (List.mem_cons_of_mem _ fl_RX10_48)
  have hk_107 := hts _ (List.mem_cons_of_mem _ fl_RX10_107)
  intro n_265
  induction n_265 with
  | zero => intro u0 x2 hf; exact op_no hf
  | succ n_265 ih_265 =>
    intro u0 x2 hf H locs ls hP hD hS hl
    rw [f_X10_text_L265] at hf
    refine lv_iload_n hx hb dX10_text_265 rfl (lv_at hl 1 rfl) ?_
    refine lv_iconst (v := 4) hx hb dX10_text_266 (by decide) ?_
    refine lv_aload_n hx hb dX10_text_267 rfl (lv_at hl 0 rfl) ?_
    refine va_get (ci := 9) (v := .int (u0.1 8)) (C := RX10) (T := TX10) (N := 56) hx hb hts (fun w h => List.mem_cons_of_mem _ (inX10 w h)) hown hK hP 0 rfl rfl 8 (by decide) hk_238 (fun _ h9 => h9) rfl dX10_text_268 ?_
    refine lv_imul hx hb dX10_text_271 ?_
    refine lv_icmp_ge (tgt := 363) hx hb dX10_text_272 (by decide) (fun c_272 => ?_) (fun c_272 => ?_)
    · have hf := op_pos c_272 hf
      refine lv_aload_n hx hb dX10_text_363 rfl (lv_at hl 0 rfl) ?_
      obtain ⟨q_364, hc_364, hf⟩ := op_bind hf
      refine g_callVv (As := []) (rest := []) (w2 := w10 cy h0 a0 q_364) ⟨hx, hb, hml, hown, hts⟩ (c_X10_opens l D cy h0 a0 u0 _ fu _ hc_364) (cwV 0 hts (gi_V ml_RX10_244 im_X10_opens se_X10_opens in_RX10 cd_X10_opens) rfl rfl rfl hdX10_opens ⟨Nat.le_of_ble_eq_true rfl, Nat.le_of_ble_eq_true rfl⟩) (va_recv hK hP (ci := 9) (q0 := 0) rfl rfl) rfl hl.1 rfl (Nat.le_of_ble_eq_true rfl) dX10_text_364 hK hP hD hS hA [0, 1, 2, 3, 4, 5, 6, 7, 8, 9, 10, 11, 12, 13, 14, 15, 16, 17, 18, 19, 20, 21, 22, 23, 24, 25, 26, 27, 28, 29] [] [0, 1, 2, 3, 4, 5, 6, 7, 8, 9, 10, 11, 12, 13, 14, 15, 16, 17, 18, 19, 20, 21, 22, 23, 24, 25, 26, 27, 28, 29] rfl rfl rfl rfl (by decide) rfl rfl (fun H locs hP hD hS => ?_)
      refine lv_aload_n hx hb dX10_text_367 rfl (lv_at hl 0 rfl) ?_
      refine va_get (ci := 9) (v := .int (q_364.1 8)) (C := RX10) (T := TX10) (N := 56) hx hb hts (fun w h => List.mem_cons_of_mem _ (inX10 w h)) hown hK hP 0 rfl rfl 8 (by decide) hk_238 (fun _ h9 => h9) rfl dX10_text_368 ?_
      rw [← Option.some.inj hf]
      exact g_iret hx hb hr hlk hK hP hD hS dX10_text_371
    · have hf := op_neg c_272 hf
      refine lv_aload_n hx hb dX10_text_275 rfl (lv_at hl 0 rfl) ?_
      refine va_get (ci := 9) (v := .ref (a0 17)) (C := RX10) (T := TX10) (N := 56) hx hb hts (fun w h => List.mem_cons_of_mem _ (inX10 w h)) hown hK hP 0 rfl rfl 17 (by decide) hk_48 (fun _ h9 => h9) rfl dX10_text_276 ?_
      refine lv_iload_n hx hb dX10_text_279 rfl (lv_at hl 1 rfl) ?_
      refine lv_aload_n hx hb dX10_text_280 rfl (lv_at hl 0 rfl) ?_
      refine va_get (ci := 9) (v := .ref (a0 53)) (C := RX10) (T := TX10) (N := 56) hx hb hts (fun w h => List.mem_cons_of_mem _ (inX10 w h)) hown hK hP 0 rfl rfl 53 (by decide) hk_107 (fun _ h9 => h9) rfl dX10_text_281 ?_
      refine lv_iload_n hx hb dX10_text_284 rfl (lv_at hl 1 rfl) ?_
      obtain ⟨hg_285, hf⟩ := op_if hf
      refine va_iald (f := u0.2 53) hx hb hK hP 28 0 rfl rfl (inb_in hg_285) dX10_text_285 ?_
      refine lv_if_le (tgt := 293) hx hb dX10_text_286 (by decide) (fun c_286 => ?_) (fun c_286 => ?_)
      · have hf := op_pos c_286 hf
        refine lv_iconst (v := 0) hx hb dX10_text_293 (by decide) ?_
        exact b_X10_text_L294 l D cy h0 a0 fu out C hA hK (f_X10_text_L265 fu n_265) ih_265 u0 x2 0 x2 hf _ _ ls hP hD hS (lv_sub hl [0, 1] rfl)
      · have hf := op_neg c_286 hf
        refine lv_iconst (v := 1) hx hb dX10_text_289 (by decide) ?_
        refine lv_goto (tgt := 294) hx hb dX10_text_290 (by decide) ?_
        exact b_X10_text_L294 l D cy h0 a0 fu out C hA hK (f_X10_text_L265 fu n_265) ih_265 u0 x2 1 x2 hf _ _ ls hP hD hS (lv_sub hl [0, 1] rfl)
def f_X10_text_L204  (fu : Nat)  : Nat → St → Int32 → Option (Int32 × St)
  | 0, _, _ => none
  | n_204 + 1, u0, x2 => if (u0.1 7) ≤ x2 then (f_X10_text_L265 fu fu u0 0) else (if inb x2 40 = true then (if inb x2 40 = true then (if inb x2 40 = true then (if inb x2 40 = true then (if inb x2 40 = true then (if (u0.2 48 x2.toNatClampNeg) < 0 then (f_X10_text_L204 fu n_204 (sA (sA u0 9 x2.toNatClampNeg (u0.2 47 x2.toNatClampNeg)) 10 x2.toNatClampNeg (u0.2 48 x2.toNatClampNeg)) (x2 + 1)) else (if inb x2 40 = true then (if inb (u0.2 48 x2.toNatClampNeg) 40 = true then (f_X10_text_L204 fu n_204 (sA (sA (sA u0 9 x2.toNatClampNeg (u0.2 47 x2.toNatClampNeg)) 10 x2.toNatClampNeg (u0.2 48 x2.toNatClampNeg)) 11 ((u0.2 48 x2.toNatClampNeg).toNatClampNeg) x2) (x2 + 1)) else none) else none)) else none) else none) else none) else none) else none)
set_option maxHeartbeats 4000000 in
set_option maxRecDepth 100000 in
theorem b_X10_text_L204 {p : Program} {e : Env} {s : State} {m : MethodId} {args : Array Value} {below : List Frame} {meth : Method} {c : Code} {A : Nat → Prop} (l : Launch) (D : va_G) (cy : Nat → ClassId) (h0 : Nat) (a0 : Nat → Nat) (fu : Nat) (out : Int32 × St) (C : gC p s m args meth c (WS yX10_text cX10_text 4 (some .int)) cX10_text 4 (some .int) RX10) (hA : ∀ q : Nat, s.heap.size ≤ q → A q) (hK : va_K D vwCl (TY cy) s)  :
    ∀ (n_204 : Nat), ∀ (u0 : St) (x2 : Int32), f_X10_text_L204 fu n_204 u0 x2 = some out → ∀ (H : Heap) (locs : List Loc) (ls : Array Slot), va_P D vwCl (w10 cy h0 a0 u0) H → va_D A (w10 cy h0 a0 u0) → va_S A s.heap H locs → lv_has ls 4 [(0, .ref h0), (2, .int x2)] → W p l e ({ frames := 7, cells := 0, slots := 0, locals := 172 } : Room) s m args below meth c H locs 0 0 (MQ below (gQi D cy A out.1 (w10 cy h0 a0 out.2)) args s 0 0 A) (F0 m 204 ls []) := by
  obtain ⟨hx, hb, hr, hml, hown, hts, hlk⟩ := id C
  have hown : s.vm.findClass RX10 = some m.cls := hown
  have hk_235 := hts _ (List.mem_cons_of_mem _ fl_RX10_235)
  have hk_26 := hts _ (List.mem_cons_of_mem _ fl_RX10_26)
  have hk_92 := hts _ (List.mem_cons_of_mem _ fl_RX10_92)
  have hk_29 := hts _ (List.mem_cons_of_mem _ fl_RX10_29)
  have hk_95 := hts _ (List.mem_cons_of_mem _ fl_RX10_95)
  have hk_32 := hts _ (List.mem_cons_of_mem _ fl_RX10_32)
  intro n_204
  induction n_204 with
  | zero => intro u0 x2 hf; exact op_no hf
  | succ n_204 ih_204 =>
    intro u0 x2 hf H locs ls hP hD hS hl
    rw [f_X10_text_L204] at hf
    refine lv_iload_n hx hb dX10_text_204 rfl (lv_at hl 1 rfl) ?_
    refine lv_aload_n hx hb dX10_text_205 rfl (lv_at hl 0 rfl) ?_
    refine va_get (ci := 9) (v := .int (u0.1 7)) (C := RX10) (T := TX10) (N := 56) hx hb hts (fun w h => List.mem_cons_of_mem _ (inX10 w h)) hown hK hP 0 rfl rfl 7 (by decide) hk_235 (fun _ h9 => h9) rfl dX10_text_206 ?_
    refine lv_icmp_ge (tgt := 263) hx hb dX10_text_209 (by decide) (fun c_209 => ?_) (fun c_209 => ?_)
    · have hf := op_pos c_209 hf
      refine lv_iconst (v := 0) hx hb dX10_text_263 (by decide) ?_
      refine lv_istore_n (lv' := [(2, .int 0), (0, .ref h0)]) hx hb dX10_text_264 rfl hl (by decide) rfl (fun ls hl => ?_)
      exact b_X10_text_L265 l D cy h0 a0 fu out C hA hK fu u0 0 hf _ _ ls hP hD hS (lv_sub hl [1, 0] rfl)
    · have hf := op_neg c_209 hf
      refine lv_aload_n hx hb dX10_text_212 rfl (lv_at hl 0 rfl) ?_
      refine va_get (ci := 9) (v := .ref (a0 9)) (C := RX10) (T := TX10) (N := 56) hx hb hts (fun w h => List.mem_cons_of_mem _ (inX10 w h)) hown hK hP 0 rfl rfl 9 (by decide) hk_26 (fun _ h9 => h9) rfl dX10_text_213 ?_
      refine lv_iload_n hx hb dX10_text_216 rfl (lv_at hl 1 rfl) ?_
      refine lv_aload_n hx hb dX10_text_217 rfl (lv_at hl 0 rfl) ?_
      refine va_get (ci := 9) (v := .ref (a0 47)) (C := RX10) (T := TX10) (N := 56) hx hb hts (fun w h => List.mem_cons_of_mem _ (inX10 w h)) hown hK hP 0 rfl rfl 47 (by decide) hk_92 (fun _ h9 => h9) rfl dX10_text_218 ?_
      refine lv_iload_n hx hb dX10_text_221 rfl (lv_at hl 1 rfl) ?_
      obtain ⟨hg_222, hf⟩ := op_if hf
      refine va_iald (f := u0.2 47) hx hb hK hP 23 0 rfl rfl (inb_in hg_222) dX10_text_222 ?_
      obtain ⟨hg_223, hf⟩ := op_if hf
      refine va_iast (f := u0.2 9) (x := u0.2 47 x2.toNatClampNeg) hx hb hK hP hD hS 4 0 rfl rfl (inb_in hg_223) dX10_text_223 (fun H locs hP hD hS => ?_)
      have hP : va_P D vwCl (w10 cy h0 a0 (sA u0 9 x2.toNatClampNeg (u0.2 47 x2.toNatClampNeg))) H := pP10_9 hP
      have hD : va_D A (w10 cy h0 a0 (sA u0 9 x2.toNatClampNeg (u0.2 47 x2.toNatClampNeg))) := pD10_9 hD
      refine lv_aload_n hx hb dX10_text_224 rfl (lv_at hl 0 rfl) ?_
      refine va_get (ci := 9) (v := .ref (a0 10)) (C := RX10) (T := TX10) (N := 56) hx hb hts (fun w h => List.mem_cons_of_mem _ (inX10 w h)) hown hK hP 0 rfl rfl 10 (by decide) hk_29 (fun _ h9 => h9) rfl dX10_text_225 ?_
      refine lv_iload_n hx hb dX10_text_228 rfl (lv_at hl 1 rfl) ?_
      refine lv_aload_n hx hb dX10_text_229 rfl (lv_at hl 0 rfl) ?_
      refine va_get (ci := 9) (v := .ref (a0 48)) (C := RX10) (T := TX10) (N := 56) hx hb hts (fun w h => List.mem_cons_of_mem _ (inX10 w h)) hown hK hP 0 rfl rfl 48 (by decide) hk_95 (fun _ h9 => h9) rfl dX10_text_230 ?_
      refine lv_iload_n hx hb dX10_text_233 rfl (lv_at hl 1 rfl) ?_
      obtain ⟨hg_234, hf⟩ := op_if hf
      refine va_iald (f := u0.2 48) hx hb hK hP 24 0 rfl rfl (inb_in hg_234) dX10_text_234 ?_
      obtain ⟨hg_235, hf⟩ := op_if hf
      refine va_iast (f := (sA u0 9 x2.toNatClampNeg (u0.2 47 x2.toNatClampNeg)).2 10) (x := u0.2 48 x2.toNatClampNeg) hx hb hK hP hD hS 5 0 rfl rfl (inb_in hg_235) dX10_text_235 (fun H locs hP hD hS => ?_)
      have hP : va_P D vwCl (w10 cy h0 a0 (sA (sA u0 9 x2.toNatClampNeg (u0.2 47 x2.toNatClampNeg)) 10 x2.toNatClampNeg (u0.2 48 x2.toNatClampNeg))) H := pP10_10 hP
      have hD : va_D A (w10 cy h0 a0 (sA (sA u0 9 x2.toNatClampNeg (u0.2 47 x2.toNatClampNeg)) 10 x2.toNatClampNeg (u0.2 48 x2.toNatClampNeg))) := pD10_10 hD
      refine lv_aload_n hx hb dX10_text_236 rfl (lv_at hl 0 rfl) ?_
      refine va_get (ci := 9) (v := .ref (a0 48)) (C := RX10) (T := TX10) (N := 56) hx hb hts (fun w h => List.mem_cons_of_mem _ (inX10 w h)) hown hK hP 0 rfl rfl 48 (by decide) hk_95 (fun _ h9 => h9) rfl dX10_text_237 ?_
      refine lv_iload_n hx hb dX10_text_240 rfl (lv_at hl 1 rfl) ?_
      obtain ⟨hg_241, hf⟩ := op_if hf
      refine va_iald (f := u0.2 48) hx hb hK hP 24 0 rfl rfl (inb_in hg_241) dX10_text_241 ?_
      refine lv_if_lt (tgt := 257) hx hb dX10_text_242 (by decide) (fun c_242 => ?_) (fun c_242 => ?_)
      · have hf := op_pos c_242 hf
        refine lv_iinc (v := x2 + 1) (lv' := [(2, .int (x2 + 1)), (0, .ref h0)]) hx hb dX10_text_257 hl (k := 1) rfl rfl (by decide) rfl (fun ls hl => ?_)
        refine lv_goto (tgt := 204) hx hb dX10_text_260 (by decide) ?_
        exact ih_204 (sA (sA u0 9 x2.toNatClampNeg (u0.2 47 x2.toNatClampNeg)) 10 x2.toNatClampNeg (u0.2 48 x2.toNatClampNeg)) (x2 + 1) hf _ _ ls hP hD hS (lv_sub hl [1, 0] rfl)
      · have hf := op_neg c_242 hf
        refine lv_aload_n hx hb dX10_text_245 rfl (lv_at hl 0 rfl) ?_
        refine va_get (ci := 9) (v := .ref (a0 11)) (C := RX10) (T := TX10) (N := 56) hx hb hts (fun w h => List.mem_cons_of_mem _ (inX10 w h)) hown hK hP 0 rfl rfl 11 (by decide) hk_32 (fun _ h9 => h9) rfl dX10_text_246 ?_
        refine lv_aload_n hx hb dX10_text_249 rfl (lv_at hl 0 rfl) ?_
        refine va_get (ci := 9) (v := .ref (a0 48)) (C := RX10) (T := TX10) (N := 56) hx hb hts (fun w h => List.mem_cons_of_mem _ (inX10 w h)) hown hK hP 0 rfl rfl 48 (by decide) hk_95 (fun _ h9 => h9) rfl dX10_text_250 ?_
        refine lv_iload_n hx hb dX10_text_253 rfl (lv_at hl 1 rfl) ?_
        obtain ⟨hg_254, hf⟩ := op_if hf
        refine va_iald (f := u0.2 48) hx hb hK hP 24 0 rfl rfl (inb_in hg_254) dX10_text_254 ?_
        refine lv_iload_n hx hb dX10_text_255 rfl (lv_at hl 1 rfl) ?_
        obtain ⟨hg_256, hf⟩ := op_if hf
        refine va_iast (f := (sA (sA u0 9 x2.toNatClampNeg (u0.2 47 x2.toNatClampNeg)) 10 x2.toNatClampNeg (u0.2 48 x2.toNatClampNeg)).2 11) (x := x2) hx hb hK hP hD hS 6 0 rfl rfl (inb_in hg_256) dX10_text_256 (fun H locs hP hD hS => ?_)
        have hP : va_P D vwCl (w10 cy h0 a0 (sA (sA (sA u0 9 x2.toNatClampNeg (u0.2 47 x2.toNatClampNeg)) 10 x2.toNatClampNeg (u0.2 48 x2.toNatClampNeg)) 11 ((u0.2 48 x2.toNatClampNeg).toNatClampNeg) x2)) H := pP10_11 hP
        have hD : va_D A (w10 cy h0 a0 (sA (sA (sA u0 9 x2.toNatClampNeg (u0.2 47 x2.toNatClampNeg)) 10 x2.toNatClampNeg (u0.2 48 x2.toNatClampNeg)) 11 ((u0.2 48 x2.toNatClampNeg).toNatClampNeg) x2)) := pD10_11 hD
        refine lv_iinc (v := x2 + 1) (lv' := [(2, .int (x2 + 1)), (0, .ref h0)]) hx hb dX10_text_257 hl (k := 1) rfl rfl (by decide) rfl (fun ls hl => ?_)
        refine lv_goto (tgt := 204) hx hb dX10_text_260 (by decide) ?_
        exact ih_204 (sA (sA (sA u0 9 x2.toNatClampNeg (u0.2 47 x2.toNatClampNeg)) 10 x2.toNatClampNeg (u0.2 48 x2.toNatClampNeg)) 11 ((u0.2 48 x2.toNatClampNeg).toNatClampNeg) x2) (x2 + 1) hf _ _ ls hP hD hS (lv_sub hl [1, 0] rfl)
def f_X10_text_L166  (fu : Nat)  : Nat → St → Int32 → Option (Int32 × St)
  | 0, _, _ => none
  | n_166 + 1, u0, x2 => if 8 ≤ x2 then (f_X10_text_L204 fu fu u0 0) else (if inb x2 8 = true then (if inb x2 8 = true then (if inb x2 8 = true then (if inb x2 8 = true then (f_X10_text_L166 fu n_166 (sA (sA u0 12 x2.toNatClampNeg (u0.2 49 x2.toNatClampNeg)) 13 x2.toNatClampNeg (u0.2 50 x2.toNatClampNeg)) (x2 + 1)) else none) else none) else none) else none)
set_option maxHeartbeats 4000000 in
set_option maxRecDepth 100000 in
theorem b_X10_text_L166 {p : Program} {e : Env} {s : State} {m : MethodId} {args : Array Value} {below : List Frame} {meth : Method} {c : Code} {A : Nat → Prop} (l : Launch) (D : va_G) (cy : Nat → ClassId) (h0 : Nat) (a0 : Nat → Nat) (fu : Nat) (out : Int32 × St) (C : gC p s m args meth c (WS yX10_text cX10_text 4 (some .int)) cX10_text 4 (some .int) RX10) (hA : ∀ q : Nat, s.heap.size ≤ q → A q) (hK : va_K D vwCl (TY cy) s)  :
    ∀ (n_166 : Nat), ∀ (u0 : St) (x2 : Int32), f_X10_text_L166 fu n_166 u0 x2 = some out → ∀ (H : Heap) (locs : List Loc) (ls : Array Slot), va_P D vwCl (w10 cy h0 a0 u0) H → va_D A (w10 cy h0 a0 u0) → va_S A s.heap H locs → lv_has ls 4 [(0, .ref h0), (2, .int x2)] → W p l e ({ frames := 7, cells := 0, slots := 0, locals := 172 } : Room) s m args below meth c H locs 0 0 (MQ below (gQi D cy A out.1 (w10 cy h0 a0 out.2)) args s 0 0 A) (F0 m 166 ls []) := by
  obtain ⟨hx, hb, hr, hml, hown, hts, hlk⟩ := id C
  have hown : s.vm.findClass RX10 = some m.cls := hown
  have hk_35 := hts _ (List.mem_cons_of_mem _ fl_RX10_35)
  have hk_98 := hts _ (List.mem_cons_of_mem _ fl_RX10_98)
  have hk_38 := hts _ (List.mem_cons_of_mem _ fl_RX10_38)
  have hk_101 := hts _ (List.mem_cons_of_mem _ fl_RX10_101)
  intro n_166
  induction n_166 with
  | zero => intro u0 x2 hf; exact op_no hf
  | succ n_166 ih_166 =>
    intro u0 x2 hf H locs ls hP hD hS hl
    rw [f_X10_text_L166] at hf
    refine lv_iload_n hx hb dX10_text_166 rfl (lv_at hl 1 rfl) ?_
    refine lv_bipush (v := 8) hx hb dX10_text_167 (by decide) ?_
    refine lv_icmp_ge (tgt := 202) hx hb dX10_text_169 (by decide) (fun c_169 => ?_) (fun c_169 => ?_)
    · have hf := op_pos c_169 hf
      refine lv_iconst (v := 0) hx hb dX10_text_202 (by decide) ?_
      refine lv_istore_n (lv' := [(2, .int 0), (0, .ref h0)]) hx hb dX10_text_203 rfl hl (by decide) rfl (fun ls hl => ?_)
      exact b_X10_text_L204 l D cy h0 a0 fu out C hA hK fu u0 0 hf _ _ ls hP hD hS (lv_sub hl [1, 0] rfl)
    · have hf := op_neg c_169 hf
      refine lv_aload_n hx hb dX10_text_172 rfl (lv_at hl 0 rfl) ?_
      refine va_get (ci := 9) (v := .ref (a0 12)) (C := RX10) (T := TX10) (N := 56) hx hb hts (fun w h => List.mem_cons_of_mem _ (inX10 w h)) hown hK hP 0 rfl rfl 12 (by decide) hk_35 (fun _ h9 => h9) rfl dX10_text_173 ?_
      refine lv_iload_n hx hb dX10_text_176 rfl (lv_at hl 1 rfl) ?_
      refine lv_aload_n hx hb dX10_text_177 rfl (lv_at hl 0 rfl) ?_
      refine va_get (ci := 9) (v := .ref (a0 49)) (C := RX10) (T := TX10) (N := 56) hx hb hts (fun w h => List.mem_cons_of_mem _ (inX10 w h)) hown hK hP 0 rfl rfl 49 (by decide) hk_98 (fun _ h9 => h9) rfl dX10_text_178 ?_
      refine lv_iload_n hx hb dX10_text_181 rfl (lv_at hl 1 rfl) ?_
      obtain ⟨hg_182, hf⟩ := op_if hf
      refine va_iald (f := u0.2 49) hx hb hK hP 25 0 rfl rfl (inb_in hg_182) dX10_text_182 ?_
      obtain ⟨hg_183, hf⟩ := op_if hf
      refine va_iast (f := u0.2 12) (x := u0.2 49 x2.toNatClampNeg) hx hb hK hP hD hS 7 0 rfl rfl (inb_in hg_183) dX10_text_183 (fun H locs hP hD hS => ?_)
      have hP : va_P D vwCl (w10 cy h0 a0 (sA u0 12 x2.toNatClampNeg (u0.2 49 x2.toNatClampNeg))) H := pP10_12 hP
      have hD : va_D A (w10 cy h0 a0 (sA u0 12 x2.toNatClampNeg (u0.2 49 x2.toNatClampNeg))) := pD10_12 hD
      refine lv_aload_n hx hb dX10_text_184 rfl (lv_at hl 0 rfl) ?_
      refine va_get (ci := 9) (v := .ref (a0 13)) (C := RX10) (T := TX10) (N := 56) hx hb hts (fun w h => List.mem_cons_of_mem _ (inX10 w h)) hown hK hP 0 rfl rfl 13 (by decide) hk_38 (fun _ h9 => h9) rfl dX10_text_185 ?_
      refine lv_iload_n hx hb dX10_text_188 rfl (lv_at hl 1 rfl) ?_
      refine lv_aload_n hx hb dX10_text_189 rfl (lv_at hl 0 rfl) ?_
      refine va_get (ci := 9) (v := .ref (a0 50)) (C := RX10) (T := TX10) (N := 56) hx hb hts (fun w h => List.mem_cons_of_mem _ (inX10 w h)) hown hK hP 0 rfl rfl 50 (by decide) hk_101 (fun _ h9 => h9) rfl dX10_text_190 ?_
      refine lv_iload_n hx hb dX10_text_193 rfl (lv_at hl 1 rfl) ?_
      obtain ⟨hg_194, hf⟩ := op_if hf
      refine va_iald (f := u0.2 50) hx hb hK hP 26 0 rfl rfl (inb_in hg_194) dX10_text_194 ?_
      obtain ⟨hg_195, hf⟩ := op_if hf
      refine va_iast (f := (sA u0 12 x2.toNatClampNeg (u0.2 49 x2.toNatClampNeg)).2 13) (x := u0.2 50 x2.toNatClampNeg) hx hb hK hP hD hS 8 0 rfl rfl (inb_in hg_195) dX10_text_195 (fun H locs hP hD hS => ?_)
      have hP : va_P D vwCl (w10 cy h0 a0 (sA (sA u0 12 x2.toNatClampNeg (u0.2 49 x2.toNatClampNeg)) 13 x2.toNatClampNeg (u0.2 50 x2.toNatClampNeg))) H := pP10_13 hP
      have hD : va_D A (w10 cy h0 a0 (sA (sA u0 12 x2.toNatClampNeg (u0.2 49 x2.toNatClampNeg)) 13 x2.toNatClampNeg (u0.2 50 x2.toNatClampNeg))) := pD10_13 hD
      refine lv_iinc (v := x2 + 1) (lv' := [(2, .int (x2 + 1)), (0, .ref h0)]) hx hb dX10_text_196 hl (k := 1) rfl rfl (by decide) rfl (fun ls hl => ?_)
      refine lv_goto (tgt := 166) hx hb dX10_text_199 (by decide) ?_
      exact ih_166 (sA (sA u0 12 x2.toNatClampNeg (u0.2 49 x2.toNatClampNeg)) 13 x2.toNatClampNeg (u0.2 50 x2.toNatClampNeg)) (x2 + 1) hf _ _ ls hP hD hS (lv_sub hl [1, 0] rfl)
def f_X10_text_L102  (fu : Nat)  : Nat → St → Int32 → Option (Int32 × St)
  | 0, _, _ => none
  | n_102 + 1, u0, x2 => if 4 ≤ x2 then (f_X10_text_L166 fu fu u0 0) else (if inb x2 4 = true then (if (u0.2 42 x2.toNatClampNeg) ≤ 0 then (f_X10_text_L132 (f_X10_text_L102 fu n_102) fu u0 x2 20 x2) else (if inb x2 4 = true then (f_X10_text_L132 (f_X10_text_L102 fu n_102) fu u0 x2 (u0.2 42 x2.toNatClampNeg) x2) else none)) else none)
set_option maxHeartbeats 4000000 in
set_option maxRecDepth 100000 in
theorem b_X10_text_L102 {p : Program} {e : Env} {s : State} {m : MethodId} {args : Array Value} {below : List Frame} {meth : Method} {c : Code} {A : Nat → Prop} (l : Launch) (D : va_G) (cy : Nat → ClassId) (h0 : Nat) (a0 : Nat → Nat) (fu : Nat) (out : Int32 × St) (C : gC p s m args meth c (WS yX10_text cX10_text 4 (some .int)) cX10_text 4 (some .int) RX10) (hA : ∀ q : Nat, s.heap.size ≤ q → A q) (hK : va_K D vwCl (TY cy) s)  :
    ∀ (n_102 : Nat), ∀ (u0 : St) (x2 : Int32), f_X10_text_L102 fu n_102 u0 x2 = some out → ∀ (H : Heap) (locs : List Loc) (ls : Array Slot), va_P D vwCl (w10 cy h0 a0 u0) H → va_D A (w10 cy h0 a0 u0) → va_S A s.heap H locs → lv_has ls 4 [(0, .ref h0), (2, .int x2)] → W p l e ({ frames := 7, cells := 0, slots := 0, locals := 172 } : Room) s m args below meth c H locs 0 0 (MQ below (gQi D cy A out.1 (w10 cy h0 a0 out.2)) args s 0 0 A) (F0 m 102 ls []) := by
  obtain ⟨hx, hb, hr, hml, hown, hts, hlk⟩ := id C
  have hown : s.vm.findClass RX10 = some m.cls := hown
  have hk_17 := hts _ (List.mem_cons_of_mem _ fl_RX10_17)
  have hk_86 := hts _ (List.mem_cons_of_mem _ fl_RX10_86)
  intro n_102
  induction n_102 with
  | zero => intro u0 x2 hf; exact op_no hf
  | succ n_102 ih_102 =>
    intro u0 x2 hf H locs ls hP hD hS hl
    rw [f_X10_text_L102] at hf
    refine lv_iload_n hx hb dX10_text_102 rfl (lv_at hl 1 rfl) ?_
    refine lv_iconst (v := 4) hx hb dX10_text_103 (by decide) ?_
    refine lv_icmp_ge (tgt := 164) hx hb dX10_text_104 (by decide) (fun c_104 => ?_) (fun c_104 => ?_)
    · have hf := op_pos c_104 hf
      refine lv_iconst (v := 0) hx hb dX10_text_164 (by decide) ?_
      refine lv_istore_n (lv' := [(2, .int 0), (0, .ref h0)]) hx hb dX10_text_165 rfl hl (by decide) rfl (fun ls hl => ?_)
      exact b_X10_text_L166 l D cy h0 a0 fu out C hA hK fu u0 0 hf _ _ ls hP hD hS (lv_sub hl [1, 0] rfl)
    · have hf := op_neg c_104 hf
      refine lv_aload_n hx hb dX10_text_107 rfl (lv_at hl 0 rfl) ?_
      refine va_get (ci := 9) (v := .ref (a0 4)) (C := RX10) (T := TX10) (N := 56) hx hb hts (fun w h => List.mem_cons_of_mem _ (inX10 w h)) hown hK hP 0 rfl rfl 4 (by decide) hk_17 (fun _ h9 => h9) rfl dX10_text_108 ?_
      refine lv_iload_n hx hb dX10_text_111 rfl (lv_at hl 1 rfl) ?_
      refine lv_aload_n hx hb dX10_text_112 rfl (lv_at hl 0 rfl) ?_
      refine va_get (ci := 9) (v := .ref (a0 42)) (C := RX10) (T := TX10) (N := 56) hx hb hts (fun w h => List.mem_cons_of_mem _ (inX10 w h)) hown hK hP 0 rfl rfl 42 (by decide) hk_86 (fun _ h9 => h9) rfl dX10_text_113 ?_
      refine lv_iload_n hx hb dX10_text_116 rfl (lv_at hl 1 rfl) ?_
      obtain ⟨hg_117, hf⟩ := op_if hf
      refine va_iald (f := u0.2 42) hx hb hK hP 21 0 rfl rfl (inb_in hg_117) dX10_text_117 ?_
      refine lv_if_le (tgt := 130) hx hb dX10_text_118 (by decide) (fun c_118 => ?_) (fun c_118 => ?_)
      · have hf := op_pos c_118 hf
        refine lv_bipush (v := 20) hx hb dX10_text_130 (by decide) ?_
        exact b_X10_text_L132 l D cy h0 a0 fu out C hA hK (f_X10_text_L102 fu n_102) ih_102 u0 x2 20 x2 hf _ _ ls hP hD hS (lv_sub hl [0, 1] rfl)
      · have hf := op_neg c_118 hf
        refine lv_aload_n hx hb dX10_text_121 rfl (lv_at hl 0 rfl) ?_
        refine va_get (ci := 9) (v := .ref (a0 42)) (C := RX10) (T := TX10) (N := 56) hx hb hts (fun w h => List.mem_cons_of_mem _ (inX10 w h)) hown hK hP 0 rfl rfl 42 (by decide) hk_86 (fun _ h9 => h9) rfl dX10_text_122 ?_
        refine lv_iload_n hx hb dX10_text_125 rfl (lv_at hl 1 rfl) ?_
        obtain ⟨hg_126, hf⟩ := op_if hf
        refine va_iald (f := u0.2 42) hx hb hK hP 21 0 rfl rfl (inb_in hg_126) dX10_text_126 ?_
        refine lv_goto (tgt := 132) hx hb dX10_text_127 (by decide) ?_
        exact b_X10_text_L132 l D cy h0 a0 fu out C hA hK (f_X10_text_L102 fu n_102) ih_102 u0 x2 (u0.2 42 x2.toNatClampNeg) x2 hf _ _ ls hP hD hS (lv_sub hl [0, 1] rfl)
def f_X10_text_L73  (fu : Nat)  (u0 : St) (t0 : Int32) : Option (Int32 × St) := f_X10_text_L102 fu fu (sF (sF (sF (sF u0 6 t0) 7 (u0.1 45)) 8 (u0.1 46)) 14 (u0.1 51)) 0
set_option maxHeartbeats 4000000 in
set_option maxRecDepth 100000 in
theorem b_X10_text_L73 {p : Program} {e : Env} {s : State} {m : MethodId} {args : Array Value} {below : List Frame} {meth : Method} {c : Code} {A : Nat → Prop} (l : Launch) (D : va_G) (cy : Nat → ClassId) (h0 : Nat) (a0 : Nat → Nat) (fu : Nat) (out : Int32 × St) (C : gC p s m args meth c (WS yX10_text cX10_text 4 (some .int)) cX10_text 4 (some .int) RX10) (hA : ∀ q : Nat, s.heap.size ≤ q → A q) (hK : va_K D vwCl (TY cy) s)  :
    ∀ (u0 : St) (t0 : Int32), f_X10_text_L73 fu u0 t0 = some out → ∀ (H : Heap) (locs : List Loc) (ls : Array Slot), va_P D vwCl (w10 cy h0 a0 u0) H → va_D A (w10 cy h0 a0 u0) → va_S A s.heap H locs → lv_has ls 4 [(0, .ref h0)] → W p l e ({ frames := 7, cells := 0, slots := 0, locals := 172 } : Room) s m args below meth c H locs 0 0 (MQ below (gQi D cy A out.1 (w10 cy h0 a0 out.2)) args s 0 0 A) (F0 m 73 ls [.int t0, .ref h0]) := by
  obtain ⟨hx, hb, hr, hml, hown, hts, hlk⟩ := id C
  have hown : s.vm.findClass RX10 = some m.cls := hown
  have hk_23 := hts _ (List.mem_cons_of_mem _ fl_RX10_23)
  have hk_205 := hts _ (List.mem_cons_of_mem _ fl_RX10_205)
  have hk_235 := hts _ (List.mem_cons_of_mem _ fl_RX10_235)
  have hk_214 := hts _ (List.mem_cons_of_mem _ fl_RX10_214)
  have hk_238 := hts _ (List.mem_cons_of_mem _ fl_RX10_238)
  have hk_217 := hts _ (List.mem_cons_of_mem _ fl_RX10_217)
  have hk_241 := hts _ (List.mem_cons_of_mem _ fl_RX10_241)
  intro u0 t0 hf H locs ls hP hD hS hl
  unfold f_X10_text_L73 at hf
  refine va_put (ci := 9) (v := .int t0) (ty := tyX10 6) (C := RX10) (T := TX10) (N := 56) hx hb hts (fun w h => List.mem_cons_of_mem _ (inX10 w h)) tyX10 tyX10_ok nmX10 hown hK hP hD hS 0 rfl rfl 6 (by decide) hk_23 (fun _ h9 => h9) rfl (tyX10_ok 6 (by decide)) rfl rfl (Nat.le_of_ble_eq_true rfl) dX10_text_73 (fun H locs hP hD hS => ?_)
  have hP : va_P D vwCl (w10 cy h0 a0 (sF u0 6 t0)) H := pP10_6 hP
  have hD : va_D A (w10 cy h0 a0 (sF u0 6 t0)) := pD10_6 hD
  refine lv_aload_n hx hb dX10_text_76 rfl (lv_at hl 0 rfl) ?_
  refine lv_aload_n hx hb dX10_text_77 rfl (lv_at hl 0 rfl) ?_
  refine va_get (ci := 9) (v := .int (u0.1 45)) (C := RX10) (T := TX10) (N := 56) hx hb hts (fun w h => List.mem_cons_of_mem _ (inX10 w h)) hown hK hP 0 rfl rfl 45 (by decide) hk_205 (fun _ h9 => h9) rfl dX10_text_78 ?_
  refine va_put (ci := 9) (v := .int (u0.1 45)) (ty := tyX10 7) (C := RX10) (T := TX10) (N := 56) hx hb hts (fun w h => List.mem_cons_of_mem _ (inX10 w h)) tyX10 tyX10_ok nmX10 hown hK hP hD hS 0 rfl rfl 7 (by decide) hk_235 (fun _ h9 => h9) rfl (tyX10_ok 7 (by decide)) rfl rfl (Nat.le_of_ble_eq_true rfl) dX10_text_81 (fun H locs hP hD hS => ?_)
  have hP : va_P D vwCl (w10 cy h0 a0 (sF (sF u0 6 t0) 7 (u0.1 45))) H := pP10_7 hP
  have hD : va_D A (w10 cy h0 a0 (sF (sF u0 6 t0) 7 (u0.1 45))) := pD10_7 hD
  refine lv_aload_n hx hb dX10_text_84 rfl (lv_at hl 0 rfl) ?_
  refine lv_aload_n hx hb dX10_text_85 rfl (lv_at hl 0 rfl) ?_
  refine va_get (ci := 9) (v := .int (u0.1 46)) (C := RX10) (T := TX10) (N := 56) hx hb hts (fun w h => List.mem_cons_of_mem _ (inX10 w h)) hown hK hP 0 rfl rfl 46 (by decide) hk_214 (fun _ h9 => h9) rfl dX10_text_86 ?_
  refine va_put (ci := 9) (v := .int (u0.1 46)) (ty := tyX10 8) (C := RX10) (T := TX10) (N := 56) hx hb hts (fun w h => List.mem_cons_of_mem _ (inX10 w h)) tyX10 tyX10_ok nmX10 hown hK hP hD hS 0 rfl rfl 8 (by decide) hk_238 (fun _ h9 => h9) rfl (tyX10_ok 8 (by decide)) rfl rfl (Nat.le_of_ble_eq_true rfl) dX10_text_89 (fun H locs hP hD hS => ?_)
  have hP : va_P D vwCl (w10 cy h0 a0 (sF (sF (sF u0 6 t0) 7 (u0.1 45)) 8 (u0.1 46))) H := pP10_8 hP
  have hD : va_D A (w10 cy h0 a0 (sF (sF (sF u0 6 t0) 7 (u0.1 45)) 8 (u0.1 46))) := pD10_8 hD
  refine lv_aload_n hx hb dX10_text_92 rfl (lv_at hl 0 rfl) ?_
  refine lv_aload_n hx hb dX10_text_93 rfl (lv_at hl 0 rfl) ?_
  refine va_get (ci := 9) (v := .int (u0.1 51)) (C := RX10) (T := TX10) (N := 56) hx hb hts (fun w h => List.mem_cons_of_mem _ (inX10 w h)) hown hK hP 0 rfl rfl 51 (by decide) hk_217 (fun _ h9 => h9) rfl dX10_text_94 ?_
  refine va_put (ci := 9) (v := .int (u0.1 51)) (ty := tyX10 14) (C := RX10) (T := TX10) (N := 56) hx hb hts (fun w h => List.mem_cons_of_mem _ (inX10 w h)) tyX10 tyX10_ok nmX10 hown hK hP hD hS 0 rfl rfl 14 (by decide) hk_241 (fun _ h9 => h9) rfl (tyX10_ok 14 (by decide)) rfl rfl (Nat.le_of_ble_eq_true rfl) dX10_text_97 (fun H locs hP hD hS => ?_)
  have hP : va_P D vwCl (w10 cy h0 a0 (sF (sF (sF (sF u0 6 t0) 7 (u0.1 45)) 8 (u0.1 46)) 14 (u0.1 51))) H := pP10_14 hP
  have hD : va_D A (w10 cy h0 a0 (sF (sF (sF (sF u0 6 t0) 7 (u0.1 45)) 8 (u0.1 46)) 14 (u0.1 51))) := pD10_14 hD
  refine lv_iconst (v := 0) hx hb dX10_text_100 (by decide) ?_
  refine lv_istore_n (lv' := [(2, .int 0), (0, .ref h0)]) hx hb dX10_text_101 rfl hl (by decide) rfl (fun ls hl => ?_)
  exact b_X10_text_L102 l D cy h0 a0 fu out C hA hK fu (sF (sF (sF (sF u0 6 t0) 7 (u0.1 45)) 8 (u0.1 46)) 14 (u0.1 51)) 0 hf _ _ ls hP hD hS (lv_sub hl [1, 0] rfl)
def f_X10_text (fu : Nat)  (s0 : St) (p1 : Int32) : Option (Int32 × St) := if p1 < 0 then (some ((-2), sF s0 2 0)) else (if p1 ≤ (s0.1 1) then ((f_X10_reads fu (sF (sF (sF (sF (sF s0 2 0) 34 p1) 1 0) 39 0) 40 (-1))).bind (fun q_41 => if q_41.1 = 0 then (some ((-1), q_41.2)) else (if (q_41.2.1 44) ≤ 0 then (f_X10_text_L73 fu (sF q_41.2 3 (q_41.2.1 41)) 4) else (f_X10_text_L73 fu (sF q_41.2 3 (q_41.2.1 41)) (q_41.2.1 44))))) else (some ((-2), sF s0 2 0)))
theorem hdX10_text : yX10_text.cls = RX10 ∧ yX10_text.cls ≠ "java/lang/invoke/MethodHandle" ∧ yX10_text.cls ≠ "java/lang/invoke/VarHandle" ∧ (parseMethodDescriptor yX10_text.desc).map (fun d => d.parameters.length) = some 1 := by decide +kernel
set_option maxHeartbeats 4000000 in
set_option maxRecDepth 100000 in
theorem c_X10_text (l : Launch) (D : va_G) (cy : Nat → ClassId) (h0 : Nat) (a0 : Nat → Nat) (s0 : St) (sz fu : Nat) (p1 : Int32) (out : Int32 × St) (hf : f_X10_text fu s0 p1 = some out) :
    Met l yX10_text (WS yX10_text cX10_text 4 (some .int)) ({ frames := 7, cells := 0, slots := 0, locals := 172 } : Room) (va_Pc [.ref h0, .int p1] (gP D cy sz (w10 cy h0 a0 s0))) ((fun A : Nat → Prop => gQi D cy A out.1 (w10 cy h0 a0 out.2)) (va_A (w10 cy h0 a0 s0) sz)) 0 0 (va_A (w10 cy h0 a0 s0) sz) := by
  refine g_met (cc := cX10_text) (maxL := 4) (ret := (some .int)) (fun A : Nat → Prop => gQi D cy A out.1 (w10 cy h0 a0 out.2)) (by decide +kernel) rfl (Nat.le_of_ble_eq_true rfl) ?_
  intro p e s m below meth c A C hA hK hP hD ls hl
  obtain ⟨hx, hb, hr, hml, hown, hts, hlk⟩ := id C
  have hown : s.vm.findClass RX10 = some m.cls := hown
  have hS : va_S A s.heap s.heap [] := va_S.rf
  have hl : lv_has ls 4 [(0, .ref h0), (1, .int p1)] := hl
  have hk_113 := hts _ (List.mem_cons_of_mem _ fl_RX10_113)
  have hk_116 := hts _ (List.mem_cons_of_mem _ fl_RX10_116)
  have hk_154 := hts _ (List.mem_cons_of_mem _ fl_RX10_154)
  have hk_151 := hts _ (List.mem_cons_of_mem _ fl_RX10_151)
  have hk_83 := hts _ (List.mem_cons_of_mem _ fl_RX10_83)
  have hk_202 := hts _ (List.mem_cons_of_mem _ fl_RX10_202)
  have hk_13 := hts _ (List.mem_cons_of_mem _ fl_RX10_13)
  have hk_192 := hts _ (List.mem_cons_of_mem _ fl_RX10_192)
  unfold f_X10_text at hf
  refine lv_aload_n hx hb dX10_text_0 rfl (lv_at hl 0 rfl) ?_
  refine lv_iconst (v := 0) hx hb dX10_text_1 (by decide) ?_
  refine va_put (ci := 9) (v := .int 0) (ty := tyX10 2) (C := RX10) (T := TX10) (N := 56) hx hb hts (fun w h => List.mem_cons_of_mem _ (inX10 w h)) tyX10 tyX10_ok nmX10 hown hK hP hD hS 0 rfl rfl 2 (by decide) hk_113 (fun _ h9 => h9) rfl (tyX10_ok 2 (by decide)) rfl rfl (Nat.le_of_ble_eq_true rfl) dX10_text_2 (fun H locs hP hD hS => ?_)
  have hP : va_P D vwCl (w10 cy h0 a0 (sF s0 2 0)) H := pP10_2 hP
  have hD : va_D A (w10 cy h0 a0 (sF s0 2 0)) := pD10_2 hD
  refine lv_iload_n hx hb dX10_text_5 rfl (lv_at hl 1 rfl) ?_
  refine lv_if_lt (tgt := 17) hx hb dX10_text_6 (by decide) (fun c_6 => ?_) (fun c_6 => ?_)
  · have hf := op_pos c_6 hf
    refine lv_bipush (v := (-2)) hx hb dX10_text_17 (by decide) ?_
    rw [← Option.some.inj hf]
    exact g_iret hx hb hr hlk hK hP hD hS dX10_text_19
  · have hf := op_neg c_6 hf
    refine lv_iload_n hx hb dX10_text_9 rfl (lv_at hl 1 rfl) ?_
    refine lv_aload_n hx hb dX10_text_10 rfl (lv_at hl 0 rfl) ?_
    refine va_get (ci := 9) (v := .int (s0.1 1)) (C := RX10) (T := TX10) (N := 56) hx hb hts (fun w h => List.mem_cons_of_mem _ (inX10 w h)) hown hK hP 0 rfl rfl 1 (by decide) hk_116 (fun _ h9 => h9) rfl dX10_text_11 ?_
    refine lv_icmp_le (tgt := 20) hx hb dX10_text_14 (by decide) (fun c_14 => ?_) (fun c_14 => ?_)
    · have hf := op_pos c_14 hf
      refine lv_aload_n hx hb dX10_text_20 rfl (lv_at hl 0 rfl) ?_
      refine lv_iload_n hx hb dX10_text_21 rfl (lv_at hl 1 rfl) ?_
      refine va_put (ci := 9) (v := .int p1) (ty := tyX10 34) (C := RX10) (T := TX10) (N := 56) hx hb hts (fun w h => List.mem_cons_of_mem _ (inX10 w h)) tyX10 tyX10_ok nmX10 hown hK hP hD hS 0 rfl rfl 34 (by decide) hk_154 (fun _ h9 => h9) rfl (tyX10_ok 34 (by decide)) rfl rfl (Nat.le_of_ble_eq_true rfl) dX10_text_22 (fun H locs hP hD hS => ?_)
      have hP : va_P D vwCl (w10 cy h0 a0 (sF (sF s0 2 0) 34 p1)) H := pP10_34 hP
      have hD : va_D A (w10 cy h0 a0 (sF (sF s0 2 0) 34 p1)) := pD10_34 hD
      refine lv_aload_n hx hb dX10_text_25 rfl (lv_at hl 0 rfl) ?_
      refine lv_iconst (v := 0) hx hb dX10_text_26 (by decide) ?_
      refine va_put (ci := 9) (v := .int 0) (ty := tyX10 1) (C := RX10) (T := TX10) (N := 56) hx hb hts (fun w h => List.mem_cons_of_mem _ (inX10 w h)) tyX10 tyX10_ok nmX10 hown hK hP hD hS 0 rfl rfl 1 (by decide) hk_116 (fun _ h9 => h9) rfl (tyX10_ok 1 (by decide)) rfl rfl (Nat.le_of_ble_eq_true rfl) dX10_text_27 (fun H locs hP hD hS => ?_)
      have hP : va_P D vwCl (w10 cy h0 a0 (sF (sF (sF s0 2 0) 34 p1) 1 0)) H := pP10_1 hP
      have hD : va_D A (w10 cy h0 a0 (sF (sF (sF s0 2 0) 34 p1) 1 0)) := pD10_1 hD
      refine lv_aload_n hx hb dX10_text_30 rfl (lv_at hl 0 rfl) ?_
      refine lv_iconst (v := 0) hx hb dX10_text_31 (by decide) ?_
      refine va_put (ci := 9) (v := .int 0) (ty := tyX10 39) (C := RX10) (T := TX10) (N := 56) hx hb hts (fun w h => List.mem_cons_of_mem _ (inX10 w h)) tyX10 tyX10_ok nmX10 hown hK hP hD hS 0 rfl rfl 39 (by decide) hk_151 (fun _ h9 => h9) rfl (tyX10_ok 39 (by decide)) rfl rfl (Nat.le_of_ble_eq_true rfl) dX10_text_32 (fun H locs hP hD hS => ?_)
      have hP : va_P D vwCl (w10 cy h0 a0 (sF (sF (sF (sF s0 2 0) 34 p1) 1 0) 39 0)) H := pP10_39 hP
      have hD : va_D A (w10 cy h0 a0 (sF (sF (sF (sF s0 2 0) 34 p1) 1 0) 39 0)) := pD10_39 hD
      refine lv_aload_n hx hb dX10_text_35 rfl (lv_at hl 0 rfl) ?_
      refine lv_iconst (v := (-1)) hx hb dX10_text_36 (by decide) ?_
      refine va_put (ci := 9) (v := .int (-1)) (ty := tyX10 40) (C := RX10) (T := TX10) (N := 56) hx hb hts (fun w h => List.mem_cons_of_mem _ (inX10 w h)) tyX10 tyX10_ok nmX10 hown hK hP hD hS 0 rfl rfl 40 (by decide) hk_83 (fun _ h9 => h9) rfl (tyX10_ok 40 (by decide)) rfl rfl (Nat.le_of_ble_eq_true rfl) dX10_text_37 (fun H locs hP hD hS => ?_)
      have hP : va_P D vwCl (w10 cy h0 a0 (sF (sF (sF (sF (sF s0 2 0) 34 p1) 1 0) 39 0) 40 (-1))) H := pP10_40 hP
      have hD : va_D A (w10 cy h0 a0 (sF (sF (sF (sF (sF s0 2 0) 34 p1) 1 0) 39 0) 40 (-1))) := pD10_40 hD
      refine lv_aload_n hx hb dX10_text_40 rfl (lv_at hl 0 rfl) ?_
      obtain ⟨q_41, hc_41, hf⟩ := op_bind hf
      refine g_callVi (As := []) (rest := []) (w2 := w10 cy h0 a0 q_41.2) ⟨hx, hb, hml, hown, hts⟩ (c_X10_reads l D cy h0 a0 (sF (sF (sF (sF (sF s0 2 0) 34 p1) 1 0) 39 0) 40 (-1)) _ fu _ hc_41) (cwV 0 hts (gi_V ml_RX10_232 im_X10_reads se_X10_reads in_RX10 cd_X10_reads) rfl rfl rfl hdX10_reads ⟨Nat.le_of_ble_eq_true rfl, Nat.le_of_ble_eq_true rfl⟩) (va_recv hK hP (ci := 9) (q0 := 0) rfl rfl) rfl hl.1 rfl (Nat.le_of_ble_eq_true rfl) dX10_text_41 hK hP hD hS hA [0, 1, 2, 3, 4, 5, 6, 7, 8, 9, 10, 11, 12, 13, 14, 15, 16, 17, 18, 19, 20, 21, 22, 23, 24, 25, 26, 27, 28, 29] [] [0, 1, 2, 3, 4, 5, 6, 7, 8, 9, 10, 11, 12, 13, 14, 15, 16, 17, 18, 19, 20, 21, 22, 23, 24, 25, 26, 27, 28, 29] rfl rfl rfl rfl (by decide) rfl rfl (fun H locs hP hD hS => ?_)
      refine lv_if_ne (tgt := 49) hx hb dX10_text_44 (by decide) (fun c_44 => ?_) (fun c_44 => ?_)
      · have hf := op_neg c_44 hf
        refine lv_aload_n hx hb dX10_text_49 rfl (lv_at hl 0 rfl) ?_
        refine lv_aload_n hx hb dX10_text_50 rfl (lv_at hl 0 rfl) ?_
        refine va_get (ci := 9) (v := .int (q_41.2.1 41)) (C := RX10) (T := TX10) (N := 56) hx hb hts (fun w h => List.mem_cons_of_mem _ (inX10 w h)) hown hK hP 0 rfl rfl 41 (by decide) hk_202 (fun _ h9 => h9) rfl dX10_text_51 ?_
        refine va_put (ci := 9) (v := .int (q_41.2.1 41)) (ty := tyX10 3) (C := RX10) (T := TX10) (N := 56) hx hb hts (fun w h => List.mem_cons_of_mem _ (inX10 w h)) tyX10 tyX10_ok nmX10 hown hK hP hD hS 0 rfl rfl 3 (by decide) hk_13 (fun _ h9 => h9) rfl (tyX10_ok 3 (by decide)) rfl rfl (Nat.le_of_ble_eq_true rfl) dX10_text_54 (fun H locs hP hD hS => ?_)
        have hP : va_P D vwCl (w10 cy h0 a0 (sF q_41.2 3 (q_41.2.1 41))) H := pP10_3 hP
        have hD : va_D A (w10 cy h0 a0 (sF q_41.2 3 (q_41.2.1 41))) := pD10_3 hD
        refine lv_aload_n hx hb dX10_text_57 rfl (lv_at hl 0 rfl) ?_
        refine lv_aload_n hx hb dX10_text_58 rfl (lv_at hl 0 rfl) ?_
        refine va_get (ci := 9) (v := .int (q_41.2.1 44)) (C := RX10) (T := TX10) (N := 56) hx hb hts (fun w h => List.mem_cons_of_mem _ (inX10 w h)) hown hK hP 0 rfl rfl 44 (by decide) hk_192 (fun _ h9 => h9) rfl dX10_text_59 ?_
        refine lv_if_le (tgt := 72) hx hb dX10_text_62 (by decide) (fun c_62 => ?_) (fun c_62 => ?_)
        · have hf := op_pos c_62 hf
          refine lv_iconst (v := 4) hx hb dX10_text_72 (by decide) ?_
          exact b_X10_text_L73 l D cy h0 a0 fu out C hA hK (sF q_41.2 3 (q_41.2.1 41)) 4 hf _ _ ls hP hD hS (lv_sub hl [0] rfl)
        · have hf := op_neg c_62 hf
          refine lv_aload_n hx hb dX10_text_65 rfl (lv_at hl 0 rfl) ?_
          refine va_get (ci := 9) (v := .int (q_41.2.1 44)) (C := RX10) (T := TX10) (N := 56) hx hb hts (fun w h => List.mem_cons_of_mem _ (inX10 w h)) hown hK hP 0 rfl rfl 44 (by decide) hk_192 (fun _ h9 => h9) rfl dX10_text_66 ?_
          refine lv_goto (tgt := 73) hx hb dX10_text_69 (by decide) ?_
          exact b_X10_text_L73 l D cy h0 a0 fu out C hA hK (sF q_41.2 3 (q_41.2.1 41)) (q_41.2.1 44) hf _ _ ls hP hD hS (lv_sub hl [0] rfl)
      · have hf := op_pos c_44 hf
        refine lv_iconst (v := (-1)) hx hb dX10_text_47 (by decide) ?_
        rw [← Option.some.inj hf]
        exact g_iret hx hb hr hlk hK hP hD hS dX10_text_48
    · have hf := op_neg c_14 hf
      refine lv_bipush (v := (-2)) hx hb dX10_text_17 (by decide) ?_
      rw [← Option.some.inj hf]
      exact g_iret hx hb hr hlk hK hP hD hS dX10_text_19
def f_X10_fault (fu : Nat)  (s0 : St) (p1 : Int32) : Option (Int32 × St) := if p1 = 0 then (some (s0.1 39, sF s0 2 0)) else (if p1 = 1 then (some (s0.1 40, sF s0 2 0)) else (some ((-1), sF s0 2 0)))
theorem hdX10_fault : yX10_fault.cls = RX10 ∧ yX10_fault.cls ≠ "java/lang/invoke/MethodHandle" ∧ yX10_fault.cls ≠ "java/lang/invoke/VarHandle" ∧ (parseMethodDescriptor yX10_fault.desc).map (fun d => d.parameters.length) = some 1 := by decide +kernel
set_option maxHeartbeats 4000000 in
set_option maxRecDepth 100000 in
theorem c_X10_fault (l : Launch) (D : va_G) (cy : Nat → ClassId) (h0 : Nat) (a0 : Nat → Nat) (s0 : St) (sz fu : Nat) (p1 : Int32) (out : Int32 × St) (hf : f_X10_fault fu s0 p1 = some out) :
    Met l yX10_fault (WS yX10_fault cX10_fault 2 (some .int)) ({ frames := 0, cells := 0, slots := 0, locals := 0 } : Room) (va_Pc [.ref h0, .int p1] (gP D cy sz (w10 cy h0 a0 s0))) ((fun A : Nat → Prop => gQi D cy A out.1 (w10 cy h0 a0 out.2)) (va_A (w10 cy h0 a0 s0) sz)) 0 0 (va_A (w10 cy h0 a0 s0) sz) := by
  refine g_met (cc := cX10_fault) (maxL := 2) (ret := (some .int)) (fun A : Nat → Prop => gQi D cy A out.1 (w10 cy h0 a0 out.2)) (by decide +kernel) rfl (Nat.le_of_ble_eq_true rfl) ?_
  intro p e s m below meth c A C hA hK hP hD ls hl
  obtain ⟨hx, hb, hr, hml, hown, hts, hlk⟩ := id C
  have hown : s.vm.findClass RX10 = some m.cls := hown
  have hS : va_S A s.heap s.heap [] := va_S.rf
  have hl : lv_has ls 2 [(0, .ref h0), (1, .int p1)] := hl
  have hk_113 := hts _ (List.mem_cons_of_mem _ fl_RX10_113)
  have hk_83 := hts _ (List.mem_cons_of_mem _ fl_RX10_83)
  have hk_151 := hts _ (List.mem_cons_of_mem _ fl_RX10_151)
  unfold f_X10_fault at hf
  refine lv_aload_n hx hb dX10_fault_0 rfl (lv_at hl 0 rfl) ?_
  refine lv_iconst (v := 0) hx hb dX10_fault_1 (by decide) ?_
  refine va_put (ci := 9) (v := .int 0) (ty := tyX10 2) (C := RX10) (T := TX10) (N := 56) hx hb hts (fun w h => List.mem_cons_of_mem _ (inX10 w h)) tyX10 tyX10_ok nmX10 hown hK hP hD hS 0 rfl rfl 2 (by decide) hk_113 (fun _ h9 => h9) rfl (tyX10_ok 2 (by decide)) rfl rfl (Nat.le_of_ble_eq_true rfl) dX10_fault_2 (fun H locs hP hD hS => ?_)
  have hP : va_P D vwCl (w10 cy h0 a0 (sF s0 2 0)) H := pP10_2 hP
  have hD : va_D A (w10 cy h0 a0 (sF s0 2 0)) := pD10_2 hD
  refine lv_iload_n hx hb dX10_fault_5 rfl (lv_at hl 1 rfl) ?_
  refine lv_if_ne (tgt := 16) hx hb dX10_fault_6 (by decide) (fun c_6 => ?_) (fun c_6 => ?_)
  · have hf := op_neg c_6 hf
    refine lv_iload_n hx hb dX10_fault_16 rfl (lv_at hl 1 rfl) ?_
    refine lv_iconst (v := 1) hx hb dX10_fault_17 (by decide) ?_
    refine lv_icmp_ne (tgt := 28) hx hb dX10_fault_18 (by decide) (fun c_18 => ?_) (fun c_18 => ?_)
    · have hf := op_neg c_18 hf
      refine lv_iconst (v := (-1)) hx hb dX10_fault_28 (by decide) ?_
      rw [← Option.some.inj hf]
      exact g_iret hx hb hr hlk hK hP hD hS dX10_fault_29
    · have hf := op_pos c_18 hf
      refine lv_aload_n hx hb dX10_fault_21 rfl (lv_at hl 0 rfl) ?_
      refine va_get (ci := 9) (v := .int (s0.1 40)) (C := RX10) (T := TX10) (N := 56) hx hb hts (fun w h => List.mem_cons_of_mem _ (inX10 w h)) hown hK hP 0 rfl rfl 40 (by decide) hk_83 (fun _ h9 => h9) rfl dX10_fault_22 ?_
      refine lv_goto (tgt := 29) hx hb dX10_fault_25 (by decide) ?_
      rw [← Option.some.inj hf]
      exact g_iret hx hb hr hlk hK hP hD hS dX10_fault_29
  · have hf := op_pos c_6 hf
    refine lv_aload_n hx hb dX10_fault_9 rfl (lv_at hl 0 rfl) ?_
    refine va_get (ci := 9) (v := .int (s0.1 39)) (C := RX10) (T := TX10) (N := 56) hx hb hts (fun w h => List.mem_cons_of_mem _ (inX10 w h)) hown hK hP 0 rfl rfl 39 (by decide) hk_151 (fun _ h9 => h9) rfl dX10_fault_10 ?_
    refine lv_goto (tgt := 29) hx hb dX10_fault_13 (by decide) ?_
    rw [← Option.some.inj hf]
    exact g_iret hx hb hr hlk hK hP hD hS dX10_fault_29
def f_X10_begin (fu : Nat)  (s0 : St)  : Option (St) := (f_X10_opens fu (sF s0 2 0)).bind (fun q_6 => some q_6)
theorem hdX10_begin : yX10_begin.cls = RX10 ∧ yX10_begin.cls ≠ "java/lang/invoke/MethodHandle" ∧ yX10_begin.cls ≠ "java/lang/invoke/VarHandle" ∧ (parseMethodDescriptor yX10_begin.desc).map (fun d => d.parameters.length) = some 0 := by decide +kernel
set_option maxHeartbeats 4000000 in
set_option maxRecDepth 100000 in
theorem c_X10_begin (l : Launch) (D : va_G) (cy : Nat → ClassId) (h0 : Nat) (a0 : Nat → Nat) (s0 : St) (sz fu : Nat)  (out : St) (hf : f_X10_begin fu s0 = some out) :
    Met l yX10_begin (WS yX10_begin cX10_begin 1 none) ({ frames := 1, cells := 0, slots := 0, locals := 21 } : Room) (va_Pc [.ref h0] (gP D cy sz (w10 cy h0 a0 s0))) ((fun A : Nat → Prop => gQv D cy A (w10 cy h0 a0 out)) (va_A (w10 cy h0 a0 s0) sz)) 0 0 (va_A (w10 cy h0 a0 s0) sz) := by
  refine g_met (cc := cX10_begin) (maxL := 1) (ret := none) (fun A : Nat → Prop => gQv D cy A (w10 cy h0 a0 out)) (by decide +kernel) rfl (Nat.le_of_ble_eq_true rfl) ?_
  intro p e s m below meth c A C hA hK hP hD ls hl
  obtain ⟨hx, hb, hr, hml, hown, hts, hlk⟩ := id C
  have hown : s.vm.findClass RX10 = some m.cls := hown
  have hS : va_S A s.heap s.heap [] := va_S.rf
  have hl : lv_has ls 1 [(0, .ref h0)] := hl
  have hk_113 := hts _ (List.mem_cons_of_mem _ fl_RX10_113)
  unfold f_X10_begin at hf
  refine lv_aload_n hx hb dX10_begin_0 rfl (lv_at hl 0 rfl) ?_
  refine lv_iconst (v := 0) hx hb dX10_begin_1 (by decide) ?_
  refine va_put (ci := 9) (v := .int 0) (ty := tyX10 2) (C := RX10) (T := TX10) (N := 56) hx hb hts (fun w h => List.mem_cons_of_mem _ (inX10 w h)) tyX10 tyX10_ok nmX10 hown hK hP hD hS 0 rfl rfl 2 (by decide) hk_113 (fun _ h9 => h9) rfl (tyX10_ok 2 (by decide)) rfl rfl (Nat.le_of_ble_eq_true rfl) dX10_begin_2 (fun H locs hP hD hS => ?_)
  have hP : va_P D vwCl (w10 cy h0 a0 (sF s0 2 0)) H := pP10_2 hP
  have hD : va_D A (w10 cy h0 a0 (sF s0 2 0)) := pD10_2 hD
  refine lv_aload_n hx hb dX10_begin_5 rfl (lv_at hl 0 rfl) ?_
  obtain ⟨q_6, hc_6, hf⟩ := op_bind hf
  refine g_callVv (As := []) (rest := []) (w2 := w10 cy h0 a0 q_6) ⟨hx, hb, hml, hown, hts⟩ (c_X10_opens l D cy h0 a0 (sF s0 2 0) _ fu _ hc_6) (cwV 0 hts (gi_V ml_RX10_244 im_X10_opens se_X10_opens in_RX10 cd_X10_opens) rfl rfl rfl hdX10_opens ⟨Nat.le_of_ble_eq_true rfl, Nat.le_of_ble_eq_true rfl⟩) (va_recv hK hP (ci := 9) (q0 := 0) rfl rfl) rfl hl.1 rfl (Nat.le_of_ble_eq_true rfl) dX10_begin_6 hK hP hD hS hA [0, 1, 2, 3, 4, 5, 6, 7, 8, 9, 10, 11, 12, 13, 14, 15, 16, 17, 18, 19, 20, 21, 22, 23, 24, 25, 26, 27, 28, 29] [] [0, 1, 2, 3, 4, 5, 6, 7, 8, 9, 10, 11, 12, 13, 14, 15, 16, 17, 18, 19, 20, 21, 22, 23, 24, 25, 26, 27, 28, 29] rfl rfl rfl rfl (by decide) rfl rfl (fun H locs hP hD hS => ?_)
  rw [← Option.some.inj hf]
  exact g_vret hx hb hr hlk hK hP hD hS dX10_begin_9
def f_X10_isCut_L43 (k_4 : Int32 → Int32 → Int32 → Option (Int32)) (fu : Nat) (s0 : St) (x1 : Int32) (x3 : Int32) : Option (Int32) := k_4 x1 1 (x3 + 1)
set_option maxHeartbeats 4000000 in
set_option maxRecDepth 100000 in
theorem b_X10_isCut_L43 {p : Program} {e : Env} {s : State} {m : MethodId} {args : Array Value} {below : List Frame} {meth : Method} {c : Code} {A : Nat → Prop} (l : Launch) (D : va_G) (cy : Nat → ClassId) (h0 : Nat) (a0 : Nat → Nat) (s0 : St) (fu : Nat) (out : Int32) (C : gC p s m args meth c (WS yX10_isCut cX10_isCut 4 (some .boolean)) cX10_isCut 4 (some .boolean) RX10) (hA : ∀ q : Nat, s.heap.size ≤ q → A q) (hK : va_K D vwCl (TY cy) s) (k_4 : Int32 → Int32 → Int32 → Option (Int32)) (hk_4 : ∀ (x1 : Int32) (x2 : Int32) (x3 : Int32), k_4 x1 x2 x3 = some out → ∀ (H : Heap) (locs : List Loc) (ls : Array Slot), va_P D vwCl (w10 cy h0 a0 s0) H → va_D A (w10 cy h0 a0 s0) → va_S A s.heap H locs → lv_has ls 4 [(0, .ref h0), (1, .int x1), (2, .int x2), (3, .int x3)] → W p l e ({ frames := 0, cells := 0, slots := 0, locals := 0 } : Room) s m args below meth c H locs 0 0 (MQ below (gQi D cy A out (w10 cy h0 a0 s0)) args s 0 0 A) (F0 m 4 ls [])) :
    ∀ (x1 : Int32) (x3 : Int32), f_X10_isCut_L43 k_4 fu s0 x1 x3 = some out → ∀ (H : Heap) (locs : List Loc) (ls : Array Slot), va_P D vwCl (w10 cy h0 a0 s0) H → va_D A (w10 cy h0 a0 s0) → va_S A s.heap H locs → lv_has ls 4 [(0, .ref h0), (1, .int x1), (3, .int x3)] → W p l e ({ frames := 0, cells := 0, slots := 0, locals := 0 } : Room) s m args below meth c H locs 0 0 (MQ below (gQi D cy A out (w10 cy h0 a0 s0)) args s 0 0 A) (F0 m 43 ls []) := by
  obtain ⟨hx, hb, hr, hml, hown, hts, hlk⟩ := id C
  have hown : s.vm.findClass RX10 = some m.cls := hown
  intro x1 x3 hf H locs ls hP hD hS hl
  unfold f_X10_isCut_L43 at hf
  refine lv_iconst (v := 1) hx hb dX10_isCut_43 (by decide) ?_
  refine lv_goto (tgt := 48) hx hb dX10_isCut_44 (by decide) ?_
  refine lv_istore_n (lv' := [(2, .int 1), (0, .ref h0), (1, .int x1), (3, .int x3)]) hx hb dX10_isCut_48 rfl hl (by decide) rfl (fun ls hl => ?_)
  refine lv_iinc (v := x3 + 1) (lv' := [(3, .int (x3 + 1)), (2, .int 1), (0, .ref h0), (1, .int x1)]) hx hb dX10_isCut_49 hl (k := 3) rfl rfl (by decide) rfl (fun ls hl => ?_)
  refine lv_goto (tgt := 4) hx hb dX10_isCut_52 (by decide) ?_
  exact hk_4 x1 1 (x3 + 1) hf _ _ ls hP hD hS (lv_sub hl [2, 3, 1, 0] rfl)
def f_X10_isCut_L47 (k_4 : Int32 → Int32 → Int32 → Option (Int32)) (fu : Nat) (s0 : St) (x1 : Int32) (x3 : Int32) : Option (Int32) := k_4 x1 0 (x3 + 1)
set_option maxHeartbeats 4000000 in
set_option maxRecDepth 100000 in
theorem b_X10_isCut_L47 {p : Program} {e : Env} {s : State} {m : MethodId} {args : Array Value} {below : List Frame} {meth : Method} {c : Code} {A : Nat → Prop} (l : Launch) (D : va_G) (cy : Nat → ClassId) (h0 : Nat) (a0 : Nat → Nat) (s0 : St) (fu : Nat) (out : Int32) (C : gC p s m args meth c (WS yX10_isCut cX10_isCut 4 (some .boolean)) cX10_isCut 4 (some .boolean) RX10) (hA : ∀ q : Nat, s.heap.size ≤ q → A q) (hK : va_K D vwCl (TY cy) s) (k_4 : Int32 → Int32 → Int32 → Option (Int32)) (hk_4 : ∀ (x1 : Int32) (x2 : Int32) (x3 : Int32), k_4 x1 x2 x3 = some out → ∀ (H : Heap) (locs : List Loc) (ls : Array Slot), va_P D vwCl (w10 cy h0 a0 s0) H → va_D A (w10 cy h0 a0 s0) → va_S A s.heap H locs → lv_has ls 4 [(0, .ref h0), (1, .int x1), (2, .int x2), (3, .int x3)] → W p l e ({ frames := 0, cells := 0, slots := 0, locals := 0 } : Room) s m args below meth c H locs 0 0 (MQ below (gQi D cy A out (w10 cy h0 a0 s0)) args s 0 0 A) (F0 m 4 ls [])) :
    ∀ (x1 : Int32) (x3 : Int32), f_X10_isCut_L47 k_4 fu s0 x1 x3 = some out → ∀ (H : Heap) (locs : List Loc) (ls : Array Slot), va_P D vwCl (w10 cy h0 a0 s0) H → va_D A (w10 cy h0 a0 s0) → va_S A s.heap H locs → lv_has ls 4 [(0, .ref h0), (1, .int x1), (3, .int x3)] → W p l e ({ frames := 0, cells := 0, slots := 0, locals := 0 } : Room) s m args below meth c H locs 0 0 (MQ below (gQi D cy A out (w10 cy h0 a0 s0)) args s 0 0 A) (F0 m 47 ls []) := by
  obtain ⟨hx, hb, hr, hml, hown, hts, hlk⟩ := id C
  have hown : s.vm.findClass RX10 = some m.cls := hown
  intro x1 x3 hf H locs ls hP hD hS hl
  unfold f_X10_isCut_L47 at hf
  refine lv_iconst (v := 0) hx hb dX10_isCut_47 (by decide) ?_
  refine lv_istore_n (lv' := [(2, .int 0), (0, .ref h0), (1, .int x1), (3, .int x3)]) hx hb dX10_isCut_48 rfl hl (by decide) rfl (fun ls hl => ?_)
  refine lv_iinc (v := x3 + 1) (lv' := [(3, .int (x3 + 1)), (2, .int 0), (0, .ref h0), (1, .int x1)]) hx hb dX10_isCut_49 hl (k := 3) rfl rfl (by decide) rfl (fun ls hl => ?_)
  refine lv_goto (tgt := 4) hx hb dX10_isCut_52 (by decide) ?_
  exact hk_4 x1 0 (x3 + 1) hf _ _ ls hP hD hS (lv_sub hl [2, 3, 1, 0] rfl)
def f_X10_isCut_L4  (fu : Nat) (s0 : St) : Nat → Int32 → Int32 → Int32 → Option (Int32)
  | 0, _, _, _ => none
  | n_4 + 1, x1, x2, x3 => if 8 ≤ x3 then (if isB x2 = true then (some x2) else none) else (if x2 = 0 then (if inb x3 8 = true then (if (s0.2 18 x3.toNatClampNeg) = 0 then (f_X10_isCut_L47 (f_X10_isCut_L4 fu s0 n_4) fu s0 x1 x3) else (if inb x3 8 = true then (if x1 < (s0.2 12 x3.toNatClampNeg) then (f_X10_isCut_L47 (f_X10_isCut_L4 fu s0 n_4) fu s0 x1 x3) else (if inb x3 8 = true then (if (s0.2 13 x3.toNatClampNeg) ≤ x1 then (f_X10_isCut_L47 (f_X10_isCut_L4 fu s0 n_4) fu s0 x1 x3) else (f_X10_isCut_L43 (f_X10_isCut_L4 fu s0 n_4) fu s0 x1 x3)) else none)) else none)) else none) else (f_X10_isCut_L43 (f_X10_isCut_L4 fu s0 n_4) fu s0 x1 x3))
set_option maxHeartbeats 4000000 in
set_option maxRecDepth 100000 in
theorem b_X10_isCut_L4 {p : Program} {e : Env} {s : State} {m : MethodId} {args : Array Value} {below : List Frame} {meth : Method} {c : Code} {A : Nat → Prop} (l : Launch) (D : va_G) (cy : Nat → ClassId) (h0 : Nat) (a0 : Nat → Nat) (s0 : St) (fu : Nat) (out : Int32) (C : gC p s m args meth c (WS yX10_isCut cX10_isCut 4 (some .boolean)) cX10_isCut 4 (some .boolean) RX10) (hA : ∀ q : Nat, s.heap.size ≤ q → A q) (hK : va_K D vwCl (TY cy) s)  :
    ∀ (n_4 : Nat), ∀ (x1 : Int32) (x2 : Int32) (x3 : Int32), f_X10_isCut_L4 fu s0 n_4 x1 x2 x3 = some out → ∀ (H : Heap) (locs : List Loc) (ls : Array Slot), va_P D vwCl (w10 cy h0 a0 s0) H → va_D A (w10 cy h0 a0 s0) → va_S A s.heap H locs → lv_has ls 4 [(0, .ref h0), (1, .int x1), (2, .int x2), (3, .int x3)] → W p l e ({ frames := 0, cells := 0, slots := 0, locals := 0 } : Room) s m args below meth c H locs 0 0 (MQ below (gQi D cy A out (w10 cy h0 a0 s0)) args s 0 0 A) (F0 m 4 ls []) := by
  obtain ⟨hx, hb, hr, hml, hown, hts, hlk⟩ := id C
  have hown : s.vm.findClass RX10 = some m.cls := hown
  have hk_52 := hts _ (List.mem_cons_of_mem _ fl_RX10_52)
  have hk_35 := hts _ (List.mem_cons_of_mem _ fl_RX10_35)
  have hk_38 := hts _ (List.mem_cons_of_mem _ fl_RX10_38)
  intro n_4
  induction n_4 with
  | zero => intro x1 x2 x3 hf; exact op_no hf
  | succ n_4 ih_4 =>
    intro x1 x2 x3 hf H locs ls hP hD hS hl
    rw [f_X10_isCut_L4] at hf
    refine lv_iload_n hx hb dX10_isCut_4 rfl (lv_at hl 3 rfl) ?_
    refine lv_bipush (v := 8) hx hb dX10_isCut_5 (by decide) ?_
    refine lv_icmp_ge (tgt := 55) hx hb dX10_isCut_7 (by decide) (fun c_7 => ?_) (fun c_7 => ?_)
    · have hf := op_pos c_7 hf
      refine lv_iload_n hx hb dX10_isCut_55 rfl (lv_at hl 2 rfl) ?_
      obtain ⟨hg_56, hf⟩ := op_if hf
      rw [← Option.some.inj hf]
      exact g_zret hx hb hr hlk hg_56 hK hP hD hS dX10_isCut_56
    · have hf := op_neg c_7 hf
      refine lv_iload_n hx hb dX10_isCut_10 rfl (lv_at hl 2 rfl) ?_
      refine lv_if_ne (tgt := 43) hx hb dX10_isCut_11 (by decide) (fun c_11 => ?_) (fun c_11 => ?_)
      · have hf := op_neg c_11 hf
        exact b_X10_isCut_L43 l D cy h0 a0 s0 fu out C hA hK (f_X10_isCut_L4 fu s0 n_4) ih_4 x1 x3 hf _ _ ls hP hD hS (lv_sub hl [0, 1, 3] rfl)
      · have hf := op_pos c_11 hf
        refine lv_aload_n hx hb dX10_isCut_14 rfl (lv_at hl 0 rfl) ?_
        refine va_get (ci := 9) (v := .ref (a0 18)) (C := RX10) (T := TX10) (N := 56) hx hb hts (fun w h => List.mem_cons_of_mem _ (inX10 w h)) hown hK hP 0 rfl rfl 18 (by decide) hk_52 (fun _ h9 => h9) rfl dX10_isCut_15 ?_
        refine lv_iload_n hx hb dX10_isCut_18 rfl (lv_at hl 3 rfl) ?_
        obtain ⟨hg_19, hf⟩ := op_if hf
        refine va_zald (f := s0.2 18) hx hb hK hP 12 2 rfl rfl (inb_in hg_19) dX10_isCut_19 ?_
        refine lv_if_eq (tgt := 47) hx hb dX10_isCut_20 (by decide) (fun c_20 => ?_) (fun c_20 => ?_)
        · have hf := op_pos c_20 hf
          exact b_X10_isCut_L47 l D cy h0 a0 s0 fu out C hA hK (f_X10_isCut_L4 fu s0 n_4) ih_4 x1 x3 hf _ _ ls hP hD hS (lv_sub hl [0, 1, 3] rfl)
        · have hf := op_neg c_20 hf
          refine lv_iload_n hx hb dX10_isCut_23 rfl (lv_at hl 1 rfl) ?_
          refine lv_aload_n hx hb dX10_isCut_24 rfl (lv_at hl 0 rfl) ?_
          refine va_get (ci := 9) (v := .ref (a0 12)) (C := RX10) (T := TX10) (N := 56) hx hb hts (fun w h => List.mem_cons_of_mem _ (inX10 w h)) hown hK hP 0 rfl rfl 12 (by decide) hk_35 (fun _ h9 => h9) rfl dX10_isCut_25 ?_
          refine lv_iload_n hx hb dX10_isCut_28 rfl (lv_at hl 3 rfl) ?_
          obtain ⟨hg_29, hf⟩ := op_if hf
          refine va_iald (f := s0.2 12) hx hb hK hP 7 0 rfl rfl (inb_in hg_29) dX10_isCut_29 ?_
          refine lv_icmp_lt (tgt := 47) hx hb dX10_isCut_30 (by decide) (fun c_30 => ?_) (fun c_30 => ?_)
          · have hf := op_pos c_30 hf
            exact b_X10_isCut_L47 l D cy h0 a0 s0 fu out C hA hK (f_X10_isCut_L4 fu s0 n_4) ih_4 x1 x3 hf _ _ ls hP hD hS (lv_sub hl [0, 1, 3] rfl)
          · have hf := op_neg c_30 hf
            refine lv_iload_n hx hb dX10_isCut_33 rfl (lv_at hl 1 rfl) ?_
            refine lv_aload_n hx hb dX10_isCut_34 rfl (lv_at hl 0 rfl) ?_
            refine va_get (ci := 9) (v := .ref (a0 13)) (C := RX10) (T := TX10) (N := 56) hx hb hts (fun w h => List.mem_cons_of_mem _ (inX10 w h)) hown hK hP 0 rfl rfl 13 (by decide) hk_38 (fun _ h9 => h9) rfl dX10_isCut_35 ?_
            refine lv_iload_n hx hb dX10_isCut_38 rfl (lv_at hl 3 rfl) ?_
            obtain ⟨hg_39, hf⟩ := op_if hf
            refine va_iald (f := s0.2 13) hx hb hK hP 8 0 rfl rfl (inb_in hg_39) dX10_isCut_39 ?_
            refine lv_icmp_ge (tgt := 47) hx hb dX10_isCut_40 (by decide) (fun c_40 => ?_) (fun c_40 => ?_)
            · have hf := op_pos c_40 hf
              exact b_X10_isCut_L47 l D cy h0 a0 s0 fu out C hA hK (f_X10_isCut_L4 fu s0 n_4) ih_4 x1 x3 hf _ _ ls hP hD hS (lv_sub hl [0, 1, 3] rfl)
            · have hf := op_neg c_40 hf
              exact b_X10_isCut_L43 l D cy h0 a0 s0 fu out C hA hK (f_X10_isCut_L4 fu s0 n_4) ih_4 x1 x3 hf _ _ ls hP hD hS (lv_sub hl [0, 1, 3] rfl)
def f_X10_isCut (fu : Nat) (s0 : St)  (p1 : Int32) : Option (Int32) := f_X10_isCut_L4 fu s0 fu p1 0 0
theorem hdX10_isCut : yX10_isCut.cls = RX10 ∧ yX10_isCut.cls ≠ "java/lang/invoke/MethodHandle" ∧ yX10_isCut.cls ≠ "java/lang/invoke/VarHandle" ∧ (parseMethodDescriptor yX10_isCut.desc).map (fun d => d.parameters.length) = some 1 := by decide +kernel
set_option maxHeartbeats 4000000 in
set_option maxRecDepth 100000 in
theorem c_X10_isCut (l : Launch) (D : va_G) (cy : Nat → ClassId) (h0 : Nat) (a0 : Nat → Nat) (s0 : St) (sz fu : Nat) (p1 : Int32) (out : Int32) (hf : f_X10_isCut fu s0 p1 = some out) :
    Met l yX10_isCut (WS yX10_isCut cX10_isCut 4 (some .boolean)) ({ frames := 0, cells := 0, slots := 0, locals := 0 } : Room) (va_Pc [.ref h0, .int p1] (gP D cy sz (w10 cy h0 a0 s0))) ((fun A : Nat → Prop => gQi D cy A out (w10 cy h0 a0 s0)) (va_A (w10 cy h0 a0 s0) sz)) 0 0 (va_A (w10 cy h0 a0 s0) sz) := by
  refine g_met (cc := cX10_isCut) (maxL := 4) (ret := (some .boolean)) (fun A : Nat → Prop => gQi D cy A out (w10 cy h0 a0 s0)) (by decide +kernel) rfl (Nat.le_of_ble_eq_true rfl) ?_
  intro p e s m below meth c A C hA hK hP hD ls hl
  obtain ⟨hx, hb, hr, hml, hown, hts, hlk⟩ := id C
  have hown : s.vm.findClass RX10 = some m.cls := hown
  have hS : va_S A s.heap s.heap [] := va_S.rf
  have hl : lv_has ls 4 [(0, .ref h0), (1, .int p1)] := hl
  unfold f_X10_isCut at hf
  refine lv_iconst (v := 0) hx hb dX10_isCut_0 (by decide) ?_
  refine lv_istore_n (lv' := [(2, .int 0), (0, .ref h0), (1, .int p1)]) hx hb dX10_isCut_1 rfl hl (by decide) rfl (fun ls hl => ?_)
  refine lv_iconst (v := 0) hx hb dX10_isCut_2 (by decide) ?_
  refine lv_istore_n (lv' := [(3, .int 0), (2, .int 0), (0, .ref h0), (1, .int p1)]) hx hb dX10_isCut_3 rfl hl (by decide) rfl (fun ls hl => ?_)
  exact b_X10_isCut_L4 l D cy h0 a0 s0 fu out C hA hK fu p1 0 0 hf _ _ ls hP hD hS (lv_sub hl [2, 3, 1, 0] rfl)
def f_X10_goesOn_L0  (fu : Nat)  : Nat → St → Option (St)
  | 0, _ => none
  | n_0 + 1, u0 => (f_X10_isCut fu u0 (u0.1 22)).bind (fun q_5 => if q_5 = 0 then (some u0) else (f_X10_goesOn_L0 fu n_0 (sF u0 22 ((u0.1 22) + 1))))
set_option maxHeartbeats 4000000 in
set_option maxRecDepth 100000 in
theorem b_X10_goesOn_L0 {p : Program} {e : Env} {s : State} {m : MethodId} {args : Array Value} {below : List Frame} {meth : Method} {c : Code} {A : Nat → Prop} (l : Launch) (D : va_G) (cy : Nat → ClassId) (h0 : Nat) (a0 : Nat → Nat) (fu : Nat) (out : St) (C : gC p s m args meth c (WS yX10_goesOn cX10_goesOn 1 none) cX10_goesOn 1 none RX10) (hA : ∀ q : Nat, s.heap.size ≤ q → A q) (hK : va_K D vwCl (TY cy) s)  :
    ∀ (n_0 : Nat), ∀ (u0 : St), f_X10_goesOn_L0 fu n_0 u0 = some out → ∀ (H : Heap) (locs : List Loc) (ls : Array Slot), va_P D vwCl (w10 cy h0 a0 u0) H → va_D A (w10 cy h0 a0 u0) → va_S A s.heap H locs → lv_has ls 1 [(0, .ref h0)] → W p l e ({ frames := 1, cells := 0, slots := 0, locals := 23 } : Room) s m args below meth c H locs 0 0 (MQ below (gQv D cy A (w10 cy h0 a0 out)) args s 0 0 A) (F0 m 0 ls []) := by
  obtain ⟨hx, hb, hr, hml, hown, hts, hlk⟩ := id C
  have hown : s.vm.findClass RX10 = some m.cls := hown
  have hk_247 := hts _ (List.mem_cons_of_mem _ fl_RX10_247)
  intro n_0
  induction n_0 with
  | zero => intro u0 hf; exact op_no hf
  | succ n_0 ih_0 =>
    intro u0 hf H locs ls hP hD hS hl
    rw [f_X10_goesOn_L0] at hf
    refine lv_aload_n hx hb dX10_goesOn_0 rfl (lv_at hl 0 rfl) ?_
    refine lv_aload_n hx hb dX10_goesOn_1 rfl (lv_at hl 0 rfl) ?_
    refine va_get (ci := 9) (v := .int (u0.1 22)) (C := RX10) (T := TX10) (N := 56) hx hb hts (fun w h => List.mem_cons_of_mem _ (inX10 w h)) hown hK hP 0 rfl rfl 22 (by decide) hk_247 (fun _ h9 => h9) rfl dX10_goesOn_2 ?_
    obtain ⟨q_5, hc_5, hf⟩ := op_bind hf
    refine g_callVi (As := [.int (u0.1 22)]) (rest := []) (w2 := w10 cy h0 a0 u0) ⟨hx, hb, hml, hown, hts⟩ (c_X10_isCut l D cy h0 a0 u0 _ fu (u0.1 22) _ hc_5) (cwV 1 hts (gi_V ml_RX10_253 im_X10_isCut se_X10_isCut in_RX10 cd_X10_isCut) rfl rfl rfl hdX10_isCut ⟨Nat.le_of_ble_eq_true rfl, Nat.le_of_ble_eq_true rfl⟩) (va_recv hK hP (ci := 9) (q0 := 0) rfl rfl) rfl hl.1 rfl (Nat.le_of_ble_eq_true rfl) dX10_goesOn_5 hK hP hD hS hA [0, 1, 2, 3, 4, 5, 6, 7, 8, 9, 10, 11, 12, 13, 14, 15, 16, 17, 18, 19, 20, 21, 22, 23, 24, 25, 26, 27, 28, 29] [] [0, 1, 2, 3, 4, 5, 6, 7, 8, 9, 10, 11, 12, 13, 14, 15, 16, 17, 18, 19, 20, 21, 22, 23, 24, 25, 26, 27, 28, 29] rfl rfl rfl rfl (by decide) rfl rfl (fun H locs hP hD hS => ?_)
    refine lv_if_eq (tgt := 24) hx hb dX10_goesOn_8 (by decide) (fun c_8 => ?_) (fun c_8 => ?_)
    · have hf := op_pos c_8 hf
      rw [← Option.some.inj hf]
      exact g_vret hx hb hr hlk hK hP hD hS dX10_goesOn_24
    · have hf := op_neg c_8 hf
      refine lv_aload_n hx hb dX10_goesOn_11 rfl (lv_at hl 0 rfl) ?_
      refine lv_dup hx hb dX10_goesOn_12 rfl ?_
      refine va_get (ci := 9) (v := .int (u0.1 22)) (C := RX10) (T := TX10) (N := 56) hx hb hts (fun w h => List.mem_cons_of_mem _ (inX10 w h)) hown hK hP 0 rfl rfl 22 (by decide) hk_247 (fun _ h9 => h9) rfl dX10_goesOn_13 ?_
      refine lv_iconst (v := 1) hx hb dX10_goesOn_16 (by decide) ?_
      refine lv_iadd hx hb dX10_goesOn_17 ?_
      refine va_put (ci := 9) (v := .int ((u0.1 22) + 1)) (ty := tyX10 22) (C := RX10) (T := TX10) (N := 56) hx hb hts (fun w h => List.mem_cons_of_mem _ (inX10 w h)) tyX10 tyX10_ok nmX10 hown hK hP hD hS 0 rfl rfl 22 (by decide) hk_247 (fun _ h9 => h9) rfl (tyX10_ok 22 (by decide)) rfl rfl (Nat.le_of_ble_eq_true rfl) dX10_goesOn_18 (fun H locs hP hD hS => ?_)
      have hP : va_P D vwCl (w10 cy h0 a0 (sF u0 22 ((u0.1 22) + 1))) H := pP10_22 hP
      have hD : va_D A (w10 cy h0 a0 (sF u0 22 ((u0.1 22) + 1))) := pD10_22 hD
      refine lv_goto (tgt := 0) hx hb dX10_goesOn_21 (by decide) ?_
      exact ih_0 (sF u0 22 ((u0.1 22) + 1)) hf _ _ ls hP hD hS (lv_sub hl [0] rfl)
def f_X10_goesOn (fu : Nat)  (s0 : St)  : Option (St) := f_X10_goesOn_L0 fu fu s0
theorem hdX10_goesOn : yX10_goesOn.cls = RX10 ∧ yX10_goesOn.cls ≠ "java/lang/invoke/MethodHandle" ∧ yX10_goesOn.cls ≠ "java/lang/invoke/VarHandle" ∧ (parseMethodDescriptor yX10_goesOn.desc).map (fun d => d.parameters.length) = some 0 := by decide +kernel
set_option maxHeartbeats 4000000 in
set_option maxRecDepth 100000 in
theorem c_X10_goesOn (l : Launch) (D : va_G) (cy : Nat → ClassId) (h0 : Nat) (a0 : Nat → Nat) (s0 : St) (sz fu : Nat)  (out : St) (hf : f_X10_goesOn fu s0 = some out) :
    Met l yX10_goesOn (WS yX10_goesOn cX10_goesOn 1 none) ({ frames := 1, cells := 0, slots := 0, locals := 23 } : Room) (va_Pc [.ref h0] (gP D cy sz (w10 cy h0 a0 s0))) ((fun A : Nat → Prop => gQv D cy A (w10 cy h0 a0 out)) (va_A (w10 cy h0 a0 s0) sz)) 0 0 (va_A (w10 cy h0 a0 s0) sz) := by
  refine g_met (cc := cX10_goesOn) (maxL := 1) (ret := none) (fun A : Nat → Prop => gQv D cy A (w10 cy h0 a0 out)) (by decide +kernel) rfl (Nat.le_of_ble_eq_true rfl) ?_
  intro p e s m below meth c A C hA hK hP hD ls hl
  obtain ⟨hx, hb, hr, hml, hown, hts, hlk⟩ := id C
  have hown : s.vm.findClass RX10 = some m.cls := hown
  have hS : va_S A s.heap s.heap [] := va_S.rf
  have hl : lv_has ls 1 [(0, .ref h0)] := hl
  unfold f_X10_goesOn at hf
  exact b_X10_goesOn_L0 l D cy h0 a0 fu out C hA hK fu s0 hf _ _ ls hP hD hS (lv_sub hl [0] rfl)
def f_X10_cut (fu : Nat)  (s0 : St) (p1 : Int32) (p2 : Int32) : Option (Int32 × St) := if p1 < 0 then (some (0, sF s0 2 0)) else (if 7 < p1 then (some (0, sF s0 2 0)) else (if inb p1 8 = true then (if (s0.2 13 p1.toNatClampNeg) = 0 then (some (0, sF s0 2 0)) else (if inb p1 8 = true then (if isB p2 = true then ((f_X10_goesOn fu (sA (sF s0 2 0) 18 p1.toNatClampNeg p2)).bind (fun q_34 => some (1, q_34))) else none) else none)) else none))
theorem hdX10_cut : yX10_cut.cls = RX10 ∧ yX10_cut.cls ≠ "java/lang/invoke/MethodHandle" ∧ yX10_cut.cls ≠ "java/lang/invoke/VarHandle" ∧ (parseMethodDescriptor yX10_cut.desc).map (fun d => d.parameters.length) = some 2 := by decide +kernel
set_option maxHeartbeats 4000000 in
set_option maxRecDepth 100000 in
theorem c_X10_cut (l : Launch) (D : va_G) (cy : Nat → ClassId) (h0 : Nat) (a0 : Nat → Nat) (s0 : St) (sz fu : Nat) (p1 : Int32) (p2 : Int32) (out : Int32 × St) (hf : f_X10_cut fu s0 p1 p2 = some out) :
    Met l yX10_cut (WS yX10_cut cX10_cut 3 (some .boolean)) ({ frames := 2, cells := 0, slots := 0, locals := 43 } : Room) (va_Pc [.ref h0, .int p1, .int p2] (gP D cy sz (w10 cy h0 a0 s0))) ((fun A : Nat → Prop => gQi D cy A out.1 (w10 cy h0 a0 out.2)) (va_A (w10 cy h0 a0 s0) sz)) 0 0 (va_A (w10 cy h0 a0 s0) sz) := by
  refine g_met (cc := cX10_cut) (maxL := 3) (ret := (some .boolean)) (fun A : Nat → Prop => gQi D cy A out.1 (w10 cy h0 a0 out.2)) (by decide +kernel) rfl (Nat.le_of_ble_eq_true rfl) ?_
  intro p e s m below meth c A C hA hK hP hD ls hl
  obtain ⟨hx, hb, hr, hml, hown, hts, hlk⟩ := id C
  have hown : s.vm.findClass RX10 = some m.cls := hown
  have hS : va_S A s.heap s.heap [] := va_S.rf
  have hl : lv_has ls 3 [(0, .ref h0), (1, .int p1), (2, .int p2)] := hl
  have hk_113 := hts _ (List.mem_cons_of_mem _ fl_RX10_113)
  have hk_38 := hts _ (List.mem_cons_of_mem _ fl_RX10_38)
  have hk_52 := hts _ (List.mem_cons_of_mem _ fl_RX10_52)
  unfold f_X10_cut at hf
  refine lv_aload_n hx hb dX10_cut_0 rfl (lv_at hl 0 rfl) ?_
  refine lv_iconst (v := 0) hx hb dX10_cut_1 (by decide) ?_
  refine va_put (ci := 9) (v := .int 0) (ty := tyX10 2) (C := RX10) (T := TX10) (N := 56) hx hb hts (fun w h => List.mem_cons_of_mem _ (inX10 w h)) tyX10 tyX10_ok nmX10 hown hK hP hD hS 0 rfl rfl 2 (by decide) hk_113 (fun _ h9 => h9) rfl (tyX10_ok 2 (by decide)) rfl rfl (Nat.le_of_ble_eq_true rfl) dX10_cut_2 (fun H locs hP hD hS => ?_)
  have hP : va_P D vwCl (w10 cy h0 a0 (sF s0 2 0)) H := pP10_2 hP
  have hD : va_D A (w10 cy h0 a0 (sF s0 2 0)) := pD10_2 hD
  refine lv_iload_n hx hb dX10_cut_5 rfl (lv_at hl 1 rfl) ?_
  refine lv_if_lt (tgt := 24) hx hb dX10_cut_6 (by decide) (fun c_6 => ?_) (fun c_6 => ?_)
  · have hf := op_pos c_6 hf
    refine lv_iconst (v := 0) hx hb dX10_cut_24 (by decide) ?_
    rw [← Option.some.inj hf]
    exact g_zret hx hb hr hlk (show isB 0 = true by decide) hK hP hD hS dX10_cut_25
  · have hf := op_neg c_6 hf
    refine lv_iload_n hx hb dX10_cut_9 rfl (lv_at hl 1 rfl) ?_
    refine lv_bipush (v := 7) hx hb dX10_cut_10 (by decide) ?_
    refine lv_icmp_gt (tgt := 24) hx hb dX10_cut_12 (by decide) (fun c_12 => ?_) (fun c_12 => ?_)
    · have hf := op_pos c_12 hf
      refine lv_iconst (v := 0) hx hb dX10_cut_24 (by decide) ?_
      rw [← Option.some.inj hf]
      exact g_zret hx hb hr hlk (show isB 0 = true by decide) hK hP hD hS dX10_cut_25
    · have hf := op_neg c_12 hf
      refine lv_aload_n hx hb dX10_cut_15 rfl (lv_at hl 0 rfl) ?_
      refine va_get (ci := 9) (v := .ref (a0 13)) (C := RX10) (T := TX10) (N := 56) hx hb hts (fun w h => List.mem_cons_of_mem _ (inX10 w h)) hown hK hP 0 rfl rfl 13 (by decide) hk_38 (fun _ h9 => h9) rfl dX10_cut_16 ?_
      refine lv_iload_n hx hb dX10_cut_19 rfl (lv_at hl 1 rfl) ?_
      obtain ⟨hg_20, hf⟩ := op_if hf
      refine va_iald (f := s0.2 13) hx hb hK hP 8 0 rfl rfl (inb_in hg_20) dX10_cut_20 ?_
      refine lv_if_ne (tgt := 26) hx hb dX10_cut_21 (by decide) (fun c_21 => ?_) (fun c_21 => ?_)
      · have hf := op_neg c_21 hf
        refine lv_aload_n hx hb dX10_cut_26 rfl (lv_at hl 0 rfl) ?_
        refine va_get (ci := 9) (v := .ref (a0 18)) (C := RX10) (T := TX10) (N := 56) hx hb hts (fun w h => List.mem_cons_of_mem _ (inX10 w h)) hown hK hP 0 rfl rfl 18 (by decide) hk_52 (fun _ h9 => h9) rfl dX10_cut_27 ?_
        refine lv_iload_n hx hb dX10_cut_30 rfl (lv_at hl 1 rfl) ?_
        refine lv_iload_n hx hb dX10_cut_31 rfl (lv_at hl 2 rfl) ?_
        obtain ⟨hg_32, hf⟩ := op_if hf
        obtain ⟨hz_32, hf⟩ := op_if hf
        refine va_zast (f := (sF s0 2 0).2 18) (x := p2) hx hb hK hP hD hS 12 2 rfl rfl (inb_in hg_32) dX10_cut_32 (fun H locs hP hD hS => ?_)
        rw [isB_v hz_32] at hP hD
        have hP : va_P D vwCl (w10 cy h0 a0 (sA (sF s0 2 0) 18 p1.toNatClampNeg p2)) H := pP10_18 hP
        have hD : va_D A (w10 cy h0 a0 (sA (sF s0 2 0) 18 p1.toNatClampNeg p2)) := pD10_18 hD
        refine lv_aload_n hx hb dX10_cut_33 rfl (lv_at hl 0 rfl) ?_
        obtain ⟨q_34, hc_34, hf⟩ := op_bind hf
        refine g_callVv (As := []) (rest := []) (w2 := w10 cy h0 a0 q_34) ⟨hx, hb, hml, hown, hts⟩ (c_X10_goesOn l D cy h0 a0 (sA (sF s0 2 0) 18 p1.toNatClampNeg p2) _ fu _ hc_34) (cwV 0 hts (gi_V ml_RX10_256 im_X10_goesOn se_X10_goesOn in_RX10 cd_X10_goesOn) rfl rfl rfl hdX10_goesOn ⟨Nat.le_of_ble_eq_true rfl, Nat.le_of_ble_eq_true rfl⟩) (va_recv hK hP (ci := 9) (q0 := 0) rfl rfl) rfl hl.1 rfl (Nat.le_of_ble_eq_true rfl) dX10_cut_34 hK hP hD hS hA [0, 1, 2, 3, 4, 5, 6, 7, 8, 9, 10, 11, 12, 13, 14, 15, 16, 17, 18, 19, 20, 21, 22, 23, 24, 25, 26, 27, 28, 29] [] [0, 1, 2, 3, 4, 5, 6, 7, 8, 9, 10, 11, 12, 13, 14, 15, 16, 17, 18, 19, 20, 21, 22, 23, 24, 25, 26, 27, 28, 29] rfl rfl rfl rfl (by decide) rfl rfl (fun H locs hP hD hS => ?_)
        refine lv_iconst (v := 1) hx hb dX10_cut_37 (by decide) ?_
        rw [← Option.some.inj hf]
        exact g_zret hx hb hr hlk (show isB 1 = true by decide) hK hP hD hS dX10_cut_38
      · have hf := op_pos c_21 hf
        refine lv_iconst (v := 0) hx hb dX10_cut_24 (by decide) ?_
        rw [← Option.some.inj hf]
        exact g_zret hx hb hr hlk (show isB 0 = true by decide) hK hP hD hS dX10_cut_25
def f_X10_isTitle (fu : Nat) (s0 : St)  (p1 : Int32) : Option (Int32) := if p1 < 0 then (some 0) else (if (s0.1 8) ≤ p1 then (some 0) else (some 1))
theorem hdX10_isTitle : yX10_isTitle.cls = RX10 ∧ yX10_isTitle.cls ≠ "java/lang/invoke/MethodHandle" ∧ yX10_isTitle.cls ≠ "java/lang/invoke/VarHandle" ∧ (parseMethodDescriptor yX10_isTitle.desc).map (fun d => d.parameters.length) = some 1 := by decide +kernel
set_option maxHeartbeats 4000000 in
set_option maxRecDepth 100000 in
theorem c_X10_isTitle (l : Launch) (D : va_G) (cy : Nat → ClassId) (h0 : Nat) (a0 : Nat → Nat) (s0 : St) (sz fu : Nat) (p1 : Int32) (out : Int32) (hf : f_X10_isTitle fu s0 p1 = some out) :
    Met l yX10_isTitle (WS yX10_isTitle cX10_isTitle 2 (some .boolean)) ({ frames := 0, cells := 0, slots := 0, locals := 0 } : Room) (va_Pc [.ref h0, .int p1] (gP D cy sz (w10 cy h0 a0 s0))) ((fun A : Nat → Prop => gQi D cy A out (w10 cy h0 a0 s0)) (va_A (w10 cy h0 a0 s0) sz)) 0 0 (va_A (w10 cy h0 a0 s0) sz) := by
  refine g_met (cc := cX10_isTitle) (maxL := 2) (ret := (some .boolean)) (fun A : Nat → Prop => gQi D cy A out (w10 cy h0 a0 s0)) (by decide +kernel) rfl (Nat.le_of_ble_eq_true rfl) ?_
  intro p e s m below meth c A C hA hK hP hD ls hl
  obtain ⟨hx, hb, hr, hml, hown, hts, hlk⟩ := id C
  have hown : s.vm.findClass RX10 = some m.cls := hown
  have hS : va_S A s.heap s.heap [] := va_S.rf
  have hl : lv_has ls 2 [(0, .ref h0), (1, .int p1)] := hl
  have hk_238 := hts _ (List.mem_cons_of_mem _ fl_RX10_238)
  unfold f_X10_isTitle at hf
  refine lv_iload_n hx hb dX10_isTitle_0 rfl (lv_at hl 1 rfl) ?_
  refine lv_if_lt (tgt := 16) hx hb dX10_isTitle_1 (by decide) (fun c_1 => ?_) (fun c_1 => ?_)
  · have hf := op_pos c_1 hf
    refine lv_iconst (v := 0) hx hb dX10_isTitle_16 (by decide) ?_
    rw [← Option.some.inj hf]
    exact g_zret hx hb hr hlk (show isB 0 = true by decide) hK hP hD hS dX10_isTitle_17
  · have hf := op_neg c_1 hf
    refine lv_iload_n hx hb dX10_isTitle_4 rfl (lv_at hl 1 rfl) ?_
    refine lv_aload_n hx hb dX10_isTitle_5 rfl (lv_at hl 0 rfl) ?_
    refine va_get (ci := 9) (v := .int (s0.1 8)) (C := RX10) (T := TX10) (N := 56) hx hb hts (fun w h => List.mem_cons_of_mem _ (inX10 w h)) hown hK hP 0 rfl rfl 8 (by decide) hk_238 (fun _ h9 => h9) rfl dX10_isTitle_6 ?_
    refine lv_icmp_ge (tgt := 16) hx hb dX10_isTitle_9 (by decide) (fun c_9 => ?_) (fun c_9 => ?_)
    · have hf := op_pos c_9 hf
      refine lv_iconst (v := 0) hx hb dX10_isTitle_16 (by decide) ?_
      rw [← Option.some.inj hf]
      exact g_zret hx hb hr hlk (show isB 0 = true by decide) hK hP hD hS dX10_isTitle_17
    · have hf := op_neg c_9 hf
      refine lv_iconst (v := 1) hx hb dX10_isTitle_12 (by decide) ?_
      refine lv_goto (tgt := 17) hx hb dX10_isTitle_13 (by decide) ?_
      rw [← Option.some.inj hf]
      exact g_zret hx hb hr hlk (show isB 1 = true by decide) hK hP hD hS dX10_isTitle_17
def f_X10_isTongue (fu : Nat) (s0 : St)  (p1 : Int32) : Option (Int32) := if p1 < 0 then (some 0) else (if (s0.1 3) ≤ p1 then (some 0) else (some 1))
theorem hdX10_isTongue : yX10_isTongue.cls = RX10 ∧ yX10_isTongue.cls ≠ "java/lang/invoke/MethodHandle" ∧ yX10_isTongue.cls ≠ "java/lang/invoke/VarHandle" ∧ (parseMethodDescriptor yX10_isTongue.desc).map (fun d => d.parameters.length) = some 1 := by decide +kernel
set_option maxHeartbeats 4000000 in
set_option maxRecDepth 100000 in
theorem c_X10_isTongue (l : Launch) (D : va_G) (cy : Nat → ClassId) (h0 : Nat) (a0 : Nat → Nat) (s0 : St) (sz fu : Nat) (p1 : Int32) (out : Int32) (hf : f_X10_isTongue fu s0 p1 = some out) :
    Met l yX10_isTongue (WS yX10_isTongue cX10_isTongue 2 (some .boolean)) ({ frames := 0, cells := 0, slots := 0, locals := 0 } : Room) (va_Pc [.ref h0, .int p1] (gP D cy sz (w10 cy h0 a0 s0))) ((fun A : Nat → Prop => gQi D cy A out (w10 cy h0 a0 s0)) (va_A (w10 cy h0 a0 s0) sz)) 0 0 (va_A (w10 cy h0 a0 s0) sz) := by
  refine g_met (cc := cX10_isTongue) (maxL := 2) (ret := (some .boolean)) (fun A : Nat → Prop => gQi D cy A out (w10 cy h0 a0 s0)) (by decide +kernel) rfl (Nat.le_of_ble_eq_true rfl) ?_
  intro p e s m below meth c A C hA hK hP hD ls hl
  obtain ⟨hx, hb, hr, hml, hown, hts, hlk⟩ := id C
  have hown : s.vm.findClass RX10 = some m.cls := hown
  have hS : va_S A s.heap s.heap [] := va_S.rf
  have hl : lv_has ls 2 [(0, .ref h0), (1, .int p1)] := hl
  have hk_13 := hts _ (List.mem_cons_of_mem _ fl_RX10_13)
  unfold f_X10_isTongue at hf
  refine lv_iload_n hx hb dX10_isTongue_0 rfl (lv_at hl 1 rfl) ?_
  refine lv_if_lt (tgt := 16) hx hb dX10_isTongue_1 (by decide) (fun c_1 => ?_) (fun c_1 => ?_)
  · have hf := op_pos c_1 hf
    refine lv_iconst (v := 0) hx hb dX10_isTongue_16 (by decide) ?_
    rw [← Option.some.inj hf]
    exact g_zret hx hb hr hlk (show isB 0 = true by decide) hK hP hD hS dX10_isTongue_17
  · have hf := op_neg c_1 hf
    refine lv_iload_n hx hb dX10_isTongue_4 rfl (lv_at hl 1 rfl) ?_
    refine lv_aload_n hx hb dX10_isTongue_5 rfl (lv_at hl 0 rfl) ?_
    refine va_get (ci := 9) (v := .int (s0.1 3)) (C := RX10) (T := TX10) (N := 56) hx hb hts (fun w h => List.mem_cons_of_mem _ (inX10 w h)) hown hK hP 0 rfl rfl 3 (by decide) hk_13 (fun _ h9 => h9) rfl dX10_isTongue_6 ?_
    refine lv_icmp_ge (tgt := 16) hx hb dX10_isTongue_9 (by decide) (fun c_9 => ?_) (fun c_9 => ?_)
    · have hf := op_pos c_9 hf
      refine lv_iconst (v := 0) hx hb dX10_isTongue_16 (by decide) ?_
      rw [← Option.some.inj hf]
      exact g_zret hx hb hr hlk (show isB 0 = true by decide) hK hP hD hS dX10_isTongue_17
    · have hf := op_neg c_9 hf
      refine lv_iconst (v := 1) hx hb dX10_isTongue_12 (by decide) ?_
      refine lv_goto (tgt := 17) hx hb dX10_isTongue_13 (by decide) ?_
      rw [← Option.some.inj hf]
      exact g_zret hx hb hr hlk (show isB 1 = true by decide) hK hP hD hS dX10_isTongue_17
def f_X10_change_L172  (fu : Nat)  : Nat → St → Int32 → Int32 → Int32 → Option (Int32 × St)
  | 0, _, _, _, _ => none
  | n_172 + 1, u0, x3, x4, x5 => if x3 ≤ x5 then (some (1, sF u0 1 0)) else (if inb x5 1500 = true then (if inb ((500 * x4) + x5) 80000 = true then (f_X10_change_L172 fu n_172 (sA u0 20 (((500 * x4) + x5).toNatClampNeg) (u0.2 0 x5.toNatClampNeg)) x3 x4 (x5 + 1)) else none) else none)
set_option maxHeartbeats 4000000 in
set_option maxRecDepth 100000 in
theorem b_X10_change_L172 {p : Program} {e : Env} {s : State} {m : MethodId} {args : Array Value} {below : List Frame} {meth : Method} {c : Code} {A : Nat → Prop} (l : Launch) (D : va_G) (cy : Nat → ClassId) (h0 : Nat) (a0 : Nat → Nat) (fu : Nat) (out : Int32 × St) (C : gC p s m args meth c (WS yX10_change cX10_change 6 (some .boolean)) cX10_change 6 (some .boolean) RX10) (hA : ∀ q : Nat, s.heap.size ≤ q → A q) (hK : va_K D vwCl (TY cy) s)  :
    ∀ (n_172 : Nat), ∀ (u0 : St) (x3 : Int32) (x4 : Int32) (x5 : Int32), f_X10_change_L172 fu n_172 u0 x3 x4 x5 = some out → ∀ (H : Heap) (locs : List Loc) (ls : Array Slot), va_P D vwCl (w10 cy h0 a0 u0) H → va_D A (w10 cy h0 a0 u0) → va_S A s.heap H locs → lv_has ls 6 [(0, .ref h0), (3, .int x3), (4, .int x4), (5, .int x5)] → W p l e ({ frames := 4, cells := 0, slots := 0, locals := 104 } : Room) s m args below meth c H locs 0 0 (MQ below (gQi D cy A out.1 (w10 cy h0 a0 out.2)) args s 0 0 A) (F0 m 172 ls []) := by
  obtain ⟨hx, hb, hr, hml, hown, hts, hlk⟩ := id C
  have hown : s.vm.findClass RX10 = some m.cls := hown
  have hk_116 := hts _ (List.mem_cons_of_mem _ fl_RX10_116)
  have hk_58 := hts _ (List.mem_cons_of_mem _ fl_RX10_58)
  have hk_7 := hts _ (List.mem_cons_of_mem _ fl_RX10_7)
  intro n_172
  induction n_172 with
  | zero => intro u0 x3 x4 x5 hf; exact op_no hf
  | succ n_172 ih_172 =>
    intro u0 x3 x4 x5 hf H locs ls hP hD hS hl
    rw [f_X10_change_L172] at hf
    refine lv_iload hx hb dX10_change_172 (lv_at hl 3 rfl) ?_
    refine lv_iload_n hx hb dX10_change_174 rfl (lv_at hl 1 rfl) ?_
    refine lv_icmp_ge (tgt := 205) hx hb dX10_change_175 (by decide) (fun c_175 => ?_) (fun c_175 => ?_)
    · have hf := op_pos c_175 hf
      refine lv_aload_n hx hb dX10_change_205 rfl (lv_at hl 0 rfl) ?_
      refine lv_iconst (v := 0) hx hb dX10_change_206 (by decide) ?_
      refine va_put (ci := 9) (v := .int 0) (ty := tyX10 1) (C := RX10) (T := TX10) (N := 56) hx hb hts (fun w h => List.mem_cons_of_mem _ (inX10 w h)) tyX10 tyX10_ok nmX10 hown hK hP hD hS 0 rfl rfl 1 (by decide) hk_116 (fun _ h9 => h9) rfl (tyX10_ok 1 (by decide)) rfl rfl (Nat.le_of_ble_eq_true rfl) dX10_change_207 (fun H locs hP hD hS => ?_)
      have hP : va_P D vwCl (w10 cy h0 a0 (sF u0 1 0)) H := pP10_1 hP
      have hD : va_D A (w10 cy h0 a0 (sF u0 1 0)) := pD10_1 hD
      refine lv_iconst (v := 1) hx hb dX10_change_210 (by decide) ?_
      rw [← Option.some.inj hf]
      exact g_zret hx hb hr hlk (show isB 1 = true by decide) hK hP hD hS dX10_change_211
    · have hf := op_neg c_175 hf
      refine lv_aload_n hx hb dX10_change_178 rfl (lv_at hl 0 rfl) ?_
      refine va_get (ci := 9) (v := .ref (a0 20)) (C := RX10) (T := TX10) (N := 56) hx hb hts (fun w h => List.mem_cons_of_mem _ (inX10 w h)) hown hK hP 0 rfl rfl 20 (by decide) hk_58 (fun _ h9 => h9) rfl dX10_change_179 ?_
      refine lv_sipush (v := 500) hx hb dX10_change_182 (by decide) ?_
      refine lv_iload hx hb dX10_change_185 (lv_at hl 2 rfl) ?_
      refine lv_imul hx hb dX10_change_187 ?_
      refine lv_iload hx hb dX10_change_188 (lv_at hl 3 rfl) ?_
      refine lv_iadd hx hb dX10_change_190 ?_
      refine lv_aload_n hx hb dX10_change_191 rfl (lv_at hl 0 rfl) ?_
      refine va_get (ci := 9) (v := .ref (a0 0)) (C := RX10) (T := TX10) (N := 56) hx hb hts (fun w h => List.mem_cons_of_mem _ (inX10 w h)) hown hK hP 0 rfl rfl 0 (by decide) hk_7 (fun _ h9 => h9) rfl dX10_change_192 ?_
      refine lv_iload hx hb dX10_change_195 (lv_at hl 3 rfl) ?_
      obtain ⟨hg_197, hf⟩ := op_if hf
      refine va_iald (f := u0.2 0) hx hb hK hP 1 0 rfl rfl (inb_in hg_197) dX10_change_197 ?_
      obtain ⟨hg_198, hf⟩ := op_if hf
      refine va_iast (f := u0.2 20) (x := u0.2 0 x5.toNatClampNeg) hx hb hK hP hD hS 14 0 rfl rfl (inb_in hg_198) dX10_change_198 (fun H locs hP hD hS => ?_)
      have hP : va_P D vwCl (w10 cy h0 a0 (sA u0 20 (((500 * x4) + x5).toNatClampNeg) (u0.2 0 x5.toNatClampNeg))) H := pP10_20 hP
      have hD : va_D A (w10 cy h0 a0 (sA u0 20 (((500 * x4) + x5).toNatClampNeg) (u0.2 0 x5.toNatClampNeg))) := pD10_20 hD
      refine lv_iinc (v := x5 + 1) (lv' := [(5, .int (x5 + 1)), (0, .ref h0), (3, .int x3), (4, .int x4)]) hx hb dX10_change_199 hl (k := 3) rfl rfl (by decide) rfl (fun ls hl => ?_)
      refine lv_goto (tgt := 172) hx hb dX10_change_202 (by decide) ?_
      exact ih_172 (sA u0 20 (((500 * x4) + x5).toNatClampNeg) (u0.2 0 x5.toNatClampNeg)) x3 x4 (x5 + 1) hf _ _ ls hP hD hS (lv_sub hl [1, 2, 3, 0] rfl)
def f_X10_change_L64  (fu : Nat)  : Nat → St → Int32 → Int32 → Int32 → Int32 → Option (Int32 × St)
  | 0, _, _, _, _, _ => none
  | n_64 + 1, u0, x2, x3, x4, x5 => if x3 ≤ x5 then ((f_X10_areWords fu u0 0 x3).bind (fun q_131 => if q_131 = 0 then (some (0, u0)) else (if inb x2 4 = true then ((f_X10_lay fu u0 x3 (u0.2 4 x2.toNatClampNeg)).bind (fun q_145 => if q_145.1 = 0 then (some (0, q_145.2)) else (if inb x4 160 = true then (if inb x4 160 = true then (f_X10_change_L172 fu fu (sA (sA q_145.2 19 x4.toNatClampNeg 1) 21 x4.toNatClampNeg x3) x3 x4 0) else none) else none))) else none))) else (if inb x5 1500 = true then (if (u0.2 0 x5.toNatClampNeg) < 32 then (some (0, u0)) else (if inb x5 1500 = true then (if 126 < (u0.2 0 x5.toNatClampNeg) then (some (0, u0)) else (if inb x5 1500 = true then (if (u0.2 0 x5.toNatClampNeg) = 34 then (some (0, u0)) else (if inb x5 1500 = true then (if inb x5 1500 = true then (f_X10_change_L64 fu n_64 (sA u0 26 x5.toNatClampNeg (u0.2 0 x5.toNatClampNeg)) x2 x3 x4 (x5 + 1)) else none) else none)) else none)) else none)) else none)
set_option maxHeartbeats 4000000 in
set_option maxRecDepth 100000 in
theorem b_X10_change_L64 {p : Program} {e : Env} {s : State} {m : MethodId} {args : Array Value} {below : List Frame} {meth : Method} {c : Code} {A : Nat → Prop} (l : Launch) (D : va_G) (cy : Nat → ClassId) (h0 : Nat) (a0 : Nat → Nat) (fu : Nat) (out : Int32 × St) (C : gC p s m args meth c (WS yX10_change cX10_change 6 (some .boolean)) cX10_change 6 (some .boolean) RX10) (hA : ∀ q : Nat, s.heap.size ≤ q → A q) (hK : va_K D vwCl (TY cy) s)  :
    ∀ (n_64 : Nat), ∀ (u0 : St) (x2 : Int32) (x3 : Int32) (x4 : Int32) (x5 : Int32), f_X10_change_L64 fu n_64 u0 x2 x3 x4 x5 = some out → ∀ (H : Heap) (locs : List Loc) (ls : Array Slot), va_P D vwCl (w10 cy h0 a0 u0) H → va_D A (w10 cy h0 a0 u0) → va_S A s.heap H locs → lv_has ls 6 [(0, .ref h0), (2, .int x2), (3, .int x3), (4, .int x4), (5, .int x5)] → W p l e ({ frames := 4, cells := 0, slots := 0, locals := 104 } : Room) s m args below meth c H locs 0 0 (MQ below (gQi D cy A out.1 (w10 cy h0 a0 out.2)) args s 0 0 A) (F0 m 64 ls []) := by
  obtain ⟨hx, hb, hr, hml, hown, hts, hlk⟩ := id C
  have hown : s.vm.findClass RX10 = some m.cls := hown
  have hk_17 := hts _ (List.mem_cons_of_mem _ fl_RX10_17)
  have hk_55 := hts _ (List.mem_cons_of_mem _ fl_RX10_55)
  have hk_61 := hts _ (List.mem_cons_of_mem _ fl_RX10_61)
  have hk_7 := hts _ (List.mem_cons_of_mem _ fl_RX10_7)
  have hk_68 := hts _ (List.mem_cons_of_mem _ fl_RX10_68)
  intro n_64
  induction n_64 with
  | zero => intro u0 x2 x3 x4 x5 hf; exact op_no hf
  | succ n_64 ih_64 =>
    intro u0 x2 x3 x4 x5 hf H locs ls hP hD hS hl
    rw [f_X10_change_L64] at hf
    refine lv_iload hx hb dX10_change_64 (lv_at hl 4 rfl) ?_
    refine lv_iload_n hx hb dX10_change_66 rfl (lv_at hl 2 rfl) ?_
    refine lv_icmp_ge (tgt := 128) hx hb dX10_change_67 (by decide) (fun c_67 => ?_) (fun c_67 => ?_)
    · have hf := op_pos c_67 hf
      refine lv_aload_n hx hb dX10_change_128 rfl (lv_at hl 0 rfl) ?_
      refine lv_iconst (v := 0) hx hb dX10_change_129 (by decide) ?_
      refine lv_iload_n hx hb dX10_change_130 rfl (lv_at hl 2 rfl) ?_
      obtain ⟨q_131, hc_131, hf⟩ := op_bind hf
      refine g_callVi (As := [.int 0, .int x3]) (rest := []) (w2 := w10 cy h0 a0 u0) ⟨hx, hb, hml, hown, hts⟩ (c_X10_areWords l D cy h0 a0 u0 _ fu 0 x3 _ hc_131) (cwV 2 hts (gi_V ml_RX10_211 im_X10_areWords se_X10_areWords in_RX10 cd_X10_areWords) rfl rfl rfl hdX10_areWords ⟨Nat.le_of_ble_eq_true rfl, Nat.le_of_ble_eq_true rfl⟩) (va_recv hK hP (ci := 9) (q0 := 0) rfl rfl) rfl hl.1 rfl (Nat.le_of_ble_eq_true rfl) dX10_change_131 hK hP hD hS hA [0, 1, 2, 3, 4, 5, 6, 7, 8, 9, 10, 11, 12, 13, 14, 15, 16, 17, 18, 19, 20, 21, 22, 23, 24, 25, 26, 27, 28, 29] [] [0, 1, 2, 3, 4, 5, 6, 7, 8, 9, 10, 11, 12, 13, 14, 15, 16, 17, 18, 19, 20, 21, 22, 23, 24, 25, 26, 27, 28, 29] rfl rfl rfl rfl (by decide) rfl rfl (fun H locs hP hD hS => ?_)
      refine lv_if_eq (tgt := 151) hx hb dX10_change_134 (by decide) (fun c_134 => ?_) (fun c_134 => ?_)
      · have hf := op_pos c_134 hf
        refine lv_iconst (v := 0) hx hb dX10_change_151 (by decide) ?_
        rw [← Option.some.inj hf]
        exact g_zret hx hb hr hlk (show isB 0 = true by decide) hK hP hD hS dX10_change_152
      · have hf := op_neg c_134 hf
        refine lv_aload_n hx hb dX10_change_137 rfl (lv_at hl 0 rfl) ?_
        refine lv_iload_n hx hb dX10_change_138 rfl (lv_at hl 2 rfl) ?_
        refine lv_aload_n hx hb dX10_change_139 rfl (lv_at hl 0 rfl) ?_
        refine va_get (ci := 9) (v := .ref (a0 4)) (C := RX10) (T := TX10) (N := 56) hx hb hts (fun w h => List.mem_cons_of_mem _ (inX10 w h)) hown hK hP 0 rfl rfl 4 (by decide) hk_17 (fun _ h9 => h9) rfl dX10_change_140 ?_
        refine lv_iload_n hx hb dX10_change_143 rfl (lv_at hl 1 rfl) ?_
        obtain ⟨hg_144, hf⟩ := op_if hf
        refine va_iald (f := u0.2 4) hx hb hK hP 2 0 rfl rfl (inb_in hg_144) dX10_change_144 ?_
        obtain ⟨q_145, hc_145, hf⟩ := op_bind hf
        refine g_callVi (As := [.int x3, .int (u0.2 4 x2.toNatClampNeg)]) (rest := []) (w2 := w10 cy h0 a0 q_145.2) ⟨hx, hb, hml, hown, hts⟩ (c_X10_lay l D cy h0 a0 u0 _ fu x3 (u0.2 4 x2.toNatClampNeg) _ hc_145) (cwV 2 hts (gi_V ml_RX10_147 im_X10_lay se_X10_lay in_RX10 cd_X10_lay) rfl rfl rfl hdX10_lay ⟨Nat.le_of_ble_eq_true rfl, Nat.le_of_ble_eq_true rfl⟩) (va_recv hK hP (ci := 9) (q0 := 0) rfl rfl) rfl hl.1 rfl (Nat.le_of_ble_eq_true rfl) dX10_change_145 hK hP hD hS hA [0, 1, 2, 3, 4, 5, 6, 7, 8, 9, 10, 11, 12, 13, 14, 15, 16, 17, 18, 19, 20, 21, 22, 23, 24, 25, 26, 27, 28, 29] [] [0, 1, 2, 3, 4, 5, 6, 7, 8, 9, 10, 11, 12, 13, 14, 15, 16, 17, 18, 19, 20, 21, 22, 23, 24, 25, 26, 27, 28, 29] rfl rfl rfl rfl (by decide) rfl rfl (fun H locs hP hD hS => ?_)
        refine lv_if_ne (tgt := 153) hx hb dX10_change_148 (by decide) (fun c_148 => ?_) (fun c_148 => ?_)
        · have hf := op_neg c_148 hf
          refine lv_aload_n hx hb dX10_change_153 rfl (lv_at hl 0 rfl) ?_
          refine va_get (ci := 9) (v := .ref (a0 19)) (C := RX10) (T := TX10) (N := 56) hx hb hts (fun w h => List.mem_cons_of_mem _ (inX10 w h)) hown hK hP 0 rfl rfl 19 (by decide) hk_55 (fun _ h9 => h9) rfl dX10_change_154 ?_
          refine lv_iload hx hb dX10_change_157 (lv_at hl 3 rfl) ?_
          refine lv_iconst (v := 1) hx hb dX10_change_159 (by decide) ?_
          obtain ⟨hg_160, hf⟩ := op_if hf
          refine va_zast (f := q_145.2.2 19) (x := 1) hx hb hK hP hD hS 13 2 rfl rfl (inb_in hg_160) dX10_change_160 (fun H locs hP hD hS => ?_)
          rw [isB_v (show isB 1 = true by decide)] at hP hD
          have hP : va_P D vwCl (w10 cy h0 a0 (sA q_145.2 19 x4.toNatClampNeg 1)) H := pP10_19 hP
          have hD : va_D A (w10 cy h0 a0 (sA q_145.2 19 x4.toNatClampNeg 1)) := pD10_19 hD
          refine lv_aload_n hx hb dX10_change_161 rfl (lv_at hl 0 rfl) ?_
          refine va_get (ci := 9) (v := .ref (a0 21)) (C := RX10) (T := TX10) (N := 56) hx hb hts (fun w h => List.mem_cons_of_mem _ (inX10 w h)) hown hK hP 0 rfl rfl 21 (by decide) hk_61 (fun _ h9 => h9) rfl dX10_change_162 ?_
          refine lv_iload hx hb dX10_change_165 (lv_at hl 3 rfl) ?_
          refine lv_iload_n hx hb dX10_change_167 rfl (lv_at hl 2 rfl) ?_
          obtain ⟨hg_168, hf⟩ := op_if hf
          refine va_iast (f := (sA q_145.2 19 x4.toNatClampNeg 1).2 21) (x := x3) hx hb hK hP hD hS 15 0 rfl rfl (inb_in hg_168) dX10_change_168 (fun H locs hP hD hS => ?_)
          have hP : va_P D vwCl (w10 cy h0 a0 (sA (sA q_145.2 19 x4.toNatClampNeg 1) 21 x4.toNatClampNeg x3)) H := pP10_21 hP
          have hD : va_D A (w10 cy h0 a0 (sA (sA q_145.2 19 x4.toNatClampNeg 1) 21 x4.toNatClampNeg x3)) := pD10_21 hD
          refine lv_iconst (v := 0) hx hb dX10_change_169 (by decide) ?_
          refine lv_istore (lv' := [(5, .int 0), (0, .ref h0), (2, .int x2), (3, .int x3), (4, .int x4)]) hx hb dX10_change_170 hl (by decide) rfl (fun ls hl => ?_)
          exact b_X10_change_L172 l D cy h0 a0 fu out C hA hK fu (sA (sA q_145.2 19 x4.toNatClampNeg 1) 21 x4.toNatClampNeg x3) x3 x4 0 hf _ _ ls hP hD hS (lv_sub hl [1, 3, 4, 0] rfl)
        · have hf := op_pos c_148 hf
          refine lv_iconst (v := 0) hx hb dX10_change_151 (by decide) ?_
          rw [← Option.some.inj hf]
          exact g_zret hx hb hr hlk (show isB 0 = true by decide) hK hP hD hS dX10_change_152
    · have hf := op_neg c_67 hf
      refine lv_aload_n hx hb dX10_change_70 rfl (lv_at hl 0 rfl) ?_
      refine va_get (ci := 9) (v := .ref (a0 0)) (C := RX10) (T := TX10) (N := 56) hx hb hts (fun w h => List.mem_cons_of_mem _ (inX10 w h)) hown hK hP 0 rfl rfl 0 (by decide) hk_7 (fun _ h9 => h9) rfl dX10_change_71 ?_
      refine lv_iload hx hb dX10_change_74 (lv_at hl 4 rfl) ?_
      obtain ⟨hg_76, hf⟩ := op_if hf
      refine va_iald (f := u0.2 0) hx hb hK hP 1 0 rfl rfl (inb_in hg_76) dX10_change_76 ?_
      refine lv_bipush (v := 32) hx hb dX10_change_77 (by decide) ?_
      refine lv_icmp_lt (tgt := 106) hx hb dX10_change_79 (by decide) (fun c_79 => ?_) (fun c_79 => ?_)
      · have hf := op_pos c_79 hf
        refine lv_iconst (v := 0) hx hb dX10_change_106 (by decide) ?_
        rw [← Option.some.inj hf]
        exact g_zret hx hb hr hlk (show isB 0 = true by decide) hK hP hD hS dX10_change_107
      · have hf := op_neg c_79 hf
        refine lv_aload_n hx hb dX10_change_82 rfl (lv_at hl 0 rfl) ?_
        refine va_get (ci := 9) (v := .ref (a0 0)) (C := RX10) (T := TX10) (N := 56) hx hb hts (fun w h => List.mem_cons_of_mem _ (inX10 w h)) hown hK hP 0 rfl rfl 0 (by decide) hk_7 (fun _ h9 => h9) rfl dX10_change_83 ?_
        refine lv_iload hx hb dX10_change_86 (lv_at hl 4 rfl) ?_
        obtain ⟨hg_88, hf⟩ := op_if hf
        refine va_iald (f := u0.2 0) hx hb hK hP 1 0 rfl rfl (inb_in hg_88) dX10_change_88 ?_
        refine lv_bipush (v := 126) hx hb dX10_change_89 (by decide) ?_
        refine lv_icmp_gt (tgt := 106) hx hb dX10_change_91 (by decide) (fun c_91 => ?_) (fun c_91 => ?_)
        · have hf := op_pos c_91 hf
          refine lv_iconst (v := 0) hx hb dX10_change_106 (by decide) ?_
          rw [← Option.some.inj hf]
          exact g_zret hx hb hr hlk (show isB 0 = true by decide) hK hP hD hS dX10_change_107
        · have hf := op_neg c_91 hf
          refine lv_aload_n hx hb dX10_change_94 rfl (lv_at hl 0 rfl) ?_
          refine va_get (ci := 9) (v := .ref (a0 0)) (C := RX10) (T := TX10) (N := 56) hx hb hts (fun w h => List.mem_cons_of_mem _ (inX10 w h)) hown hK hP 0 rfl rfl 0 (by decide) hk_7 (fun _ h9 => h9) rfl dX10_change_95 ?_
          refine lv_iload hx hb dX10_change_98 (lv_at hl 4 rfl) ?_
          obtain ⟨hg_100, hf⟩ := op_if hf
          refine va_iald (f := u0.2 0) hx hb hK hP 1 0 rfl rfl (inb_in hg_100) dX10_change_100 ?_
          refine lv_bipush (v := 34) hx hb dX10_change_101 (by decide) ?_
          refine lv_icmp_ne (tgt := 108) hx hb dX10_change_103 (by decide) (fun c_103 => ?_) (fun c_103 => ?_)
          · have hf := op_neg c_103 hf
            refine lv_aload_n hx hb dX10_change_108 rfl (lv_at hl 0 rfl) ?_
            refine va_get (ci := 9) (v := .ref (a0 26)) (C := RX10) (T := TX10) (N := 56) hx hb hts (fun w h => List.mem_cons_of_mem _ (inX10 w h)) hown hK hP 0 rfl rfl 26 (by decide) hk_68 (fun _ h9 => h9) rfl dX10_change_109 ?_
            refine lv_iload hx hb dX10_change_112 (lv_at hl 4 rfl) ?_
            refine lv_aload_n hx hb dX10_change_114 rfl (lv_at hl 0 rfl) ?_
            refine va_get (ci := 9) (v := .ref (a0 0)) (C := RX10) (T := TX10) (N := 56) hx hb hts (fun w h => List.mem_cons_of_mem _ (inX10 w h)) hown hK hP 0 rfl rfl 0 (by decide) hk_7 (fun _ h9 => h9) rfl dX10_change_115 ?_
            refine lv_iload hx hb dX10_change_118 (lv_at hl 4 rfl) ?_
            obtain ⟨hg_120, hf⟩ := op_if hf
            refine va_iald (f := u0.2 0) hx hb hK hP 1 0 rfl rfl (inb_in hg_120) dX10_change_120 ?_
            obtain ⟨hg_121, hf⟩ := op_if hf
            refine va_iast (f := u0.2 26) (x := u0.2 0 x5.toNatClampNeg) hx hb hK hP hD hS 16 0 rfl rfl (inb_in hg_121) dX10_change_121 (fun H locs hP hD hS => ?_)
            have hP : va_P D vwCl (w10 cy h0 a0 (sA u0 26 x5.toNatClampNeg (u0.2 0 x5.toNatClampNeg))) H := pP10_26 hP
            have hD : va_D A (w10 cy h0 a0 (sA u0 26 x5.toNatClampNeg (u0.2 0 x5.toNatClampNeg))) := pD10_26 hD
            refine lv_iinc (v := x5 + 1) (lv' := [(5, .int (x5 + 1)), (0, .ref h0), (2, .int x2), (3, .int x3), (4, .int x4)]) hx hb dX10_change_122 hl (k := 4) rfl rfl (by decide) rfl (fun ls hl => ?_)
            refine lv_goto (tgt := 64) hx hb dX10_change_125 (by decide) ?_
            exact ih_64 (sA u0 26 x5.toNatClampNeg (u0.2 0 x5.toNatClampNeg)) x2 x3 x4 (x5 + 1) hf _ _ ls hP hD hS (lv_sub hl [1, 2, 3, 4, 0] rfl)
          · have hf := op_pos c_103 hf
            refine lv_iconst (v := 0) hx hb dX10_change_106 (by decide) ?_
            rw [← Option.some.inj hf]
            exact g_zret hx hb hr hlk (show isB 0 = true by decide) hK hP hD hS dX10_change_107
def f_X10_change (fu : Nat)  (s0 : St) (p1 : Int32) (p2 : Int32) (p3 : Int32) : Option (Int32 × St) := (f_X10_isTitle fu (sF s0 2 0) p1).bind (fun q_7 => if q_7 = 0 then (some (0, sF s0 2 0)) else ((f_X10_isTongue fu (sF s0 2 0) p2).bind (fun q_15 => if q_15 = 0 then (some (0, sF s0 2 0)) else (if p3 < 0 then (some (0, sF s0 2 0)) else (if p3 ≤ (s0.1 1) then (if p3 = 0 then (if inb ((4 * p1) + p2) 160 = true then (some (1, sF (sA (sF s0 2 0) 19 (((4 * p1) + p2).toNatClampNeg) 0) 1 0)) else none) else (f_X10_change_L64 fu fu (sF s0 2 0) p2 p3 ((4 * p1) + p2) 0)) else (some (0, sF s0 2 0)))))))
theorem hdX10_change : yX10_change.cls = RX10 ∧ yX10_change.cls ≠ "java/lang/invoke/MethodHandle" ∧ yX10_change.cls ≠ "java/lang/invoke/VarHandle" ∧ (parseMethodDescriptor yX10_change.desc).map (fun d => d.parameters.length) = some 3 := by decide +kernel
set_option maxHeartbeats 4000000 in
set_option maxRecDepth 100000 in
theorem c_X10_change (l : Launch) (D : va_G) (cy : Nat → ClassId) (h0 : Nat) (a0 : Nat → Nat) (s0 : St) (sz fu : Nat) (p1 : Int32) (p2 : Int32) (p3 : Int32) (out : Int32 × St) (hf : f_X10_change fu s0 p1 p2 p3 = some out) :
    Met l yX10_change (WS yX10_change cX10_change 6 (some .boolean)) ({ frames := 4, cells := 0, slots := 0, locals := 104 } : Room) (va_Pc [.ref h0, .int p1, .int p2, .int p3] (gP D cy sz (w10 cy h0 a0 s0))) ((fun A : Nat → Prop => gQi D cy A out.1 (w10 cy h0 a0 out.2)) (va_A (w10 cy h0 a0 s0) sz)) 0 0 (va_A (w10 cy h0 a0 s0) sz) := by
  refine g_met (cc := cX10_change) (maxL := 6) (ret := (some .boolean)) (fun A : Nat → Prop => gQi D cy A out.1 (w10 cy h0 a0 out.2)) (by decide +kernel) rfl (Nat.le_of_ble_eq_true rfl) ?_
  intro p e s m below meth c A C hA hK hP hD ls hl
  obtain ⟨hx, hb, hr, hml, hown, hts, hlk⟩ := id C
  have hown : s.vm.findClass RX10 = some m.cls := hown
  have hS : va_S A s.heap s.heap [] := va_S.rf
  have hl : lv_has ls 6 [(0, .ref h0), (1, .int p1), (2, .int p2), (3, .int p3)] := hl
  have hk_113 := hts _ (List.mem_cons_of_mem _ fl_RX10_113)
  have hk_116 := hts _ (List.mem_cons_of_mem _ fl_RX10_116)
  have hk_55 := hts _ (List.mem_cons_of_mem _ fl_RX10_55)
  unfold f_X10_change at hf
  refine lv_aload_n hx hb dX10_change_0 rfl (lv_at hl 0 rfl) ?_
  refine lv_iconst (v := 0) hx hb dX10_change_1 (by decide) ?_
  refine va_put (ci := 9) (v := .int 0) (ty := tyX10 2) (C := RX10) (T := TX10) (N := 56) hx hb hts (fun w h => List.mem_cons_of_mem _ (inX10 w h)) tyX10 tyX10_ok nmX10 hown hK hP hD hS 0 rfl rfl 2 (by decide) hk_113 (fun _ h9 => h9) rfl (tyX10_ok 2 (by decide)) rfl rfl (Nat.le_of_ble_eq_true rfl) dX10_change_2 (fun H locs hP hD hS => ?_)
  have hP : va_P D vwCl (w10 cy h0 a0 (sF s0 2 0)) H := pP10_2 hP
  have hD : va_D A (w10 cy h0 a0 (sF s0 2 0)) := pD10_2 hD
  refine lv_aload_n hx hb dX10_change_5 rfl (lv_at hl 0 rfl) ?_
  refine lv_iload_n hx hb dX10_change_6 rfl (lv_at hl 1 rfl) ?_
  obtain ⟨q_7, hc_7, hf⟩ := op_bind hf
  refine g_callVi (As := [.int p1]) (rest := []) (w2 := w10 cy h0 a0 (sF s0 2 0)) ⟨hx, hb, hml, hown, hts⟩ (c_X10_isTitle l D cy h0 a0 (sF s0 2 0) _ fu p1 _ hc_7) (cwV 1 hts (gi_V ml_RX10_259 im_X10_isTitle se_X10_isTitle in_RX10 cd_X10_isTitle) rfl rfl rfl hdX10_isTitle ⟨Nat.le_of_ble_eq_true rfl, Nat.le_of_ble_eq_true rfl⟩) (va_recv hK hP (ci := 9) (q0 := 0) rfl rfl) rfl hl.1 rfl (Nat.le_of_ble_eq_true rfl) dX10_change_7 hK hP hD hS hA [0, 1, 2, 3, 4, 5, 6, 7, 8, 9, 10, 11, 12, 13, 14, 15, 16, 17, 18, 19, 20, 21, 22, 23, 24, 25, 26, 27, 28, 29] [] [0, 1, 2, 3, 4, 5, 6, 7, 8, 9, 10, 11, 12, 13, 14, 15, 16, 17, 18, 19, 20, 21, 22, 23, 24, 25, 26, 27, 28, 29] rfl rfl rfl rfl (by decide) rfl rfl (fun H locs hP hD hS => ?_)
  refine lv_if_eq (tgt := 33) hx hb dX10_change_10 (by decide) (fun c_10 => ?_) (fun c_10 => ?_)
  · have hf := op_pos c_10 hf
    refine lv_iconst (v := 0) hx hb dX10_change_33 (by decide) ?_
    rw [← Option.some.inj hf]
    exact g_zret hx hb hr hlk (show isB 0 = true by decide) hK hP hD hS dX10_change_34
  · have hf := op_neg c_10 hf
    refine lv_aload_n hx hb dX10_change_13 rfl (lv_at hl 0 rfl) ?_
    refine lv_iload_n hx hb dX10_change_14 rfl (lv_at hl 2 rfl) ?_
    obtain ⟨q_15, hc_15, hf⟩ := op_bind hf
    refine g_callVi (As := [.int p2]) (rest := []) (w2 := w10 cy h0 a0 (sF s0 2 0)) ⟨hx, hb, hml, hown, hts⟩ (c_X10_isTongue l D cy h0 a0 (sF s0 2 0) _ fu p2 _ hc_15) (cwV 1 hts (gi_V ml_RX10_262 im_X10_isTongue se_X10_isTongue in_RX10 cd_X10_isTongue) rfl rfl rfl hdX10_isTongue ⟨Nat.le_of_ble_eq_true rfl, Nat.le_of_ble_eq_true rfl⟩) (va_recv hK hP (ci := 9) (q0 := 0) rfl rfl) rfl hl.1 rfl (Nat.le_of_ble_eq_true rfl) dX10_change_15 hK hP hD hS hA [0, 1, 2, 3, 4, 5, 6, 7, 8, 9, 10, 11, 12, 13, 14, 15, 16, 17, 18, 19, 20, 21, 22, 23, 24, 25, 26, 27, 28, 29] [] [0, 1, 2, 3, 4, 5, 6, 7, 8, 9, 10, 11, 12, 13, 14, 15, 16, 17, 18, 19, 20, 21, 22, 23, 24, 25, 26, 27, 28, 29] rfl rfl rfl rfl (by decide) rfl rfl (fun H locs hP hD hS => ?_)
    refine lv_if_eq (tgt := 33) hx hb dX10_change_18 (by decide) (fun c_18 => ?_) (fun c_18 => ?_)
    · have hf := op_pos c_18 hf
      refine lv_iconst (v := 0) hx hb dX10_change_33 (by decide) ?_
      rw [← Option.some.inj hf]
      exact g_zret hx hb hr hlk (show isB 0 = true by decide) hK hP hD hS dX10_change_34
    · have hf := op_neg c_18 hf
      refine lv_iload_n hx hb dX10_change_21 rfl (lv_at hl 3 rfl) ?_
      refine lv_if_lt (tgt := 33) hx hb dX10_change_22 (by decide) (fun c_22 => ?_) (fun c_22 => ?_)
      · have hf := op_pos c_22 hf
        refine lv_iconst (v := 0) hx hb dX10_change_33 (by decide) ?_
        rw [← Option.some.inj hf]
        exact g_zret hx hb hr hlk (show isB 0 = true by decide) hK hP hD hS dX10_change_34
      · have hf := op_neg c_22 hf
        refine lv_iload_n hx hb dX10_change_25 rfl (lv_at hl 3 rfl) ?_
        refine lv_aload_n hx hb dX10_change_26 rfl (lv_at hl 0 rfl) ?_
        refine va_get (ci := 9) (v := .int (s0.1 1)) (C := RX10) (T := TX10) (N := 56) hx hb hts (fun w h => List.mem_cons_of_mem _ (inX10 w h)) hown hK hP 0 rfl rfl 1 (by decide) hk_116 (fun _ h9 => h9) rfl dX10_change_27 ?_
        refine lv_icmp_le (tgt := 35) hx hb dX10_change_30 (by decide) (fun c_30 => ?_) (fun c_30 => ?_)
        · have hf := op_pos c_30 hf
          refine lv_iconst (v := 4) hx hb dX10_change_35 (by decide) ?_
          refine lv_iload_n hx hb dX10_change_36 rfl (lv_at hl 1 rfl) ?_
          refine lv_imul hx hb dX10_change_37 ?_
          refine lv_iload_n hx hb dX10_change_38 rfl (lv_at hl 2 rfl) ?_
          refine lv_iadd hx hb dX10_change_39 ?_
          refine lv_istore (lv' := [(4, .int ((4 * p1) + p2)), (0, .ref h0), (1, .int p1), (2, .int p2), (3, .int p3)]) hx hb dX10_change_40 hl (by decide) rfl (fun ls hl => ?_)
          refine lv_iload_n hx hb dX10_change_42 rfl (lv_at hl 4 rfl) ?_
          refine lv_if_ne (tgt := 61) hx hb dX10_change_43 (by decide) (fun c_43 => ?_) (fun c_43 => ?_)
          · have hf := op_neg c_43 hf
            refine lv_iconst (v := 0) hx hb dX10_change_61 (by decide) ?_
            refine lv_istore (lv' := [(5, .int 0), (4, .int ((4 * p1) + p2)), (0, .ref h0), (1, .int p1), (2, .int p2), (3, .int p3)]) hx hb dX10_change_62 hl (by decide) rfl (fun ls hl => ?_)
            exact b_X10_change_L64 l D cy h0 a0 fu out C hA hK fu (sF s0 2 0) p2 p3 ((4 * p1) + p2) 0 hf _ _ ls hP hD hS (lv_sub hl [2, 4, 5, 1, 0] rfl)
          · have hf := op_pos c_43 hf
            refine lv_aload_n hx hb dX10_change_46 rfl (lv_at hl 1 rfl) ?_
            refine va_get (ci := 9) (v := .ref (a0 19)) (C := RX10) (T := TX10) (N := 56) hx hb hts (fun w h => List.mem_cons_of_mem _ (inX10 w h)) hown hK hP 0 rfl rfl 19 (by decide) hk_55 (fun _ h9 => h9) rfl dX10_change_47 ?_
            refine lv_iload hx hb dX10_change_50 (lv_at hl 0 rfl) ?_
            refine lv_iconst (v := 0) hx hb dX10_change_52 (by decide) ?_
            obtain ⟨hg_53, hf⟩ := op_if hf
            refine va_zast (f := (sF s0 2 0).2 19) (x := 0) hx hb hK hP hD hS 13 2 rfl rfl (inb_in hg_53) dX10_change_53 (fun H locs hP hD hS => ?_)
            rw [isB_v (show isB 0 = true by decide)] at hP hD
            have hP : va_P D vwCl (w10 cy h0 a0 (sA (sF s0 2 0) 19 (((4 * p1) + p2).toNatClampNeg) 0)) H := pP10_19 hP
            have hD : va_D A (w10 cy h0 a0 (sA (sF s0 2 0) 19 (((4 * p1) + p2).toNatClampNeg) 0)) := pD10_19 hD
            refine lv_aload_n hx hb dX10_change_54 rfl (lv_at hl 1 rfl) ?_
            refine lv_iconst (v := 0) hx hb dX10_change_55 (by decide) ?_
            refine va_put (ci := 9) (v := .int 0) (ty := tyX10 1) (C := RX10) (T := TX10) (N := 56) hx hb hts (fun w h => List.mem_cons_of_mem _ (inX10 w h)) tyX10 tyX10_ok nmX10 hown hK hP hD hS 0 rfl rfl 1 (by decide) hk_116 (fun _ h9 => h9) rfl (tyX10_ok 1 (by decide)) rfl rfl (Nat.le_of_ble_eq_true rfl) dX10_change_56 (fun H locs hP hD hS => ?_)
            have hP : va_P D vwCl (w10 cy h0 a0 (sF (sA (sF s0 2 0) 19 (((4 * p1) + p2).toNatClampNeg) 0) 1 0)) H := pP10_1 hP
            have hD : va_D A (w10 cy h0 a0 (sF (sA (sF s0 2 0) 19 (((4 * p1) + p2).toNatClampNeg) 0) 1 0)) := pD10_1 hD
            refine lv_iconst (v := 1) hx hb dX10_change_59 (by decide) ?_
            rw [← Option.some.inj hf]
            exact g_zret hx hb hr hlk (show isB 1 = true by decide) hK hP hD hS dX10_change_60
        · have hf := op_neg c_30 hf
          refine lv_iconst (v := 0) hx hb dX10_change_33 (by decide) ?_
          rw [← Option.some.inj hf]
          exact g_zret hx hb hr hlk (show isB 0 = true by decide) hK hP hD hS dX10_change_34
def f_X10_heard_L127  (fu : Nat)  (u0 : St) : Option (Int32 × St) := (f_X10_goesOn fu u0).bind (fun q_128 => some (q_128.1 22, q_128))
set_option maxHeartbeats 4000000 in
set_option maxRecDepth 100000 in
theorem b_X10_heard_L127 {p : Program} {e : Env} {s : State} {m : MethodId} {args : Array Value} {below : List Frame} {meth : Method} {c : Code} {A : Nat → Prop} (l : Launch) (D : va_G) (cy : Nat → ClassId) (h0 : Nat) (a0 : Nat → Nat) (fu : Nat) (out : Int32 × St) (C : gC p s m args meth c (WS yX10_heard cX10_heard 2 (some .int)) cX10_heard 2 (some .int) RX10) (hA : ∀ q : Nat, s.heap.size ≤ q → A q) (hK : va_K D vwCl (TY cy) s)  :
    ∀ (u0 : St), f_X10_heard_L127 fu u0 = some out → ∀ (H : Heap) (locs : List Loc) (ls : Array Slot), va_P D vwCl (w10 cy h0 a0 u0) H → va_D A (w10 cy h0 a0 u0) → va_S A s.heap H locs → lv_has ls 2 [(0, .ref h0)] → W p l e ({ frames := 2, cells := 0, slots := 0, locals := 43 } : Room) s m args below meth c H locs 0 0 (MQ below (gQi D cy A out.1 (w10 cy h0 a0 out.2)) args s 0 0 A) (F0 m 127 ls []) := by
  obtain ⟨hx, hb, hr, hml, hown, hts, hlk⟩ := id C
  have hown : s.vm.findClass RX10 = some m.cls := hown
  have hk_247 := hts _ (List.mem_cons_of_mem _ fl_RX10_247)
  intro u0 hf H locs ls hP hD hS hl
  unfold f_X10_heard_L127 at hf
  refine lv_aload_n hx hb dX10_heard_127 rfl (lv_at hl 0 rfl) ?_
  obtain ⟨q_128, hc_128, hf⟩ := op_bind hf
  refine g_callVv (As := []) (rest := []) (w2 := w10 cy h0 a0 q_128) ⟨hx, hb, hml, hown, hts⟩ (c_X10_goesOn l D cy h0 a0 u0 _ fu _ hc_128) (cwV 0 hts (gi_V ml_RX10_256 im_X10_goesOn se_X10_goesOn in_RX10 cd_X10_goesOn) rfl rfl rfl hdX10_goesOn ⟨Nat.le_of_ble_eq_true rfl, Nat.le_of_ble_eq_true rfl⟩) (va_recv hK hP (ci := 9) (q0 := 0) rfl rfl) rfl hl.1 rfl (Nat.le_of_ble_eq_true rfl) dX10_heard_128 hK hP hD hS hA [0, 1, 2, 3, 4, 5, 6, 7, 8, 9, 10, 11, 12, 13, 14, 15, 16, 17, 18, 19, 20, 21, 22, 23, 24, 25, 26, 27, 28, 29] [] [0, 1, 2, 3, 4, 5, 6, 7, 8, 9, 10, 11, 12, 13, 14, 15, 16, 17, 18, 19, 20, 21, 22, 23, 24, 25, 26, 27, 28, 29] rfl rfl rfl rfl (by decide) rfl rfl (fun H locs hP hD hS => ?_)
  refine lv_aload_n hx hb dX10_heard_131 rfl (lv_at hl 0 rfl) ?_
  refine va_get (ci := 9) (v := .int (q_128.1 22)) (C := RX10) (T := TX10) (N := 56) hx hb hts (fun w h => List.mem_cons_of_mem _ (inX10 w h)) hown hK hP 0 rfl rfl 22 (by decide) hk_247 (fun _ h9 => h9) rfl dX10_heard_132 ?_
  rw [← Option.some.inj hf]
  exact g_iret hx hb hr hlk hK hP hD hS dX10_heard_135
def f_X10_heard_L124  (fu : Nat)  (u0 : St) (t0 : Int32) : Option (Int32 × St) := if isB t0 = true then (f_X10_heard_L127 fu (sF u0 23 t0)) else none
set_option maxHeartbeats 4000000 in
set_option maxRecDepth 100000 in
theorem b_X10_heard_L124 {p : Program} {e : Env} {s : State} {m : MethodId} {args : Array Value} {below : List Frame} {meth : Method} {c : Code} {A : Nat → Prop} (l : Launch) (D : va_G) (cy : Nat → ClassId) (h0 : Nat) (a0 : Nat → Nat) (fu : Nat) (out : Int32 × St) (C : gC p s m args meth c (WS yX10_heard cX10_heard 2 (some .int)) cX10_heard 2 (some .int) RX10) (hA : ∀ q : Nat, s.heap.size ≤ q → A q) (hK : va_K D vwCl (TY cy) s)  :
    ∀ (u0 : St) (t0 : Int32), f_X10_heard_L124 fu u0 t0 = some out → ∀ (H : Heap) (locs : List Loc) (ls : Array Slot), va_P D vwCl (w10 cy h0 a0 u0) H → va_D A (w10 cy h0 a0 u0) → va_S A s.heap H locs → lv_has ls 2 [(0, .ref h0)] → W p l e ({ frames := 2, cells := 0, slots := 0, locals := 43 } : Room) s m args below meth c H locs 0 0 (MQ below (gQi D cy A out.1 (w10 cy h0 a0 out.2)) args s 0 0 A) (F0 m 124 ls [.int t0, .ref h0]) := by
  obtain ⟨hx, hb, hr, hml, hown, hts, hlk⟩ := id C
  have hown : s.vm.findClass RX10 = some m.cls := hown
  have hk_64 := hts _ (List.mem_cons_of_mem _ fl_RX10_64)
  intro u0 t0 hf H locs ls hP hD hS hl
  unfold f_X10_heard_L124 at hf
  obtain ⟨hg_124, hf⟩ := op_if hf
  refine va_put (ci := 9) (v := .int t0) (ty := tyX10 23) (C := RX10) (T := TX10) (N := 56) hx hb hts (fun w h => List.mem_cons_of_mem _ (inX10 w h)) tyX10 tyX10_ok nmX10 hown hK hP hD hS 0 rfl rfl 23 (by decide) hk_64 (fun _ h9 => h9) rfl (tyX10_ok 23 (by decide)) (isB_n hg_124) (isB_f hg_124) (Nat.le_of_ble_eq_true rfl) dX10_heard_124 (fun H locs hP hD hS => ?_)
  have hP : va_P D vwCl (w10 cy h0 a0 (sF u0 23 t0)) H := pP10_23 hP
  have hD : va_D A (w10 cy h0 a0 (sF u0 23 t0)) := pD10_23 hD
  exact b_X10_heard_L127 l D cy h0 a0 fu out C hA hK (sF u0 23 t0) hf _ _ ls hP hD hS (lv_sub hl [0] rfl)
def f_X10_heard_L95  (fu : Nat)  (u0 : St) (x1 : Int32) : Option (Int32 × St) := if 3 ≤ ((u0.1 24) + 1) then (f_X10_heard_L124 fu (sF (sF u0 24 ((u0.1 24) + 1)) 25 x1) 0) else (f_X10_heard_L124 fu (sF (sF u0 24 ((u0.1 24) + 1)) 25 x1) 1)
set_option maxHeartbeats 4000000 in
set_option maxRecDepth 100000 in
theorem b_X10_heard_L95 {p : Program} {e : Env} {s : State} {m : MethodId} {args : Array Value} {below : List Frame} {meth : Method} {c : Code} {A : Nat → Prop} (l : Launch) (D : va_G) (cy : Nat → ClassId) (h0 : Nat) (a0 : Nat → Nat) (fu : Nat) (out : Int32 × St) (C : gC p s m args meth c (WS yX10_heard cX10_heard 2 (some .int)) cX10_heard 2 (some .int) RX10) (hA : ∀ q : Nat, s.heap.size ≤ q → A q) (hK : va_K D vwCl (TY cy) s)  :
    ∀ (u0 : St) (x1 : Int32), f_X10_heard_L95 fu u0 x1 = some out → ∀ (H : Heap) (locs : List Loc) (ls : Array Slot), va_P D vwCl (w10 cy h0 a0 u0) H → va_D A (w10 cy h0 a0 u0) → va_S A s.heap H locs → lv_has ls 2 [(0, .ref h0), (1, .int x1)] → W p l e ({ frames := 2, cells := 0, slots := 0, locals := 43 } : Room) s m args below meth c H locs 0 0 (MQ below (gQi D cy A out.1 (w10 cy h0 a0 out.2)) args s 0 0 A) (F0 m 95 ls []) := by
  obtain ⟨hx, hb, hr, hml, hown, hts, hlk⟩ := id C
  have hown : s.vm.findClass RX10 = some m.cls := hown
  have hk_250 := hts _ (List.mem_cons_of_mem _ fl_RX10_250)
  have hk_265 := hts _ (List.mem_cons_of_mem _ fl_RX10_265)
  intro u0 x1 hf H locs ls hP hD hS hl
  unfold f_X10_heard_L95 at hf
  refine lv_aload_n hx hb dX10_heard_95 rfl (lv_at hl 0 rfl) ?_
  refine lv_dup hx hb dX10_heard_96 rfl ?_
  refine va_get (ci := 9) (v := .int (u0.1 24)) (C := RX10) (T := TX10) (N := 56) hx hb hts (fun w h => List.mem_cons_of_mem _ (inX10 w h)) hown hK hP 0 rfl rfl 24 (by decide) hk_250 (fun _ h9 => h9) rfl dX10_heard_97 ?_
  refine lv_iconst (v := 1) hx hb dX10_heard_100 (by decide) ?_
  refine lv_iadd hx hb dX10_heard_101 ?_
  refine va_put (ci := 9) (v := .int ((u0.1 24) + 1)) (ty := tyX10 24) (C := RX10) (T := TX10) (N := 56) hx hb hts (fun w h => List.mem_cons_of_mem _ (inX10 w h)) tyX10 tyX10_ok nmX10 hown hK hP hD hS 0 rfl rfl 24 (by decide) hk_250 (fun _ h9 => h9) rfl (tyX10_ok 24 (by decide)) rfl rfl (Nat.le_of_ble_eq_true rfl) dX10_heard_102 (fun H locs hP hD hS => ?_)
  have hP : va_P D vwCl (w10 cy h0 a0 (sF u0 24 ((u0.1 24) + 1))) H := pP10_24 hP
  have hD : va_D A (w10 cy h0 a0 (sF u0 24 ((u0.1 24) + 1))) := pD10_24 hD
  refine lv_aload_n hx hb dX10_heard_105 rfl (lv_at hl 0 rfl) ?_
  refine lv_iload_n hx hb dX10_heard_106 rfl (lv_at hl 1 rfl) ?_
  refine va_put (ci := 9) (v := .int x1) (ty := tyX10 25) (C := RX10) (T := TX10) (N := 56) hx hb hts (fun w h => List.mem_cons_of_mem _ (inX10 w h)) tyX10 tyX10_ok nmX10 hown hK hP hD hS 0 rfl rfl 25 (by decide) hk_265 (fun _ h9 => h9) rfl (tyX10_ok 25 (by decide)) rfl rfl (Nat.le_of_ble_eq_true rfl) dX10_heard_107 (fun H locs hP hD hS => ?_)
  have hP : va_P D vwCl (w10 cy h0 a0 (sF (sF u0 24 ((u0.1 24) + 1)) 25 x1)) H := pP10_25 hP
  have hD : va_D A (w10 cy h0 a0 (sF (sF u0 24 ((u0.1 24) + 1)) 25 x1)) := pD10_25 hD
  refine lv_aload_n hx hb dX10_heard_110 rfl (lv_at hl 0 rfl) ?_
  refine lv_aload_n hx hb dX10_heard_111 rfl (lv_at hl 0 rfl) ?_
  refine va_get (ci := 9) (v := .int ((u0.1 24) + 1)) (C := RX10) (T := TX10) (N := 56) hx hb hts (fun w h => List.mem_cons_of_mem _ (inX10 w h)) hown hK hP 0 rfl rfl 24 (by decide) hk_250 (fun _ h9 => h9) rfl dX10_heard_112 ?_
  refine lv_iconst (v := 3) hx hb dX10_heard_115 (by decide) ?_
  refine lv_icmp_ge (tgt := 123) hx hb dX10_heard_116 (by decide) (fun c_116 => ?_) (fun c_116 => ?_)
  · have hf := op_pos c_116 hf
    refine lv_iconst (v := 0) hx hb dX10_heard_123 (by decide) ?_
    exact b_X10_heard_L124 l D cy h0 a0 fu out C hA hK (sF (sF u0 24 ((u0.1 24) + 1)) 25 x1) 0 hf _ _ ls hP hD hS (lv_sub hl [0] rfl)
  · have hf := op_neg c_116 hf
    refine lv_iconst (v := 1) hx hb dX10_heard_119 (by decide) ?_
    refine lv_goto (tgt := 124) hx hb dX10_heard_120 (by decide) ?_
    exact b_X10_heard_L124 l D cy h0 a0 fu out C hA hK (sF (sF u0 24 ((u0.1 24) + 1)) 25 x1) 1 hf _ _ ls hP hD hS (lv_sub hl [0] rfl)
def f_X10_heard_L57  (fu : Nat)  (u0 : St) (x1 : Int32) : Option (Int32 × St) := if (u0.1 24) ≤ 0 then (f_X10_heard_L95 fu u0 x1) else (if x1 = ((u0.1 25) + 1) then (if x1 ≤ (u0.1 22) then (f_X10_heard_L95 fu u0 x1) else (f_X10_heard_L127 fu (sF (sF u0 22 x1) 24 0))) else (f_X10_heard_L95 fu u0 x1))
set_option maxHeartbeats 4000000 in
set_option maxRecDepth 100000 in
theorem b_X10_heard_L57 {p : Program} {e : Env} {s : State} {m : MethodId} {args : Array Value} {below : List Frame} {meth : Method} {c : Code} {A : Nat → Prop} (l : Launch) (D : va_G) (cy : Nat → ClassId) (h0 : Nat) (a0 : Nat → Nat) (fu : Nat) (out : Int32 × St) (C : gC p s m args meth c (WS yX10_heard cX10_heard 2 (some .int)) cX10_heard 2 (some .int) RX10) (hA : ∀ q : Nat, s.heap.size ≤ q → A q) (hK : va_K D vwCl (TY cy) s)  :
    ∀ (u0 : St) (x1 : Int32), f_X10_heard_L57 fu u0 x1 = some out → ∀ (H : Heap) (locs : List Loc) (ls : Array Slot), va_P D vwCl (w10 cy h0 a0 u0) H → va_D A (w10 cy h0 a0 u0) → va_S A s.heap H locs → lv_has ls 2 [(0, .ref h0), (1, .int x1)] → W p l e ({ frames := 2, cells := 0, slots := 0, locals := 43 } : Room) s m args below meth c H locs 0 0 (MQ below (gQi D cy A out.1 (w10 cy h0 a0 out.2)) args s 0 0 A) (F0 m 57 ls []) := by
  obtain ⟨hx, hb, hr, hml, hown, hts, hlk⟩ := id C
  have hown : s.vm.findClass RX10 = some m.cls := hown
  have hk_250 := hts _ (List.mem_cons_of_mem _ fl_RX10_250)
  have hk_265 := hts _ (List.mem_cons_of_mem _ fl_RX10_265)
  have hk_247 := hts _ (List.mem_cons_of_mem _ fl_RX10_247)
  intro u0 x1 hf H locs ls hP hD hS hl
  unfold f_X10_heard_L57 at hf
  refine lv_aload_n hx hb dX10_heard_57 rfl (lv_at hl 0 rfl) ?_
  refine va_get (ci := 9) (v := .int (u0.1 24)) (C := RX10) (T := TX10) (N := 56) hx hb hts (fun w h => List.mem_cons_of_mem _ (inX10 w h)) hown hK hP 0 rfl rfl 24 (by decide) hk_250 (fun _ h9 => h9) rfl dX10_heard_58 ?_
  refine lv_if_le (tgt := 95) hx hb dX10_heard_61 (by decide) (fun c_61 => ?_) (fun c_61 => ?_)
  · have hf := op_pos c_61 hf
    exact b_X10_heard_L95 l D cy h0 a0 fu out C hA hK u0 x1 hf _ _ ls hP hD hS (lv_sub hl [0, 1] rfl)
  · have hf := op_neg c_61 hf
    refine lv_iload_n hx hb dX10_heard_64 rfl (lv_at hl 1 rfl) ?_
    refine lv_aload_n hx hb dX10_heard_65 rfl (lv_at hl 0 rfl) ?_
    refine va_get (ci := 9) (v := .int (u0.1 25)) (C := RX10) (T := TX10) (N := 56) hx hb hts (fun w h => List.mem_cons_of_mem _ (inX10 w h)) hown hK hP 0 rfl rfl 25 (by decide) hk_265 (fun _ h9 => h9) rfl dX10_heard_66 ?_
    refine lv_iconst (v := 1) hx hb dX10_heard_69 (by decide) ?_
    refine lv_iadd hx hb dX10_heard_70 ?_
    refine lv_icmp_ne (tgt := 95) hx hb dX10_heard_71 (by decide) (fun c_71 => ?_) (fun c_71 => ?_)
    · have hf := op_neg c_71 hf
      exact b_X10_heard_L95 l D cy h0 a0 fu out C hA hK u0 x1 hf _ _ ls hP hD hS (lv_sub hl [0, 1] rfl)
    · have hf := op_pos c_71 hf
      refine lv_iload_n hx hb dX10_heard_74 rfl (lv_at hl 1 rfl) ?_
      refine lv_aload_n hx hb dX10_heard_75 rfl (lv_at hl 0 rfl) ?_
      refine va_get (ci := 9) (v := .int (u0.1 22)) (C := RX10) (T := TX10) (N := 56) hx hb hts (fun w h => List.mem_cons_of_mem _ (inX10 w h)) hown hK hP 0 rfl rfl 22 (by decide) hk_247 (fun _ h9 => h9) rfl dX10_heard_76 ?_
      refine lv_icmp_le (tgt := 95) hx hb dX10_heard_79 (by decide) (fun c_79 => ?_) (fun c_79 => ?_)
      · have hf := op_pos c_79 hf
        exact b_X10_heard_L95 l D cy h0 a0 fu out C hA hK u0 x1 hf _ _ ls hP hD hS (lv_sub hl [0, 1] rfl)
      · have hf := op_neg c_79 hf
        refine lv_aload_n hx hb dX10_heard_82 rfl (lv_at hl 0 rfl) ?_
        refine lv_iload_n hx hb dX10_heard_83 rfl (lv_at hl 1 rfl) ?_
        refine va_put (ci := 9) (v := .int x1) (ty := tyX10 22) (C := RX10) (T := TX10) (N := 56) hx hb hts (fun w h => List.mem_cons_of_mem _ (inX10 w h)) tyX10 tyX10_ok nmX10 hown hK hP hD hS 0 rfl rfl 22 (by decide) hk_247 (fun _ h9 => h9) rfl (tyX10_ok 22 (by decide)) rfl rfl (Nat.le_of_ble_eq_true rfl) dX10_heard_84 (fun H locs hP hD hS => ?_)
        have hP : va_P D vwCl (w10 cy h0 a0 (sF u0 22 x1)) H := pP10_22 hP
        have hD : va_D A (w10 cy h0 a0 (sF u0 22 x1)) := pD10_22 hD
        refine lv_aload_n hx hb dX10_heard_87 rfl (lv_at hl 0 rfl) ?_
        refine lv_iconst (v := 0) hx hb dX10_heard_88 (by decide) ?_
        refine va_put (ci := 9) (v := .int 0) (ty := tyX10 24) (C := RX10) (T := TX10) (N := 56) hx hb hts (fun w h => List.mem_cons_of_mem _ (inX10 w h)) tyX10 tyX10_ok nmX10 hown hK hP hD hS 0 rfl rfl 24 (by decide) hk_250 (fun _ h9 => h9) rfl (tyX10_ok 24 (by decide)) rfl rfl (Nat.le_of_ble_eq_true rfl) dX10_heard_89 (fun H locs hP hD hS => ?_)
        have hP : va_P D vwCl (w10 cy h0 a0 (sF (sF u0 22 x1) 24 0)) H := pP10_24 hP
        have hD : va_D A (w10 cy h0 a0 (sF (sF u0 22 x1) 24 0)) := pD10_24 hD
        refine lv_goto (tgt := 127) hx hb dX10_heard_92 (by decide) ?_
        exact b_X10_heard_L127 l D cy h0 a0 fu out C hA hK (sF (sF u0 22 x1) 24 0) hf _ _ ls hP hD hS (lv_sub hl [0] rfl)
def f_X10_heard (fu : Nat)  (s0 : St) (p1 : Int32) : Option (Int32 × St) := if p1 < 1 then (some ((-1), sF s0 2 0)) else (if 999 < p1 then (some ((-1), sF s0 2 0)) else (if (s0.1 23) = 0 then (some ((-1), sF s0 2 0)) else (if p1 < (s0.1 22) then (f_X10_heard_L57 fu (sF s0 2 0) p1) else (if ((s0.1 22) + 4) < p1 then (f_X10_heard_L57 fu (sF s0 2 0) p1) else (f_X10_heard_L127 fu (sF (sF (sF s0 2 0) 22 p1) 24 0))))))
theorem hdX10_heard : yX10_heard.cls = RX10 ∧ yX10_heard.cls ≠ "java/lang/invoke/MethodHandle" ∧ yX10_heard.cls ≠ "java/lang/invoke/VarHandle" ∧ (parseMethodDescriptor yX10_heard.desc).map (fun d => d.parameters.length) = some 1 := by decide +kernel
set_option maxHeartbeats 4000000 in
set_option maxRecDepth 100000 in
theorem c_X10_heard (l : Launch) (D : va_G) (cy : Nat → ClassId) (h0 : Nat) (a0 : Nat → Nat) (s0 : St) (sz fu : Nat) (p1 : Int32) (out : Int32 × St) (hf : f_X10_heard fu s0 p1 = some out) :
    Met l yX10_heard (WS yX10_heard cX10_heard 2 (some .int)) ({ frames := 2, cells := 0, slots := 0, locals := 43 } : Room) (va_Pc [.ref h0, .int p1] (gP D cy sz (w10 cy h0 a0 s0))) ((fun A : Nat → Prop => gQi D cy A out.1 (w10 cy h0 a0 out.2)) (va_A (w10 cy h0 a0 s0) sz)) 0 0 (va_A (w10 cy h0 a0 s0) sz) := by
  refine g_met (cc := cX10_heard) (maxL := 2) (ret := (some .int)) (fun A : Nat → Prop => gQi D cy A out.1 (w10 cy h0 a0 out.2)) (by decide +kernel) rfl (Nat.le_of_ble_eq_true rfl) ?_
  intro p e s m below meth c A C hA hK hP hD ls hl
  obtain ⟨hx, hb, hr, hml, hown, hts, hlk⟩ := id C
  have hown : s.vm.findClass RX10 = some m.cls := hown
  have hS : va_S A s.heap s.heap [] := va_S.rf
  have hl : lv_has ls 2 [(0, .ref h0), (1, .int p1)] := hl
  have hk_113 := hts _ (List.mem_cons_of_mem _ fl_RX10_113)
  have hk_64 := hts _ (List.mem_cons_of_mem _ fl_RX10_64)
  have hk_247 := hts _ (List.mem_cons_of_mem _ fl_RX10_247)
  have hk_250 := hts _ (List.mem_cons_of_mem _ fl_RX10_250)
  unfold f_X10_heard at hf
  refine lv_aload_n hx hb dX10_heard_0 rfl (lv_at hl 0 rfl) ?_
  refine lv_iconst (v := 0) hx hb dX10_heard_1 (by decide) ?_
  refine va_put (ci := 9) (v := .int 0) (ty := tyX10 2) (C := RX10) (T := TX10) (N := 56) hx hb hts (fun w h => List.mem_cons_of_mem _ (inX10 w h)) tyX10 tyX10_ok nmX10 hown hK hP hD hS 0 rfl rfl 2 (by decide) hk_113 (fun _ h9 => h9) rfl (tyX10_ok 2 (by decide)) rfl rfl (Nat.le_of_ble_eq_true rfl) dX10_heard_2 (fun H locs hP hD hS => ?_)
  have hP : va_P D vwCl (w10 cy h0 a0 (sF s0 2 0)) H := pP10_2 hP
  have hD : va_D A (w10 cy h0 a0 (sF s0 2 0)) := pD10_2 hD
  refine lv_iload_n hx hb dX10_heard_5 rfl (lv_at hl 1 rfl) ?_
  refine lv_iconst (v := 1) hx hb dX10_heard_6 (by decide) ?_
  refine lv_icmp_lt (tgt := 24) hx hb dX10_heard_7 (by decide) (fun c_7 => ?_) (fun c_7 => ?_)
  · have hf := op_pos c_7 hf
    refine lv_iconst (v := (-1)) hx hb dX10_heard_24 (by decide) ?_
    rw [← Option.some.inj hf]
    exact g_iret hx hb hr hlk hK hP hD hS dX10_heard_25
  · have hf := op_neg c_7 hf
    refine lv_iload_n hx hb dX10_heard_10 rfl (lv_at hl 1 rfl) ?_
    refine lv_sipush (v := 999) hx hb dX10_heard_11 (by decide) ?_
    refine lv_icmp_gt (tgt := 24) hx hb dX10_heard_14 (by decide) (fun c_14 => ?_) (fun c_14 => ?_)
    · have hf := op_pos c_14 hf
      refine lv_iconst (v := (-1)) hx hb dX10_heard_24 (by decide) ?_
      rw [← Option.some.inj hf]
      exact g_iret hx hb hr hlk hK hP hD hS dX10_heard_25
    · have hf := op_neg c_14 hf
      refine lv_aload_n hx hb dX10_heard_17 rfl (lv_at hl 0 rfl) ?_
      refine va_get (ci := 9) (v := .int (s0.1 23)) (C := RX10) (T := TX10) (N := 56) hx hb hts (fun w h => List.mem_cons_of_mem _ (inX10 w h)) hown hK hP 0 rfl rfl 23 (by decide) hk_64 (fun _ h9 => h9) rfl dX10_heard_18 ?_
      refine lv_if_ne (tgt := 26) hx hb dX10_heard_21 (by decide) (fun c_21 => ?_) (fun c_21 => ?_)
      · have hf := op_neg c_21 hf
        refine lv_iload_n hx hb dX10_heard_26 rfl (lv_at hl 1 rfl) ?_
        refine lv_aload_n hx hb dX10_heard_27 rfl (lv_at hl 0 rfl) ?_
        refine va_get (ci := 9) (v := .int (s0.1 22)) (C := RX10) (T := TX10) (N := 56) hx hb hts (fun w h => List.mem_cons_of_mem _ (inX10 w h)) hown hK hP 0 rfl rfl 22 (by decide) hk_247 (fun _ h9 => h9) rfl dX10_heard_28 ?_
        refine lv_icmp_lt (tgt := 57) hx hb dX10_heard_31 (by decide) (fun c_31 => ?_) (fun c_31 => ?_)
        · have hf := op_pos c_31 hf
          exact b_X10_heard_L57 l D cy h0 a0 fu out C hA hK (sF s0 2 0) p1 hf _ _ ls hP hD hS (lv_sub hl [0, 1] rfl)
        · have hf := op_neg c_31 hf
          refine lv_iload_n hx hb dX10_heard_34 rfl (lv_at hl 1 rfl) ?_
          refine lv_aload_n hx hb dX10_heard_35 rfl (lv_at hl 0 rfl) ?_
          refine va_get (ci := 9) (v := .int (s0.1 22)) (C := RX10) (T := TX10) (N := 56) hx hb hts (fun w h => List.mem_cons_of_mem _ (inX10 w h)) hown hK hP 0 rfl rfl 22 (by decide) hk_247 (fun _ h9 => h9) rfl dX10_heard_36 ?_
          refine lv_iconst (v := 4) hx hb dX10_heard_39 (by decide) ?_
          refine lv_iadd hx hb dX10_heard_40 ?_
          refine lv_icmp_gt (tgt := 57) hx hb dX10_heard_41 (by decide) (fun c_41 => ?_) (fun c_41 => ?_)
          · have hf := op_pos c_41 hf
            exact b_X10_heard_L57 l D cy h0 a0 fu out C hA hK (sF s0 2 0) p1 hf _ _ ls hP hD hS (lv_sub hl [0, 1] rfl)
          · have hf := op_neg c_41 hf
            refine lv_aload_n hx hb dX10_heard_44 rfl (lv_at hl 0 rfl) ?_
            refine lv_iload_n hx hb dX10_heard_45 rfl (lv_at hl 1 rfl) ?_
            refine va_put (ci := 9) (v := .int p1) (ty := tyX10 22) (C := RX10) (T := TX10) (N := 56) hx hb hts (fun w h => List.mem_cons_of_mem _ (inX10 w h)) tyX10 tyX10_ok nmX10 hown hK hP hD hS 0 rfl rfl 22 (by decide) hk_247 (fun _ h9 => h9) rfl (tyX10_ok 22 (by decide)) rfl rfl (Nat.le_of_ble_eq_true rfl) dX10_heard_46 (fun H locs hP hD hS => ?_)
            have hP : va_P D vwCl (w10 cy h0 a0 (sF (sF s0 2 0) 22 p1)) H := pP10_22 hP
            have hD : va_D A (w10 cy h0 a0 (sF (sF s0 2 0) 22 p1)) := pD10_22 hD
            refine lv_aload_n hx hb dX10_heard_49 rfl (lv_at hl 0 rfl) ?_
            refine lv_iconst (v := 0) hx hb dX10_heard_50 (by decide) ?_
            refine va_put (ci := 9) (v := .int 0) (ty := tyX10 24) (C := RX10) (T := TX10) (N := 56) hx hb hts (fun w h => List.mem_cons_of_mem _ (inX10 w h)) tyX10 tyX10_ok nmX10 hown hK hP hD hS 0 rfl rfl 24 (by decide) hk_250 (fun _ h9 => h9) rfl (tyX10_ok 24 (by decide)) rfl rfl (Nat.le_of_ble_eq_true rfl) dX10_heard_51 (fun H locs hP hD hS => ?_)
            have hP : va_P D vwCl (w10 cy h0 a0 (sF (sF (sF s0 2 0) 22 p1) 24 0)) H := pP10_24 hP
            have hD : va_D A (w10 cy h0 a0 (sF (sF (sF s0 2 0) 22 p1) 24 0)) := pD10_24 hD
            refine lv_goto (tgt := 127) hx hb dX10_heard_54 (by decide) ?_
            exact b_X10_heard_L127 l D cy h0 a0 fu out C hA hK (sF (sF (sF s0 2 0) 22 p1) 24 0) hf _ _ ls hP hD hS (lv_sub hl [0] rfl)
      · have hf := op_pos c_21 hf
        refine lv_iconst (v := (-1)) hx hb dX10_heard_24 (by decide) ?_
        rw [← Option.some.inj hf]
        exact g_iret hx hb hr hlk hK hP hD hS dX10_heard_25
def f_X10_hand (fu : Nat)  (s0 : St) (p1 : Int32) (p2 : Int32) : Option (Int32 × St) := if p1 < 0 then (some ((-1), sF s0 2 0)) else (if p1 ≤ 999 then (if isB p2 = true then ((f_X10_goesOn fu (sF (sF (sF (sF s0 2 0) 22 p1) 24 0) 23 p2)).bind (fun q_34 => some (q_34.1 22, q_34))) else none) else (some ((-1), sF s0 2 0)))
theorem hdX10_hand : yX10_hand.cls = RX10 ∧ yX10_hand.cls ≠ "java/lang/invoke/MethodHandle" ∧ yX10_hand.cls ≠ "java/lang/invoke/VarHandle" ∧ (parseMethodDescriptor yX10_hand.desc).map (fun d => d.parameters.length) = some 2 := by decide +kernel
set_option maxHeartbeats 4000000 in
set_option maxRecDepth 100000 in
theorem c_X10_hand (l : Launch) (D : va_G) (cy : Nat → ClassId) (h0 : Nat) (a0 : Nat → Nat) (s0 : St) (sz fu : Nat) (p1 : Int32) (p2 : Int32) (out : Int32 × St) (hf : f_X10_hand fu s0 p1 p2 = some out) :
    Met l yX10_hand (WS yX10_hand cX10_hand 3 (some .int)) ({ frames := 2, cells := 0, slots := 0, locals := 43 } : Room) (va_Pc [.ref h0, .int p1, .int p2] (gP D cy sz (w10 cy h0 a0 s0))) ((fun A : Nat → Prop => gQi D cy A out.1 (w10 cy h0 a0 out.2)) (va_A (w10 cy h0 a0 s0) sz)) 0 0 (va_A (w10 cy h0 a0 s0) sz) := by
  refine g_met (cc := cX10_hand) (maxL := 3) (ret := (some .int)) (fun A : Nat → Prop => gQi D cy A out.1 (w10 cy h0 a0 out.2)) (by decide +kernel) rfl (Nat.le_of_ble_eq_true rfl) ?_
  intro p e s m below meth c A C hA hK hP hD ls hl
  obtain ⟨hx, hb, hr, hml, hown, hts, hlk⟩ := id C
  have hown : s.vm.findClass RX10 = some m.cls := hown
  have hS : va_S A s.heap s.heap [] := va_S.rf
  have hl : lv_has ls 3 [(0, .ref h0), (1, .int p1), (2, .int p2)] := hl
  have hk_113 := hts _ (List.mem_cons_of_mem _ fl_RX10_113)
  have hk_247 := hts _ (List.mem_cons_of_mem _ fl_RX10_247)
  have hk_250 := hts _ (List.mem_cons_of_mem _ fl_RX10_250)
  have hk_64 := hts _ (List.mem_cons_of_mem _ fl_RX10_64)
  unfold f_X10_hand at hf
  refine lv_aload_n hx hb dX10_hand_0 rfl (lv_at hl 0 rfl) ?_
  refine lv_iconst (v := 0) hx hb dX10_hand_1 (by decide) ?_
  refine va_put (ci := 9) (v := .int 0) (ty := tyX10 2) (C := RX10) (T := TX10) (N := 56) hx hb hts (fun w h => List.mem_cons_of_mem _ (inX10 w h)) tyX10 tyX10_ok nmX10 hown hK hP hD hS 0 rfl rfl 2 (by decide) hk_113 (fun _ h9 => h9) rfl (tyX10_ok 2 (by decide)) rfl rfl (Nat.le_of_ble_eq_true rfl) dX10_hand_2 (fun H locs hP hD hS => ?_)
  have hP : va_P D vwCl (w10 cy h0 a0 (sF s0 2 0)) H := pP10_2 hP
  have hD : va_D A (w10 cy h0 a0 (sF s0 2 0)) := pD10_2 hD
  refine lv_iload_n hx hb dX10_hand_5 rfl (lv_at hl 1 rfl) ?_
  refine lv_if_lt (tgt := 16) hx hb dX10_hand_6 (by decide) (fun c_6 => ?_) (fun c_6 => ?_)
  · have hf := op_pos c_6 hf
    refine lv_iconst (v := (-1)) hx hb dX10_hand_16 (by decide) ?_
    rw [← Option.some.inj hf]
    exact g_iret hx hb hr hlk hK hP hD hS dX10_hand_17
  · have hf := op_neg c_6 hf
    refine lv_iload_n hx hb dX10_hand_9 rfl (lv_at hl 1 rfl) ?_
    refine lv_sipush (v := 999) hx hb dX10_hand_10 (by decide) ?_
    refine lv_icmp_le (tgt := 18) hx hb dX10_hand_13 (by decide) (fun c_13 => ?_) (fun c_13 => ?_)
    · have hf := op_pos c_13 hf
      refine lv_aload_n hx hb dX10_hand_18 rfl (lv_at hl 0 rfl) ?_
      refine lv_iload_n hx hb dX10_hand_19 rfl (lv_at hl 1 rfl) ?_
      refine va_put (ci := 9) (v := .int p1) (ty := tyX10 22) (C := RX10) (T := TX10) (N := 56) hx hb hts (fun w h => List.mem_cons_of_mem _ (inX10 w h)) tyX10 tyX10_ok nmX10 hown hK hP hD hS 0 rfl rfl 22 (by decide) hk_247 (fun _ h9 => h9) rfl (tyX10_ok 22 (by decide)) rfl rfl (Nat.le_of_ble_eq_true rfl) dX10_hand_20 (fun H locs hP hD hS => ?_)
      have hP : va_P D vwCl (w10 cy h0 a0 (sF (sF s0 2 0) 22 p1)) H := pP10_22 hP
      have hD : va_D A (w10 cy h0 a0 (sF (sF s0 2 0) 22 p1)) := pD10_22 hD
      refine lv_aload_n hx hb dX10_hand_23 rfl (lv_at hl 0 rfl) ?_
      refine lv_iconst (v := 0) hx hb dX10_hand_24 (by decide) ?_
      refine va_put (ci := 9) (v := .int 0) (ty := tyX10 24) (C := RX10) (T := TX10) (N := 56) hx hb hts (fun w h => List.mem_cons_of_mem _ (inX10 w h)) tyX10 tyX10_ok nmX10 hown hK hP hD hS 0 rfl rfl 24 (by decide) hk_250 (fun _ h9 => h9) rfl (tyX10_ok 24 (by decide)) rfl rfl (Nat.le_of_ble_eq_true rfl) dX10_hand_25 (fun H locs hP hD hS => ?_)
      have hP : va_P D vwCl (w10 cy h0 a0 (sF (sF (sF s0 2 0) 22 p1) 24 0)) H := pP10_24 hP
      have hD : va_D A (w10 cy h0 a0 (sF (sF (sF s0 2 0) 22 p1) 24 0)) := pD10_24 hD
      refine lv_aload_n hx hb dX10_hand_28 rfl (lv_at hl 0 rfl) ?_
      refine lv_iload_n hx hb dX10_hand_29 rfl (lv_at hl 2 rfl) ?_
      obtain ⟨hg_30, hf⟩ := op_if hf
      refine va_put (ci := 9) (v := .int p2) (ty := tyX10 23) (C := RX10) (T := TX10) (N := 56) hx hb hts (fun w h => List.mem_cons_of_mem _ (inX10 w h)) tyX10 tyX10_ok nmX10 hown hK hP hD hS 0 rfl rfl 23 (by decide) hk_64 (fun _ h9 => h9) rfl (tyX10_ok 23 (by decide)) (isB_n hg_30) (isB_f hg_30) (Nat.le_of_ble_eq_true rfl) dX10_hand_30 (fun H locs hP hD hS => ?_)
      have hP : va_P D vwCl (w10 cy h0 a0 (sF (sF (sF (sF s0 2 0) 22 p1) 24 0) 23 p2)) H := pP10_23 hP
      have hD : va_D A (w10 cy h0 a0 (sF (sF (sF (sF s0 2 0) 22 p1) 24 0) 23 p2)) := pD10_23 hD
      refine lv_aload_n hx hb dX10_hand_33 rfl (lv_at hl 0 rfl) ?_
      obtain ⟨q_34, hc_34, hf⟩ := op_bind hf
      refine g_callVv (As := []) (rest := []) (w2 := w10 cy h0 a0 q_34) ⟨hx, hb, hml, hown, hts⟩ (c_X10_goesOn l D cy h0 a0 (sF (sF (sF (sF s0 2 0) 22 p1) 24 0) 23 p2) _ fu _ hc_34) (cwV 0 hts (gi_V ml_RX10_256 im_X10_goesOn se_X10_goesOn in_RX10 cd_X10_goesOn) rfl rfl rfl hdX10_goesOn ⟨Nat.le_of_ble_eq_true rfl, Nat.le_of_ble_eq_true rfl⟩) (va_recv hK hP (ci := 9) (q0 := 0) rfl rfl) rfl hl.1 rfl (Nat.le_of_ble_eq_true rfl) dX10_hand_34 hK hP hD hS hA [0, 1, 2, 3, 4, 5, 6, 7, 8, 9, 10, 11, 12, 13, 14, 15, 16, 17, 18, 19, 20, 21, 22, 23, 24, 25, 26, 27, 28, 29] [] [0, 1, 2, 3, 4, 5, 6, 7, 8, 9, 10, 11, 12, 13, 14, 15, 16, 17, 18, 19, 20, 21, 22, 23, 24, 25, 26, 27, 28, 29] rfl rfl rfl rfl (by decide) rfl rfl (fun H locs hP hD hS => ?_)
      refine lv_aload_n hx hb dX10_hand_37 rfl (lv_at hl 0 rfl) ?_
      refine va_get (ci := 9) (v := .int (q_34.1 22)) (C := RX10) (T := TX10) (N := 56) hx hb hts (fun w h => List.mem_cons_of_mem _ (inX10 w h)) hown hK hP 0 rfl rfl 22 (by decide) hk_247 (fun _ h9 => h9) rfl dX10_hand_38 ?_
      rw [← Option.some.inj hf]
      exact g_iret hx hb hr hlk hK hP hD hS dX10_hand_41
    · have hf := op_neg c_13 hf
      refine lv_iconst (v := (-1)) hx hb dX10_hand_16 (by decide) ?_
      rw [← Option.some.inj hf]
      exact g_iret hx hb hr hlk hK hP hD hS dX10_hand_17
