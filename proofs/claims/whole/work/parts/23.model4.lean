def f_X10_title_L69  (fu : Nat)  (u0 : St) : Option (Int32 × St) := (f_X10_wrong fu u0 1 (u0.1 38)).bind (fun q_75 => if isB q_75.1 = true then (some (q_75.1, q_75.2)) else none)
set_option maxHeartbeats 4000000 in
set_option maxRecDepth 100000 in
theorem b_X10_title_L69 {p : Program} {e : Env} {s : State} {m : MethodId} {args : Array Value} {below : List Frame} {meth : Method} {c : Code} {A : Nat → Prop} (l : Launch) (D : va_G) (cy : Nat → ClassId) (h0 : Nat) (a0 : Nat → Nat) (fu : Nat) (out : Int32 × St) (C : gC p s m args meth c (WS yX10_title cX10_title 7 (some .boolean)) cX10_title 7 (some .boolean) RX10) (hA : ∀ q : Nat, s.heap.size ≤ q → A q) (hK : va_K D vwCl (TY cy) s)  :
    ∀ (u0 : St), f_X10_title_L69 fu u0 = some out → ∀ (H : Heap) (locs : List Loc) (ls : Array Slot), va_P D vwCl (w10 cy h0 a0 u0) H → va_D A (w10 cy h0 a0 u0) → va_S A s.heap H locs → lv_has ls 7 [(0, .ref h0)] → W p l e ({ frames := 4, cells := 0, slots := 0, locals := 104 } : Room) s m args below meth c H locs 0 0 (MQ below (gQi D cy A out.1 (w10 cy h0 a0 out.2)) args s 0 0 A) (F0 m 69 ls []) := by
  obtain ⟨hx, hb, hr, hml, hown, hts, hlk⟩ := id C
  have hown : s.vm.findClass RX10 = some m.cls := hown
  have hk_160 := hts _ (List.mem_cons_of_mem _ fl_RX10_160)
  intro u0 hf H locs ls hP hD hS hl
  unfold f_X10_title_L69 at hf
  refine lv_aload_n hx hb dX10_title_69 rfl (lv_at hl 0 rfl) ?_
  refine lv_iconst (v := 1) hx hb dX10_title_70 (by decide) ?_
  refine lv_aload_n hx hb dX10_title_71 rfl (lv_at hl 0 rfl) ?_
  refine va_get (ci := 9) (v := .int (u0.1 38)) (C := RX10) (T := TX10) (N := 56) hx hb hts (fun w h => List.mem_cons_of_mem _ (inX10 w h)) hown hK hP 0 rfl rfl 38 (by decide) hk_160 (fun _ h9 => h9) rfl dX10_title_72 ?_
  obtain ⟨q_75, hc_75, hf⟩ := op_bind hf
  refine g_callVi (As := [.int 1, .int (u0.1 38)]) (rest := []) (w2 := w10 cy h0 a0 q_75.2) ⟨hx, hb, hml, hown, hts⟩ (c_X10_wrong l D cy h0 a0 u0 _ fu 1 (u0.1 38) _ hc_75) (cwV 2 hts (gi_V ml_RX10_183 im_X10_wrong se_X10_wrong in_RX10 cd_X10_wrong) rfl rfl rfl hdX10_wrong ⟨Nat.le_of_ble_eq_true rfl, Nat.le_of_ble_eq_true rfl⟩) (va_recv hK hP (ci := 9) (q0 := 0) rfl rfl) rfl hl.1 rfl (Nat.le_of_ble_eq_true rfl) dX10_title_75 hK hP hD hS hA [0, 1, 2, 3, 4, 5, 6, 7, 8, 9, 10, 11, 12, 13, 14, 15, 16, 17, 18, 19, 20, 21, 22, 23, 24, 25, 26, 27, 28, 29] [] [0, 1, 2, 3, 4, 5, 6, 7, 8, 9, 10, 11, 12, 13, 14, 15, 16, 17, 18, 19, 20, 21, 22, 23, 24, 25, 26, 27, 28, 29] rfl rfl rfl rfl (by decide) rfl rfl (fun H locs hP hD hS => ?_)
  obtain ⟨hg_78, hf⟩ := op_if hf
  rw [← Option.some.inj hf]
  exact g_zret hx hb hr hlk hg_78 hK hP hD hS dX10_title_78
def f_X10_title_L79 (k_13 : St → Int32 → Int32 → Option (Int32 × St)) (fu : Nat)  (u0 : St) (x1 : Int32) (x3 : Int32) : Option (Int32 × St) := if x1 = (u0.1 41) then ((f_X10_wrong fu u0 2 (u0.1 38)).bind (fun q_93 => if isB q_93.1 = true then (some (q_93.1, q_93.2)) else none)) else (if inb ((4 * (u0.1 46)) + x1) 160 = true then (if inb ((4 * (u0.1 46)) + x1) 160 = true then ((f_X10_take fu (sA (sA u0 52 (((4 * (u0.1 46)) + x1).toNatClampNeg) ((u0.1 38) + 1)) 53 (((4 * (u0.1 46)) + x1).toNatClampNeg) x3)).bind (fun q_134 => if (q_134.1 36) = 4 then (k_13 q_134 (x1 + 1) 1) else (k_13 q_134 (x1 + 1) 0))) else none) else none)
set_option maxHeartbeats 4000000 in
set_option maxRecDepth 100000 in
theorem b_X10_title_L79 {p : Program} {e : Env} {s : State} {m : MethodId} {args : Array Value} {below : List Frame} {meth : Method} {c : Code} {A : Nat → Prop} (l : Launch) (D : va_G) (cy : Nat → ClassId) (h0 : Nat) (a0 : Nat → Nat) (fu : Nat) (out : Int32 × St) (C : gC p s m args meth c (WS yX10_title cX10_title 7 (some .boolean)) cX10_title 7 (some .boolean) RX10) (hA : ∀ q : Nat, s.heap.size ≤ q → A q) (hK : va_K D vwCl (TY cy) s) (k_13 : St → Int32 → Int32 → Option (Int32 × St)) (hk_13 : ∀ (u0 : St) (x1 : Int32) (x2 : Int32), k_13 u0 x1 x2 = some out → ∀ (H : Heap) (locs : List Loc) (ls : Array Slot), va_P D vwCl (w10 cy h0 a0 u0) H → va_D A (w10 cy h0 a0 u0) → va_S A s.heap H locs → lv_has ls 7 [(0, .ref h0), (1, .int x1), (2, .int x2)] → W p l e ({ frames := 4, cells := 0, slots := 0, locals := 104 } : Room) s m args below meth c H locs 0 0 (MQ below (gQi D cy A out.1 (w10 cy h0 a0 out.2)) args s 0 0 A) (F0 m 13 ls [])) :
    ∀ (u0 : St) (x1 : Int32) (x3 : Int32), f_X10_title_L79 k_13 fu u0 x1 x3 = some out → ∀ (H : Heap) (locs : List Loc) (ls : Array Slot), va_P D vwCl (w10 cy h0 a0 u0) H → va_D A (w10 cy h0 a0 u0) → va_S A s.heap H locs → lv_has ls 7 [(0, .ref h0), (1, .int x1), (3, .int x3)] → W p l e ({ frames := 4, cells := 0, slots := 0, locals := 104 } : Room) s m args below meth c H locs 0 0 (MQ below (gQi D cy A out.1 (w10 cy h0 a0 out.2)) args s 0 0 A) (F0 m 79 ls []) := by
  obtain ⟨hx, hb, hr, hml, hown, hts, hlk⟩ := id C
  have hown : s.vm.findClass RX10 = some m.cls := hown
  have hk_202 := hts _ (List.mem_cons_of_mem _ fl_RX10_202)
  have hk_104 := hts _ (List.mem_cons_of_mem _ fl_RX10_104)
  have hk_214 := hts _ (List.mem_cons_of_mem _ fl_RX10_214)
  have hk_160 := hts _ (List.mem_cons_of_mem _ fl_RX10_160)
  have hk_107 := hts _ (List.mem_cons_of_mem _ fl_RX10_107)
  have hk_163 := hts _ (List.mem_cons_of_mem _ fl_RX10_163)
  intro u0 x1 x3 hf H locs ls hP hD hS hl
  unfold f_X10_title_L79 at hf
  refine lv_iload_n hx hb dX10_title_79 rfl (lv_at hl 1 rfl) ?_
  refine lv_aload_n hx hb dX10_title_80 rfl (lv_at hl 0 rfl) ?_
  refine va_get (ci := 9) (v := .int (u0.1 41)) (C := RX10) (T := TX10) (N := 56) hx hb hts (fun w h => List.mem_cons_of_mem _ (inX10 w h)) hown hK hP 0 rfl rfl 41 (by decide) hk_202 (fun _ h9 => h9) rfl dX10_title_81 ?_
  refine lv_icmp_ne (tgt := 97) hx hb dX10_title_84 (by decide) (fun c_84 => ?_) (fun c_84 => ?_)
  · have hf := op_neg c_84 hf
    refine lv_aload_n hx hb dX10_title_97 rfl (lv_at hl 0 rfl) ?_
    refine va_get (ci := 9) (v := .ref (a0 52)) (C := RX10) (T := TX10) (N := 56) hx hb hts (fun w h => List.mem_cons_of_mem _ (inX10 w h)) hown hK hP 0 rfl rfl 52 (by decide) hk_104 (fun _ h9 => h9) rfl dX10_title_98 ?_
    refine lv_iconst (v := 4) hx hb dX10_title_101 (by decide) ?_
    refine lv_aload_n hx hb dX10_title_102 rfl (lv_at hl 0 rfl) ?_
    refine va_get (ci := 9) (v := .int (u0.1 46)) (C := RX10) (T := TX10) (N := 56) hx hb hts (fun w h => List.mem_cons_of_mem _ (inX10 w h)) hown hK hP 0 rfl rfl 46 (by decide) hk_214 (fun _ h9 => h9) rfl dX10_title_103 ?_
    refine lv_imul hx hb dX10_title_106 ?_
    refine lv_iload_n hx hb dX10_title_107 rfl (lv_at hl 1 rfl) ?_
    refine lv_iadd hx hb dX10_title_108 ?_
    refine lv_aload_n hx hb dX10_title_109 rfl (lv_at hl 0 rfl) ?_
    refine va_get (ci := 9) (v := .int (u0.1 38)) (C := RX10) (T := TX10) (N := 56) hx hb hts (fun w h => List.mem_cons_of_mem _ (inX10 w h)) hown hK hP 0 rfl rfl 38 (by decide) hk_160 (fun _ h9 => h9) rfl dX10_title_110 ?_
    refine lv_iconst (v := 1) hx hb dX10_title_113 (by decide) ?_
    refine lv_iadd hx hb dX10_title_114 ?_
    obtain ⟨hg_115, hf⟩ := op_if hf
    refine va_iast (f := u0.2 52) (x := (u0.1 38) + 1) hx hb hK hP hD hS 27 0 rfl rfl (inb_in hg_115) dX10_title_115 (fun H locs hP hD hS => ?_)
    have hP : va_P D vwCl (w10 cy h0 a0 (sA u0 52 (((4 * (u0.1 46)) + x1).toNatClampNeg) ((u0.1 38) + 1))) H := pP10_52 hP
    have hD : va_D A (w10 cy h0 a0 (sA u0 52 (((4 * (u0.1 46)) + x1).toNatClampNeg) ((u0.1 38) + 1))) := pD10_52 hD
    refine lv_aload_n hx hb dX10_title_116 rfl (lv_at hl 0 rfl) ?_
    refine va_get (ci := 9) (v := .ref (a0 53)) (C := RX10) (T := TX10) (N := 56) hx hb hts (fun w h => List.mem_cons_of_mem _ (inX10 w h)) hown hK hP 0 rfl rfl 53 (by decide) hk_107 (fun _ h9 => h9) rfl dX10_title_117 ?_
    refine lv_iconst (v := 4) hx hb dX10_title_120 (by decide) ?_
    refine lv_aload_n hx hb dX10_title_121 rfl (lv_at hl 0 rfl) ?_
    refine va_get (ci := 9) (v := .int (u0.1 46)) (C := RX10) (T := TX10) (N := 56) hx hb hts (fun w h => List.mem_cons_of_mem _ (inX10 w h)) hown hK hP 0 rfl rfl 46 (by decide) hk_214 (fun _ h9 => h9) rfl dX10_title_122 ?_
    refine lv_imul hx hb dX10_title_125 ?_
    refine lv_iload_n hx hb dX10_title_126 rfl (lv_at hl 1 rfl) ?_
    refine lv_iadd hx hb dX10_title_127 ?_
    refine lv_iload_n hx hb dX10_title_128 rfl (lv_at hl 2 rfl) ?_
    obtain ⟨hg_129, hf⟩ := op_if hf
    refine va_iast (f := (sA u0 52 (((4 * (u0.1 46)) + x1).toNatClampNeg) ((u0.1 38) + 1)).2 53) (x := x3) hx hb hK hP hD hS 28 0 rfl rfl (inb_in hg_129) dX10_title_129 (fun H locs hP hD hS => ?_)
    have hP : va_P D vwCl (w10 cy h0 a0 (sA (sA u0 52 (((4 * (u0.1 46)) + x1).toNatClampNeg) ((u0.1 38) + 1)) 53 (((4 * (u0.1 46)) + x1).toNatClampNeg) x3)) H := pP10_53 hP
    have hD : va_D A (w10 cy h0 a0 (sA (sA u0 52 (((4 * (u0.1 46)) + x1).toNatClampNeg) ((u0.1 38) + 1)) 53 (((4 * (u0.1 46)) + x1).toNatClampNeg) x3)) := pD10_53 hD
    refine lv_iinc (v := x1 + 1) (lv' := [(1, .int (x1 + 1)), (0, .ref h0), (3, .int x3)]) hx hb dX10_title_130 hl (k := 1) rfl rfl (by decide) rfl (fun ls hl => ?_)
    refine lv_aload_n hx hb dX10_title_133 rfl (lv_at hl 1 rfl) ?_
    obtain ⟨q_134, hc_134, hf⟩ := op_bind hf
    refine g_callVv (As := []) (rest := []) (w2 := w10 cy h0 a0 q_134) ⟨hx, hb, hml, hown, hts⟩ (c_X10_take l D cy h0 a0 (sA (sA u0 52 (((4 * (u0.1 46)) + x1).toNatClampNeg) ((u0.1 38) + 1)) 53 (((4 * (u0.1 46)) + x1).toNatClampNeg) x3) _ fu _ hc_134) (cwV 0 hts (gi_V ml_RX10_189 im_X10_take se_X10_take in_RX10 cd_X10_take) rfl rfl rfl hdX10_take ⟨Nat.le_of_ble_eq_true rfl, Nat.le_of_ble_eq_true rfl⟩) (va_recv hK hP (ci := 9) (q0 := 0) rfl rfl) rfl hl.1 rfl (Nat.le_of_ble_eq_true rfl) dX10_title_134 hK hP hD hS hA [0, 1, 2, 3, 4, 5, 6, 7, 8, 9, 10, 11, 12, 13, 14, 15, 16, 17, 18, 19, 20, 21, 22, 23, 24, 25, 26, 27, 28, 29] [] [0, 1, 2, 3, 4, 5, 6, 7, 8, 9, 10, 11, 12, 13, 14, 15, 16, 17, 18, 19, 20, 21, 22, 23, 24, 25, 26, 27, 28, 29] rfl rfl rfl rfl (by decide) rfl rfl (fun H locs hP hD hS => ?_)
    refine lv_aload_n hx hb dX10_title_137 rfl (lv_at hl 1 rfl) ?_
    refine va_get (ci := 9) (v := .int (q_134.1 36)) (C := RX10) (T := TX10) (N := 56) hx hb hts (fun w h => List.mem_cons_of_mem _ (inX10 w h)) hown hK hP 0 rfl rfl 36 (by decide) hk_163 (fun _ h9 => h9) rfl dX10_title_138 ?_
    refine lv_iconst (v := 4) hx hb dX10_title_141 (by decide) ?_
    refine lv_icmp_ne (tgt := 149) hx hb dX10_title_142 (by decide) (fun c_142 => ?_) (fun c_142 => ?_)
    · have hf := op_neg c_142 hf
      refine lv_iconst (v := 0) hx hb dX10_title_149 (by decide) ?_
      refine lv_istore_n (lv' := [(2, .int 0), (1, .int (x1 + 1)), (0, .ref h0), (3, .int x3)]) hx hb dX10_title_150 rfl hl (by decide) rfl (fun ls hl => ?_)
      refine lv_goto (tgt := 13) hx hb dX10_title_151 (by decide) ?_
      exact hk_13 q_134 (x1 + 1) 0 hf _ _ ls hP hD hS (lv_sub hl [2, 1, 0] rfl)
    · have hf := op_pos c_142 hf
      refine lv_iconst (v := 1) hx hb dX10_title_145 (by decide) ?_
      refine lv_goto (tgt := 150) hx hb dX10_title_146 (by decide) ?_
      refine lv_istore_n (lv' := [(2, .int 1), (1, .int (x1 + 1)), (0, .ref h0), (3, .int x3)]) hx hb dX10_title_150 rfl hl (by decide) rfl (fun ls hl => ?_)
      refine lv_goto (tgt := 13) hx hb dX10_title_151 (by decide) ?_
      exact hk_13 q_134 (x1 + 1) 1 hf _ _ ls hP hD hS (lv_sub hl [2, 1, 0] rfl)
  · have hf := op_pos c_84 hf
    refine lv_aload_n hx hb dX10_title_87 rfl (lv_at hl 0 rfl) ?_
    refine lv_iconst (v := 2) hx hb dX10_title_88 (by decide) ?_
    refine lv_aload_n hx hb dX10_title_89 rfl (lv_at hl 0 rfl) ?_
    refine va_get (ci := 9) (v := .int (u0.1 38)) (C := RX10) (T := TX10) (N := 56) hx hb hts (fun w h => List.mem_cons_of_mem _ (inX10 w h)) hown hK hP 0 rfl rfl 38 (by decide) hk_160 (fun _ h9 => h9) rfl dX10_title_90 ?_
    obtain ⟨q_93, hc_93, hf⟩ := op_bind hf
    refine g_callVi (As := [.int 2, .int (u0.1 38)]) (rest := []) (w2 := w10 cy h0 a0 q_93.2) ⟨hx, hb, hml, hown, hts⟩ (c_X10_wrong l D cy h0 a0 u0 _ fu 2 (u0.1 38) _ hc_93) (cwV 2 hts (gi_V ml_RX10_183 im_X10_wrong se_X10_wrong in_RX10 cd_X10_wrong) rfl rfl rfl hdX10_wrong ⟨Nat.le_of_ble_eq_true rfl, Nat.le_of_ble_eq_true rfl⟩) (va_recv hK hP (ci := 9) (q0 := 0) rfl rfl) rfl hl.1 rfl (Nat.le_of_ble_eq_true rfl) dX10_title_93 hK hP hD hS hA [0, 1, 2, 3, 4, 5, 6, 7, 8, 9, 10, 11, 12, 13, 14, 15, 16, 17, 18, 19, 20, 21, 22, 23, 24, 25, 26, 27, 28, 29] [] [0, 1, 2, 3, 4, 5, 6, 7, 8, 9, 10, 11, 12, 13, 14, 15, 16, 17, 18, 19, 20, 21, 22, 23, 24, 25, 26, 27, 28, 29] rfl rfl rfl rfl (by decide) rfl rfl (fun H locs hP hD hS => ?_)
    obtain ⟨hg_96, hf⟩ := op_if hf
    rw [← Option.some.inj hf]
    exact g_zret hx hb hr hlk hg_96 hK hP hD hS dX10_title_96
def f_X10_title_L341 (k_204 : St → Int32 → Int32 → Option (Int32 × St)) (fu : Nat)  (u0 : St) (x4 : Int32) (x5 : Int32) : Option (Int32 × St) := if inb x5 160 = true then (k_204 u0 ((u0.2 52 x5.toNatClampNeg) - 1) (x4 + 1)) else none
set_option maxHeartbeats 4000000 in
set_option maxRecDepth 100000 in
theorem b_X10_title_L341 {p : Program} {e : Env} {s : State} {m : MethodId} {args : Array Value} {below : List Frame} {meth : Method} {c : Code} {A : Nat → Prop} (l : Launch) (D : va_G) (cy : Nat → ClassId) (h0 : Nat) (a0 : Nat → Nat) (fu : Nat) (out : Int32 × St) (C : gC p s m args meth c (WS yX10_title cX10_title 7 (some .boolean)) cX10_title 7 (some .boolean) RX10) (hA : ∀ q : Nat, s.heap.size ≤ q → A q) (hK : va_K D vwCl (TY cy) s) (k_204 : St → Int32 → Int32 → Option (Int32 × St)) (hk_204 : ∀ (u0 : St) (x3 : Int32) (x4 : Int32), k_204 u0 x3 x4 = some out → ∀ (H : Heap) (locs : List Loc) (ls : Array Slot), va_P D vwCl (w10 cy h0 a0 u0) H → va_D A (w10 cy h0 a0 u0) → va_S A s.heap H locs → lv_has ls 7 [(0, .ref h0), (3, .int x3), (4, .int x4)] → W p l e ({ frames := 4, cells := 0, slots := 0, locals := 104 } : Room) s m args below meth c H locs 0 0 (MQ below (gQi D cy A out.1 (w10 cy h0 a0 out.2)) args s 0 0 A) (F0 m 204 ls [])) :
    ∀ (u0 : St) (x4 : Int32) (x5 : Int32), f_X10_title_L341 k_204 fu u0 x4 x5 = some out → ∀ (H : Heap) (locs : List Loc) (ls : Array Slot), va_P D vwCl (w10 cy h0 a0 u0) H → va_D A (w10 cy h0 a0 u0) → va_S A s.heap H locs → lv_has ls 7 [(0, .ref h0), (4, .int x4), (5, .int x5)] → W p l e ({ frames := 4, cells := 0, slots := 0, locals := 104 } : Room) s m args below meth c H locs 0 0 (MQ below (gQi D cy A out.1 (w10 cy h0 a0 out.2)) args s 0 0 A) (F0 m 341 ls []) := by
  obtain ⟨hx, hb, hr, hml, hown, hts, hlk⟩ := id C
  have hown : s.vm.findClass RX10 = some m.cls := hown
  have hk_104 := hts _ (List.mem_cons_of_mem _ fl_RX10_104)
  intro u0 x4 x5 hf H locs ls hP hD hS hl
  unfold f_X10_title_L341 at hf
  refine lv_aload_n hx hb dX10_title_341 rfl (lv_at hl 0 rfl) ?_
  refine va_get (ci := 9) (v := .ref (a0 52)) (C := RX10) (T := TX10) (N := 56) hx hb hts (fun w h => List.mem_cons_of_mem _ (inX10 w h)) hown hK hP 0 rfl rfl 52 (by decide) hk_104 (fun _ h9 => h9) rfl dX10_title_342 ?_
  refine lv_iload hx hb dX10_title_345 (lv_at hl 2 rfl) ?_
  obtain ⟨hg_347, hf⟩ := op_if hf
  refine va_iald (f := u0.2 52) hx hb hK hP 27 0 rfl rfl (inb_in hg_347) dX10_title_347 ?_
  refine lv_iconst (v := 1) hx hb dX10_title_348 (by decide) ?_
  refine lv_isub hx hb dX10_title_349 ?_
  refine lv_istore_n (lv' := [(3, .int ((u0.2 52 x5.toNatClampNeg) - 1)), (0, .ref h0), (4, .int x4), (5, .int x5)]) hx hb dX10_title_350 rfl hl (by decide) rfl (fun ls hl => ?_)
  refine lv_iinc (v := x4 + 1) (lv' := [(4, .int (x4 + 1)), (3, .int ((u0.2 52 x5.toNatClampNeg) - 1)), (0, .ref h0), (5, .int x5)]) hx hb dX10_title_351 hl (k := 2) rfl rfl (by decide) rfl (fun ls hl => ?_)
  refine lv_goto (tgt := 204) hx hb dX10_title_354 (by decide) ?_
  exact hk_204 u0 ((u0.2 52 x5.toNatClampNeg) - 1) (x4 + 1) hf _ _ ls hP hD hS (lv_sub hl [2, 1, 0] rfl)
def f_X10_title_L318 (k_204 : St → Int32 → Int32 → Option (Int32 × St)) (fu : Nat)  (u0 : St) (x3 : Int32) (x4 : Int32) (x5 : Int32) (t0 : Int32) (t1 : Int32) : Option (Int32 × St) := (f_X10_lay fu u0 t1 t0).bind (fun q_318 => if q_318.1 = 0 then (if x3 < 0 then (f_X10_title_L341 k_204 fu q_318.2 x4 x5) else (if inb x5 160 = true then (if x3 ≤ ((q_318.2.2 52 x5.toNatClampNeg) - 1) then (k_204 q_318.2 x3 (x4 + 1)) else (f_X10_title_L341 k_204 fu q_318.2 x4 x5)) else none)) else (k_204 q_318.2 x3 (x4 + 1)))
set_option maxHeartbeats 4000000 in
set_option maxRecDepth 100000 in
theorem b_X10_title_L318 {p : Program} {e : Env} {s : State} {m : MethodId} {args : Array Value} {below : List Frame} {meth : Method} {c : Code} {A : Nat → Prop} (l : Launch) (D : va_G) (cy : Nat → ClassId) (h0 : Nat) (a0 : Nat → Nat) (fu : Nat) (out : Int32 × St) (C : gC p s m args meth c (WS yX10_title cX10_title 7 (some .boolean)) cX10_title 7 (some .boolean) RX10) (hA : ∀ q : Nat, s.heap.size ≤ q → A q) (hK : va_K D vwCl (TY cy) s) (k_204 : St → Int32 → Int32 → Option (Int32 × St)) (hk_204 : ∀ (u0 : St) (x3 : Int32) (x4 : Int32), k_204 u0 x3 x4 = some out → ∀ (H : Heap) (locs : List Loc) (ls : Array Slot), va_P D vwCl (w10 cy h0 a0 u0) H → va_D A (w10 cy h0 a0 u0) → va_S A s.heap H locs → lv_has ls 7 [(0, .ref h0), (3, .int x3), (4, .int x4)] → W p l e ({ frames := 4, cells := 0, slots := 0, locals := 104 } : Room) s m args below meth c H locs 0 0 (MQ below (gQi D cy A out.1 (w10 cy h0 a0 out.2)) args s 0 0 A) (F0 m 204 ls [])) :
    ∀ (u0 : St) (x3 : Int32) (x4 : Int32) (x5 : Int32) (t0 : Int32) (t1 : Int32), f_X10_title_L318 k_204 fu u0 x3 x4 x5 t0 t1 = some out → ∀ (H : Heap) (locs : List Loc) (ls : Array Slot), va_P D vwCl (w10 cy h0 a0 u0) H → va_D A (w10 cy h0 a0 u0) → va_S A s.heap H locs → lv_has ls 7 [(0, .ref h0), (3, .int x3), (4, .int x4), (5, .int x5)] → W p l e ({ frames := 4, cells := 0, slots := 0, locals := 104 } : Room) s m args below meth c H locs 0 0 (MQ below (gQi D cy A out.1 (w10 cy h0 a0 out.2)) args s 0 0 A) (F0 m 318 ls [.int t0, .int t1, .ref h0]) := by
  obtain ⟨hx, hb, hr, hml, hown, hts, hlk⟩ := id C
  have hown : s.vm.findClass RX10 = some m.cls := hown
  have hk_104 := hts _ (List.mem_cons_of_mem _ fl_RX10_104)
  intro u0 x3 x4 x5 t0 t1 hf H locs ls hP hD hS hl
  unfold f_X10_title_L318 at hf
  obtain ⟨q_318, hc_318, hf⟩ := op_bind hf
  refine g_callVi (As := [.int t1, .int t0]) (rest := []) (w2 := w10 cy h0 a0 q_318.2) ⟨hx, hb, hml, hown, hts⟩ (c_X10_lay l D cy h0 a0 u0 _ fu t1 t0 _ hc_318) (cwV 2 hts (gi_V ml_RX10_147 im_X10_lay se_X10_lay in_RX10 cd_X10_lay) rfl rfl rfl hdX10_lay ⟨Nat.le_of_ble_eq_true rfl, Nat.le_of_ble_eq_true rfl⟩) (va_recv hK hP (ci := 9) (q0 := 0) rfl rfl) rfl hl.1 rfl (Nat.le_of_ble_eq_true rfl) dX10_title_318 hK hP hD hS hA [0, 1, 2, 3, 4, 5, 6, 7, 8, 9, 10, 11, 12, 13, 14, 15, 16, 17, 18, 19, 20, 21, 22, 23, 24, 25, 26, 27, 28, 29] [] [0, 1, 2, 3, 4, 5, 6, 7, 8, 9, 10, 11, 12, 13, 14, 15, 16, 17, 18, 19, 20, 21, 22, 23, 24, 25, 26, 27, 28, 29] rfl rfl rfl rfl (by decide) rfl rfl (fun H locs hP hD hS => ?_)
  refine lv_if_ne (tgt := 351) hx hb dX10_title_321 (by decide) (fun c_321 => ?_) (fun c_321 => ?_)
  · have hf := op_neg c_321 hf
    refine lv_iinc (v := x4 + 1) (lv' := [(4, .int (x4 + 1)), (0, .ref h0), (3, .int x3), (5, .int x5)]) hx hb dX10_title_351 hl (k := 2) rfl rfl (by decide) rfl (fun ls hl => ?_)
    refine lv_goto (tgt := 204) hx hb dX10_title_354 (by decide) ?_
    exact hk_204 q_318.2 x3 (x4 + 1) hf _ _ ls hP hD hS (lv_sub hl [1, 2, 0] rfl)
  · have hf := op_pos c_321 hf
    refine lv_iload_n hx hb dX10_title_324 rfl (lv_at hl 1 rfl) ?_
    refine lv_if_lt (tgt := 341) hx hb dX10_title_325 (by decide) (fun c_325 => ?_) (fun c_325 => ?_)
    · have hf := op_pos c_325 hf
      exact b_X10_title_L341 l D cy h0 a0 fu out C hA hK k_204 hk_204 q_318.2 x4 x5 hf _ _ ls hP hD hS (lv_sub hl [0, 2, 3] rfl)
    · have hf := op_neg c_325 hf
      refine lv_aload_n hx hb dX10_title_328 rfl (lv_at hl 0 rfl) ?_
      refine va_get (ci := 9) (v := .ref (a0 52)) (C := RX10) (T := TX10) (N := 56) hx hb hts (fun w h => List.mem_cons_of_mem _ (inX10 w h)) hown hK hP 0 rfl rfl 52 (by decide) hk_104 (fun _ h9 => h9) rfl dX10_title_329 ?_
      refine lv_iload hx hb dX10_title_332 (lv_at hl 3 rfl) ?_
      obtain ⟨hg_334, hf⟩ := op_if hf
      refine va_iald (f := q_318.2.2 52) hx hb hK hP 27 0 rfl rfl (inb_in hg_334) dX10_title_334 ?_
      refine lv_iconst (v := 1) hx hb dX10_title_335 (by decide) ?_
      refine lv_isub hx hb dX10_title_336 ?_
      refine lv_iload_n hx hb dX10_title_337 rfl (lv_at hl 1 rfl) ?_
      refine lv_icmp_ge (tgt := 351) hx hb dX10_title_338 (by decide) (fun c_338 => ?_) (fun c_338 => ?_)
      · have hf := op_pos c_338 hf
        refine lv_iinc (v := x4 + 1) (lv' := [(4, .int (x4 + 1)), (0, .ref h0), (3, .int x3), (5, .int x5)]) hx hb dX10_title_351 hl (k := 2) rfl rfl (by decide) rfl (fun ls hl => ?_)
        refine lv_goto (tgt := 204) hx hb dX10_title_354 (by decide) ?_
        exact hk_204 q_318.2 x3 (x4 + 1) hf _ _ ls hP hD hS (lv_sub hl [1, 2, 0] rfl)
      · have hf := op_neg c_338 hf
        exact b_X10_title_L341 l D cy h0 a0 fu out C hA hK k_204 hk_204 q_318.2 x4 x5 hf _ _ ls hP hD hS (lv_sub hl [0, 2, 3] rfl)
def f_X10_title_L248 (k_204 : St → Int32 → Int32 → Option (Int32 × St)) (fu : Nat)  : Nat → St → Int32 → Int32 → Int32 → Int32 → Option (Int32 × St)
  | 0, _, _, _, _, _ => none
  | n_248 + 1, u0, x3, x4, x5, x6 => if inb x5 160 = true then (if (u0.2 53 x5.toNatClampNeg) ≤ x6 then (if inb x5 160 = true then (if inb x4 4 = true then (if (u0.2 42 x4.toNatClampNeg) ≤ 0 then (f_X10_title_L318 k_204 fu u0 x3 x4 x5 20 (u0.2 53 x5.toNatClampNeg)) else (if inb x4 4 = true then (f_X10_title_L318 k_204 fu u0 x3 x4 x5 (u0.2 42 x4.toNatClampNeg) (u0.2 53 x5.toNatClampNeg)) else none)) else none) else none) else (if inb x5 160 = true then (if inb ((u0.2 52 x5.toNatClampNeg) + x6) 1500 = true then (if inb x6 1500 = true then (f_X10_title_L248 k_204 fu n_248 (sA u0 26 x6.toNatClampNeg (u0.2 0 ((u0.2 52 x5.toNatClampNeg) + x6).toNatClampNeg)) x3 x4 x5 (x6 + 1)) else none) else none) else none)) else none
set_option maxHeartbeats 4000000 in
set_option maxRecDepth 100000 in
theorem b_X10_title_L248 {p : Program} {e : Env} {s : State} {m : MethodId} {args : Array Value} {below : List Frame} {meth : Method} {c : Code} {A : Nat → Prop} (l : Launch) (D : va_G) (cy : Nat → ClassId) (h0 : Nat) (a0 : Nat → Nat) (fu : Nat) (out : Int32 × St) (C : gC p s m args meth c (WS yX10_title cX10_title 7 (some .boolean)) cX10_title 7 (some .boolean) RX10) (hA : ∀ q : Nat, s.heap.size ≤ q → A q) (hK : va_K D vwCl (TY cy) s) (k_204 : St → Int32 → Int32 → Option (Int32 × St)) (hk_204 : ∀ (u0 : St) (x3 : Int32) (x4 : Int32), k_204 u0 x3 x4 = some out → ∀ (H : Heap) (locs : List Loc) (ls : Array Slot), va_P D vwCl (w10 cy h0 a0 u0) H → va_D A (w10 cy h0 a0 u0) → va_S A s.heap H locs → lv_has ls 7 [(0, .ref h0), (3, .int x3), (4, .int x4)] → W p l e ({ frames := 4, cells := 0, slots := 0, locals := 104 } : Room) s m args below meth c H locs 0 0 (MQ below (gQi D cy A out.1 (w10 cy h0 a0 out.2)) args s 0 0 A) (F0 m 204 ls [])) :
    ∀ (n_248 : Nat), ∀ (u0 : St) (x3 : Int32) (x4 : Int32) (x5 : Int32) (x6 : Int32), f_X10_title_L248 k_204 fu n_248 u0 x3 x4 x5 x6 = some out → ∀ (H : Heap) (locs : List Loc) (ls : Array Slot), va_P D vwCl (w10 cy h0 a0 u0) H → va_D A (w10 cy h0 a0 u0) → va_S A s.heap H locs → lv_has ls 7 [(0, .ref h0), (3, .int x3), (4, .int x4), (5, .int x5), (6, .int x6)] → W p l e ({ frames := 4, cells := 0, slots := 0, locals := 104 } : Room) s m args below meth c H locs 0 0 (MQ below (gQi D cy A out.1 (w10 cy h0 a0 out.2)) args s 0 0 A) (F0 m 248 ls []) := by
  obtain ⟨hx, hb, hr, hml, hown, hts, hlk⟩ := id C
  have hown : s.vm.findClass RX10 = some m.cls := hown
  have hk_107 := hts _ (List.mem_cons_of_mem _ fl_RX10_107)
  have hk_86 := hts _ (List.mem_cons_of_mem _ fl_RX10_86)
  have hk_68 := hts _ (List.mem_cons_of_mem _ fl_RX10_68)
  have hk_7 := hts _ (List.mem_cons_of_mem _ fl_RX10_7)
  have hk_104 := hts _ (List.mem_cons_of_mem _ fl_RX10_104)
  intro n_248
  induction n_248 with
  | zero => intro u0 x3 x4 x5 x6 hf; exact op_no hf
  | succ n_248 ih_248 =>
    intro u0 x3 x4 x5 x6 hf H locs ls hP hD hS hl
    rw [f_X10_title_L248] at hf
    refine lv_iload hx hb dX10_title_248 (lv_at hl 4 rfl) ?_
    refine lv_aload_n hx hb dX10_title_250 rfl (lv_at hl 0 rfl) ?_
    refine va_get (ci := 9) (v := .ref (a0 53)) (C := RX10) (T := TX10) (N := 56) hx hb hts (fun w h => List.mem_cons_of_mem _ (inX10 w h)) hown hK hP 0 rfl rfl 53 (by decide) hk_107 (fun _ h9 => h9) rfl dX10_title_251 ?_
    refine lv_iload hx hb dX10_title_254 (lv_at hl 3 rfl) ?_
    obtain ⟨hg_256, hf⟩ := op_if hf
    refine va_iald (f := u0.2 53) hx hb hK hP 28 0 rfl rfl (inb_in hg_256) dX10_title_256 ?_
    refine lv_icmp_ge (tgt := 288) hx hb dX10_title_257 (by decide) (fun c_257 => ?_) (fun c_257 => ?_)
    · have hf := op_pos c_257 hf
      refine lv_aload_n hx hb dX10_title_288 rfl (lv_at hl 0 rfl) ?_
      refine lv_aload_n hx hb dX10_title_289 rfl (lv_at hl 0 rfl) ?_
      refine va_get (ci := 9) (v := .ref (a0 53)) (C := RX10) (T := TX10) (N := 56) hx hb hts (fun w h => List.mem_cons_of_mem _ (inX10 w h)) hown hK hP 0 rfl rfl 53 (by decide) hk_107 (fun _ h9 => h9) rfl dX10_title_290 ?_
      refine lv_iload hx hb dX10_title_293 (lv_at hl 3 rfl) ?_
      obtain ⟨hg_295, hf⟩ := op_if hf
      refine va_iald (f := u0.2 53) hx hb hK hP 28 0 rfl rfl (inb_in hg_295) dX10_title_295 ?_
      refine lv_aload_n hx hb dX10_title_296 rfl (lv_at hl 0 rfl) ?_
      refine va_get (ci := 9) (v := .ref (a0 42)) (C := RX10) (T := TX10) (N := 56) hx hb hts (fun w h => List.mem_cons_of_mem _ (inX10 w h)) hown hK hP 0 rfl rfl 42 (by decide) hk_86 (fun _ h9 => h9) rfl dX10_title_297 ?_
      refine lv_iload hx hb dX10_title_300 (lv_at hl 2 rfl) ?_
      obtain ⟨hg_302, hf⟩ := op_if hf
      refine va_iald (f := u0.2 42) hx hb hK hP 21 0 rfl rfl (inb_in hg_302) dX10_title_302 ?_
      refine lv_if_le (tgt := 316) hx hb dX10_title_303 (by decide) (fun c_303 => ?_) (fun c_303 => ?_)
      · have hf := op_pos c_303 hf
        refine lv_bipush (v := 20) hx hb dX10_title_316 (by decide) ?_
        exact b_X10_title_L318 l D cy h0 a0 fu out C hA hK k_204 hk_204 u0 x3 x4 x5 20 (u0.2 53 x5.toNatClampNeg) hf _ _ ls hP hD hS (lv_sub hl [0, 1, 2, 3] rfl)
      · have hf := op_neg c_303 hf
        refine lv_aload_n hx hb dX10_title_306 rfl (lv_at hl 0 rfl) ?_
        refine va_get (ci := 9) (v := .ref (a0 42)) (C := RX10) (T := TX10) (N := 56) hx hb hts (fun w h => List.mem_cons_of_mem _ (inX10 w h)) hown hK hP 0 rfl rfl 42 (by decide) hk_86 (fun _ h9 => h9) rfl dX10_title_307 ?_
        refine lv_iload hx hb dX10_title_310 (lv_at hl 2 rfl) ?_
        obtain ⟨hg_312, hf⟩ := op_if hf
        refine va_iald (f := u0.2 42) hx hb hK hP 21 0 rfl rfl (inb_in hg_312) dX10_title_312 ?_
        refine lv_goto (tgt := 318) hx hb dX10_title_313 (by decide) ?_
        exact b_X10_title_L318 l D cy h0 a0 fu out C hA hK k_204 hk_204 u0 x3 x4 x5 (u0.2 42 x4.toNatClampNeg) (u0.2 53 x5.toNatClampNeg) hf _ _ ls hP hD hS (lv_sub hl [0, 1, 2, 3] rfl)
    · have hf := op_neg c_257 hf
      refine lv_aload_n hx hb dX10_title_260 rfl (lv_at hl 0 rfl) ?_
      refine va_get (ci := 9) (v := .ref (a0 26)) (C := RX10) (T := TX10) (N := 56) hx hb hts (fun w h => List.mem_cons_of_mem _ (inX10 w h)) hown hK hP 0 rfl rfl 26 (by decide) hk_68 (fun _ h9 => h9) rfl dX10_title_261 ?_
      refine lv_iload hx hb dX10_title_264 (lv_at hl 4 rfl) ?_
      refine lv_aload_n hx hb dX10_title_266 rfl (lv_at hl 0 rfl) ?_
      refine va_get (ci := 9) (v := .ref (a0 0)) (C := RX10) (T := TX10) (N := 56) hx hb hts (fun w h => List.mem_cons_of_mem _ (inX10 w h)) hown hK hP 0 rfl rfl 0 (by decide) hk_7 (fun _ h9 => h9) rfl dX10_title_267 ?_
      refine lv_aload_n hx hb dX10_title_270 rfl (lv_at hl 0 rfl) ?_
      refine va_get (ci := 9) (v := .ref (a0 52)) (C := RX10) (T := TX10) (N := 56) hx hb hts (fun w h => List.mem_cons_of_mem _ (inX10 w h)) hown hK hP 0 rfl rfl 52 (by decide) hk_104 (fun _ h9 => h9) rfl dX10_title_271 ?_
      refine lv_iload hx hb dX10_title_274 (lv_at hl 3 rfl) ?_
      obtain ⟨hg_276, hf⟩ := op_if hf
      refine va_iald (f := u0.2 52) hx hb hK hP 27 0 rfl rfl (inb_in hg_276) dX10_title_276 ?_
      refine lv_iload hx hb dX10_title_277 (lv_at hl 4 rfl) ?_
      refine lv_iadd hx hb dX10_title_279 ?_
      obtain ⟨hg_280, hf⟩ := op_if hf
      refine va_iald (f := u0.2 0) hx hb hK hP 1 0 rfl rfl (inb_in hg_280) dX10_title_280 ?_
      obtain ⟨hg_281, hf⟩ := op_if hf
      refine va_iast (f := u0.2 26) (x := u0.2 0 ((u0.2 52 x5.toNatClampNeg) + x6).toNatClampNeg) hx hb hK hP hD hS 16 0 rfl rfl (inb_in hg_281) dX10_title_281 (fun H locs hP hD hS => ?_)
      have hP : va_P D vwCl (w10 cy h0 a0 (sA u0 26 x6.toNatClampNeg (u0.2 0 ((u0.2 52 x5.toNatClampNeg) + x6).toNatClampNeg))) H := pP10_26 hP
      have hD : va_D A (w10 cy h0 a0 (sA u0 26 x6.toNatClampNeg (u0.2 0 ((u0.2 52 x5.toNatClampNeg) + x6).toNatClampNeg))) := pD10_26 hD
      refine lv_iinc (v := x6 + 1) (lv' := [(6, .int (x6 + 1)), (0, .ref h0), (3, .int x3), (4, .int x4), (5, .int x5)]) hx hb dX10_title_282 hl (k := 4) rfl rfl (by decide) rfl (fun ls hl => ?_)
      refine lv_goto (tgt := 248) hx hb dX10_title_285 (by decide) ?_
      exact ih_248 (sA u0 26 x6.toNatClampNeg (u0.2 0 ((u0.2 52 x5.toNatClampNeg) + x6).toNatClampNeg)) x3 x4 x5 (x6 + 1) hf _ _ ls hP hD hS (lv_sub hl [1, 2, 3, 4, 0] rfl)
def f_X10_title_L242 (k_204 : St → Int32 → Int32 → Option (Int32 × St)) (fu : Nat)  (u0 : St) (x3 : Int32) (x4 : Int32) (t0 : Int32) (t1 : Int32) : Option (Int32 × St) := f_X10_title_L248 k_204 fu fu u0 x3 x4 (t1 + t0) 0
set_option maxHeartbeats 4000000 in
set_option maxRecDepth 100000 in
theorem b_X10_title_L242 {p : Program} {e : Env} {s : State} {m : MethodId} {args : Array Value} {below : List Frame} {meth : Method} {c : Code} {A : Nat → Prop} (l : Launch) (D : va_G) (cy : Nat → ClassId) (h0 : Nat) (a0 : Nat → Nat) (fu : Nat) (out : Int32 × St) (C : gC p s m args meth c (WS yX10_title cX10_title 7 (some .boolean)) cX10_title 7 (some .boolean) RX10) (hA : ∀ q : Nat, s.heap.size ≤ q → A q) (hK : va_K D vwCl (TY cy) s) (k_204 : St → Int32 → Int32 → Option (Int32 × St)) (hk_204 : ∀ (u0 : St) (x3 : Int32) (x4 : Int32), k_204 u0 x3 x4 = some out → ∀ (H : Heap) (locs : List Loc) (ls : Array Slot), va_P D vwCl (w10 cy h0 a0 u0) H → va_D A (w10 cy h0 a0 u0) → va_S A s.heap H locs → lv_has ls 7 [(0, .ref h0), (3, .int x3), (4, .int x4)] → W p l e ({ frames := 4, cells := 0, slots := 0, locals := 104 } : Room) s m args below meth c H locs 0 0 (MQ below (gQi D cy A out.1 (w10 cy h0 a0 out.2)) args s 0 0 A) (F0 m 204 ls [])) :
    ∀ (u0 : St) (x3 : Int32) (x4 : Int32) (t0 : Int32) (t1 : Int32), f_X10_title_L242 k_204 fu u0 x3 x4 t0 t1 = some out → ∀ (H : Heap) (locs : List Loc) (ls : Array Slot), va_P D vwCl (w10 cy h0 a0 u0) H → va_D A (w10 cy h0 a0 u0) → va_S A s.heap H locs → lv_has ls 7 [(0, .ref h0), (3, .int x3), (4, .int x4)] → W p l e ({ frames := 4, cells := 0, slots := 0, locals := 104 } : Room) s m args below meth c H locs 0 0 (MQ below (gQi D cy A out.1 (w10 cy h0 a0 out.2)) args s 0 0 A) (F0 m 242 ls [.int t0, .int t1]) := by
  obtain ⟨hx, hb, hr, hml, hown, hts, hlk⟩ := id C
  have hown : s.vm.findClass RX10 = some m.cls := hown
  intro u0 x3 x4 t0 t1 hf H locs ls hP hD hS hl
  unfold f_X10_title_L242 at hf
  refine lv_iadd hx hb dX10_title_242 ?_
  refine lv_istore (lv' := [(5, .int (t1 + t0)), (0, .ref h0), (3, .int x3), (4, .int x4)]) hx hb dX10_title_243 hl (by decide) rfl (fun ls hl => ?_)
  refine lv_iconst (v := 0) hx hb dX10_title_245 (by decide) ?_
  refine lv_istore (lv' := [(6, .int 0), (5, .int (t1 + t0)), (0, .ref h0), (3, .int x3), (4, .int x4)]) hx hb dX10_title_246 hl (by decide) rfl (fun ls hl => ?_)
  exact b_X10_title_L248 l D cy h0 a0 fu out C hA hK k_204 hk_204 fu u0 x3 x4 (t1 + t0) 0 hf _ _ ls hP hD hS (lv_sub hl [2, 3, 4, 1, 0] rfl)
def f_X10_title_L204  (fu : Nat)  : Nat → St → Int32 → Int32 → Option (Int32 × St)
  | 0, _, _, _ => none
  | n_204 + 1, u0, x3, x4 => if (u0.1 41) ≤ x4 then (if x3 < 0 then (if inb (u0.1 45) 40 = true then ((f_X10_take fu (sF (sF (sA u0 48 ((u0.1 45).toNatClampNeg) (u0.1 46)) 46 ((u0.1 46) + 1)) 45 ((u0.1 45) + 1))).bind (fun q_402 => some (1, q_402))) else none) else ((f_X10_wrong fu u0 4 x3).bind (fun q_364 => if isB q_364.1 = true then (some (q_364.1, q_364.2)) else none))) else (if inb ((4 * (u0.1 46)) + x4) 160 = true then (if (u0.2 53 ((4 * (u0.1 46)) + x4).toNatClampNeg) ≤ 0 then (f_X10_title_L242 (f_X10_title_L204 fu n_204) fu u0 x3 x4 0 (4 * (u0.1 46))) else (f_X10_title_L242 (f_X10_title_L204 fu n_204) fu u0 x3 x4 x4 (4 * (u0.1 46)))) else none)
set_option maxHeartbeats 4000000 in
set_option maxRecDepth 100000 in
theorem b_X10_title_L204 {p : Program} {e : Env} {s : State} {m : MethodId} {args : Array Value} {below : List Frame} {meth : Method} {c : Code} {A : Nat → Prop} (l : Launch) (D : va_G) (cy : Nat → ClassId) (h0 : Nat) (a0 : Nat → Nat) (fu : Nat) (out : Int32 × St) (C : gC p s m args meth c (WS yX10_title cX10_title 7 (some .boolean)) cX10_title 7 (some .boolean) RX10) (hA : ∀ q : Nat, s.heap.size ≤ q → A q) (hK : va_K D vwCl (TY cy) s)  :
    ∀ (n_204 : Nat), ∀ (u0 : St) (x3 : Int32) (x4 : Int32), f_X10_title_L204 fu n_204 u0 x3 x4 = some out → ∀ (H : Heap) (locs : List Loc) (ls : Array Slot), va_P D vwCl (w10 cy h0 a0 u0) H → va_D A (w10 cy h0 a0 u0) → va_S A s.heap H locs → lv_has ls 7 [(0, .ref h0), (3, .int x3), (4, .int x4)] → W p l e ({ frames := 4, cells := 0, slots := 0, locals := 104 } : Room) s m args below meth c H locs 0 0 (MQ below (gQi D cy A out.1 (w10 cy h0 a0 out.2)) args s 0 0 A) (F0 m 204 ls []) := by
  obtain ⟨hx, hb, hr, hml, hown, hts, hlk⟩ := id C
  have hown : s.vm.findClass RX10 = some m.cls := hown
  have hk_202 := hts _ (List.mem_cons_of_mem _ fl_RX10_202)
  have hk_95 := hts _ (List.mem_cons_of_mem _ fl_RX10_95)
  have hk_205 := hts _ (List.mem_cons_of_mem _ fl_RX10_205)
  have hk_214 := hts _ (List.mem_cons_of_mem _ fl_RX10_214)
  have hk_107 := hts _ (List.mem_cons_of_mem _ fl_RX10_107)
  intro n_204
  induction n_204 with
  | zero => intro u0 x3 x4 hf; exact op_no hf
  | succ n_204 ih_204 =>
    intro u0 x3 x4 hf H locs ls hP hD hS hl
    rw [f_X10_title_L204] at hf
    refine lv_iload hx hb dX10_title_204 (lv_at hl 2 rfl) ?_
    refine lv_aload_n hx hb dX10_title_206 rfl (lv_at hl 0 rfl) ?_
    refine va_get (ci := 9) (v := .int (u0.1 41)) (C := RX10) (T := TX10) (N := 56) hx hb hts (fun w h => List.mem_cons_of_mem _ (inX10 w h)) hown hK hP 0 rfl rfl 41 (by decide) hk_202 (fun _ h9 => h9) rfl dX10_title_207 ?_
    refine lv_icmp_ge (tgt := 357) hx hb dX10_title_210 (by decide) (fun c_210 => ?_) (fun c_210 => ?_)
    · have hf := op_pos c_210 hf
      refine lv_iload_n hx hb dX10_title_357 rfl (lv_at hl 1 rfl) ?_
      refine lv_if_lt (tgt := 368) hx hb dX10_title_358 (by decide) (fun c_358 => ?_) (fun c_358 => ?_)
      · have hf := op_pos c_358 hf
        refine lv_aload_n hx hb dX10_title_368 rfl (lv_at hl 0 rfl) ?_
        refine va_get (ci := 9) (v := .ref (a0 48)) (C := RX10) (T := TX10) (N := 56) hx hb hts (fun w h => List.mem_cons_of_mem _ (inX10 w h)) hown hK hP 0 rfl rfl 48 (by decide) hk_95 (fun _ h9 => h9) rfl dX10_title_369 ?_
        refine lv_aload_n hx hb dX10_title_372 rfl (lv_at hl 0 rfl) ?_
        refine va_get (ci := 9) (v := .int (u0.1 45)) (C := RX10) (T := TX10) (N := 56) hx hb hts (fun w h => List.mem_cons_of_mem _ (inX10 w h)) hown hK hP 0 rfl rfl 45 (by decide) hk_205 (fun _ h9 => h9) rfl dX10_title_373 ?_
        refine lv_aload_n hx hb dX10_title_376 rfl (lv_at hl 0 rfl) ?_
        refine va_get (ci := 9) (v := .int (u0.1 46)) (C := RX10) (T := TX10) (N := 56) hx hb hts (fun w h => List.mem_cons_of_mem _ (inX10 w h)) hown hK hP 0 rfl rfl 46 (by decide) hk_214 (fun _ h9 => h9) rfl dX10_title_377 ?_
        obtain ⟨hg_380, hf⟩ := op_if hf
        refine va_iast (f := u0.2 48) (x := u0.1 46) hx hb hK hP hD hS 24 0 rfl rfl (inb_in hg_380) dX10_title_380 (fun H locs hP hD hS => ?_)
        have hP : va_P D vwCl (w10 cy h0 a0 (sA u0 48 ((u0.1 45).toNatClampNeg) (u0.1 46))) H := pP10_48 hP
        have hD : va_D A (w10 cy h0 a0 (sA u0 48 ((u0.1 45).toNatClampNeg) (u0.1 46))) := pD10_48 hD
        refine lv_aload_n hx hb dX10_title_381 rfl (lv_at hl 0 rfl) ?_
        refine lv_dup hx hb dX10_title_382 rfl ?_
        refine va_get (ci := 9) (v := .int (u0.1 46)) (C := RX10) (T := TX10) (N := 56) hx hb hts (fun w h => List.mem_cons_of_mem _ (inX10 w h)) hown hK hP 0 rfl rfl 46 (by decide) hk_214 (fun _ h9 => h9) rfl dX10_title_383 ?_
        refine lv_iconst (v := 1) hx hb dX10_title_386 (by decide) ?_
        refine lv_iadd hx hb dX10_title_387 ?_
        refine va_put (ci := 9) (v := .int ((u0.1 46) + 1)) (ty := tyX10 46) (C := RX10) (T := TX10) (N := 56) hx hb hts (fun w h => List.mem_cons_of_mem _ (inX10 w h)) tyX10 tyX10_ok nmX10 hown hK hP hD hS 0 rfl rfl 46 (by decide) hk_214 (fun _ h9 => h9) rfl (tyX10_ok 46 (by decide)) rfl rfl (Nat.le_of_ble_eq_true rfl) dX10_title_388 (fun H locs hP hD hS => ?_)
        have hP : va_P D vwCl (w10 cy h0 a0 (sF (sA u0 48 ((u0.1 45).toNatClampNeg) (u0.1 46)) 46 ((u0.1 46) + 1))) H := pP10_46 hP
        have hD : va_D A (w10 cy h0 a0 (sF (sA u0 48 ((u0.1 45).toNatClampNeg) (u0.1 46)) 46 ((u0.1 46) + 1))) := pD10_46 hD
        refine lv_aload_n hx hb dX10_title_391 rfl (lv_at hl 0 rfl) ?_
        refine lv_dup hx hb dX10_title_392 rfl ?_
        refine va_get (ci := 9) (v := .int (u0.1 45)) (C := RX10) (T := TX10) (N := 56) hx hb hts (fun w h => List.mem_cons_of_mem _ (inX10 w h)) hown hK hP 0 rfl rfl 45 (by decide) hk_205 (fun _ h9 => h9) rfl dX10_title_393 ?_
        refine lv_iconst (v := 1) hx hb dX10_title_396 (by decide) ?_
        refine lv_iadd hx hb dX10_title_397 ?_
        refine va_put (ci := 9) (v := .int ((u0.1 45) + 1)) (ty := tyX10 45) (C := RX10) (T := TX10) (N := 56) hx hb hts (fun w h => List.mem_cons_of_mem _ (inX10 w h)) tyX10 tyX10_ok nmX10 hown hK hP hD hS 0 rfl rfl 45 (by decide) hk_205 (fun _ h9 => h9) rfl (tyX10_ok 45 (by decide)) rfl rfl (Nat.le_of_ble_eq_true rfl) dX10_title_398 (fun H locs hP hD hS => ?_)
        have hP : va_P D vwCl (w10 cy h0 a0 (sF (sF (sA u0 48 ((u0.1 45).toNatClampNeg) (u0.1 46)) 46 ((u0.1 46) + 1)) 45 ((u0.1 45) + 1))) H := pP10_45 hP
        have hD : va_D A (w10 cy h0 a0 (sF (sF (sA u0 48 ((u0.1 45).toNatClampNeg) (u0.1 46)) 46 ((u0.1 46) + 1)) 45 ((u0.1 45) + 1))) := pD10_45 hD
        refine lv_aload_n hx hb dX10_title_401 rfl (lv_at hl 0 rfl) ?_
        obtain ⟨q_402, hc_402, hf⟩ := op_bind hf
        refine g_callVv (As := []) (rest := []) (w2 := w10 cy h0 a0 q_402) ⟨hx, hb, hml, hown, hts⟩ (c_X10_take l D cy h0 a0 (sF (sF (sA u0 48 ((u0.1 45).toNatClampNeg) (u0.1 46)) 46 ((u0.1 46) + 1)) 45 ((u0.1 45) + 1)) _ fu _ hc_402) (cwV 0 hts (gi_V ml_RX10_189 im_X10_take se_X10_take in_RX10 cd_X10_take) rfl rfl rfl hdX10_take ⟨Nat.le_of_ble_eq_true rfl, Nat.le_of_ble_eq_true rfl⟩) (va_recv hK hP (ci := 9) (q0 := 0) rfl rfl) rfl hl.1 rfl (Nat.le_of_ble_eq_true rfl) dX10_title_402 hK hP hD hS hA [0, 1, 2, 3, 4, 5, 6, 7, 8, 9, 10, 11, 12, 13, 14, 15, 16, 17, 18, 19, 20, 21, 22, 23, 24, 25, 26, 27, 28, 29] [] [0, 1, 2, 3, 4, 5, 6, 7, 8, 9, 10, 11, 12, 13, 14, 15, 16, 17, 18, 19, 20, 21, 22, 23, 24, 25, 26, 27, 28, 29] rfl rfl rfl rfl (by decide) rfl rfl (fun H locs hP hD hS => ?_)
        refine lv_iconst (v := 1) hx hb dX10_title_405 (by decide) ?_
        rw [← Option.some.inj hf]
        exact g_zret hx hb hr hlk (show isB 1 = true by decide) hK hP hD hS dX10_title_406
      · have hf := op_neg c_358 hf
        refine lv_aload_n hx hb dX10_title_361 rfl (lv_at hl 0 rfl) ?_
        refine lv_iconst (v := 4) hx hb dX10_title_362 (by decide) ?_
        refine lv_iload_n hx hb dX10_title_363 rfl (lv_at hl 1 rfl) ?_
        obtain ⟨q_364, hc_364, hf⟩ := op_bind hf
        refine g_callVi (As := [.int 4, .int x3]) (rest := []) (w2 := w10 cy h0 a0 q_364.2) ⟨hx, hb, hml, hown, hts⟩ (c_X10_wrong l D cy h0 a0 u0 _ fu 4 x3 _ hc_364) (cwV 2 hts (gi_V ml_RX10_183 im_X10_wrong se_X10_wrong in_RX10 cd_X10_wrong) rfl rfl rfl hdX10_wrong ⟨Nat.le_of_ble_eq_true rfl, Nat.le_of_ble_eq_true rfl⟩) (va_recv hK hP (ci := 9) (q0 := 0) rfl rfl) rfl hl.1 rfl (Nat.le_of_ble_eq_true rfl) dX10_title_364 hK hP hD hS hA [0, 1, 2, 3, 4, 5, 6, 7, 8, 9, 10, 11, 12, 13, 14, 15, 16, 17, 18, 19, 20, 21, 22, 23, 24, 25, 26, 27, 28, 29] [] [0, 1, 2, 3, 4, 5, 6, 7, 8, 9, 10, 11, 12, 13, 14, 15, 16, 17, 18, 19, 20, 21, 22, 23, 24, 25, 26, 27, 28, 29] rfl rfl rfl rfl (by decide) rfl rfl (fun H locs hP hD hS => ?_)
        obtain ⟨hg_367, hf⟩ := op_if hf
        rw [← Option.some.inj hf]
        exact g_zret hx hb hr hlk hg_367 hK hP hD hS dX10_title_367
    · have hf := op_neg c_210 hf
      refine lv_iconst (v := 4) hx hb dX10_title_213 (by decide) ?_
      refine lv_aload_n hx hb dX10_title_214 rfl (lv_at hl 0 rfl) ?_
      refine va_get (ci := 9) (v := .int (u0.1 46)) (C := RX10) (T := TX10) (N := 56) hx hb hts (fun w h => List.mem_cons_of_mem _ (inX10 w h)) hown hK hP 0 rfl rfl 46 (by decide) hk_214 (fun _ h9 => h9) rfl dX10_title_215 ?_
      refine lv_imul hx hb dX10_title_218 ?_
      refine lv_aload_n hx hb dX10_title_219 rfl (lv_at hl 0 rfl) ?_
      refine va_get (ci := 9) (v := .ref (a0 53)) (C := RX10) (T := TX10) (N := 56) hx hb hts (fun w h => List.mem_cons_of_mem _ (inX10 w h)) hown hK hP 0 rfl rfl 53 (by decide) hk_107 (fun _ h9 => h9) rfl dX10_title_220 ?_
      refine lv_iconst (v := 4) hx hb dX10_title_223 (by decide) ?_
      refine lv_aload_n hx hb dX10_title_224 rfl (lv_at hl 0 rfl) ?_
      refine va_get (ci := 9) (v := .int (u0.1 46)) (C := RX10) (T := TX10) (N := 56) hx hb hts (fun w h => List.mem_cons_of_mem _ (inX10 w h)) hown hK hP 0 rfl rfl 46 (by decide) hk_214 (fun _ h9 => h9) rfl dX10_title_225 ?_
      refine lv_imul hx hb dX10_title_228 ?_
      refine lv_iload hx hb dX10_title_229 (lv_at hl 2 rfl) ?_
      refine lv_iadd hx hb dX10_title_231 ?_
      obtain ⟨hg_232, hf⟩ := op_if hf
      refine va_iald (f := u0.2 53) hx hb hK hP 28 0 rfl rfl (inb_in hg_232) dX10_title_232 ?_
      refine lv_if_le (tgt := 241) hx hb dX10_title_233 (by decide) (fun c_233 => ?_) (fun c_233 => ?_)
      · have hf := op_pos c_233 hf
        refine lv_iconst (v := 0) hx hb dX10_title_241 (by decide) ?_
        exact b_X10_title_L242 l D cy h0 a0 fu out C hA hK (f_X10_title_L204 fu n_204) ih_204 u0 x3 x4 0 (4 * (u0.1 46)) hf _ _ ls hP hD hS (lv_sub hl [0, 1, 2] rfl)
      · have hf := op_neg c_233 hf
        refine lv_iload hx hb dX10_title_236 (lv_at hl 2 rfl) ?_
        refine lv_goto (tgt := 242) hx hb dX10_title_238 (by decide) ?_
        exact b_X10_title_L242 l D cy h0 a0 fu out C hA hK (f_X10_title_L204 fu n_204) ih_204 u0 x3 x4 x4 (4 * (u0.1 46)) hf _ _ ls hP hD hS (lv_sub hl [0, 1, 2] rfl)
def f_X10_title_L156  (fu : Nat)  : Nat → St → Int32 → Option (Int32 × St)
  | 0, _, _ => none
  | n_156 + 1, u0, x3 => if 4 ≤ x3 then (if (u0.1 36) = 5 then (f_X10_title_L204 fu fu u0 (-1) 0) else ((f_X10_wrong fu u0 1 (u0.1 38)).bind (fun q_195 => if isB q_195.1 = true then (some (q_195.1, q_195.2)) else none))) else (if inb ((4 * (u0.1 46)) + x3) 160 = true then (f_X10_title_L156 fu n_156 (sA u0 53 (((4 * (u0.1 46)) + x3).toNatClampNeg) 0) (x3 + 1)) else none)
set_option maxHeartbeats 4000000 in
set_option maxRecDepth 100000 in
theorem b_X10_title_L156 {p : Program} {e : Env} {s : State} {m : MethodId} {args : Array Value} {below : List Frame} {meth : Method} {c : Code} {A : Nat → Prop} (l : Launch) (D : va_G) (cy : Nat → ClassId) (h0 : Nat) (a0 : Nat → Nat) (fu : Nat) (out : Int32 × St) (C : gC p s m args meth c (WS yX10_title cX10_title 7 (some .boolean)) cX10_title 7 (some .boolean) RX10) (hA : ∀ q : Nat, s.heap.size ≤ q → A q) (hK : va_K D vwCl (TY cy) s)  :
    ∀ (n_156 : Nat), ∀ (u0 : St) (x3 : Int32), f_X10_title_L156 fu n_156 u0 x3 = some out → ∀ (H : Heap) (locs : List Loc) (ls : Array Slot), va_P D vwCl (w10 cy h0 a0 u0) H → va_D A (w10 cy h0 a0 u0) → va_S A s.heap H locs → lv_has ls 7 [(0, .ref h0), (3, .int x3)] → W p l e ({ frames := 4, cells := 0, slots := 0, locals := 104 } : Room) s m args below meth c H locs 0 0 (MQ below (gQi D cy A out.1 (w10 cy h0 a0 out.2)) args s 0 0 A) (F0 m 156 ls []) := by
  obtain ⟨hx, hb, hr, hml, hown, hts, hlk⟩ := id C
  have hown : s.vm.findClass RX10 = some m.cls := hown
  have hk_163 := hts _ (List.mem_cons_of_mem _ fl_RX10_163)
  have hk_160 := hts _ (List.mem_cons_of_mem _ fl_RX10_160)
  have hk_107 := hts _ (List.mem_cons_of_mem _ fl_RX10_107)
  have hk_214 := hts _ (List.mem_cons_of_mem _ fl_RX10_214)
  intro n_156
  induction n_156 with
  | zero => intro u0 x3 hf; exact op_no hf
  | succ n_156 ih_156 =>
    intro u0 x3 hf H locs ls hP hD hS hl
    rw [f_X10_title_L156] at hf
    refine lv_iload_n hx hb dX10_title_156 rfl (lv_at hl 1 rfl) ?_
    refine lv_iconst (v := 4) hx hb dX10_title_157 (by decide) ?_
    refine lv_icmp_ge (tgt := 181) hx hb dX10_title_158 (by decide) (fun c_158 => ?_) (fun c_158 => ?_)
    · have hf := op_pos c_158 hf
      refine lv_aload_n hx hb dX10_title_181 rfl (lv_at hl 0 rfl) ?_
      refine va_get (ci := 9) (v := .int (u0.1 36)) (C := RX10) (T := TX10) (N := 56) hx hb hts (fun w h => List.mem_cons_of_mem _ (inX10 w h)) hown hK hP 0 rfl rfl 36 (by decide) hk_163 (fun _ h9 => h9) rfl dX10_title_182 ?_
      refine lv_iconst (v := 5) hx hb dX10_title_185 (by decide) ?_
      refine lv_icmp_eq (tgt := 199) hx hb dX10_title_186 (by decide) (fun c_186 => ?_) (fun c_186 => ?_)
      · have hf := op_pos c_186 hf
        refine lv_iconst (v := (-1)) hx hb dX10_title_199 (by decide) ?_
        refine lv_istore_n (lv' := [(3, .int (-1)), (0, .ref h0)]) hx hb dX10_title_200 rfl hl (by decide) rfl (fun ls hl => ?_)
        refine lv_iconst (v := 0) hx hb dX10_title_201 (by decide) ?_
        refine lv_istore (lv' := [(4, .int 0), (3, .int (-1)), (0, .ref h0)]) hx hb dX10_title_202 hl (by decide) rfl (fun ls hl => ?_)
        exact b_X10_title_L204 l D cy h0 a0 fu out C hA hK fu u0 (-1) 0 hf _ _ ls hP hD hS (lv_sub hl [2, 1, 0] rfl)
      · have hf := op_neg c_186 hf
        refine lv_aload_n hx hb dX10_title_189 rfl (lv_at hl 0 rfl) ?_
        refine lv_iconst (v := 1) hx hb dX10_title_190 (by decide) ?_
        refine lv_aload_n hx hb dX10_title_191 rfl (lv_at hl 0 rfl) ?_
        refine va_get (ci := 9) (v := .int (u0.1 38)) (C := RX10) (T := TX10) (N := 56) hx hb hts (fun w h => List.mem_cons_of_mem _ (inX10 w h)) hown hK hP 0 rfl rfl 38 (by decide) hk_160 (fun _ h9 => h9) rfl dX10_title_192 ?_
        obtain ⟨q_195, hc_195, hf⟩ := op_bind hf
        refine g_callVi (As := [.int 1, .int (u0.1 38)]) (rest := []) (w2 := w10 cy h0 a0 q_195.2) ⟨hx, hb, hml, hown, hts⟩ (c_X10_wrong l D cy h0 a0 u0 _ fu 1 (u0.1 38) _ hc_195) (cwV 2 hts (gi_V ml_RX10_183 im_X10_wrong se_X10_wrong in_RX10 cd_X10_wrong) rfl rfl rfl hdX10_wrong ⟨Nat.le_of_ble_eq_true rfl, Nat.le_of_ble_eq_true rfl⟩) (va_recv hK hP (ci := 9) (q0 := 0) rfl rfl) rfl hl.1 rfl (Nat.le_of_ble_eq_true rfl) dX10_title_195 hK hP hD hS hA [0, 1, 2, 3, 4, 5, 6, 7, 8, 9, 10, 11, 12, 13, 14, 15, 16, 17, 18, 19, 20, 21, 22, 23, 24, 25, 26, 27, 28, 29] [] [0, 1, 2, 3, 4, 5, 6, 7, 8, 9, 10, 11, 12, 13, 14, 15, 16, 17, 18, 19, 20, 21, 22, 23, 24, 25, 26, 27, 28, 29] rfl rfl rfl rfl (by decide) rfl rfl (fun H locs hP hD hS => ?_)
        obtain ⟨hg_198, hf⟩ := op_if hf
        rw [← Option.some.inj hf]
        exact g_zret hx hb hr hlk hg_198 hK hP hD hS dX10_title_198
    · have hf := op_neg c_158 hf
      refine lv_aload_n hx hb dX10_title_161 rfl (lv_at hl 0 rfl) ?_
      refine va_get (ci := 9) (v := .ref (a0 53)) (C := RX10) (T := TX10) (N := 56) hx hb hts (fun w h => List.mem_cons_of_mem _ (inX10 w h)) hown hK hP 0 rfl rfl 53 (by decide) hk_107 (fun _ h9 => h9) rfl dX10_title_162 ?_
      refine lv_iconst (v := 4) hx hb dX10_title_165 (by decide) ?_
      refine lv_aload_n hx hb dX10_title_166 rfl (lv_at hl 0 rfl) ?_
      refine va_get (ci := 9) (v := .int (u0.1 46)) (C := RX10) (T := TX10) (N := 56) hx hb hts (fun w h => List.mem_cons_of_mem _ (inX10 w h)) hown hK hP 0 rfl rfl 46 (by decide) hk_214 (fun _ h9 => h9) rfl dX10_title_167 ?_
      refine lv_imul hx hb dX10_title_170 ?_
      refine lv_iload_n hx hb dX10_title_171 rfl (lv_at hl 1 rfl) ?_
      refine lv_iadd hx hb dX10_title_172 ?_
      refine lv_iconst (v := 0) hx hb dX10_title_173 (by decide) ?_
      obtain ⟨hg_174, hf⟩ := op_if hf
      refine va_iast (f := u0.2 53) (x := 0) hx hb hK hP hD hS 28 0 rfl rfl (inb_in hg_174) dX10_title_174 (fun H locs hP hD hS => ?_)
      have hP : va_P D vwCl (w10 cy h0 a0 (sA u0 53 (((4 * (u0.1 46)) + x3).toNatClampNeg) 0)) H := pP10_53 hP
      have hD : va_D A (w10 cy h0 a0 (sA u0 53 (((4 * (u0.1 46)) + x3).toNatClampNeg) 0)) := pD10_53 hD
      refine lv_iinc (v := x3 + 1) (lv' := [(3, .int (x3 + 1)), (0, .ref h0)]) hx hb dX10_title_175 hl (k := 1) rfl rfl (by decide) rfl (fun ls hl => ?_)
      refine lv_goto (tgt := 156) hx hb dX10_title_178 (by decide) ?_
      exact ih_156 (sA u0 53 (((4 * (u0.1 46)) + x3).toNatClampNeg) 0) (x3 + 1) hf _ _ ls hP hD hS (lv_sub hl [1, 0] rfl)
def f_X10_title_L13  (fu : Nat)  : Nat → St → Int32 → Int32 → Option (Int32 × St)
  | 0, _, _, _ => none
  | n_13 + 1, u0, x1, x2 => if x2 = 0 then (f_X10_title_L156 fu fu u0 x1) else (if (u0.1 36) = 4 then ((f_X10_areWords fu u0 ((u0.1 38) + 1) (((u0.1 35) - (u0.1 38)) - 2)).bind (fun q_55 => if q_55 = 0 then (f_X10_title_L69 fu u0) else (if x1 = 0 then (if (((u0.1 35) - (u0.1 38)) - 2) = 0 then (f_X10_title_L69 fu u0) else (f_X10_title_L79 (f_X10_title_L13 fu n_13) fu u0 x1 (((u0.1 35) - (u0.1 38)) - 2))) else (f_X10_title_L79 (f_X10_title_L13 fu n_13) fu u0 x1 (((u0.1 35) - (u0.1 38)) - 2))))) else ((f_X10_wrong fu u0 1 (u0.1 38)).bind (fun q_31 => if isB q_31.1 = true then (some (q_31.1, q_31.2)) else none)))
set_option maxHeartbeats 4000000 in
set_option maxRecDepth 100000 in
theorem b_X10_title_L13 {p : Program} {e : Env} {s : State} {m : MethodId} {args : Array Value} {below : List Frame} {meth : Method} {c : Code} {A : Nat → Prop} (l : Launch) (D : va_G) (cy : Nat → ClassId) (h0 : Nat) (a0 : Nat → Nat) (fu : Nat) (out : Int32 × St) (C : gC p s m args meth c (WS yX10_title cX10_title 7 (some .boolean)) cX10_title 7 (some .boolean) RX10) (hA : ∀ q : Nat, s.heap.size ≤ q → A q) (hK : va_K D vwCl (TY cy) s)  :
    ∀ (n_13 : Nat), ∀ (u0 : St) (x1 : Int32) (x2 : Int32), f_X10_title_L13 fu n_13 u0 x1 x2 = some out → ∀ (H : Heap) (locs : List Loc) (ls : Array Slot), va_P D vwCl (w10 cy h0 a0 u0) H → va_D A (w10 cy h0 a0 u0) → va_S A s.heap H locs → lv_has ls 7 [(0, .ref h0), (1, .int x1), (2, .int x2)] → W p l e ({ frames := 4, cells := 0, slots := 0, locals := 104 } : Room) s m args below meth c H locs 0 0 (MQ below (gQi D cy A out.1 (w10 cy h0 a0 out.2)) args s 0 0 A) (F0 m 13 ls []) := by
  obtain ⟨hx, hb, hr, hml, hown, hts, hlk⟩ := id C
  have hown : s.vm.findClass RX10 = some m.cls := hown
  have hk_163 := hts _ (List.mem_cons_of_mem _ fl_RX10_163)
  have hk_157 := hts _ (List.mem_cons_of_mem _ fl_RX10_157)
  have hk_160 := hts _ (List.mem_cons_of_mem _ fl_RX10_160)
  intro n_13
  induction n_13 with
  | zero => intro u0 x1 x2 hf; exact op_no hf
  | succ n_13 ih_13 =>
    intro u0 x1 x2 hf H locs ls hP hD hS hl
    rw [f_X10_title_L13] at hf
    refine lv_iload_n hx hb dX10_title_13 rfl (lv_at hl 2 rfl) ?_
    refine lv_if_eq (tgt := 154) hx hb dX10_title_14 (by decide) (fun c_14 => ?_) (fun c_14 => ?_)
    · have hf := op_pos c_14 hf
      refine lv_iload_n hx hb dX10_title_154 rfl (lv_at hl 1 rfl) ?_
      refine lv_istore_n (lv' := [(3, .int x1), (0, .ref h0), (1, .int x1), (2, .int x2)]) hx hb dX10_title_155 rfl hl (by decide) rfl (fun ls hl => ?_)
      exact b_X10_title_L156 l D cy h0 a0 fu out C hA hK fu u0 x1 hf _ _ ls hP hD hS (lv_sub hl [1, 0] rfl)
    · have hf := op_neg c_14 hf
      refine lv_aload_n hx hb dX10_title_17 rfl (lv_at hl 0 rfl) ?_
      refine va_get (ci := 9) (v := .int (u0.1 36)) (C := RX10) (T := TX10) (N := 56) hx hb hts (fun w h => List.mem_cons_of_mem _ (inX10 w h)) hown hK hP 0 rfl rfl 36 (by decide) hk_163 (fun _ h9 => h9) rfl dX10_title_18 ?_
      refine lv_iconst (v := 4) hx hb dX10_title_21 (by decide) ?_
      refine lv_icmp_eq (tgt := 35) hx hb dX10_title_22 (by decide) (fun c_22 => ?_) (fun c_22 => ?_)
      · have hf := op_pos c_22 hf
        refine lv_aload_n hx hb dX10_title_35 rfl (lv_at hl 0 rfl) ?_
        refine va_get (ci := 9) (v := .int (u0.1 35)) (C := RX10) (T := TX10) (N := 56) hx hb hts (fun w h => List.mem_cons_of_mem _ (inX10 w h)) hown hK hP 0 rfl rfl 35 (by decide) hk_157 (fun _ h9 => h9) rfl dX10_title_36 ?_
        refine lv_aload_n hx hb dX10_title_39 rfl (lv_at hl 0 rfl) ?_
        refine va_get (ci := 9) (v := .int (u0.1 38)) (C := RX10) (T := TX10) (N := 56) hx hb hts (fun w h => List.mem_cons_of_mem _ (inX10 w h)) hown hK hP 0 rfl rfl 38 (by decide) hk_160 (fun _ h9 => h9) rfl dX10_title_40 ?_
        refine lv_isub hx hb dX10_title_43 ?_
        refine lv_iconst (v := 2) hx hb dX10_title_44 (by decide) ?_
        refine lv_isub hx hb dX10_title_45 ?_
        refine lv_istore_n (lv' := [(3, .int (((u0.1 35) - (u0.1 38)) - 2)), (0, .ref h0), (1, .int x1), (2, .int x2)]) hx hb dX10_title_46 rfl hl (by decide) rfl (fun ls hl => ?_)
        refine lv_aload_n hx hb dX10_title_47 rfl (lv_at hl 1 rfl) ?_
        refine lv_aload_n hx hb dX10_title_48 rfl (lv_at hl 1 rfl) ?_
        refine va_get (ci := 9) (v := .int (u0.1 38)) (C := RX10) (T := TX10) (N := 56) hx hb hts (fun w h => List.mem_cons_of_mem _ (inX10 w h)) hown hK hP 0 rfl rfl 38 (by decide) hk_160 (fun _ h9 => h9) rfl dX10_title_49 ?_
        refine lv_iconst (v := 1) hx hb dX10_title_52 (by decide) ?_
        refine lv_iadd hx hb dX10_title_53 ?_
        refine lv_iload_n hx hb dX10_title_54 rfl (lv_at hl 0 rfl) ?_
        obtain ⟨q_55, hc_55, hf⟩ := op_bind hf
        refine g_callVi (As := [.int ((u0.1 38) + 1), .int (((u0.1 35) - (u0.1 38)) - 2)]) (rest := []) (w2 := w10 cy h0 a0 u0) ⟨hx, hb, hml, hown, hts⟩ (c_X10_areWords l D cy h0 a0 u0 _ fu ((u0.1 38) + 1) (((u0.1 35) - (u0.1 38)) - 2) _ hc_55) (cwV 2 hts (gi_V ml_RX10_211 im_X10_areWords se_X10_areWords in_RX10 cd_X10_areWords) rfl rfl rfl hdX10_areWords ⟨Nat.le_of_ble_eq_true rfl, Nat.le_of_ble_eq_true rfl⟩) (va_recv hK hP (ci := 9) (q0 := 0) rfl rfl) rfl hl.1 rfl (Nat.le_of_ble_eq_true rfl) dX10_title_55 hK hP hD hS hA [0, 1, 2, 3, 4, 5, 6, 7, 8, 9, 10, 11, 12, 13, 14, 15, 16, 17, 18, 19, 20, 21, 22, 23, 24, 25, 26, 27, 28, 29] [] [0, 1, 2, 3, 4, 5, 6, 7, 8, 9, 10, 11, 12, 13, 14, 15, 16, 17, 18, 19, 20, 21, 22, 23, 24, 25, 26, 27, 28, 29] rfl rfl rfl rfl (by decide) rfl rfl (fun H locs hP hD hS => ?_)
        refine lv_if_eq (tgt := 69) hx hb dX10_title_58 (by decide) (fun c_58 => ?_) (fun c_58 => ?_)
        · have hf := op_pos c_58 hf
          exact b_X10_title_L69 l D cy h0 a0 fu out C hA hK u0 hf _ _ ls hP hD hS (lv_sub hl [1] rfl)
        · have hf := op_neg c_58 hf
          refine lv_iload_n hx hb dX10_title_61 rfl (lv_at hl 2 rfl) ?_
          refine lv_if_ne (tgt := 79) hx hb dX10_title_62 (by decide) (fun c_62 => ?_) (fun c_62 => ?_)
          · have hf := op_neg c_62 hf
            exact b_X10_title_L79 l D cy h0 a0 fu out C hA hK (f_X10_title_L13 fu n_13) ih_13 u0 x1 (((u0.1 35) - (u0.1 38)) - 2) hf _ _ ls hP hD hS (lv_sub hl [1, 2, 0] rfl)
          · have hf := op_pos c_62 hf
            refine lv_iload_n hx hb dX10_title_65 rfl (lv_at hl 0 rfl) ?_
            refine lv_if_ne (tgt := 79) hx hb dX10_title_66 (by decide) (fun c_66 => ?_) (fun c_66 => ?_)
            · have hf := op_neg c_66 hf
              exact b_X10_title_L79 l D cy h0 a0 fu out C hA hK (f_X10_title_L13 fu n_13) ih_13 u0 x1 (((u0.1 35) - (u0.1 38)) - 2) hf _ _ ls hP hD hS (lv_sub hl [1, 2, 0] rfl)
            · have hf := op_pos c_66 hf
              exact b_X10_title_L69 l D cy h0 a0 fu out C hA hK u0 hf _ _ ls hP hD hS (lv_sub hl [1] rfl)
      · have hf := op_neg c_22 hf
        refine lv_aload_n hx hb dX10_title_25 rfl (lv_at hl 0 rfl) ?_
        refine lv_iconst (v := 1) hx hb dX10_title_26 (by decide) ?_
        refine lv_aload_n hx hb dX10_title_27 rfl (lv_at hl 0 rfl) ?_
        refine va_get (ci := 9) (v := .int (u0.1 38)) (C := RX10) (T := TX10) (N := 56) hx hb hts (fun w h => List.mem_cons_of_mem _ (inX10 w h)) hown hK hP 0 rfl rfl 38 (by decide) hk_160 (fun _ h9 => h9) rfl dX10_title_28 ?_
        obtain ⟨q_31, hc_31, hf⟩ := op_bind hf
        refine g_callVi (As := [.int 1, .int (u0.1 38)]) (rest := []) (w2 := w10 cy h0 a0 q_31.2) ⟨hx, hb, hml, hown, hts⟩ (c_X10_wrong l D cy h0 a0 u0 _ fu 1 (u0.1 38) _ hc_31) (cwV 2 hts (gi_V ml_RX10_183 im_X10_wrong se_X10_wrong in_RX10 cd_X10_wrong) rfl rfl rfl hdX10_wrong ⟨Nat.le_of_ble_eq_true rfl, Nat.le_of_ble_eq_true rfl⟩) (va_recv hK hP (ci := 9) (q0 := 0) rfl rfl) rfl hl.1 rfl (Nat.le_of_ble_eq_true rfl) dX10_title_31 hK hP hD hS hA [0, 1, 2, 3, 4, 5, 6, 7, 8, 9, 10, 11, 12, 13, 14, 15, 16, 17, 18, 19, 20, 21, 22, 23, 24, 25, 26, 27, 28, 29] [] [0, 1, 2, 3, 4, 5, 6, 7, 8, 9, 10, 11, 12, 13, 14, 15, 16, 17, 18, 19, 20, 21, 22, 23, 24, 25, 26, 27, 28, 29] rfl rfl rfl rfl (by decide) rfl rfl (fun H locs hP hD hS => ?_)
        obtain ⟨hg_34, hf⟩ := op_if hf
        rw [← Option.some.inj hf]
        exact g_zret hx hb hr hlk hg_34 hK hP hD hS dX10_title_34
def f_X10_title (fu : Nat)  (s0 : St)  : Option (Int32 × St) := (f_X10_bar fu s0).bind (fun q_1 => if q_1.1 = 0 then (some (0, q_1.2)) else (f_X10_title_L13 fu fu q_1.2 0 1))
theorem hdX10_title : yX10_title.cls = RX10 ∧ yX10_title.cls ≠ "java/lang/invoke/MethodHandle" ∧ yX10_title.cls ≠ "java/lang/invoke/VarHandle" ∧ (parseMethodDescriptor yX10_title.desc).map (fun d => d.parameters.length) = some 0 := by decide +kernel
set_option maxHeartbeats 4000000 in
set_option maxRecDepth 100000 in
theorem c_X10_title (l : Launch) (D : va_G) (cy : Nat → ClassId) (h0 : Nat) (a0 : Nat → Nat) (s0 : St) (sz fu : Nat)  (out : Int32 × St) (hf : f_X10_title fu s0 = some out) :
    Met l yX10_title (WS yX10_title cX10_title 7 (some .boolean)) ({ frames := 4, cells := 0, slots := 0, locals := 104 } : Room) (va_Pc [.ref h0] (gP D cy sz (w10 cy h0 a0 s0))) ((fun A : Nat → Prop => gQi D cy A out.1 (w10 cy h0 a0 out.2)) (va_A (w10 cy h0 a0 s0) sz)) 0 0 (va_A (w10 cy h0 a0 s0) sz) := by
  refine g_met (cc := cX10_title) (maxL := 7) (ret := (some .boolean)) (fun A : Nat → Prop => gQi D cy A out.1 (w10 cy h0 a0 out.2)) (by decide +kernel) rfl (Nat.le_of_ble_eq_true rfl) ?_
  intro p e s m below meth c A C hA hK hP hD ls hl
  obtain ⟨hx, hb, hr, hml, hown, hts, hlk⟩ := id C
  have hown : s.vm.findClass RX10 = some m.cls := hown
  have hS : va_S A s.heap s.heap [] := va_S.rf
  have hl : lv_has ls 7 [(0, .ref h0)] := hl
  unfold f_X10_title at hf
  refine lv_aload_n hx hb dX10_title_0 rfl (lv_at hl 0 rfl) ?_
  obtain ⟨q_1, hc_1, hf⟩ := op_bind hf
  refine g_callVi (As := []) (rest := []) (w2 := w10 cy h0 a0 q_1.2) ⟨hx, hb, hml, hown, hts⟩ (c_X10_bar l D cy h0 a0 s0 _ fu _ hc_1) (cwV 0 hts (gi_V ml_RX10_208 im_X10_bar se_X10_bar in_RX10 cd_X10_bar) rfl rfl rfl hdX10_bar ⟨Nat.le_of_ble_eq_true rfl, Nat.le_of_ble_eq_true rfl⟩) (va_recv hK hP (ci := 9) (q0 := 0) rfl rfl) rfl hl.1 rfl (Nat.le_of_ble_eq_true rfl) dX10_title_1 hK hP hD hS hA [0, 1, 2, 3, 4, 5, 6, 7, 8, 9, 10, 11, 12, 13, 14, 15, 16, 17, 18, 19, 20, 21, 22, 23, 24, 25, 26, 27, 28, 29] [] [0, 1, 2, 3, 4, 5, 6, 7, 8, 9, 10, 11, 12, 13, 14, 15, 16, 17, 18, 19, 20, 21, 22, 23, 24, 25, 26, 27, 28, 29] rfl rfl rfl rfl (by decide) rfl rfl (fun H locs hP hD hS => ?_)
  refine lv_if_ne (tgt := 9) hx hb dX10_title_4 (by decide) (fun c_4 => ?_) (fun c_4 => ?_)
  · have hf := op_neg c_4 hf
    refine lv_iconst (v := 0) hx hb dX10_title_9 (by decide) ?_
    refine lv_istore_n (lv' := [(1, .int 0), (0, .ref h0)]) hx hb dX10_title_10 rfl hl (by decide) rfl (fun ls hl => ?_)
    refine lv_iconst (v := 1) hx hb dX10_title_11 (by decide) ?_
    refine lv_istore_n (lv' := [(2, .int 1), (1, .int 0), (0, .ref h0)]) hx hb dX10_title_12 rfl hl (by decide) rfl (fun ls hl => ?_)
    exact b_X10_title_L13 l D cy h0 a0 fu out C hA hK fu q_1.2 0 1 hf _ _ ls hP hD hS (lv_sub hl [2, 1, 0] rfl)
  · have hf := op_pos c_4 hf
    refine lv_iconst (v := 0) hx hb dX10_title_7 (by decide) ?_
    rw [← Option.some.inj hf]
    exact g_zret hx hb hr hlk (show isB 0 = true by decide) hK hP hD hS dX10_title_8
def f_X10_cutItem (fu : Nat)  (s0 : St)  : Option (Int32 × St) := if (s0.1 36) = 2 then (if inb (s0.1 37) 8 = true then (if (s0.2 50 (s0.1 37).toNatClampNeg) ≤ 0 then ((f_X10_take fu s0).bind (fun q_43 => (f_X10_number fu q_43 1 999).bind (fun q_51 => if q_51.1 = 0 then (some (0, q_51.2)) else ((f_X10_number fu q_51.2 1 999).bind (fun q_74 => if q_74.1 = 0 then (some (0, q_74.2)) else (if (q_51.2.1 55) < (q_74.2.1 55) then (if inb (s0.1 37) 8 = true then (if inb (s0.1 37) 8 = true then ((f_X10_semi fu (sF (sA (sA q_74.2 49 ((s0.1 37).toNatClampNeg) (q_51.2.1 55)) 50 ((s0.1 37).toNatClampNeg) (q_74.2.1 55)) 51 ((q_74.2.1 51) + 1))).bind (fun q_125 => if isB q_125.1 = true then (some (q_125.1, q_125.2)) else none)) else none) else none) else ((f_X10_wrong fu q_74.2 3 (q_51.2.1 38)).bind (fun q_93 => if isB q_93.1 = true then (some (q_93.1, q_93.2)) else none)))))))) else ((f_X10_wrong fu s0 3 (s0.1 38)).bind (fun q_38 => if isB q_38.1 = true then (some (q_38.1, q_38.2)) else none))) else none) else ((f_X10_wrong fu s0 1 (s0.1 38)).bind (fun q_14 => if isB q_14.1 = true then (some (q_14.1, q_14.2)) else none))
theorem hdX10_cutItem : yX10_cutItem.cls = RX10 ∧ yX10_cutItem.cls ≠ "java/lang/invoke/MethodHandle" ∧ yX10_cutItem.cls ≠ "java/lang/invoke/VarHandle" ∧ (parseMethodDescriptor yX10_cutItem.desc).map (fun d => d.parameters.length) = some 0 := by decide +kernel
set_option maxHeartbeats 4000000 in
set_option maxRecDepth 100000 in
theorem c_X10_cutItem (l : Launch) (D : va_G) (cy : Nat → ClassId) (h0 : Nat) (a0 : Nat → Nat) (s0 : St) (sz fu : Nat)  (out : Int32 × St) (hf : f_X10_cutItem fu s0 = some out) :
    Met l yX10_cutItem (WS yX10_cutItem cX10_cutItem 4 (some .boolean)) ({ frames := 3, cells := 0, slots := 0, locals := 70 } : Room) (va_Pc [.ref h0] (gP D cy sz (w10 cy h0 a0 s0))) ((fun A : Nat → Prop => gQi D cy A out.1 (w10 cy h0 a0 out.2)) (va_A (w10 cy h0 a0 s0) sz)) 0 0 (va_A (w10 cy h0 a0 s0) sz) := by
  refine g_met (cc := cX10_cutItem) (maxL := 4) (ret := (some .boolean)) (fun A : Nat → Prop => gQi D cy A out.1 (w10 cy h0 a0 out.2)) (by decide +kernel) rfl (Nat.le_of_ble_eq_true rfl) ?_
  intro p e s m below meth c A C hA hK hP hD ls hl
  obtain ⟨hx, hb, hr, hml, hown, hts, hlk⟩ := id C
  have hown : s.vm.findClass RX10 = some m.cls := hown
  have hS : va_S A s.heap s.heap [] := va_S.rf
  have hl : lv_has ls 4 [(0, .ref h0)] := hl
  have hk_163 := hts _ (List.mem_cons_of_mem _ fl_RX10_163)
  have hk_173 := hts _ (List.mem_cons_of_mem _ fl_RX10_173)
  have hk_101 := hts _ (List.mem_cons_of_mem _ fl_RX10_101)
  have hk_186 := hts _ (List.mem_cons_of_mem _ fl_RX10_186)
  have hk_160 := hts _ (List.mem_cons_of_mem _ fl_RX10_160)
  have hk_98 := hts _ (List.mem_cons_of_mem _ fl_RX10_98)
  have hk_217 := hts _ (List.mem_cons_of_mem _ fl_RX10_217)
  unfold f_X10_cutItem at hf
  refine lv_aload_n hx hb dX10_cutItem_0 rfl (lv_at hl 0 rfl) ?_
  refine va_get (ci := 9) (v := .int (s0.1 36)) (C := RX10) (T := TX10) (N := 56) hx hb hts (fun w h => List.mem_cons_of_mem _ (inX10 w h)) hown hK hP 0 rfl rfl 36 (by decide) hk_163 (fun _ h9 => h9) rfl dX10_cutItem_1 ?_
  refine lv_iconst (v := 2) hx hb dX10_cutItem_4 (by decide) ?_
  refine lv_icmp_eq (tgt := 18) hx hb dX10_cutItem_5 (by decide) (fun c_5 => ?_) (fun c_5 => ?_)
  · have hf := op_pos c_5 hf
    refine lv_aload_n hx hb dX10_cutItem_18 rfl (lv_at hl 0 rfl) ?_
    refine va_get (ci := 9) (v := .int (s0.1 37)) (C := RX10) (T := TX10) (N := 56) hx hb hts (fun w h => List.mem_cons_of_mem _ (inX10 w h)) hown hK hP 0 rfl rfl 37 (by decide) hk_173 (fun _ h9 => h9) rfl dX10_cutItem_19 ?_
    refine lv_istore_n (lv' := [(1, .int (s0.1 37)), (0, .ref h0)]) hx hb dX10_cutItem_22 rfl hl (by decide) rfl (fun ls hl => ?_)
    refine lv_aload_n hx hb dX10_cutItem_23 rfl (lv_at hl 1 rfl) ?_
    refine va_get (ci := 9) (v := .ref (a0 50)) (C := RX10) (T := TX10) (N := 56) hx hb hts (fun w h => List.mem_cons_of_mem _ (inX10 w h)) hown hK hP 0 rfl rfl 50 (by decide) hk_101 (fun _ h9 => h9) rfl dX10_cutItem_24 ?_
    refine lv_iload_n hx hb dX10_cutItem_27 rfl (lv_at hl 0 rfl) ?_
    obtain ⟨hg_28, hf⟩ := op_if hf
    refine va_iald (f := s0.2 50) hx hb hK hP 26 0 rfl rfl (inb_in hg_28) dX10_cutItem_28 ?_
    refine lv_if_le (tgt := 42) hx hb dX10_cutItem_29 (by decide) (fun c_29 => ?_) (fun c_29 => ?_)
    · have hf := op_pos c_29 hf
      refine lv_aload_n hx hb dX10_cutItem_42 rfl (lv_at hl 1 rfl) ?_
      obtain ⟨q_43, hc_43, hf⟩ := op_bind hf
      refine g_callVv (As := []) (rest := []) (w2 := w10 cy h0 a0 q_43) ⟨hx, hb, hml, hown, hts⟩ (c_X10_take l D cy h0 a0 s0 _ fu _ hc_43) (cwV 0 hts (gi_V ml_RX10_189 im_X10_take se_X10_take in_RX10 cd_X10_take) rfl rfl rfl hdX10_take ⟨Nat.le_of_ble_eq_true rfl, Nat.le_of_ble_eq_true rfl⟩) (va_recv hK hP (ci := 9) (q0 := 0) rfl rfl) rfl hl.1 rfl (Nat.le_of_ble_eq_true rfl) dX10_cutItem_43 hK hP hD hS hA [0, 1, 2, 3, 4, 5, 6, 7, 8, 9, 10, 11, 12, 13, 14, 15, 16, 17, 18, 19, 20, 21, 22, 23, 24, 25, 26, 27, 28, 29] [] [0, 1, 2, 3, 4, 5, 6, 7, 8, 9, 10, 11, 12, 13, 14, 15, 16, 17, 18, 19, 20, 21, 22, 23, 24, 25, 26, 27, 28, 29] rfl rfl rfl rfl (by decide) rfl rfl (fun H locs hP hD hS => ?_)
      refine lv_aload_n hx hb dX10_cutItem_46 rfl (lv_at hl 1 rfl) ?_
      refine lv_iconst (v := 1) hx hb dX10_cutItem_47 (by decide) ?_
      refine lv_sipush (v := 999) hx hb dX10_cutItem_48 (by decide) ?_
      obtain ⟨q_51, hc_51, hf⟩ := op_bind hf
      refine g_callVi (As := [.int 1, .int 999]) (rest := []) (w2 := w10 cy h0 a0 q_51.2) ⟨hx, hb, hml, hown, hts⟩ (c_X10_number l D cy h0 a0 q_43 _ fu 1 999 _ hc_51) (cwV 2 hts (gi_V ml_RX10_195 im_X10_number se_X10_number in_RX10 cd_X10_number) rfl rfl rfl hdX10_number ⟨Nat.le_of_ble_eq_true rfl, Nat.le_of_ble_eq_true rfl⟩) (va_recv hK hP (ci := 9) (q0 := 0) rfl rfl) rfl hl.1 rfl (Nat.le_of_ble_eq_true rfl) dX10_cutItem_51 hK hP hD hS hA [0, 1, 2, 3, 4, 5, 6, 7, 8, 9, 10, 11, 12, 13, 14, 15, 16, 17, 18, 19, 20, 21, 22, 23, 24, 25, 26, 27, 28, 29] [] [0, 1, 2, 3, 4, 5, 6, 7, 8, 9, 10, 11, 12, 13, 14, 15, 16, 17, 18, 19, 20, 21, 22, 23, 24, 25, 26, 27, 28, 29] rfl rfl rfl rfl (by decide) rfl rfl (fun H locs hP hD hS => ?_)
      refine lv_if_ne (tgt := 59) hx hb dX10_cutItem_54 (by decide) (fun c_54 => ?_) (fun c_54 => ?_)
      · have hf := op_neg c_54 hf
        refine lv_aload_n hx hb dX10_cutItem_59 rfl (lv_at hl 1 rfl) ?_
        refine va_get (ci := 9) (v := .int (q_51.2.1 55)) (C := RX10) (T := TX10) (N := 56) hx hb hts (fun w h => List.mem_cons_of_mem _ (inX10 w h)) hown hK hP 0 rfl rfl 55 (by decide) hk_186 (fun _ h9 => h9) rfl dX10_cutItem_60 ?_
        refine lv_istore_n (lv' := [(2, .int (q_51.2.1 55)), (1, .int (s0.1 37)), (0, .ref h0)]) hx hb dX10_cutItem_63 rfl hl (by decide) rfl (fun ls hl => ?_)
        refine lv_aload_n hx hb dX10_cutItem_64 rfl (lv_at hl 2 rfl) ?_
        refine va_get (ci := 9) (v := .int (q_51.2.1 38)) (C := RX10) (T := TX10) (N := 56) hx hb hts (fun w h => List.mem_cons_of_mem _ (inX10 w h)) hown hK hP 0 rfl rfl 38 (by decide) hk_160 (fun _ h9 => h9) rfl dX10_cutItem_65 ?_
        refine lv_istore_n (lv' := [(3, .int (q_51.2.1 38)), (2, .int (q_51.2.1 55)), (1, .int (s0.1 37)), (0, .ref h0)]) hx hb dX10_cutItem_68 rfl hl (by decide) rfl (fun ls hl => ?_)
        refine lv_aload_n hx hb dX10_cutItem_69 rfl (lv_at hl 3 rfl) ?_
        refine lv_iconst (v := 1) hx hb dX10_cutItem_70 (by decide) ?_
        refine lv_sipush (v := 999) hx hb dX10_cutItem_71 (by decide) ?_
        obtain ⟨q_74, hc_74, hf⟩ := op_bind hf
        refine g_callVi (As := [.int 1, .int 999]) (rest := []) (w2 := w10 cy h0 a0 q_74.2) ⟨hx, hb, hml, hown, hts⟩ (c_X10_number l D cy h0 a0 q_51.2 _ fu 1 999 _ hc_74) (cwV 2 hts (gi_V ml_RX10_195 im_X10_number se_X10_number in_RX10 cd_X10_number) rfl rfl rfl hdX10_number ⟨Nat.le_of_ble_eq_true rfl, Nat.le_of_ble_eq_true rfl⟩) (va_recv hK hP (ci := 9) (q0 := 0) rfl rfl) rfl hl.1 rfl (Nat.le_of_ble_eq_true rfl) dX10_cutItem_74 hK hP hD hS hA [0, 1, 2, 3, 4, 5, 6, 7, 8, 9, 10, 11, 12, 13, 14, 15, 16, 17, 18, 19, 20, 21, 22, 23, 24, 25, 26, 27, 28, 29] [] [0, 1, 2, 3, 4, 5, 6, 7, 8, 9, 10, 11, 12, 13, 14, 15, 16, 17, 18, 19, 20, 21, 22, 23, 24, 25, 26, 27, 28, 29] rfl rfl rfl rfl (by decide) rfl rfl (fun H locs hP hD hS => ?_)
        refine lv_if_ne (tgt := 82) hx hb dX10_cutItem_77 (by decide) (fun c_77 => ?_) (fun c_77 => ?_)
        · have hf := op_neg c_77 hf
          refine lv_aload_n hx hb dX10_cutItem_82 rfl (lv_at hl 3 rfl) ?_
          refine va_get (ci := 9) (v := .int (q_74.2.1 55)) (C := RX10) (T := TX10) (N := 56) hx hb hts (fun w h => List.mem_cons_of_mem _ (inX10 w h)) hown hK hP 0 rfl rfl 55 (by decide) hk_186 (fun _ h9 => h9) rfl dX10_cutItem_83 ?_
          refine lv_iload_n hx hb dX10_cutItem_86 rfl (lv_at hl 1 rfl) ?_
          refine lv_icmp_gt (tgt := 97) hx hb dX10_cutItem_87 (by decide) (fun c_87 => ?_) (fun c_87 => ?_)
          · have hf := op_pos c_87 hf
            refine lv_aload_n hx hb dX10_cutItem_97 rfl (lv_at hl 3 rfl) ?_
            refine va_get (ci := 9) (v := .ref (a0 49)) (C := RX10) (T := TX10) (N := 56) hx hb hts (fun w h => List.mem_cons_of_mem _ (inX10 w h)) hown hK hP 0 rfl rfl 49 (by decide) hk_98 (fun _ h9 => h9) rfl dX10_cutItem_98 ?_
            refine lv_iload_n hx hb dX10_cutItem_101 rfl (lv_at hl 2 rfl) ?_
            refine lv_iload_n hx hb dX10_cutItem_102 rfl (lv_at hl 1 rfl) ?_
            obtain ⟨hg_103, hf⟩ := op_if hf
            refine va_iast (f := q_74.2.2 49) (x := q_51.2.1 55) hx hb hK hP hD hS 25 0 rfl rfl (inb_in hg_103) dX10_cutItem_103 (fun H locs hP hD hS => ?_)
            have hP : va_P D vwCl (w10 cy h0 a0 (sA q_74.2 49 ((s0.1 37).toNatClampNeg) (q_51.2.1 55))) H := pP10_49 hP
            have hD : va_D A (w10 cy h0 a0 (sA q_74.2 49 ((s0.1 37).toNatClampNeg) (q_51.2.1 55))) := pD10_49 hD
            refine lv_aload_n hx hb dX10_cutItem_104 rfl (lv_at hl 3 rfl) ?_
            refine va_get (ci := 9) (v := .ref (a0 50)) (C := RX10) (T := TX10) (N := 56) hx hb hts (fun w h => List.mem_cons_of_mem _ (inX10 w h)) hown hK hP 0 rfl rfl 50 (by decide) hk_101 (fun _ h9 => h9) rfl dX10_cutItem_105 ?_
            refine lv_iload_n hx hb dX10_cutItem_108 rfl (lv_at hl 2 rfl) ?_
            refine lv_aload_n hx hb dX10_cutItem_109 rfl (lv_at hl 3 rfl) ?_
            refine va_get (ci := 9) (v := .int (q_74.2.1 55)) (C := RX10) (T := TX10) (N := 56) hx hb hts (fun w h => List.mem_cons_of_mem _ (inX10 w h)) hown hK hP 0 rfl rfl 55 (by decide) hk_186 (fun _ h9 => h9) rfl dX10_cutItem_110 ?_
            obtain ⟨hg_113, hf⟩ := op_if hf
            refine va_iast (f := (sA q_74.2 49 ((s0.1 37).toNatClampNeg) (q_51.2.1 55)).2 50) (x := q_74.2.1 55) hx hb hK hP hD hS 26 0 rfl rfl (inb_in hg_113) dX10_cutItem_113 (fun H locs hP hD hS => ?_)
            have hP : va_P D vwCl (w10 cy h0 a0 (sA (sA q_74.2 49 ((s0.1 37).toNatClampNeg) (q_51.2.1 55)) 50 ((s0.1 37).toNatClampNeg) (q_74.2.1 55))) H := pP10_50 hP
            have hD : va_D A (w10 cy h0 a0 (sA (sA q_74.2 49 ((s0.1 37).toNatClampNeg) (q_51.2.1 55)) 50 ((s0.1 37).toNatClampNeg) (q_74.2.1 55))) := pD10_50 hD
            refine lv_aload_n hx hb dX10_cutItem_114 rfl (lv_at hl 3 rfl) ?_
            refine lv_dup hx hb dX10_cutItem_115 rfl ?_
            refine va_get (ci := 9) (v := .int (q_74.2.1 51)) (C := RX10) (T := TX10) (N := 56) hx hb hts (fun w h => List.mem_cons_of_mem _ (inX10 w h)) hown hK hP 0 rfl rfl 51 (by decide) hk_217 (fun _ h9 => h9) rfl dX10_cutItem_116 ?_
            refine lv_iconst (v := 1) hx hb dX10_cutItem_119 (by decide) ?_
            refine lv_iadd hx hb dX10_cutItem_120 ?_
            refine va_put (ci := 9) (v := .int ((q_74.2.1 51) + 1)) (ty := tyX10 51) (C := RX10) (T := TX10) (N := 56) hx hb hts (fun w h => List.mem_cons_of_mem _ (inX10 w h)) tyX10 tyX10_ok nmX10 hown hK hP hD hS 0 rfl rfl 51 (by decide) hk_217 (fun _ h9 => h9) rfl (tyX10_ok 51 (by decide)) rfl rfl (Nat.le_of_ble_eq_true rfl) dX10_cutItem_121 (fun H locs hP hD hS => ?_)
            have hP : va_P D vwCl (w10 cy h0 a0 (sF (sA (sA q_74.2 49 ((s0.1 37).toNatClampNeg) (q_51.2.1 55)) 50 ((s0.1 37).toNatClampNeg) (q_74.2.1 55)) 51 ((q_74.2.1 51) + 1))) H := pP10_51 hP
            have hD : va_D A (w10 cy h0 a0 (sF (sA (sA q_74.2 49 ((s0.1 37).toNatClampNeg) (q_51.2.1 55)) 50 ((s0.1 37).toNatClampNeg) (q_74.2.1 55)) 51 ((q_74.2.1 51) + 1))) := pD10_51 hD
            refine lv_aload_n hx hb dX10_cutItem_124 rfl (lv_at hl 3 rfl) ?_
            obtain ⟨q_125, hc_125, hf⟩ := op_bind hf
            refine g_callVi (As := []) (rest := []) (w2 := w10 cy h0 a0 q_125.2) ⟨hx, hb, hml, hown, hts⟩ (c_X10_semi l D cy h0 a0 (sF (sA (sA q_74.2 49 ((s0.1 37).toNatClampNeg) (q_51.2.1 55)) 50 ((s0.1 37).toNatClampNeg) (q_74.2.1 55)) 51 ((q_74.2.1 51) + 1)) _ fu _ hc_125) (cwV 0 hts (gi_V ml_RX10_198 im_X10_semi se_X10_semi in_RX10 cd_X10_semi) rfl rfl rfl hdX10_semi ⟨Nat.le_of_ble_eq_true rfl, Nat.le_of_ble_eq_true rfl⟩) (va_recv hK hP (ci := 9) (q0 := 0) rfl rfl) rfl hl.1 rfl (Nat.le_of_ble_eq_true rfl) dX10_cutItem_125 hK hP hD hS hA [0, 1, 2, 3, 4, 5, 6, 7, 8, 9, 10, 11, 12, 13, 14, 15, 16, 17, 18, 19, 20, 21, 22, 23, 24, 25, 26, 27, 28, 29] [] [0, 1, 2, 3, 4, 5, 6, 7, 8, 9, 10, 11, 12, 13, 14, 15, 16, 17, 18, 19, 20, 21, 22, 23, 24, 25, 26, 27, 28, 29] rfl rfl rfl rfl (by decide) rfl rfl (fun H locs hP hD hS => ?_)
            obtain ⟨hg_128, hf⟩ := op_if hf
            rw [← Option.some.inj hf]
            exact g_zret hx hb hr hlk hg_128 hK hP hD hS dX10_cutItem_128
          · have hf := op_neg c_87 hf
            refine lv_aload_n hx hb dX10_cutItem_90 rfl (lv_at hl 3 rfl) ?_
            refine lv_iconst (v := 3) hx hb dX10_cutItem_91 (by decide) ?_
            refine lv_iload_n hx hb dX10_cutItem_92 rfl (lv_at hl 0 rfl) ?_
            obtain ⟨q_93, hc_93, hf⟩ := op_bind hf
            refine g_callVi (As := [.int 3, .int (q_51.2.1 38)]) (rest := []) (w2 := w10 cy h0 a0 q_93.2) ⟨hx, hb, hml, hown, hts⟩ (c_X10_wrong l D cy h0 a0 q_74.2 _ fu 3 (q_51.2.1 38) _ hc_93) (cwV 2 hts (gi_V ml_RX10_183 im_X10_wrong se_X10_wrong in_RX10 cd_X10_wrong) rfl rfl rfl hdX10_wrong ⟨Nat.le_of_ble_eq_true rfl, Nat.le_of_ble_eq_true rfl⟩) (va_recv hK hP (ci := 9) (q0 := 0) rfl rfl) rfl hl.1 rfl (Nat.le_of_ble_eq_true rfl) dX10_cutItem_93 hK hP hD hS hA [0, 1, 2, 3, 4, 5, 6, 7, 8, 9, 10, 11, 12, 13, 14, 15, 16, 17, 18, 19, 20, 21, 22, 23, 24, 25, 26, 27, 28, 29] [] [0, 1, 2, 3, 4, 5, 6, 7, 8, 9, 10, 11, 12, 13, 14, 15, 16, 17, 18, 19, 20, 21, 22, 23, 24, 25, 26, 27, 28, 29] rfl rfl rfl rfl (by decide) rfl rfl (fun H locs hP hD hS => ?_)
            obtain ⟨hg_96, hf⟩ := op_if hf
            rw [← Option.some.inj hf]
            exact g_zret hx hb hr hlk hg_96 hK hP hD hS dX10_cutItem_96
        · have hf := op_pos c_77 hf
          refine lv_iconst (v := 0) hx hb dX10_cutItem_80 (by decide) ?_
          rw [← Option.some.inj hf]
          exact g_zret hx hb hr hlk (show isB 0 = true by decide) hK hP hD hS dX10_cutItem_81
      · have hf := op_pos c_54 hf
        refine lv_iconst (v := 0) hx hb dX10_cutItem_57 (by decide) ?_
        rw [← Option.some.inj hf]
        exact g_zret hx hb hr hlk (show isB 0 = true by decide) hK hP hD hS dX10_cutItem_58
    · have hf := op_neg c_29 hf
      refine lv_aload_n hx hb dX10_cutItem_32 rfl (lv_at hl 1 rfl) ?_
      refine lv_iconst (v := 3) hx hb dX10_cutItem_33 (by decide) ?_
      refine lv_aload_n hx hb dX10_cutItem_34 rfl (lv_at hl 1 rfl) ?_
      refine va_get (ci := 9) (v := .int (s0.1 38)) (C := RX10) (T := TX10) (N := 56) hx hb hts (fun w h => List.mem_cons_of_mem _ (inX10 w h)) hown hK hP 0 rfl rfl 38 (by decide) hk_160 (fun _ h9 => h9) rfl dX10_cutItem_35 ?_
      obtain ⟨q_38, hc_38, hf⟩ := op_bind hf
      refine g_callVi (As := [.int 3, .int (s0.1 38)]) (rest := []) (w2 := w10 cy h0 a0 q_38.2) ⟨hx, hb, hml, hown, hts⟩ (c_X10_wrong l D cy h0 a0 s0 _ fu 3 (s0.1 38) _ hc_38) (cwV 2 hts (gi_V ml_RX10_183 im_X10_wrong se_X10_wrong in_RX10 cd_X10_wrong) rfl rfl rfl hdX10_wrong ⟨Nat.le_of_ble_eq_true rfl, Nat.le_of_ble_eq_true rfl⟩) (va_recv hK hP (ci := 9) (q0 := 0) rfl rfl) rfl hl.1 rfl (Nat.le_of_ble_eq_true rfl) dX10_cutItem_38 hK hP hD hS hA [0, 1, 2, 3, 4, 5, 6, 7, 8, 9, 10, 11, 12, 13, 14, 15, 16, 17, 18, 19, 20, 21, 22, 23, 24, 25, 26, 27, 28, 29] [] [0, 1, 2, 3, 4, 5, 6, 7, 8, 9, 10, 11, 12, 13, 14, 15, 16, 17, 18, 19, 20, 21, 22, 23, 24, 25, 26, 27, 28, 29] rfl rfl rfl rfl (by decide) rfl rfl (fun H locs hP hD hS => ?_)
      obtain ⟨hg_41, hf⟩ := op_if hf
      rw [← Option.some.inj hf]
      exact g_zret hx hb hr hlk hg_41 hK hP hD hS dX10_cutItem_41
  · have hf := op_neg c_5 hf
    refine lv_aload_n hx hb dX10_cutItem_8 rfl (lv_at hl 0 rfl) ?_
    refine lv_iconst (v := 1) hx hb dX10_cutItem_9 (by decide) ?_
    refine lv_aload_n hx hb dX10_cutItem_10 rfl (lv_at hl 0 rfl) ?_
    refine va_get (ci := 9) (v := .int (s0.1 38)) (C := RX10) (T := TX10) (N := 56) hx hb hts (fun w h => List.mem_cons_of_mem _ (inX10 w h)) hown hK hP 0 rfl rfl 38 (by decide) hk_160 (fun _ h9 => h9) rfl dX10_cutItem_11 ?_
    obtain ⟨q_14, hc_14, hf⟩ := op_bind hf
    refine g_callVi (As := [.int 1, .int (s0.1 38)]) (rest := []) (w2 := w10 cy h0 a0 q_14.2) ⟨hx, hb, hml, hown, hts⟩ (c_X10_wrong l D cy h0 a0 s0 _ fu 1 (s0.1 38) _ hc_14) (cwV 2 hts (gi_V ml_RX10_183 im_X10_wrong se_X10_wrong in_RX10 cd_X10_wrong) rfl rfl rfl hdX10_wrong ⟨Nat.le_of_ble_eq_true rfl, Nat.le_of_ble_eq_true rfl⟩) (va_recv hK hP (ci := 9) (q0 := 0) rfl rfl) rfl hl.1 rfl (Nat.le_of_ble_eq_true rfl) dX10_cutItem_14 hK hP hD hS hA [0, 1, 2, 3, 4, 5, 6, 7, 8, 9, 10, 11, 12, 13, 14, 15, 16, 17, 18, 19, 20, 21, 22, 23, 24, 25, 26, 27, 28, 29] [] [0, 1, 2, 3, 4, 5, 6, 7, 8, 9, 10, 11, 12, 13, 14, 15, 16, 17, 18, 19, 20, 21, 22, 23, 24, 25, 26, 27, 28, 29] rfl rfl rfl rfl (by decide) rfl rfl (fun H locs hP hD hS => ?_)
    obtain ⟨hg_17, hf⟩ := op_if hf
    rw [← Option.some.inj hf]
    exact g_zret hx hb hr hlk hg_17 hK hP hD hS dX10_cutItem_17
def f_X10_item_L16  (fu : Nat)  (u0 : St) : Option (Int32 × St) := (f_X10_wrong fu u0 1 (u0.1 38)).bind (fun q_22 => if isB q_22.1 = true then (some (q_22.1, q_22.2)) else none)
set_option maxHeartbeats 4000000 in
set_option maxRecDepth 100000 in
theorem b_X10_item_L16 {p : Program} {e : Env} {s : State} {m : MethodId} {args : Array Value} {below : List Frame} {meth : Method} {c : Code} {A : Nat → Prop} (l : Launch) (D : va_G) (cy : Nat → ClassId) (h0 : Nat) (a0 : Nat → Nat) (fu : Nat) (out : Int32 × St) (C : gC p s m args meth c (WS yX10_item cX10_item 2 (some .boolean)) cX10_item 2 (some .boolean) RX10) (hA : ∀ q : Nat, s.heap.size ≤ q → A q) (hK : va_K D vwCl (TY cy) s)  :
    ∀ (u0 : St), f_X10_item_L16 fu u0 = some out → ∀ (H : Heap) (locs : List Loc) (ls : Array Slot), va_P D vwCl (w10 cy h0 a0 u0) H → va_D A (w10 cy h0 a0 u0) → va_S A s.heap H locs → lv_has ls 2 [(0, .ref h0)] → W p l e ({ frames := 5, cells := 0, slots := 0, locals := 130 } : Room) s m args below meth c H locs 0 0 (MQ below (gQi D cy A out.1 (w10 cy h0 a0 out.2)) args s 0 0 A) (F0 m 16 ls []) := by
  obtain ⟨hx, hb, hr, hml, hown, hts, hlk⟩ := id C
  have hown : s.vm.findClass RX10 = some m.cls := hown
  have hk_160 := hts _ (List.mem_cons_of_mem _ fl_RX10_160)
  intro u0 hf H locs ls hP hD hS hl
  unfold f_X10_item_L16 at hf
  refine lv_aload_n hx hb dX10_item_16 rfl (lv_at hl 0 rfl) ?_
  refine lv_iconst (v := 1) hx hb dX10_item_17 (by decide) ?_
  refine lv_aload_n hx hb dX10_item_18 rfl (lv_at hl 0 rfl) ?_
  refine va_get (ci := 9) (v := .int (u0.1 38)) (C := RX10) (T := TX10) (N := 56) hx hb hts (fun w h => List.mem_cons_of_mem _ (inX10 w h)) hown hK hP 0 rfl rfl 38 (by decide) hk_160 (fun _ h9 => h9) rfl dX10_item_19 ?_
  obtain ⟨q_22, hc_22, hf⟩ := op_bind hf
  refine g_callVi (As := [.int 1, .int (u0.1 38)]) (rest := []) (w2 := w10 cy h0 a0 q_22.2) ⟨hx, hb, hml, hown, hts⟩ (c_X10_wrong l D cy h0 a0 u0 _ fu 1 (u0.1 38) _ hc_22) (cwV 2 hts (gi_V ml_RX10_183 im_X10_wrong se_X10_wrong in_RX10 cd_X10_wrong) rfl rfl rfl hdX10_wrong ⟨Nat.le_of_ble_eq_true rfl, Nat.le_of_ble_eq_true rfl⟩) (va_recv hK hP (ci := 9) (q0 := 0) rfl rfl) rfl hl.1 rfl (Nat.le_of_ble_eq_true rfl) dX10_item_22 hK hP hD hS hA [0, 1, 2, 3, 4, 5, 6, 7, 8, 9, 10, 11, 12, 13, 14, 15, 16, 17, 18, 19, 20, 21, 22, 23, 24, 25, 26, 27, 28, 29] [] [0, 1, 2, 3, 4, 5, 6, 7, 8, 9, 10, 11, 12, 13, 14, 15, 16, 17, 18, 19, 20, 21, 22, 23, 24, 25, 26, 27, 28, 29] rfl rfl rfl rfl (by decide) rfl rfl (fun H locs hP hD hS => ?_)
  obtain ⟨hg_25, hf⟩ := op_if hf
  rw [← Option.some.inj hf]
  exact g_zret hx hb hr hlk hg_25 hK hP hD hS dX10_item_25
def f_X10_item_L56  (fu : Nat)  (u0 : St) : Option (Int32 × St) := (f_X10_wrong fu u0 2 (u0.1 38)).bind (fun q_62 => if isB q_62.1 = true then (some (q_62.1, q_62.2)) else none)
set_option maxHeartbeats 4000000 in
set_option maxRecDepth 100000 in
theorem b_X10_item_L56 {p : Program} {e : Env} {s : State} {m : MethodId} {args : Array Value} {below : List Frame} {meth : Method} {c : Code} {A : Nat → Prop} (l : Launch) (D : va_G) (cy : Nat → ClassId) (h0 : Nat) (a0 : Nat → Nat) (fu : Nat) (out : Int32 × St) (C : gC p s m args meth c (WS yX10_item cX10_item 2 (some .boolean)) cX10_item 2 (some .boolean) RX10) (hA : ∀ q : Nat, s.heap.size ≤ q → A q) (hK : va_K D vwCl (TY cy) s)  :
    ∀ (u0 : St), f_X10_item_L56 fu u0 = some out → ∀ (H : Heap) (locs : List Loc) (ls : Array Slot), va_P D vwCl (w10 cy h0 a0 u0) H → va_D A (w10 cy h0 a0 u0) → va_S A s.heap H locs → lv_has ls 2 [(0, .ref h0)] → W p l e ({ frames := 5, cells := 0, slots := 0, locals := 130 } : Room) s m args below meth c H locs 0 0 (MQ below (gQi D cy A out.1 (w10 cy h0 a0 out.2)) args s 0 0 A) (F0 m 56 ls []) := by
  obtain ⟨hx, hb, hr, hml, hown, hts, hlk⟩ := id C
  have hown : s.vm.findClass RX10 = some m.cls := hown
  have hk_160 := hts _ (List.mem_cons_of_mem _ fl_RX10_160)
  intro u0 hf H locs ls hP hD hS hl
  unfold f_X10_item_L56 at hf
  refine lv_aload_n hx hb dX10_item_56 rfl (lv_at hl 0 rfl) ?_
  refine lv_iconst (v := 2) hx hb dX10_item_57 (by decide) ?_
  refine lv_aload_n hx hb dX10_item_58 rfl (lv_at hl 0 rfl) ?_
  refine va_get (ci := 9) (v := .int (u0.1 38)) (C := RX10) (T := TX10) (N := 56) hx hb hts (fun w h => List.mem_cons_of_mem _ (inX10 w h)) hown hK hP 0 rfl rfl 38 (by decide) hk_160 (fun _ h9 => h9) rfl dX10_item_59 ?_
  obtain ⟨q_62, hc_62, hf⟩ := op_bind hf
  refine g_callVi (As := [.int 2, .int (u0.1 38)]) (rest := []) (w2 := w10 cy h0 a0 q_62.2) ⟨hx, hb, hml, hown, hts⟩ (c_X10_wrong l D cy h0 a0 u0 _ fu 2 (u0.1 38) _ hc_62) (cwV 2 hts (gi_V ml_RX10_183 im_X10_wrong se_X10_wrong in_RX10 cd_X10_wrong) rfl rfl rfl hdX10_wrong ⟨Nat.le_of_ble_eq_true rfl, Nat.le_of_ble_eq_true rfl⟩) (va_recv hK hP (ci := 9) (q0 := 0) rfl rfl) rfl hl.1 rfl (Nat.le_of_ble_eq_true rfl) dX10_item_62 hK hP hD hS hA [0, 1, 2, 3, 4, 5, 6, 7, 8, 9, 10, 11, 12, 13, 14, 15, 16, 17, 18, 19, 20, 21, 22, 23, 24, 25, 26, 27, 28, 29] [] [0, 1, 2, 3, 4, 5, 6, 7, 8, 9, 10, 11, 12, 13, 14, 15, 16, 17, 18, 19, 20, 21, 22, 23, 24, 25, 26, 27, 28, 29] rfl rfl rfl rfl (by decide) rfl rfl (fun H locs hP hD hS => ?_)
  obtain ⟨hg_65, hf⟩ := op_if hf
  rw [← Option.some.inj hf]
  exact g_zret hx hb hr hlk hg_65 hK hP hD hS dX10_item_65
def f_X10_item_L66  (fu : Nat)  (u0 : St) : Option (Int32 × St) := (f_X10_take fu u0).bind (fun q_72 => if (u0.1 37) = 7 then ((f_X10_cutItem fu q_72).bind (fun q_82 => if isB q_82.1 = true then (some (q_82.1, q_82.2)) else none)) else (if (u0.1 37) = 5 then ((f_X10_title fu q_72).bind (fun q_92 => if isB q_92.1 = true then (some (q_92.1, q_92.2)) else none)) else ((f_X10_bar fu q_72).bind (fun q_97 => if q_97.1 = 0 then (some (0, q_97.2)) else (if inb (q_97.2.1 45) 40 = true then ((f_X10_semi fu (sF (sA q_97.2 48 ((q_97.2.1 45).toNatClampNeg) (-1)) 45 ((q_97.2.1 45) + 1))).bind (fun q_126 => if isB q_126.1 = true then (some (q_126.1, q_126.2)) else none)) else none)))))
set_option maxHeartbeats 4000000 in
set_option maxRecDepth 100000 in
theorem b_X10_item_L66 {p : Program} {e : Env} {s : State} {m : MethodId} {args : Array Value} {below : List Frame} {meth : Method} {c : Code} {A : Nat → Prop} (l : Launch) (D : va_G) (cy : Nat → ClassId) (h0 : Nat) (a0 : Nat → Nat) (fu : Nat) (out : Int32 × St) (C : gC p s m args meth c (WS yX10_item cX10_item 2 (some .boolean)) cX10_item 2 (some .boolean) RX10) (hA : ∀ q : Nat, s.heap.size ≤ q → A q) (hK : va_K D vwCl (TY cy) s)  :
    ∀ (u0 : St), f_X10_item_L66 fu u0 = some out → ∀ (H : Heap) (locs : List Loc) (ls : Array Slot), va_P D vwCl (w10 cy h0 a0 u0) H → va_D A (w10 cy h0 a0 u0) → va_S A s.heap H locs → lv_has ls 2 [(0, .ref h0)] → W p l e ({ frames := 5, cells := 0, slots := 0, locals := 130 } : Room) s m args below meth c H locs 0 0 (MQ below (gQi D cy A out.1 (w10 cy h0 a0 out.2)) args s 0 0 A) (F0 m 66 ls []) := by
  obtain ⟨hx, hb, hr, hml, hown, hts, hlk⟩ := id C
  have hown : s.vm.findClass RX10 = some m.cls := hown
  have hk_173 := hts _ (List.mem_cons_of_mem _ fl_RX10_173)
  have hk_95 := hts _ (List.mem_cons_of_mem _ fl_RX10_95)
  have hk_205 := hts _ (List.mem_cons_of_mem _ fl_RX10_205)
  intro u0 hf H locs ls hP hD hS hl
  unfold f_X10_item_L66 at hf
  refine lv_aload_n hx hb dX10_item_66 rfl (lv_at hl 0 rfl) ?_
  refine va_get (ci := 9) (v := .int (u0.1 37)) (C := RX10) (T := TX10) (N := 56) hx hb hts (fun w h => List.mem_cons_of_mem _ (inX10 w h)) hown hK hP 0 rfl rfl 37 (by decide) hk_173 (fun _ h9 => h9) rfl dX10_item_67 ?_
  refine lv_istore_n (lv' := [(1, .int (u0.1 37)), (0, .ref h0)]) hx hb dX10_item_70 rfl hl (by decide) rfl (fun ls hl => ?_)
  refine lv_aload_n hx hb dX10_item_71 rfl (lv_at hl 1 rfl) ?_
  obtain ⟨q_72, hc_72, hf⟩ := op_bind hf
  refine g_callVv (As := []) (rest := []) (w2 := w10 cy h0 a0 q_72) ⟨hx, hb, hml, hown, hts⟩ (c_X10_take l D cy h0 a0 u0 _ fu _ hc_72) (cwV 0 hts (gi_V ml_RX10_189 im_X10_take se_X10_take in_RX10 cd_X10_take) rfl rfl rfl hdX10_take ⟨Nat.le_of_ble_eq_true rfl, Nat.le_of_ble_eq_true rfl⟩) (va_recv hK hP (ci := 9) (q0 := 0) rfl rfl) rfl hl.1 rfl (Nat.le_of_ble_eq_true rfl) dX10_item_72 hK hP hD hS hA [0, 1, 2, 3, 4, 5, 6, 7, 8, 9, 10, 11, 12, 13, 14, 15, 16, 17, 18, 19, 20, 21, 22, 23, 24, 25, 26, 27, 28, 29] [] [0, 1, 2, 3, 4, 5, 6, 7, 8, 9, 10, 11, 12, 13, 14, 15, 16, 17, 18, 19, 20, 21, 22, 23, 24, 25, 26, 27, 28, 29] rfl rfl rfl rfl (by decide) rfl rfl (fun H locs hP hD hS => ?_)
  refine lv_iload_n hx hb dX10_item_75 rfl (lv_at hl 0 rfl) ?_
  refine lv_bipush (v := 7) hx hb dX10_item_76 (by decide) ?_
  refine lv_icmp_ne (tgt := 86) hx hb dX10_item_78 (by decide) (fun c_78 => ?_) (fun c_78 => ?_)
  · have hf := op_neg c_78 hf
    refine lv_iload_n hx hb dX10_item_86 rfl (lv_at hl 0 rfl) ?_
    refine lv_iconst (v := 5) hx hb dX10_item_87 (by decide) ?_
    refine lv_icmp_ne (tgt := 96) hx hb dX10_item_88 (by decide) (fun c_88 => ?_) (fun c_88 => ?_)
    · have hf := op_neg c_88 hf
      refine lv_aload_n hx hb dX10_item_96 rfl (lv_at hl 1 rfl) ?_
      obtain ⟨q_97, hc_97, hf⟩ := op_bind hf
      refine g_callVi (As := []) (rest := []) (w2 := w10 cy h0 a0 q_97.2) ⟨hx, hb, hml, hown, hts⟩ (c_X10_bar l D cy h0 a0 q_72 _ fu _ hc_97) (cwV 0 hts (gi_V ml_RX10_208 im_X10_bar se_X10_bar in_RX10 cd_X10_bar) rfl rfl rfl hdX10_bar ⟨Nat.le_of_ble_eq_true rfl, Nat.le_of_ble_eq_true rfl⟩) (va_recv hK hP (ci := 9) (q0 := 0) rfl rfl) rfl hl.1 rfl (Nat.le_of_ble_eq_true rfl) dX10_item_97 hK hP hD hS hA [0, 1, 2, 3, 4, 5, 6, 7, 8, 9, 10, 11, 12, 13, 14, 15, 16, 17, 18, 19, 20, 21, 22, 23, 24, 25, 26, 27, 28, 29] [] [0, 1, 2, 3, 4, 5, 6, 7, 8, 9, 10, 11, 12, 13, 14, 15, 16, 17, 18, 19, 20, 21, 22, 23, 24, 25, 26, 27, 28, 29] rfl rfl rfl rfl (by decide) rfl rfl (fun H locs hP hD hS => ?_)
      refine lv_if_ne (tgt := 105) hx hb dX10_item_100 (by decide) (fun c_100 => ?_) (fun c_100 => ?_)
      · have hf := op_neg c_100 hf
        refine lv_aload_n hx hb dX10_item_105 rfl (lv_at hl 1 rfl) ?_
        refine va_get (ci := 9) (v := .ref (a0 48)) (C := RX10) (T := TX10) (N := 56) hx hb hts (fun w h => List.mem_cons_of_mem _ (inX10 w h)) hown hK hP 0 rfl rfl 48 (by decide) hk_95 (fun _ h9 => h9) rfl dX10_item_106 ?_
        refine lv_aload_n hx hb dX10_item_109 rfl (lv_at hl 1 rfl) ?_
        refine va_get (ci := 9) (v := .int (q_97.2.1 45)) (C := RX10) (T := TX10) (N := 56) hx hb hts (fun w h => List.mem_cons_of_mem _ (inX10 w h)) hown hK hP 0 rfl rfl 45 (by decide) hk_205 (fun _ h9 => h9) rfl dX10_item_110 ?_
        refine lv_iconst (v := (-1)) hx hb dX10_item_113 (by decide) ?_
        obtain ⟨hg_114, hf⟩ := op_if hf
        refine va_iast (f := q_97.2.2 48) (x := (-1)) hx hb hK hP hD hS 24 0 rfl rfl (inb_in hg_114) dX10_item_114 (fun H locs hP hD hS => ?_)
        have hP : va_P D vwCl (w10 cy h0 a0 (sA q_97.2 48 ((q_97.2.1 45).toNatClampNeg) (-1))) H := pP10_48 hP
        have hD : va_D A (w10 cy h0 a0 (sA q_97.2 48 ((q_97.2.1 45).toNatClampNeg) (-1))) := pD10_48 hD
        refine lv_aload_n hx hb dX10_item_115 rfl (lv_at hl 1 rfl) ?_
        refine lv_dup hx hb dX10_item_116 rfl ?_
        refine va_get (ci := 9) (v := .int (q_97.2.1 45)) (C := RX10) (T := TX10) (N := 56) hx hb hts (fun w h => List.mem_cons_of_mem _ (inX10 w h)) hown hK hP 0 rfl rfl 45 (by decide) hk_205 (fun _ h9 => h9) rfl dX10_item_117 ?_
        refine lv_iconst (v := 1) hx hb dX10_item_120 (by decide) ?_
        refine lv_iadd hx hb dX10_item_121 ?_
        refine va_put (ci := 9) (v := .int ((q_97.2.1 45) + 1)) (ty := tyX10 45) (C := RX10) (T := TX10) (N := 56) hx hb hts (fun w h => List.mem_cons_of_mem _ (inX10 w h)) tyX10 tyX10_ok nmX10 hown hK hP hD hS 0 rfl rfl 45 (by decide) hk_205 (fun _ h9 => h9) rfl (tyX10_ok 45 (by decide)) rfl rfl (Nat.le_of_ble_eq_true rfl) dX10_item_122 (fun H locs hP hD hS => ?_)
        have hP : va_P D vwCl (w10 cy h0 a0 (sF (sA q_97.2 48 ((q_97.2.1 45).toNatClampNeg) (-1)) 45 ((q_97.2.1 45) + 1))) H := pP10_45 hP
        have hD : va_D A (w10 cy h0 a0 (sF (sA q_97.2 48 ((q_97.2.1 45).toNatClampNeg) (-1)) 45 ((q_97.2.1 45) + 1))) := pD10_45 hD
        refine lv_aload_n hx hb dX10_item_125 rfl (lv_at hl 1 rfl) ?_
        obtain ⟨q_126, hc_126, hf⟩ := op_bind hf
        refine g_callVi (As := []) (rest := []) (w2 := w10 cy h0 a0 q_126.2) ⟨hx, hb, hml, hown, hts⟩ (c_X10_semi l D cy h0 a0 (sF (sA q_97.2 48 ((q_97.2.1 45).toNatClampNeg) (-1)) 45 ((q_97.2.1 45) + 1)) _ fu _ hc_126) (cwV 0 hts (gi_V ml_RX10_198 im_X10_semi se_X10_semi in_RX10 cd_X10_semi) rfl rfl rfl hdX10_semi ⟨Nat.le_of_ble_eq_true rfl, Nat.le_of_ble_eq_true rfl⟩) (va_recv hK hP (ci := 9) (q0 := 0) rfl rfl) rfl hl.1 rfl (Nat.le_of_ble_eq_true rfl) dX10_item_126 hK hP hD hS hA [0, 1, 2, 3, 4, 5, 6, 7, 8, 9, 10, 11, 12, 13, 14, 15, 16, 17, 18, 19, 20, 21, 22, 23, 24, 25, 26, 27, 28, 29] [] [0, 1, 2, 3, 4, 5, 6, 7, 8, 9, 10, 11, 12, 13, 14, 15, 16, 17, 18, 19, 20, 21, 22, 23, 24, 25, 26, 27, 28, 29] rfl rfl rfl rfl (by decide) rfl rfl (fun H locs hP hD hS => ?_)
        obtain ⟨hg_129, hf⟩ := op_if hf
        rw [← Option.some.inj hf]
        exact g_zret hx hb hr hlk hg_129 hK hP hD hS dX10_item_129
      · have hf := op_pos c_100 hf
        refine lv_iconst (v := 0) hx hb dX10_item_103 (by decide) ?_
        rw [← Option.some.inj hf]
        exact g_zret hx hb hr hlk (show isB 0 = true by decide) hK hP hD hS dX10_item_104
    · have hf := op_pos c_88 hf
      refine lv_aload_n hx hb dX10_item_91 rfl (lv_at hl 1 rfl) ?_
      obtain ⟨q_92, hc_92, hf⟩ := op_bind hf
      refine g_callVi (As := []) (rest := []) (w2 := w10 cy h0 a0 q_92.2) ⟨hx, hb, hml, hown, hts⟩ (c_X10_title l D cy h0 a0 q_72 _ fu _ hc_92) (cwV 0 hts (gi_V ml_RX10_223 im_X10_title se_X10_title in_RX10 cd_X10_title) rfl rfl rfl hdX10_title ⟨Nat.le_of_ble_eq_true rfl, Nat.le_of_ble_eq_true rfl⟩) (va_recv hK hP (ci := 9) (q0 := 0) rfl rfl) rfl hl.1 rfl (Nat.le_of_ble_eq_true rfl) dX10_item_92 hK hP hD hS hA [0, 1, 2, 3, 4, 5, 6, 7, 8, 9, 10, 11, 12, 13, 14, 15, 16, 17, 18, 19, 20, 21, 22, 23, 24, 25, 26, 27, 28, 29] [] [0, 1, 2, 3, 4, 5, 6, 7, 8, 9, 10, 11, 12, 13, 14, 15, 16, 17, 18, 19, 20, 21, 22, 23, 24, 25, 26, 27, 28, 29] rfl rfl rfl rfl (by decide) rfl rfl (fun H locs hP hD hS => ?_)
      obtain ⟨hg_95, hf⟩ := op_if hf
      rw [← Option.some.inj hf]
      exact g_zret hx hb hr hlk hg_95 hK hP hD hS dX10_item_95
  · have hf := op_pos c_78 hf
    refine lv_aload_n hx hb dX10_item_81 rfl (lv_at hl 1 rfl) ?_
    obtain ⟨q_82, hc_82, hf⟩ := op_bind hf
    refine g_callVi (As := []) (rest := []) (w2 := w10 cy h0 a0 q_82.2) ⟨hx, hb, hml, hown, hts⟩ (c_X10_cutItem l D cy h0 a0 q_72 _ fu _ hc_82) (cwV 0 hts (gi_V ml_RX10_220 im_X10_cutItem se_X10_cutItem in_RX10 cd_X10_cutItem) rfl rfl rfl hdX10_cutItem ⟨Nat.le_of_ble_eq_true rfl, Nat.le_of_ble_eq_true rfl⟩) (va_recv hK hP (ci := 9) (q0 := 0) rfl rfl) rfl hl.1 rfl (Nat.le_of_ble_eq_true rfl) dX10_item_82 hK hP hD hS hA [0, 1, 2, 3, 4, 5, 6, 7, 8, 9, 10, 11, 12, 13, 14, 15, 16, 17, 18, 19, 20, 21, 22, 23, 24, 25, 26, 27, 28, 29] [] [0, 1, 2, 3, 4, 5, 6, 7, 8, 9, 10, 11, 12, 13, 14, 15, 16, 17, 18, 19, 20, 21, 22, 23, 24, 25, 26, 27, 28, 29] rfl rfl rfl rfl (by decide) rfl rfl (fun H locs hP hD hS => ?_)
    obtain ⟨hg_85, hf⟩ := op_if hf
    rw [← Option.some.inj hf]
    exact g_zret hx hb hr hlk hg_85 hK hP hD hS dX10_item_85
def f_X10_item (fu : Nat)  (s0 : St)  : Option (Int32 × St) := if (s0.1 36) = 1 then (if 5 ≤ (s0.1 37) then (if (s0.1 37) = 7 then (if (s0.1 51) = 8 then (f_X10_item_L56 fu s0) else (f_X10_item_L66 fu s0)) else (if (s0.1 45) = 40 then (f_X10_item_L56 fu s0) else (f_X10_item_L66 fu s0))) else (f_X10_item_L16 fu s0)) else (f_X10_item_L16 fu s0)
theorem hdX10_item : yX10_item.cls = RX10 ∧ yX10_item.cls ≠ "java/lang/invoke/MethodHandle" ∧ yX10_item.cls ≠ "java/lang/invoke/VarHandle" ∧ (parseMethodDescriptor yX10_item.desc).map (fun d => d.parameters.length) = some 0 := by decide +kernel
set_option maxHeartbeats 4000000 in
set_option maxRecDepth 100000 in
theorem c_X10_item (l : Launch) (D : va_G) (cy : Nat → ClassId) (h0 : Nat) (a0 : Nat → Nat) (s0 : St) (sz fu : Nat)  (out : Int32 × St) (hf : f_X10_item fu s0 = some out) :
    Met l yX10_item (WS yX10_item cX10_item 2 (some .boolean)) ({ frames := 5, cells := 0, slots := 0, locals := 130 } : Room) (va_Pc [.ref h0] (gP D cy sz (w10 cy h0 a0 s0))) ((fun A : Nat → Prop => gQi D cy A out.1 (w10 cy h0 a0 out.2)) (va_A (w10 cy h0 a0 s0) sz)) 0 0 (va_A (w10 cy h0 a0 s0) sz) := by
  refine g_met (cc := cX10_item) (maxL := 2) (ret := (some .boolean)) (fun A : Nat → Prop => gQi D cy A out.1 (w10 cy h0 a0 out.2)) (by decide +kernel) rfl (Nat.le_of_ble_eq_true rfl) ?_
  intro p e s m below meth c A C hA hK hP hD ls hl
  obtain ⟨hx, hb, hr, hml, hown, hts, hlk⟩ := id C
  have hown : s.vm.findClass RX10 = some m.cls := hown
  have hS : va_S A s.heap s.heap [] := va_S.rf
  have hl : lv_has ls 2 [(0, .ref h0)] := hl
  have hk_163 := hts _ (List.mem_cons_of_mem _ fl_RX10_163)
  have hk_173 := hts _ (List.mem_cons_of_mem _ fl_RX10_173)
  have hk_205 := hts _ (List.mem_cons_of_mem _ fl_RX10_205)
  have hk_217 := hts _ (List.mem_cons_of_mem _ fl_RX10_217)
  unfold f_X10_item at hf
  refine lv_aload_n hx hb dX10_item_0 rfl (lv_at hl 0 rfl) ?_
  refine va_get (ci := 9) (v := .int (s0.1 36)) (C := RX10) (T := TX10) (N := 56) hx hb hts (fun w h => List.mem_cons_of_mem _ (inX10 w h)) hown hK hP 0 rfl rfl 36 (by decide) hk_163 (fun _ h9 => h9) rfl dX10_item_1 ?_
  refine lv_iconst (v := 1) hx hb dX10_item_4 (by decide) ?_
  refine lv_icmp_ne (tgt := 16) hx hb dX10_item_5 (by decide) (fun c_5 => ?_) (fun c_5 => ?_)
  · have hf := op_neg c_5 hf
    exact b_X10_item_L16 l D cy h0 a0 fu out C hA hK s0 hf _ _ ls hP hD hS (lv_sub hl [0] rfl)
  · have hf := op_pos c_5 hf
    refine lv_aload_n hx hb dX10_item_8 rfl (lv_at hl 0 rfl) ?_
    refine va_get (ci := 9) (v := .int (s0.1 37)) (C := RX10) (T := TX10) (N := 56) hx hb hts (fun w h => List.mem_cons_of_mem _ (inX10 w h)) hown hK hP 0 rfl rfl 37 (by decide) hk_173 (fun _ h9 => h9) rfl dX10_item_9 ?_
    refine lv_iconst (v := 5) hx hb dX10_item_12 (by decide) ?_
    refine lv_icmp_ge (tgt := 26) hx hb dX10_item_13 (by decide) (fun c_13 => ?_) (fun c_13 => ?_)
    · have hf := op_pos c_13 hf
      refine lv_aload_n hx hb dX10_item_26 rfl (lv_at hl 0 rfl) ?_
      refine va_get (ci := 9) (v := .int (s0.1 37)) (C := RX10) (T := TX10) (N := 56) hx hb hts (fun w h => List.mem_cons_of_mem _ (inX10 w h)) hown hK hP 0 rfl rfl 37 (by decide) hk_173 (fun _ h9 => h9) rfl dX10_item_27 ?_
      refine lv_bipush (v := 7) hx hb dX10_item_30 (by decide) ?_
      refine lv_icmp_ne (tgt := 47) hx hb dX10_item_32 (by decide) (fun c_32 => ?_) (fun c_32 => ?_)
      · have hf := op_neg c_32 hf
        refine lv_aload_n hx hb dX10_item_47 rfl (lv_at hl 0 rfl) ?_
        refine va_get (ci := 9) (v := .int (s0.1 45)) (C := RX10) (T := TX10) (N := 56) hx hb hts (fun w h => List.mem_cons_of_mem _ (inX10 w h)) hown hK hP 0 rfl rfl 45 (by decide) hk_205 (fun _ h9 => h9) rfl dX10_item_48 ?_
        refine lv_bipush (v := 40) hx hb dX10_item_51 (by decide) ?_
        refine lv_icmp_ne (tgt := 66) hx hb dX10_item_53 (by decide) (fun c_53 => ?_) (fun c_53 => ?_)
        · have hf := op_neg c_53 hf
          exact b_X10_item_L66 l D cy h0 a0 fu out C hA hK s0 hf _ _ ls hP hD hS (lv_sub hl [0] rfl)
        · have hf := op_pos c_53 hf
          exact b_X10_item_L56 l D cy h0 a0 fu out C hA hK s0 hf _ _ ls hP hD hS (lv_sub hl [0] rfl)
      · have hf := op_pos c_32 hf
        refine lv_aload_n hx hb dX10_item_35 rfl (lv_at hl 0 rfl) ?_
        refine va_get (ci := 9) (v := .int (s0.1 51)) (C := RX10) (T := TX10) (N := 56) hx hb hts (fun w h => List.mem_cons_of_mem _ (inX10 w h)) hown hK hP 0 rfl rfl 51 (by decide) hk_217 (fun _ h9 => h9) rfl dX10_item_36 ?_
        refine lv_bipush (v := 8) hx hb dX10_item_39 (by decide) ?_
        refine lv_icmp_ne (tgt := 66) hx hb dX10_item_41 (by decide) (fun c_41 => ?_) (fun c_41 => ?_)
        · have hf := op_neg c_41 hf
          exact b_X10_item_L66 l D cy h0 a0 fu out C hA hK s0 hf _ _ ls hP hD hS (lv_sub hl [0] rfl)
        · have hf := op_pos c_41 hf
          refine lv_goto (tgt := 56) hx hb dX10_item_44 (by decide) ?_
          exact b_X10_item_L56 l D cy h0 a0 fu out C hA hK s0 hf _ _ ls hP hD hS (lv_sub hl [0] rfl)
    · have hf := op_neg c_13 hf
      exact b_X10_item_L16 l D cy h0 a0 fu out C hA hK s0 hf _ _ ls hP hD hS (lv_sub hl [0] rfl)
def f_X10_reads_L93  (fu : Nat)  (u0 : St) : Option (Int32 × St) := (f_X10_wrong fu u0 1 (u0.1 38)).bind (fun q_99 => if isB q_99.1 = true then (some (q_99.1, q_99.2)) else none)
set_option maxHeartbeats 4000000 in
set_option maxRecDepth 100000 in
theorem b_X10_reads_L93 {p : Program} {e : Env} {s : State} {m : MethodId} {args : Array Value} {below : List Frame} {meth : Method} {c : Code} {A : Nat → Prop} (l : Launch) (D : va_G) (cy : Nat → ClassId) (h0 : Nat) (a0 : Nat → Nat) (fu : Nat) (out : Int32 × St) (C : gC p s m args meth c (WS yX10_reads cX10_reads 2 (some .boolean)) cX10_reads 2 (some .boolean) RX10) (hA : ∀ q : Nat, s.heap.size ≤ q → A q) (hK : va_K D vwCl (TY cy) s)  :
    ∀ (u0 : St), f_X10_reads_L93 fu u0 = some out → ∀ (H : Heap) (locs : List Loc) (ls : Array Slot), va_P D vwCl (w10 cy h0 a0 u0) H → va_D A (w10 cy h0 a0 u0) → va_S A s.heap H locs → lv_has ls 2 [(0, .ref h0)] → W p l e ({ frames := 6, cells := 0, slots := 0, locals := 151 } : Room) s m args below meth c H locs 0 0 (MQ below (gQi D cy A out.1 (w10 cy h0 a0 out.2)) args s 0 0 A) (F0 m 93 ls []) := by
  obtain ⟨hx, hb, hr, hml, hown, hts, hlk⟩ := id C
  have hown : s.vm.findClass RX10 = some m.cls := hown
  have hk_160 := hts _ (List.mem_cons_of_mem _ fl_RX10_160)
  intro u0 hf H locs ls hP hD hS hl
  unfold f_X10_reads_L93 at hf
  refine lv_aload_n hx hb dX10_reads_93 rfl (lv_at hl 0 rfl) ?_
  refine lv_iconst (v := 1) hx hb dX10_reads_94 (by decide) ?_
  refine lv_aload_n hx hb dX10_reads_95 rfl (lv_at hl 0 rfl) ?_
  refine va_get (ci := 9) (v := .int (u0.1 38)) (C := RX10) (T := TX10) (N := 56) hx hb hts (fun w h => List.mem_cons_of_mem _ (inX10 w h)) hown hK hP 0 rfl rfl 38 (by decide) hk_160 (fun _ h9 => h9) rfl dX10_reads_96 ?_
  obtain ⟨q_99, hc_99, hf⟩ := op_bind hf
  refine g_callVi (As := [.int 1, .int (u0.1 38)]) (rest := []) (w2 := w10 cy h0 a0 q_99.2) ⟨hx, hb, hml, hown, hts⟩ (c_X10_wrong l D cy h0 a0 u0 _ fu 1 (u0.1 38) _ hc_99) (cwV 2 hts (gi_V ml_RX10_183 im_X10_wrong se_X10_wrong in_RX10 cd_X10_wrong) rfl rfl rfl hdX10_wrong ⟨Nat.le_of_ble_eq_true rfl, Nat.le_of_ble_eq_true rfl⟩) (va_recv hK hP (ci := 9) (q0 := 0) rfl rfl) rfl hl.1 rfl (Nat.le_of_ble_eq_true rfl) dX10_reads_99 hK hP hD hS hA [0, 1, 2, 3, 4, 5, 6, 7, 8, 9, 10, 11, 12, 13, 14, 15, 16, 17, 18, 19, 20, 21, 22, 23, 24, 25, 26, 27, 28, 29] [] [0, 1, 2, 3, 4, 5, 6, 7, 8, 9, 10, 11, 12, 13, 14, 15, 16, 17, 18, 19, 20, 21, 22, 23, 24, 25, 26, 27, 28, 29] rfl rfl rfl rfl (by decide) rfl rfl (fun H locs hP hD hS => ?_)
  obtain ⟨hg_102, hf⟩ := op_if hf
  rw [← Option.some.inj hf]
  exact g_zret hx hb hr hlk hg_102 hK hP hD hS dX10_reads_102
def f_X10_reads_L168  (fu : Nat)  : Nat → St → Option (Int32 × St)
  | 0, _ => none
  | n_168 + 1, u0 => if (u0.1 36) = 0 then (some (1, u0)) else ((f_X10_item fu u0).bind (fun q_176 => if q_176.1 = 0 then (some (0, q_176.2)) else (f_X10_reads_L168 fu n_168 q_176.2)))
set_option maxHeartbeats 4000000 in
set_option maxRecDepth 100000 in
theorem b_X10_reads_L168 {p : Program} {e : Env} {s : State} {m : MethodId} {args : Array Value} {below : List Frame} {meth : Method} {c : Code} {A : Nat → Prop} (l : Launch) (D : va_G) (cy : Nat → ClassId) (h0 : Nat) (a0 : Nat → Nat) (fu : Nat) (out : Int32 × St) (C : gC p s m args meth c (WS yX10_reads cX10_reads 2 (some .boolean)) cX10_reads 2 (some .boolean) RX10) (hA : ∀ q : Nat, s.heap.size ≤ q → A q) (hK : va_K D vwCl (TY cy) s)  :
    ∀ (n_168 : Nat), ∀ (u0 : St), f_X10_reads_L168 fu n_168 u0 = some out → ∀ (H : Heap) (locs : List Loc) (ls : Array Slot), va_P D vwCl (w10 cy h0 a0 u0) H → va_D A (w10 cy h0 a0 u0) → va_S A s.heap H locs → lv_has ls 2 [(0, .ref h0)] → W p l e ({ frames := 6, cells := 0, slots := 0, locals := 151 } : Room) s m args below meth c H locs 0 0 (MQ below (gQi D cy A out.1 (w10 cy h0 a0 out.2)) args s 0 0 A) (F0 m 168 ls []) := by
  obtain ⟨hx, hb, hr, hml, hown, hts, hlk⟩ := id C
  have hown : s.vm.findClass RX10 = some m.cls := hown
  have hk_163 := hts _ (List.mem_cons_of_mem _ fl_RX10_163)
  intro n_168
  induction n_168 with
  | zero => intro u0 hf; exact op_no hf
  | succ n_168 ih_168 =>
    intro u0 hf H locs ls hP hD hS hl
    rw [f_X10_reads_L168] at hf
    refine lv_aload_n hx hb dX10_reads_168 rfl (lv_at hl 0 rfl) ?_
    refine va_get (ci := 9) (v := .int (u0.1 36)) (C := RX10) (T := TX10) (N := 56) hx hb hts (fun w h => List.mem_cons_of_mem _ (inX10 w h)) hown hK hP 0 rfl rfl 36 (by decide) hk_163 (fun _ h9 => h9) rfl dX10_reads_169 ?_
    refine lv_if_eq (tgt := 184) hx hb dX10_reads_172 (by decide) (fun c_172 => ?_) (fun c_172 => ?_)
    · have hf := op_pos c_172 hf
      refine lv_iconst (v := 1) hx hb dX10_reads_184 (by decide) ?_
      rw [← Option.some.inj hf]
      exact g_zret hx hb hr hlk (show isB 1 = true by decide) hK hP hD hS dX10_reads_185
    · have hf := op_neg c_172 hf
      refine lv_aload_n hx hb dX10_reads_175 rfl (lv_at hl 0 rfl) ?_
      obtain ⟨q_176, hc_176, hf⟩ := op_bind hf
      refine g_callVi (As := []) (rest := []) (w2 := w10 cy h0 a0 q_176.2) ⟨hx, hb, hml, hown, hts⟩ (c_X10_item l D cy h0 a0 u0 _ fu _ hc_176) (cwV 0 hts (gi_V ml_RX10_229 im_X10_item se_X10_item in_RX10 cd_X10_item) rfl rfl rfl hdX10_item ⟨Nat.le_of_ble_eq_true rfl, Nat.le_of_ble_eq_true rfl⟩) (va_recv hK hP (ci := 9) (q0 := 0) rfl rfl) rfl hl.1 rfl (Nat.le_of_ble_eq_true rfl) dX10_reads_176 hK hP hD hS hA [0, 1, 2, 3, 4, 5, 6, 7, 8, 9, 10, 11, 12, 13, 14, 15, 16, 17, 18, 19, 20, 21, 22, 23, 24, 25, 26, 27, 28, 29] [] [0, 1, 2, 3, 4, 5, 6, 7, 8, 9, 10, 11, 12, 13, 14, 15, 16, 17, 18, 19, 20, 21, 22, 23, 24, 25, 26, 27, 28, 29] rfl rfl rfl rfl (by decide) rfl rfl (fun H locs hP hD hS => ?_)
      refine lv_if_ne (tgt := 168) hx hb dX10_reads_179 (by decide) (fun c_179 => ?_) (fun c_179 => ?_)
      · have hf := op_neg c_179 hf
        exact ih_168 q_176.2 hf _ _ ls hP hD hS (lv_sub hl [0] rfl)
      · have hf := op_pos c_179 hf
        refine lv_iconst (v := 0) hx hb dX10_reads_182 (by decide) ?_
        rw [← Option.some.inj hf]
        exact g_zret hx hb hr hlk (show isB 0 = true by decide) hK hP hD hS dX10_reads_183
def f_X10_reads_L135  (fu : Nat)  : Nat → St → Option (Int32 × St)
  | 0, _ => none
  | n_135 + 1, u0 => if (u0.1 36) = 1 then (if (u0.1 37) < 2 then (f_X10_reads_L168 fu fu u0) else (if 4 < (u0.1 37) then (f_X10_reads_L168 fu fu u0) else ((f_X10_setting fu u0).bind (fun q_160 => if q_160.1 = 0 then (some (0, q_160.2)) else (f_X10_reads_L135 fu n_135 q_160.2))))) else (f_X10_reads_L168 fu fu u0)
set_option maxHeartbeats 4000000 in
set_option maxRecDepth 100000 in
theorem b_X10_reads_L135 {p : Program} {e : Env} {s : State} {m : MethodId} {args : Array Value} {below : List Frame} {meth : Method} {c : Code} {A : Nat → Prop} (l : Launch) (D : va_G) (cy : Nat → ClassId) (h0 : Nat) (a0 : Nat → Nat) (fu : Nat) (out : Int32 × St) (C : gC p s m args meth c (WS yX10_reads cX10_reads 2 (some .boolean)) cX10_reads 2 (some .boolean) RX10) (hA : ∀ q : Nat, s.heap.size ≤ q → A q) (hK : va_K D vwCl (TY cy) s)  :
    ∀ (n_135 : Nat), ∀ (u0 : St), f_X10_reads_L135 fu n_135 u0 = some out → ∀ (H : Heap) (locs : List Loc) (ls : Array Slot), va_P D vwCl (w10 cy h0 a0 u0) H → va_D A (w10 cy h0 a0 u0) → va_S A s.heap H locs → lv_has ls 2 [(0, .ref h0)] → W p l e ({ frames := 6, cells := 0, slots := 0, locals := 151 } : Room) s m args below meth c H locs 0 0 (MQ below (gQi D cy A out.1 (w10 cy h0 a0 out.2)) args s 0 0 A) (F0 m 135 ls []) := by
  obtain ⟨hx, hb, hr, hml, hown, hts, hlk⟩ := id C
  have hown : s.vm.findClass RX10 = some m.cls := hown
  have hk_163 := hts _ (List.mem_cons_of_mem _ fl_RX10_163)
  have hk_173 := hts _ (List.mem_cons_of_mem _ fl_RX10_173)
  intro n_135
  induction n_135 with
  | zero => intro u0 hf; exact op_no hf
  | succ n_135 ih_135 =>
    intro u0 hf H locs ls hP hD hS hl
    rw [f_X10_reads_L135] at hf
    refine lv_aload_n hx hb dX10_reads_135 rfl (lv_at hl 0 rfl) ?_
    refine va_get (ci := 9) (v := .int (u0.1 36)) (C := RX10) (T := TX10) (N := 56) hx hb hts (fun w h => List.mem_cons_of_mem _ (inX10 w h)) hown hK hP 0 rfl rfl 36 (by decide) hk_163 (fun _ h9 => h9) rfl dX10_reads_136 ?_
    refine lv_iconst (v := 1) hx hb dX10_reads_139 (by decide) ?_
    refine lv_icmp_ne (tgt := 168) hx hb dX10_reads_140 (by decide) (fun c_140 => ?_) (fun c_140 => ?_)
    · have hf := op_neg c_140 hf
      exact b_X10_reads_L168 l D cy h0 a0 fu out C hA hK fu u0 hf _ _ ls hP hD hS (lv_sub hl [0] rfl)
    · have hf := op_pos c_140 hf
      refine lv_aload_n hx hb dX10_reads_143 rfl (lv_at hl 0 rfl) ?_
      refine va_get (ci := 9) (v := .int (u0.1 37)) (C := RX10) (T := TX10) (N := 56) hx hb hts (fun w h => List.mem_cons_of_mem _ (inX10 w h)) hown hK hP 0 rfl rfl 37 (by decide) hk_173 (fun _ h9 => h9) rfl dX10_reads_144 ?_
      refine lv_iconst (v := 2) hx hb dX10_reads_147 (by decide) ?_
      refine lv_icmp_lt (tgt := 168) hx hb dX10_reads_148 (by decide) (fun c_148 => ?_) (fun c_148 => ?_)
      · have hf := op_pos c_148 hf
        exact b_X10_reads_L168 l D cy h0 a0 fu out C hA hK fu u0 hf _ _ ls hP hD hS (lv_sub hl [0] rfl)
      · have hf := op_neg c_148 hf
        refine lv_aload_n hx hb dX10_reads_151 rfl (lv_at hl 0 rfl) ?_
        refine va_get (ci := 9) (v := .int (u0.1 37)) (C := RX10) (T := TX10) (N := 56) hx hb hts (fun w h => List.mem_cons_of_mem _ (inX10 w h)) hown hK hP 0 rfl rfl 37 (by decide) hk_173 (fun _ h9 => h9) rfl dX10_reads_152 ?_
        refine lv_iconst (v := 4) hx hb dX10_reads_155 (by decide) ?_
        refine lv_icmp_gt (tgt := 168) hx hb dX10_reads_156 (by decide) (fun c_156 => ?_) (fun c_156 => ?_)
        · have hf := op_pos c_156 hf
          exact b_X10_reads_L168 l D cy h0 a0 fu out C hA hK fu u0 hf _ _ ls hP hD hS (lv_sub hl [0] rfl)
        · have hf := op_neg c_156 hf
          refine lv_aload_n hx hb dX10_reads_159 rfl (lv_at hl 0 rfl) ?_
          obtain ⟨q_160, hc_160, hf⟩ := op_bind hf
          refine g_callVi (As := []) (rest := []) (w2 := w10 cy h0 a0 q_160.2) ⟨hx, hb, hml, hown, hts⟩ (c_X10_setting l D cy h0 a0 u0 _ fu _ hc_160) (cwV 0 hts (gi_V ml_RX10_226 im_X10_setting se_X10_setting in_RX10 cd_X10_setting) rfl rfl rfl hdX10_setting ⟨Nat.le_of_ble_eq_true rfl, Nat.le_of_ble_eq_true rfl⟩) (va_recv hK hP (ci := 9) (q0 := 0) rfl rfl) rfl hl.1 rfl (Nat.le_of_ble_eq_true rfl) dX10_reads_160 hK hP hD hS hA [0, 1, 2, 3, 4, 5, 6, 7, 8, 9, 10, 11, 12, 13, 14, 15, 16, 17, 18, 19, 20, 21, 22, 23, 24, 25, 26, 27, 28, 29] [] [0, 1, 2, 3, 4, 5, 6, 7, 8, 9, 10, 11, 12, 13, 14, 15, 16, 17, 18, 19, 20, 21, 22, 23, 24, 25, 26, 27, 28, 29] rfl rfl rfl rfl (by decide) rfl rfl (fun H locs hP hD hS => ?_)
          refine lv_if_ne (tgt := 135) hx hb dX10_reads_163 (by decide) (fun c_163 => ?_) (fun c_163 => ?_)
          · have hf := op_neg c_163 hf
            exact ih_135 q_160.2 hf _ _ ls hP hD hS (lv_sub hl [0] rfl)
          · have hf := op_pos c_163 hf
            refine lv_iconst (v := 0) hx hb dX10_reads_166 (by decide) ?_
            rw [← Option.some.inj hf]
            exact g_zret hx hb hr hlk (show isB 0 = true by decide) hK hP hD hS dX10_reads_167
def f_X10_reads_L29  (fu : Nat)  : Nat → St → Int32 → Option (Int32 × St)
  | 0, _, _ => none
  | n_29 + 1, u0, x1 => if 8 ≤ x1 then ((f_X10_take fu (sF (sF (sF (sF (sF u0 44 0) 45 0) 46 0) 51 0) 35 0)).bind (fun q_74 => if (q_74.1 36) = 1 then (if (q_74.1 37) = 1 then ((f_X10_take fu q_74).bind (fun q_104 => (f_X10_number fu q_104 1 4).bind (fun q_110 => if q_110.1 = 0 then (some (0, q_110.2)) else ((f_X10_semi fu (sF q_110.2 41 (q_110.2.1 55))).bind (fun q_127 => if q_127.1 = 0 then (some (0, q_127.2)) else (f_X10_reads_L135 fu fu q_127.2)))))) else (f_X10_reads_L93 fu q_74)) else (f_X10_reads_L93 fu q_74))) else (if inb x1 8 = true then (f_X10_reads_L29 fu n_29 (sA u0 50 x1.toNatClampNeg 0) (x1 + 1)) else none)
set_option maxHeartbeats 4000000 in
set_option maxRecDepth 100000 in
theorem b_X10_reads_L29 {p : Program} {e : Env} {s : State} {m : MethodId} {args : Array Value} {below : List Frame} {meth : Method} {c : Code} {A : Nat → Prop} (l : Launch) (D : va_G) (cy : Nat → ClassId) (h0 : Nat) (a0 : Nat → Nat) (fu : Nat) (out : Int32 × St) (C : gC p s m args meth c (WS yX10_reads cX10_reads 2 (some .boolean)) cX10_reads 2 (some .boolean) RX10) (hA : ∀ q : Nat, s.heap.size ≤ q → A q) (hK : va_K D vwCl (TY cy) s)  :
    ∀ (n_29 : Nat), ∀ (u0 : St) (x1 : Int32), f_X10_reads_L29 fu n_29 u0 x1 = some out → ∀ (H : Heap) (locs : List Loc) (ls : Array Slot), va_P D vwCl (w10 cy h0 a0 u0) H → va_D A (w10 cy h0 a0 u0) → va_S A s.heap H locs → lv_has ls 2 [(0, .ref h0), (1, .int x1)] → W p l e ({ frames := 6, cells := 0, slots := 0, locals := 151 } : Room) s m args below meth c H locs 0 0 (MQ below (gQi D cy A out.1 (w10 cy h0 a0 out.2)) args s 0 0 A) (F0 m 29 ls []) := by
  obtain ⟨hx, hb, hr, hml, hown, hts, hlk⟩ := id C
  have hown : s.vm.findClass RX10 = some m.cls := hown
  have hk_192 := hts _ (List.mem_cons_of_mem _ fl_RX10_192)
  have hk_205 := hts _ (List.mem_cons_of_mem _ fl_RX10_205)
  have hk_214 := hts _ (List.mem_cons_of_mem _ fl_RX10_214)
  have hk_217 := hts _ (List.mem_cons_of_mem _ fl_RX10_217)
  have hk_157 := hts _ (List.mem_cons_of_mem _ fl_RX10_157)
  have hk_163 := hts _ (List.mem_cons_of_mem _ fl_RX10_163)
  have hk_173 := hts _ (List.mem_cons_of_mem _ fl_RX10_173)
  have hk_186 := hts _ (List.mem_cons_of_mem _ fl_RX10_186)
  have hk_202 := hts _ (List.mem_cons_of_mem _ fl_RX10_202)
  have hk_101 := hts _ (List.mem_cons_of_mem _ fl_RX10_101)
  intro n_29
  induction n_29 with
  | zero => intro u0 x1 hf; exact op_no hf
  | succ n_29 ih_29 =>
    intro u0 x1 hf H locs ls hP hD hS hl
    rw [f_X10_reads_L29] at hf
    refine lv_iload_n hx hb dX10_reads_29 rfl (lv_at hl 1 rfl) ?_
    refine lv_bipush (v := 8) hx hb dX10_reads_30 (by decide) ?_
    refine lv_icmp_ge (tgt := 48) hx hb dX10_reads_32 (by decide) (fun c_32 => ?_) (fun c_32 => ?_)
    · have hf := op_pos c_32 hf
      refine lv_aload_n hx hb dX10_reads_48 rfl (lv_at hl 0 rfl) ?_
      refine lv_iconst (v := 0) hx hb dX10_reads_49 (by decide) ?_
      refine va_put (ci := 9) (v := .int 0) (ty := tyX10 44) (C := RX10) (T := TX10) (N := 56) hx hb hts (fun w h => List.mem_cons_of_mem _ (inX10 w h)) tyX10 tyX10_ok nmX10 hown hK hP hD hS 0 rfl rfl 44 (by decide) hk_192 (fun _ h9 => h9) rfl (tyX10_ok 44 (by decide)) rfl rfl (Nat.le_of_ble_eq_true rfl) dX10_reads_50 (fun H locs hP hD hS => ?_)
      have hP : va_P D vwCl (w10 cy h0 a0 (sF u0 44 0)) H := pP10_44 hP
      have hD : va_D A (w10 cy h0 a0 (sF u0 44 0)) := pD10_44 hD
      refine lv_aload_n hx hb dX10_reads_53 rfl (lv_at hl 0 rfl) ?_
      refine lv_iconst (v := 0) hx hb dX10_reads_54 (by decide) ?_
      refine va_put (ci := 9) (v := .int 0) (ty := tyX10 45) (C := RX10) (T := TX10) (N := 56) hx hb hts (fun w h => List.mem_cons_of_mem _ (inX10 w h)) tyX10 tyX10_ok nmX10 hown hK hP hD hS 0 rfl rfl 45 (by decide) hk_205 (fun _ h9 => h9) rfl (tyX10_ok 45 (by decide)) rfl rfl (Nat.le_of_ble_eq_true rfl) dX10_reads_55 (fun H locs hP hD hS => ?_)
      have hP : va_P D vwCl (w10 cy h0 a0 (sF (sF u0 44 0) 45 0)) H := pP10_45 hP
      have hD : va_D A (w10 cy h0 a0 (sF (sF u0 44 0) 45 0)) := pD10_45 hD
      refine lv_aload_n hx hb dX10_reads_58 rfl (lv_at hl 0 rfl) ?_
      refine lv_iconst (v := 0) hx hb dX10_reads_59 (by decide) ?_
      refine va_put (ci := 9) (v := .int 0) (ty := tyX10 46) (C := RX10) (T := TX10) (N := 56) hx hb hts (fun w h => List.mem_cons_of_mem _ (inX10 w h)) tyX10 tyX10_ok nmX10 hown hK hP hD hS 0 rfl rfl 46 (by decide) hk_214 (fun _ h9 => h9) rfl (tyX10_ok 46 (by decide)) rfl rfl (Nat.le_of_ble_eq_true rfl) dX10_reads_60 (fun H locs hP hD hS => ?_)
      have hP : va_P D vwCl (w10 cy h0 a0 (sF (sF (sF u0 44 0) 45 0) 46 0)) H := pP10_46 hP
      have hD : va_D A (w10 cy h0 a0 (sF (sF (sF u0 44 0) 45 0) 46 0)) := pD10_46 hD
      refine lv_aload_n hx hb dX10_reads_63 rfl (lv_at hl 0 rfl) ?_
      refine lv_iconst (v := 0) hx hb dX10_reads_64 (by decide) ?_
      refine va_put (ci := 9) (v := .int 0) (ty := tyX10 51) (C := RX10) (T := TX10) (N := 56) hx hb hts (fun w h => List.mem_cons_of_mem _ (inX10 w h)) tyX10 tyX10_ok nmX10 hown hK hP hD hS 0 rfl rfl 51 (by decide) hk_217 (fun _ h9 => h9) rfl (tyX10_ok 51 (by decide)) rfl rfl (Nat.le_of_ble_eq_true rfl) dX10_reads_65 (fun H locs hP hD hS => ?_)
      have hP : va_P D vwCl (w10 cy h0 a0 (sF (sF (sF (sF u0 44 0) 45 0) 46 0) 51 0)) H := pP10_51 hP
      have hD : va_D A (w10 cy h0 a0 (sF (sF (sF (sF u0 44 0) 45 0) 46 0) 51 0)) := pD10_51 hD
      refine lv_aload_n hx hb dX10_reads_68 rfl (lv_at hl 0 rfl) ?_
      refine lv_iconst (v := 0) hx hb dX10_reads_69 (by decide) ?_
      refine va_put (ci := 9) (v := .int 0) (ty := tyX10 35) (C := RX10) (T := TX10) (N := 56) hx hb hts (fun w h => List.mem_cons_of_mem _ (inX10 w h)) tyX10 tyX10_ok nmX10 hown hK hP hD hS 0 rfl rfl 35 (by decide) hk_157 (fun _ h9 => h9) rfl (tyX10_ok 35 (by decide)) rfl rfl (Nat.le_of_ble_eq_true rfl) dX10_reads_70 (fun H locs hP hD hS => ?_)
      have hP : va_P D vwCl (w10 cy h0 a0 (sF (sF (sF (sF (sF u0 44 0) 45 0) 46 0) 51 0) 35 0)) H := pP10_35 hP
      have hD : va_D A (w10 cy h0 a0 (sF (sF (sF (sF (sF u0 44 0) 45 0) 46 0) 51 0) 35 0)) := pD10_35 hD
      refine lv_aload_n hx hb dX10_reads_73 rfl (lv_at hl 0 rfl) ?_
      obtain ⟨q_74, hc_74, hf⟩ := op_bind hf
      refine g_callVv (As := []) (rest := []) (w2 := w10 cy h0 a0 q_74) ⟨hx, hb, hml, hown, hts⟩ (c_X10_take l D cy h0 a0 (sF (sF (sF (sF (sF u0 44 0) 45 0) 46 0) 51 0) 35 0) _ fu _ hc_74) (cwV 0 hts (gi_V ml_RX10_189 im_X10_take se_X10_take in_RX10 cd_X10_take) rfl rfl rfl hdX10_take ⟨Nat.le_of_ble_eq_true rfl, Nat.le_of_ble_eq_true rfl⟩) (va_recv hK hP (ci := 9) (q0 := 0) rfl rfl) rfl hl.1 rfl (Nat.le_of_ble_eq_true rfl) dX10_reads_74 hK hP hD hS hA [0, 1, 2, 3, 4, 5, 6, 7, 8, 9, 10, 11, 12, 13, 14, 15, 16, 17, 18, 19, 20, 21, 22, 23, 24, 25, 26, 27, 28, 29] [] [0, 1, 2, 3, 4, 5, 6, 7, 8, 9, 10, 11, 12, 13, 14, 15, 16, 17, 18, 19, 20, 21, 22, 23, 24, 25, 26, 27, 28, 29] rfl rfl rfl rfl (by decide) rfl rfl (fun H locs hP hD hS => ?_)
      refine lv_aload_n hx hb dX10_reads_77 rfl (lv_at hl 0 rfl) ?_
      refine va_get (ci := 9) (v := .int (q_74.1 36)) (C := RX10) (T := TX10) (N := 56) hx hb hts (fun w h => List.mem_cons_of_mem _ (inX10 w h)) hown hK hP 0 rfl rfl 36 (by decide) hk_163 (fun _ h9 => h9) rfl dX10_reads_78 ?_
      refine lv_iconst (v := 1) hx hb dX10_reads_81 (by decide) ?_
      refine lv_icmp_ne (tgt := 93) hx hb dX10_reads_82 (by decide) (fun c_82 => ?_) (fun c_82 => ?_)
      · have hf := op_neg c_82 hf
        exact b_X10_reads_L93 l D cy h0 a0 fu out C hA hK q_74 hf _ _ ls hP hD hS (lv_sub hl [0] rfl)
      · have hf := op_pos c_82 hf
        refine lv_aload_n hx hb dX10_reads_85 rfl (lv_at hl 0 rfl) ?_
        refine va_get (ci := 9) (v := .int (q_74.1 37)) (C := RX10) (T := TX10) (N := 56) hx hb hts (fun w h => List.mem_cons_of_mem _ (inX10 w h)) hown hK hP 0 rfl rfl 37 (by decide) hk_173 (fun _ h9 => h9) rfl dX10_reads_86 ?_
        refine lv_iconst (v := 1) hx hb dX10_reads_89 (by decide) ?_
        refine lv_icmp_eq (tgt := 103) hx hb dX10_reads_90 (by decide) (fun c_90 => ?_) (fun c_90 => ?_)
        · have hf := op_pos c_90 hf
          refine lv_aload_n hx hb dX10_reads_103 rfl (lv_at hl 0 rfl) ?_
          obtain ⟨q_104, hc_104, hf⟩ := op_bind hf
          refine g_callVv (As := []) (rest := []) (w2 := w10 cy h0 a0 q_104) ⟨hx, hb, hml, hown, hts⟩ (c_X10_take l D cy h0 a0 q_74 _ fu _ hc_104) (cwV 0 hts (gi_V ml_RX10_189 im_X10_take se_X10_take in_RX10 cd_X10_take) rfl rfl rfl hdX10_take ⟨Nat.le_of_ble_eq_true rfl, Nat.le_of_ble_eq_true rfl⟩) (va_recv hK hP (ci := 9) (q0 := 0) rfl rfl) rfl hl.1 rfl (Nat.le_of_ble_eq_true rfl) dX10_reads_104 hK hP hD hS hA [0, 1, 2, 3, 4, 5, 6, 7, 8, 9, 10, 11, 12, 13, 14, 15, 16, 17, 18, 19, 20, 21, 22, 23, 24, 25, 26, 27, 28, 29] [] [0, 1, 2, 3, 4, 5, 6, 7, 8, 9, 10, 11, 12, 13, 14, 15, 16, 17, 18, 19, 20, 21, 22, 23, 24, 25, 26, 27, 28, 29] rfl rfl rfl rfl (by decide) rfl rfl (fun H locs hP hD hS => ?_)
          refine lv_aload_n hx hb dX10_reads_107 rfl (lv_at hl 0 rfl) ?_
          refine lv_iconst (v := 1) hx hb dX10_reads_108 (by decide) ?_
          refine lv_iconst (v := 4) hx hb dX10_reads_109 (by decide) ?_
          obtain ⟨q_110, hc_110, hf⟩ := op_bind hf
          refine g_callVi (As := [.int 1, .int 4]) (rest := []) (w2 := w10 cy h0 a0 q_110.2) ⟨hx, hb, hml, hown, hts⟩ (c_X10_number l D cy h0 a0 q_104 _ fu 1 4 _ hc_110) (cwV 2 hts (gi_V ml_RX10_195 im_X10_number se_X10_number in_RX10 cd_X10_number) rfl rfl rfl hdX10_number ⟨Nat.le_of_ble_eq_true rfl, Nat.le_of_ble_eq_true rfl⟩) (va_recv hK hP (ci := 9) (q0 := 0) rfl rfl) rfl hl.1 rfl (Nat.le_of_ble_eq_true rfl) dX10_reads_110 hK hP hD hS hA [0, 1, 2, 3, 4, 5, 6, 7, 8, 9, 10, 11, 12, 13, 14, 15, 16, 17, 18, 19, 20, 21, 22, 23, 24, 25, 26, 27, 28, 29] [] [0, 1, 2, 3, 4, 5, 6, 7, 8, 9, 10, 11, 12, 13, 14, 15, 16, 17, 18, 19, 20, 21, 22, 23, 24, 25, 26, 27, 28, 29] rfl rfl rfl rfl (by decide) rfl rfl (fun H locs hP hD hS => ?_)
          refine lv_if_ne (tgt := 118) hx hb dX10_reads_113 (by decide) (fun c_113 => ?_) (fun c_113 => ?_)
          · have hf := op_neg c_113 hf
            refine lv_aload_n hx hb dX10_reads_118 rfl (lv_at hl 0 rfl) ?_
            refine lv_aload_n hx hb dX10_reads_119 rfl (lv_at hl 0 rfl) ?_
            refine va_get (ci := 9) (v := .int (q_110.2.1 55)) (C := RX10) (T := TX10) (N := 56) hx hb hts (fun w h => List.mem_cons_of_mem _ (inX10 w h)) hown hK hP 0 rfl rfl 55 (by decide) hk_186 (fun _ h9 => h9) rfl dX10_reads_120 ?_
            refine va_put (ci := 9) (v := .int (q_110.2.1 55)) (ty := tyX10 41) (C := RX10) (T := TX10) (N := 56) hx hb hts (fun w h => List.mem_cons_of_mem _ (inX10 w h)) tyX10 tyX10_ok nmX10 hown hK hP hD hS 0 rfl rfl 41 (by decide) hk_202 (fun _ h9 => h9) rfl (tyX10_ok 41 (by decide)) rfl rfl (Nat.le_of_ble_eq_true rfl) dX10_reads_123 (fun H locs hP hD hS => ?_)
            have hP : va_P D vwCl (w10 cy h0 a0 (sF q_110.2 41 (q_110.2.1 55))) H := pP10_41 hP
            have hD : va_D A (w10 cy h0 a0 (sF q_110.2 41 (q_110.2.1 55))) := pD10_41 hD
            refine lv_aload_n hx hb dX10_reads_126 rfl (lv_at hl 0 rfl) ?_
            obtain ⟨q_127, hc_127, hf⟩ := op_bind hf
            refine g_callVi (As := []) (rest := []) (w2 := w10 cy h0 a0 q_127.2) ⟨hx, hb, hml, hown, hts⟩ (c_X10_semi l D cy h0 a0 (sF q_110.2 41 (q_110.2.1 55)) _ fu _ hc_127) (cwV 0 hts (gi_V ml_RX10_198 im_X10_semi se_X10_semi in_RX10 cd_X10_semi) rfl rfl rfl hdX10_semi ⟨Nat.le_of_ble_eq_true rfl, Nat.le_of_ble_eq_true rfl⟩) (va_recv hK hP (ci := 9) (q0 := 0) rfl rfl) rfl hl.1 rfl (Nat.le_of_ble_eq_true rfl) dX10_reads_127 hK hP hD hS hA [0, 1, 2, 3, 4, 5, 6, 7, 8, 9, 10, 11, 12, 13, 14, 15, 16, 17, 18, 19, 20, 21, 22, 23, 24, 25, 26, 27, 28, 29] [] [0, 1, 2, 3, 4, 5, 6, 7, 8, 9, 10, 11, 12, 13, 14, 15, 16, 17, 18, 19, 20, 21, 22, 23, 24, 25, 26, 27, 28, 29] rfl rfl rfl rfl (by decide) rfl rfl (fun H locs hP hD hS => ?_)
            refine lv_if_ne (tgt := 135) hx hb dX10_reads_130 (by decide) (fun c_130 => ?_) (fun c_130 => ?_)
            · have hf := op_neg c_130 hf
              exact b_X10_reads_L135 l D cy h0 a0 fu out C hA hK fu q_127.2 hf _ _ ls hP hD hS (lv_sub hl [0] rfl)
            · have hf := op_pos c_130 hf
              refine lv_iconst (v := 0) hx hb dX10_reads_133 (by decide) ?_
              rw [← Option.some.inj hf]
              exact g_zret hx hb hr hlk (show isB 0 = true by decide) hK hP hD hS dX10_reads_134
          · have hf := op_pos c_113 hf
            refine lv_iconst (v := 0) hx hb dX10_reads_116 (by decide) ?_
            rw [← Option.some.inj hf]
            exact g_zret hx hb hr hlk (show isB 0 = true by decide) hK hP hD hS dX10_reads_117
        · have hf := op_neg c_90 hf
          exact b_X10_reads_L93 l D cy h0 a0 fu out C hA hK q_74 hf _ _ ls hP hD hS (lv_sub hl [0] rfl)
    · have hf := op_neg c_32 hf
      refine lv_aload_n hx hb dX10_reads_35 rfl (lv_at hl 0 rfl) ?_
      refine va_get (ci := 9) (v := .ref (a0 50)) (C := RX10) (T := TX10) (N := 56) hx hb hts (fun w h => List.mem_cons_of_mem _ (inX10 w h)) hown hK hP 0 rfl rfl 50 (by decide) hk_101 (fun _ h9 => h9) rfl dX10_reads_36 ?_
      refine lv_iload_n hx hb dX10_reads_39 rfl (lv_at hl 1 rfl) ?_
      refine lv_iconst (v := 0) hx hb dX10_reads_40 (by decide) ?_
      obtain ⟨hg_41, hf⟩ := op_if hf
      refine va_iast (f := u0.2 50) (x := 0) hx hb hK hP hD hS 26 0 rfl rfl (inb_in hg_41) dX10_reads_41 (fun H locs hP hD hS => ?_)
      have hP : va_P D vwCl (w10 cy h0 a0 (sA u0 50 x1.toNatClampNeg 0)) H := pP10_50 hP
      have hD : va_D A (w10 cy h0 a0 (sA u0 50 x1.toNatClampNeg 0)) := pD10_50 hD
      refine lv_iinc (v := x1 + 1) (lv' := [(1, .int (x1 + 1)), (0, .ref h0)]) hx hb dX10_reads_42 hl (k := 1) rfl rfl (by decide) rfl (fun ls hl => ?_)
      refine lv_goto (tgt := 29) hx hb dX10_reads_45 (by decide) ?_
      exact ih_29 (sA u0 50 x1.toNatClampNeg 0) (x1 + 1) hf _ _ ls hP hD hS (lv_sub hl [1, 0] rfl)
def f_X10_reads_L2  (fu : Nat)  : Nat → St → Int32 → Option (Int32 × St)
  | 0, _, _ => none
  | n_2 + 1, u0, x1 => if 4 ≤ x1 then (f_X10_reads_L29 fu fu u0 0) else (if inb x1 4 = true then (if inb x1 4 = true then (f_X10_reads_L2 fu n_2 (sA (sA u0 42 x1.toNatClampNeg 0) 43 x1.toNatClampNeg 0) (x1 + 1)) else none) else none)
set_option maxHeartbeats 4000000 in
set_option maxRecDepth 100000 in
theorem b_X10_reads_L2 {p : Program} {e : Env} {s : State} {m : MethodId} {args : Array Value} {below : List Frame} {meth : Method} {c : Code} {A : Nat → Prop} (l : Launch) (D : va_G) (cy : Nat → ClassId) (h0 : Nat) (a0 : Nat → Nat) (fu : Nat) (out : Int32 × St) (C : gC p s m args meth c (WS yX10_reads cX10_reads 2 (some .boolean)) cX10_reads 2 (some .boolean) RX10) (hA : ∀ q : Nat, s.heap.size ≤ q → A q) (hK : va_K D vwCl (TY cy) s)  :
    ∀ (n_2 : Nat), ∀ (u0 : St) (x1 : Int32), f_X10_reads_L2 fu n_2 u0 x1 = some out → ∀ (H : Heap) (locs : List Loc) (ls : Array Slot), va_P D vwCl (w10 cy h0 a0 u0) H → va_D A (w10 cy h0 a0 u0) → va_S A s.heap H locs → lv_has ls 2 [(0, .ref h0), (1, .int x1)] → W p l e ({ frames := 6, cells := 0, slots := 0, locals := 151 } : Room) s m args below meth c H locs 0 0 (MQ below (gQi D cy A out.1 (w10 cy h0 a0 out.2)) args s 0 0 A) (F0 m 2 ls []) := by
  obtain ⟨hx, hb, hr, hml, hown, hts, hlk⟩ := id C
  have hown : s.vm.findClass RX10 = some m.cls := hown
  have hk_86 := hts _ (List.mem_cons_of_mem _ fl_RX10_86)
  have hk_89 := hts _ (List.mem_cons_of_mem _ fl_RX10_89)
  intro n_2
  induction n_2 with
  | zero => intro u0 x1 hf; exact op_no hf
  | succ n_2 ih_2 =>
    intro u0 x1 hf H locs ls hP hD hS hl
    rw [f_X10_reads_L2] at hf
    refine lv_iload_n hx hb dX10_reads_2 rfl (lv_at hl 1 rfl) ?_
    refine lv_iconst (v := 4) hx hb dX10_reads_3 (by decide) ?_
    refine lv_icmp_ge (tgt := 27) hx hb dX10_reads_4 (by decide) (fun c_4 => ?_) (fun c_4 => ?_)
    · have hf := op_pos c_4 hf
      refine lv_iconst (v := 0) hx hb dX10_reads_27 (by decide) ?_
      refine lv_istore_n (lv' := [(1, .int 0), (0, .ref h0)]) hx hb dX10_reads_28 rfl hl (by decide) rfl (fun ls hl => ?_)
      exact b_X10_reads_L29 l D cy h0 a0 fu out C hA hK fu u0 0 hf _ _ ls hP hD hS (lv_sub hl [1, 0] rfl)
    · have hf := op_neg c_4 hf
      refine lv_aload_n hx hb dX10_reads_7 rfl (lv_at hl 0 rfl) ?_
      refine va_get (ci := 9) (v := .ref (a0 42)) (C := RX10) (T := TX10) (N := 56) hx hb hts (fun w h => List.mem_cons_of_mem _ (inX10 w h)) hown hK hP 0 rfl rfl 42 (by decide) hk_86 (fun _ h9 => h9) rfl dX10_reads_8 ?_
      refine lv_iload_n hx hb dX10_reads_11 rfl (lv_at hl 1 rfl) ?_
      refine lv_iconst (v := 0) hx hb dX10_reads_12 (by decide) ?_
      obtain ⟨hg_13, hf⟩ := op_if hf
      refine va_iast (f := u0.2 42) (x := 0) hx hb hK hP hD hS 21 0 rfl rfl (inb_in hg_13) dX10_reads_13 (fun H locs hP hD hS => ?_)
      have hP : va_P D vwCl (w10 cy h0 a0 (sA u0 42 x1.toNatClampNeg 0)) H := pP10_42 hP
      have hD : va_D A (w10 cy h0 a0 (sA u0 42 x1.toNatClampNeg 0)) := pD10_42 hD
      refine lv_aload_n hx hb dX10_reads_14 rfl (lv_at hl 0 rfl) ?_
      refine va_get (ci := 9) (v := .ref (a0 43)) (C := RX10) (T := TX10) (N := 56) hx hb hts (fun w h => List.mem_cons_of_mem _ (inX10 w h)) hown hK hP 0 rfl rfl 43 (by decide) hk_89 (fun _ h9 => h9) rfl dX10_reads_15 ?_
      refine lv_iload_n hx hb dX10_reads_18 rfl (lv_at hl 1 rfl) ?_
      refine lv_iconst (v := 0) hx hb dX10_reads_19 (by decide) ?_
      obtain ⟨hg_20, hf⟩ := op_if hf
      refine va_iast (f := (sA u0 42 x1.toNatClampNeg 0).2 43) (x := 0) hx hb hK hP hD hS 22 0 rfl rfl (inb_in hg_20) dX10_reads_20 (fun H locs hP hD hS => ?_)
      have hP : va_P D vwCl (w10 cy h0 a0 (sA (sA u0 42 x1.toNatClampNeg 0) 43 x1.toNatClampNeg 0)) H := pP10_43 hP
      have hD : va_D A (w10 cy h0 a0 (sA (sA u0 42 x1.toNatClampNeg 0) 43 x1.toNatClampNeg 0)) := pD10_43 hD
      refine lv_iinc (v := x1 + 1) (lv' := [(1, .int (x1 + 1)), (0, .ref h0)]) hx hb dX10_reads_21 hl (k := 1) rfl rfl (by decide) rfl (fun ls hl => ?_)
      refine lv_goto (tgt := 2) hx hb dX10_reads_24 (by decide) ?_
      exact ih_2 (sA (sA u0 42 x1.toNatClampNeg 0) 43 x1.toNatClampNeg 0) (x1 + 1) hf _ _ ls hP hD hS (lv_sub hl [1, 0] rfl)
def f_X10_reads (fu : Nat)  (s0 : St)  : Option (Int32 × St) := f_X10_reads_L2 fu fu s0 0
theorem hdX10_reads : yX10_reads.cls = RX10 ∧ yX10_reads.cls ≠ "java/lang/invoke/MethodHandle" ∧ yX10_reads.cls ≠ "java/lang/invoke/VarHandle" ∧ (parseMethodDescriptor yX10_reads.desc).map (fun d => d.parameters.length) = some 0 := by decide +kernel
set_option maxHeartbeats 4000000 in
set_option maxRecDepth 100000 in
theorem c_X10_reads (l : Launch) (D : va_G) (cy : Nat → ClassId) (h0 : Nat) (a0 : Nat → Nat) (s0 : St) (sz fu : Nat)  (out : Int32 × St) (hf : f_X10_reads fu s0 = some out) :
    Met l yX10_reads (WS yX10_reads cX10_reads 2 (some .boolean)) ({ frames := 6, cells := 0, slots := 0, locals := 151 } : Room) (va_Pc [.ref h0] (gP D cy sz (w10 cy h0 a0 s0))) ((fun A : Nat → Prop => gQi D cy A out.1 (w10 cy h0 a0 out.2)) (va_A (w10 cy h0 a0 s0) sz)) 0 0 (va_A (w10 cy h0 a0 s0) sz) := by
  refine g_met (cc := cX10_reads) (maxL := 2) (ret := (some .boolean)) (fun A : Nat → Prop => gQi D cy A out.1 (w10 cy h0 a0 out.2)) (by decide +kernel) rfl (Nat.le_of_ble_eq_true rfl) ?_
  intro p e s m below meth c A C hA hK hP hD ls hl
  obtain ⟨hx, hb, hr, hml, hown, hts, hlk⟩ := id C
  have hown : s.vm.findClass RX10 = some m.cls := hown
  have hS : va_S A s.heap s.heap [] := va_S.rf
  have hl : lv_has ls 2 [(0, .ref h0)] := hl
  unfold f_X10_reads at hf
  refine lv_iconst (v := 0) hx hb dX10_reads_0 (by decide) ?_
  refine lv_istore_n (lv' := [(1, .int 0), (0, .ref h0)]) hx hb dX10_reads_1 rfl hl (by decide) rfl (fun ls hl => ?_)
  exact b_X10_reads_L2 l D cy h0 a0 fu out C hA hK fu s0 0 hf _ _ ls hP hD hS (lv_sub hl [1, 0] rfl)
def f_X10_opens_L23  (fu : Nat)  : Nat → St → Int32 → Option (St)
  | 0, _, _ => none
  | n_23 + 1, u0, x1 => if 160 ≤ x1 then (some (sF (sF (sF u0 22 0) 23 1) 24 0)) else (if inb x1 160 = true then (f_X10_opens_L23 fu n_23 (sA u0 19 x1.toNatClampNeg 0) (x1 + 1)) else none)
set_option maxHeartbeats 4000000 in
set_option maxRecDepth 100000 in
theorem b_X10_opens_L23 {p : Program} {e : Env} {s : State} {m : MethodId} {args : Array Value} {below : List Frame} {meth : Method} {c : Code} {A : Nat → Prop} (l : Launch) (D : va_G) (cy : Nat → ClassId) (h0 : Nat) (a0 : Nat → Nat) (fu : Nat) (out : St) (C : gC p s m args meth c (WS yX10_opens cX10_opens 2 none) cX10_opens 2 none RX10) (hA : ∀ q : Nat, s.heap.size ≤ q → A q) (hK : va_K D vwCl (TY cy) s)  :
    ∀ (n_23 : Nat), ∀ (u0 : St) (x1 : Int32), f_X10_opens_L23 fu n_23 u0 x1 = some out → ∀ (H : Heap) (locs : List Loc) (ls : Array Slot), va_P D vwCl (w10 cy h0 a0 u0) H → va_D A (w10 cy h0 a0 u0) → va_S A s.heap H locs → lv_has ls 2 [(0, .ref h0), (1, .int x1)] → W p l e ({ frames := 0, cells := 0, slots := 0, locals := 0 } : Room) s m args below meth c H locs 0 0 (MQ below (gQv D cy A (w10 cy h0 a0 out)) args s 0 0 A) (F0 m 23 ls []) := by
  obtain ⟨hx, hb, hr, hml, hown, hts, hlk⟩ := id C
  have hown : s.vm.findClass RX10 = some m.cls := hown
  have hk_247 := hts _ (List.mem_cons_of_mem _ fl_RX10_247)
  have hk_64 := hts _ (List.mem_cons_of_mem _ fl_RX10_64)
  have hk_250 := hts _ (List.mem_cons_of_mem _ fl_RX10_250)
  have hk_55 := hts _ (List.mem_cons_of_mem _ fl_RX10_55)
  intro n_23
  induction n_23 with
  | zero => intro u0 x1 hf; exact op_no hf
  | succ n_23 ih_23 =>
    intro u0 x1 hf H locs ls hP hD hS hl
    rw [f_X10_opens_L23] at hf
    refine lv_iload_n hx hb dX10_opens_23 rfl (lv_at hl 1 rfl) ?_
    refine lv_sipush (v := 160) hx hb dX10_opens_24 (by decide) ?_
    refine lv_icmp_ge (tgt := 43) hx hb dX10_opens_27 (by decide) (fun c_27 => ?_) (fun c_27 => ?_)
    · have hf := op_pos c_27 hf
      refine lv_aload_n hx hb dX10_opens_43 rfl (lv_at hl 0 rfl) ?_
      refine lv_iconst (v := 0) hx hb dX10_opens_44 (by decide) ?_
      refine va_put (ci := 9) (v := .int 0) (ty := tyX10 22) (C := RX10) (T := TX10) (N := 56) hx hb hts (fun w h => List.mem_cons_of_mem _ (inX10 w h)) tyX10 tyX10_ok nmX10 hown hK hP hD hS 0 rfl rfl 22 (by decide) hk_247 (fun _ h9 => h9) rfl (tyX10_ok 22 (by decide)) rfl rfl (Nat.le_of_ble_eq_true rfl) dX10_opens_45 (fun H locs hP hD hS => ?_)
      have hP : va_P D vwCl (w10 cy h0 a0 (sF u0 22 0)) H := pP10_22 hP
      have hD : va_D A (w10 cy h0 a0 (sF u0 22 0)) := pD10_22 hD
      refine lv_aload_n hx hb dX10_opens_48 rfl (lv_at hl 0 rfl) ?_
      refine lv_iconst (v := 1) hx hb dX10_opens_49 (by decide) ?_
      refine va_put (ci := 9) (v := .int 1) (ty := tyX10 23) (C := RX10) (T := TX10) (N := 56) hx hb hts (fun w h => List.mem_cons_of_mem _ (inX10 w h)) tyX10 tyX10_ok nmX10 hown hK hP hD hS 0 rfl rfl 23 (by decide) hk_64 (fun _ h9 => h9) rfl (tyX10_ok 23 (by decide)) (by decide +kernel) (by decide +kernel) (Nat.le_of_ble_eq_true rfl) dX10_opens_50 (fun H locs hP hD hS => ?_)
      have hP : va_P D vwCl (w10 cy h0 a0 (sF (sF u0 22 0) 23 1)) H := pP10_23 hP
      have hD : va_D A (w10 cy h0 a0 (sF (sF u0 22 0) 23 1)) := pD10_23 hD
      refine lv_aload_n hx hb dX10_opens_53 rfl (lv_at hl 0 rfl) ?_
      refine lv_iconst (v := 0) hx hb dX10_opens_54 (by decide) ?_
      refine va_put (ci := 9) (v := .int 0) (ty := tyX10 24) (C := RX10) (T := TX10) (N := 56) hx hb hts (fun w h => List.mem_cons_of_mem _ (inX10 w h)) tyX10 tyX10_ok nmX10 hown hK hP hD hS 0 rfl rfl 24 (by decide) hk_250 (fun _ h9 => h9) rfl (tyX10_ok 24 (by decide)) rfl rfl (Nat.le_of_ble_eq_true rfl) dX10_opens_55 (fun H locs hP hD hS => ?_)
      have hP : va_P D vwCl (w10 cy h0 a0 (sF (sF (sF u0 22 0) 23 1) 24 0)) H := pP10_24 hP
      have hD : va_D A (w10 cy h0 a0 (sF (sF (sF u0 22 0) 23 1) 24 0)) := pD10_24 hD
      rw [← Option.some.inj hf]
      exact g_vret hx hb hr hlk hK hP hD hS dX10_opens_58
    · have hf := op_neg c_27 hf
      refine lv_aload_n hx hb dX10_opens_30 rfl (lv_at hl 0 rfl) ?_
      refine va_get (ci := 9) (v := .ref (a0 19)) (C := RX10) (T := TX10) (N := 56) hx hb hts (fun w h => List.mem_cons_of_mem _ (inX10 w h)) hown hK hP 0 rfl rfl 19 (by decide) hk_55 (fun _ h9 => h9) rfl dX10_opens_31 ?_
      refine lv_iload_n hx hb dX10_opens_34 rfl (lv_at hl 1 rfl) ?_
      refine lv_iconst (v := 0) hx hb dX10_opens_35 (by decide) ?_
      obtain ⟨hg_36, hf⟩ := op_if hf
      refine va_zast (f := u0.2 19) (x := 0) hx hb hK hP hD hS 13 2 rfl rfl (inb_in hg_36) dX10_opens_36 (fun H locs hP hD hS => ?_)
      rw [isB_v (show isB 0 = true by decide)] at hP hD
      have hP : va_P D vwCl (w10 cy h0 a0 (sA u0 19 x1.toNatClampNeg 0)) H := pP10_19 hP
      have hD : va_D A (w10 cy h0 a0 (sA u0 19 x1.toNatClampNeg 0)) := pD10_19 hD
      refine lv_iinc (v := x1 + 1) (lv' := [(1, .int (x1 + 1)), (0, .ref h0)]) hx hb dX10_opens_37 hl (k := 1) rfl rfl (by decide) rfl (fun ls hl => ?_)
      refine lv_goto (tgt := 23) hx hb dX10_opens_40 (by decide) ?_
      exact ih_23 (sA u0 19 x1.toNatClampNeg 0) (x1 + 1) hf _ _ ls hP hD hS (lv_sub hl [1, 0] rfl)
def f_X10_opens_L2  (fu : Nat)  : Nat → St → Int32 → Option (St)
  | 0, _, _ => none
  | n_2 + 1, u0, x1 => if 8 ≤ x1 then (f_X10_opens_L23 fu fu u0 0) else (if inb x1 8 = true then (f_X10_opens_L2 fu n_2 (sA u0 18 x1.toNatClampNeg 0) (x1 + 1)) else none)
set_option maxHeartbeats 4000000 in
set_option maxRecDepth 100000 in
theorem b_X10_opens_L2 {p : Program} {e : Env} {s : State} {m : MethodId} {args : Array Value} {below : List Frame} {meth : Method} {c : Code} {A : Nat → Prop} (l : Launch) (D : va_G) (cy : Nat → ClassId) (h0 : Nat) (a0 : Nat → Nat) (fu : Nat) (out : St) (C : gC p s m args meth c (WS yX10_opens cX10_opens 2 none) cX10_opens 2 none RX10) (hA : ∀ q : Nat, s.heap.size ≤ q → A q) (hK : va_K D vwCl (TY cy) s)  :
    ∀ (n_2 : Nat), ∀ (u0 : St) (x1 : Int32), f_X10_opens_L2 fu n_2 u0 x1 = some out → ∀ (H : Heap) (locs : List Loc) (ls : Array Slot), va_P D vwCl (w10 cy h0 a0 u0) H → va_D A (w10 cy h0 a0 u0) → va_S A s.heap H locs → lv_has ls 2 [(0, .ref h0), (1, .int x1)] → W p l e ({ frames := 0, cells := 0, slots := 0, locals := 0 } : Room) s m args below meth c H locs 0 0 (MQ below (gQv D cy A (w10 cy h0 a0 out)) args s 0 0 A) (F0 m 2 ls []) := by
  obtain ⟨hx, hb, hr, hml, hown, hts, hlk⟩ := id C
  have hown : s.vm.findClass RX10 = some m.cls := hown
  have hk_52 := hts _ (List.mem_cons_of_mem _ fl_RX10_52)
  intro n_2
  induction n_2 with
  | zero => intro u0 x1 hf; exact op_no hf
  | succ n_2 ih_2 =>
    intro u0 x1 hf H locs ls hP hD hS hl
    rw [f_X10_opens_L2] at hf
    refine lv_iload_n hx hb dX10_opens_2 rfl (lv_at hl 1 rfl) ?_
    refine lv_bipush (v := 8) hx hb dX10_opens_3 (by decide) ?_
    refine lv_icmp_ge (tgt := 21) hx hb dX10_opens_5 (by decide) (fun c_5 => ?_) (fun c_5 => ?_)
    · have hf := op_pos c_5 hf
      refine lv_iconst (v := 0) hx hb dX10_opens_21 (by decide) ?_
      refine lv_istore_n (lv' := [(1, .int 0), (0, .ref h0)]) hx hb dX10_opens_22 rfl hl (by decide) rfl (fun ls hl => ?_)
      exact b_X10_opens_L23 l D cy h0 a0 fu out C hA hK fu u0 0 hf _ _ ls hP hD hS (lv_sub hl [1, 0] rfl)
    · have hf := op_neg c_5 hf
      refine lv_aload_n hx hb dX10_opens_8 rfl (lv_at hl 0 rfl) ?_
      refine va_get (ci := 9) (v := .ref (a0 18)) (C := RX10) (T := TX10) (N := 56) hx hb hts (fun w h => List.mem_cons_of_mem _ (inX10 w h)) hown hK hP 0 rfl rfl 18 (by decide) hk_52 (fun _ h9 => h9) rfl dX10_opens_9 ?_
      refine lv_iload_n hx hb dX10_opens_12 rfl (lv_at hl 1 rfl) ?_
      refine lv_iconst (v := 0) hx hb dX10_opens_13 (by decide) ?_
      obtain ⟨hg_14, hf⟩ := op_if hf
      refine va_zast (f := u0.2 18) (x := 0) hx hb hK hP hD hS 12 2 rfl rfl (inb_in hg_14) dX10_opens_14 (fun H locs hP hD hS => ?_)
      rw [isB_v (show isB 0 = true by decide)] at hP hD
      have hP : va_P D vwCl (w10 cy h0 a0 (sA u0 18 x1.toNatClampNeg 0)) H := pP10_18 hP
      have hD : va_D A (w10 cy h0 a0 (sA u0 18 x1.toNatClampNeg 0)) := pD10_18 hD
      refine lv_iinc (v := x1 + 1) (lv' := [(1, .int (x1 + 1)), (0, .ref h0)]) hx hb dX10_opens_15 hl (k := 1) rfl rfl (by decide) rfl (fun ls hl => ?_)
      refine lv_goto (tgt := 2) hx hb dX10_opens_18 (by decide) ?_
      exact ih_2 (sA u0 18 x1.toNatClampNeg 0) (x1 + 1) hf _ _ ls hP hD hS (lv_sub hl [1, 0] rfl)
def f_X10_opens (fu : Nat)  (s0 : St)  : Option (St) := f_X10_opens_L2 fu fu s0 0
theorem hdX10_opens : yX10_opens.cls = RX10 ∧ yX10_opens.cls ≠ "java/lang/invoke/MethodHandle" ∧ yX10_opens.cls ≠ "java/lang/invoke/VarHandle" ∧ (parseMethodDescriptor yX10_opens.desc).map (fun d => d.parameters.length) = some 0 := by decide +kernel
set_option maxHeartbeats 4000000 in
set_option maxRecDepth 100000 in
theorem c_X10_opens (l : Launch) (D : va_G) (cy : Nat → ClassId) (h0 : Nat) (a0 : Nat → Nat) (s0 : St) (sz fu : Nat)  (out : St) (hf : f_X10_opens fu s0 = some out) :
    Met l yX10_opens (WS yX10_opens cX10_opens 2 none) ({ frames := 0, cells := 0, slots := 0, locals := 0 } : Room) (va_Pc [.ref h0] (gP D cy sz (w10 cy h0 a0 s0))) ((fun A : Nat → Prop => gQv D cy A (w10 cy h0 a0 out)) (va_A (w10 cy h0 a0 s0) sz)) 0 0 (va_A (w10 cy h0 a0 s0) sz) := by
  refine g_met (cc := cX10_opens) (maxL := 2) (ret := none) (fun A : Nat → Prop => gQv D cy A (w10 cy h0 a0 out)) (by decide +kernel) rfl (Nat.le_of_ble_eq_true rfl) ?_
  intro p e s m below meth c A C hA hK hP hD ls hl
  obtain ⟨hx, hb, hr, hml, hown, hts, hlk⟩ := id C
  have hown : s.vm.findClass RX10 = some m.cls := hown
  have hS : va_S A s.heap s.heap [] := va_S.rf
  have hl : lv_has ls 2 [(0, .ref h0)] := hl
  unfold f_X10_opens at hf
  refine lv_iconst (v := 0) hx hb dX10_opens_0 (by decide) ?_
  refine lv_istore_n (lv' := [(1, .int 0), (0, .ref h0)]) hx hb dX10_opens_1 rfl hl (by decide) rfl (fun ls hl => ?_)
  exact b_X10_opens_L2 l D cy h0 a0 fu out C hA hK fu s0 0 hf _ _ ls hP hD hS (lv_sub hl [1, 0] rfl)
