def f_X1_findWords_L82 (k_9 : St → Int32 → Int32 → Option (St)) (fu : Nat) (s1 : St) (n2 : Nat) (b2 : Nat → Int32) (u0 : St) (x2 : Int32) (x3 : Int32) : Option (St) := if inb (u0.1 6) 240 = true then (if inb (u0.1 6) 240 = true then (k_9 (sF (sA (sA u0 0 ((u0.1 6).toNatClampNeg) x2) 1 ((u0.1 6).toNatClampNeg) x3) 6 ((u0.1 6) + 1)) (x3 + 1) (x3 + 1)) else none) else none
set_option maxHeartbeats 4000000 in
set_option maxRecDepth 100000 in
theorem b_X1_findWords_L82 {p : Program} {e : Env} {s : State} {m : MethodId} {args : Array Value} {below : List Frame} {meth : Method} {c : Code} {A : Nat → Prop} (l : Launch) (D : va_G) (cy : Nat → ClassId) (h0 : Nat) (r0_5 : Nat) (a0 : Nat → Nat) (h1 : Nat) (a1 : Nat → Nat) (s1 : St) (h2 : Nat) (n2 : Nat) (b2 : Nat → Int32) (fu : Nat) (out : St) (C : gC p s m args meth c (WS yX1_findWords cX1_findWords 6 none) cX1_findWords 6 none RX1) (hA : ∀ q : Nat, s.heap.size ≤ q → A q) (hK : va_K D vwCl (TY cy) s) (k_9 : St → Int32 → Int32 → Option (St)) (hk_9 : ∀ (u0 : St) (x2 : Int32) (x3 : Int32), k_9 u0 x2 x3 = some out → ∀ (H : Heap) (locs : List Loc) (ls : Array Slot), va_P D vwCl ((w1 cy h0 r0_5 a0 u0) ++ (w7 cy h1 h2 a1 s1) ++ (wV cy h2 n2 b2)) H → va_D A ((w1 cy h0 r0_5 a0 u0) ++ (w7 cy h1 h2 a1 s1) ++ (wV cy h2 n2 b2)) → va_S A s.heap H locs → lv_has ls 6 [(0, .ref h0), (1, .ref h1), (2, .int x2), (3, .int x3)] → W p l e ({ frames := 0, cells := 0, slots := 0, locals := 0 } : Room) s m args below meth c H locs 0 0 (MQ below (gQv D cy A ((w1 cy h0 r0_5 a0 out) ++ (w7 cy h1 h2 a1 s1) ++ (wV cy h2 n2 b2))) args s 0 0 A) (F0 m 9 ls [])) :
    ∀ (u0 : St) (x2 : Int32) (x3 : Int32), f_X1_findWords_L82 k_9 fu s1 n2 b2 u0 x2 x3 = some out → ∀ (H : Heap) (locs : List Loc) (ls : Array Slot), va_P D vwCl ((w1 cy h0 r0_5 a0 u0) ++ (w7 cy h1 h2 a1 s1) ++ (wV cy h2 n2 b2)) H → va_D A ((w1 cy h0 r0_5 a0 u0) ++ (w7 cy h1 h2 a1 s1) ++ (wV cy h2 n2 b2)) → va_S A s.heap H locs → lv_has ls 6 [(0, .ref h0), (1, .ref h1), (2, .int x2), (3, .int x3)] → W p l e ({ frames := 0, cells := 0, slots := 0, locals := 0 } : Room) s m args below meth c H locs 0 0 (MQ below (gQv D cy A ((w1 cy h0 r0_5 a0 out) ++ (w7 cy h1 h2 a1 s1) ++ (wV cy h2 n2 b2))) args s 0 0 A) (F0 m 82 ls []) := by
  obtain ⟨hx, hb, hr, hml, hown, hts, hlk⟩ := id C
  have hown : s.vm.findClass RX1 = some m.cls := hown
  have hkf_9 := hts _ (List.mem_cons_of_mem _ fl_RX1_9)
  have hk_61 := hts _ (List.mem_cons_of_mem _ fl_RX1_61)
  have hk_15 := hts _ (List.mem_cons_of_mem _ fl_RX1_15)
  intro u0 x2 x3 hf H locs ls hP hD hS hl
  unfold f_X1_findWords_L82 at hf
  refine lv_aload_n hx hb dX1_findWords_82 rfl (lv_at hl 0 rfl) ?_
  refine va_get (ci := 1) (v := .ref (a0 0)) (C := RX1) (T := TX1) (N := 9) hx hb hts (fun w h => List.mem_cons_of_mem _ (inX1 w h)) hown hK hP 0 rfl rfl 0 (by decide) hkf_9 (fun _ h9 => h9) rfl dX1_findWords_83 ?_
  refine lv_aload_n hx hb dX1_findWords_86 rfl (lv_at hl 0 rfl) ?_
  refine va_get (ci := 1) (v := .int (u0.1 6)) (C := RX1) (T := TX1) (N := 9) hx hb hts (fun w h => List.mem_cons_of_mem _ (inX1 w h)) hown hK hP 0 rfl rfl 6 (by decide) hk_61 (fun _ h9 => h9) rfl dX1_findWords_87 ?_
  refine lv_iload_n hx hb dX1_findWords_90 rfl (lv_at hl 2 rfl) ?_
  obtain ⟨hg_91, hf⟩ := op_if hf
  refine va_iast (f := u0.2 0) (x := x2) hx hb hK hP hD hS 1 0 rfl rfl (inb_in hg_91) dX1_findWords_91 (fun H locs hP hD hS => ?_)
  have hP : va_P D vwCl ((w1 cy h0 r0_5 a0 (sA u0 0 ((u0.1 6).toNatClampNeg) x2)) ++ (w7 cy h1 h2 a1 s1) ++ (wV cy h2 n2 b2)) H := hP
  have hD : va_D A ((w1 cy h0 r0_5 a0 (sA u0 0 ((u0.1 6).toNatClampNeg) x2)) ++ (w7 cy h1 h2 a1 s1) ++ (wV cy h2 n2 b2)) := hD
  refine lv_aload_n hx hb dX1_findWords_92 rfl (lv_at hl 0 rfl) ?_
  refine va_get (ci := 1) (v := .ref (a0 1)) (C := RX1) (T := TX1) (N := 9) hx hb hts (fun w h => List.mem_cons_of_mem _ (inX1 w h)) hown hK hP 0 rfl rfl 1 (by decide) hk_15 (fun _ h9 => h9) rfl dX1_findWords_93 ?_
  refine lv_aload_n hx hb dX1_findWords_96 rfl (lv_at hl 0 rfl) ?_
  refine va_get (ci := 1) (v := .int (u0.1 6)) (C := RX1) (T := TX1) (N := 9) hx hb hts (fun w h => List.mem_cons_of_mem _ (inX1 w h)) hown hK hP 0 rfl rfl 6 (by decide) hk_61 (fun _ h9 => h9) rfl dX1_findWords_97 ?_
  refine lv_iload_n hx hb dX1_findWords_100 rfl (lv_at hl 3 rfl) ?_
  obtain ⟨hg_101, hf⟩ := op_if hf
  refine va_iast (f := (sA u0 0 ((u0.1 6).toNatClampNeg) x2).2 1) (x := x3) hx hb hK hP hD hS 2 0 rfl rfl (inb_in hg_101) dX1_findWords_101 (fun H locs hP hD hS => ?_)
  have hP : va_P D vwCl ((w1 cy h0 r0_5 a0 (sA (sA u0 0 ((u0.1 6).toNatClampNeg) x2) 1 ((u0.1 6).toNatClampNeg) x3)) ++ (w7 cy h1 h2 a1 s1) ++ (wV cy h2 n2 b2)) H := hP
  have hD : va_D A ((w1 cy h0 r0_5 a0 (sA (sA u0 0 ((u0.1 6).toNatClampNeg) x2) 1 ((u0.1 6).toNatClampNeg) x3)) ++ (w7 cy h1 h2 a1 s1) ++ (wV cy h2 n2 b2)) := hD
  refine lv_aload_n hx hb dX1_findWords_102 rfl (lv_at hl 0 rfl) ?_
  refine lv_dup hx hb dX1_findWords_103 rfl ?_
  refine va_get (ci := 1) (v := .int (u0.1 6)) (C := RX1) (T := TX1) (N := 9) hx hb hts (fun w h => List.mem_cons_of_mem _ (inX1 w h)) hown hK hP 0 rfl rfl 6 (by decide) hk_61 (fun _ h9 => h9) rfl dX1_findWords_104 ?_
  refine lv_iconst (v := 1) hx hb dX1_findWords_107 (by decide) ?_
  refine lv_iadd hx hb dX1_findWords_108 ?_
  refine va_put (ci := 1) (v := .int ((u0.1 6) + 1)) (ty := tyX1 6) (C := RX1) (T := TX1) (N := 9) hx hb hts (fun w h => List.mem_cons_of_mem _ (inX1 w h)) tyX1 tyX1_ok nmX1 hown hK hP hD hS 0 rfl rfl 6 (by decide) hk_61 (fun _ h9 => h9) rfl (tyX1_ok 6 (by decide)) rfl rfl (Nat.le_of_ble_eq_true rfl) dX1_findWords_109 (fun H locs hP hD hS => ?_)
  have hP : va_P D vwCl ((w1 cy h0 r0_5 a0 (sF (sA (sA u0 0 ((u0.1 6).toNatClampNeg) x2) 1 ((u0.1 6).toNatClampNeg) x3) 6 ((u0.1 6) + 1))) ++ (w7 cy h1 h2 a1 s1) ++ (wV cy h2 n2 b2)) H := hP
  have hD : va_D A ((w1 cy h0 r0_5 a0 (sF (sA (sA u0 0 ((u0.1 6).toNatClampNeg) x2) 1 ((u0.1 6).toNatClampNeg) x3) 6 ((u0.1 6) + 1))) ++ (w7 cy h1 h2 a1 s1) ++ (wV cy h2 n2 b2)) := hD
  refine lv_iload_n hx hb dX1_findWords_112 rfl (lv_at hl 3 rfl) ?_
  refine lv_iconst (v := 1) hx hb dX1_findWords_113 (by decide) ?_
  refine lv_iadd hx hb dX1_findWords_114 ?_
  refine lv_istore_n (lv' := [(2, .int (x3 + 1)), (0, .ref h0), (1, .ref h1), (3, .int x3)]) hx hb dX1_findWords_115 rfl hl (by decide) rfl (fun ls hl => ?_)
  refine lv_iinc (v := x3 + 1) (lv' := [(3, .int (x3 + 1)), (2, .int (x3 + 1)), (0, .ref h0), (1, .ref h1)]) hx hb dX1_findWords_116 hl (k := 3) rfl rfl (by decide) rfl (fun ls hl => ?_)
  refine lv_goto (tgt := 9) hx hb dX1_findWords_119 (by decide) ?_
  exact hk_9 (sF (sA (sA u0 0 ((u0.1 6).toNatClampNeg) x2) 1 ((u0.1 6).toNatClampNeg) x3) 6 ((u0.1 6) + 1)) (x3 + 1) (x3 + 1) hf _ _ ls hP hD hS (lv_sub hl [2, 3, 1, 0] rfl)
def f_X1_findWords_L63 (k_9 : St → Int32 → Int32 → Option (St)) (fu : Nat) (s1 : St) (n2 : Nat) (b2 : Nat → Int32) (u0 : St) (x2 : Int32) (x3 : Int32) (x4 : Int32) (t0 : Int32) : Option (St) := if t0 = 0 then (f_X1_findWords_L82 k_9 fu s1 n2 b2 u0 x2 x3) else (if inb x4 n2 = true then (if (b2 x4.toNatClampNeg) = 32 then (f_X1_findWords_L82 k_9 fu s1 n2 b2 u0 x2 x3) else (k_9 u0 x2 (x3 + 1))) else none)
set_option maxHeartbeats 4000000 in
set_option maxRecDepth 100000 in
theorem b_X1_findWords_L63 {p : Program} {e : Env} {s : State} {m : MethodId} {args : Array Value} {below : List Frame} {meth : Method} {c : Code} {A : Nat → Prop} (l : Launch) (D : va_G) (cy : Nat → ClassId) (h0 : Nat) (r0_5 : Nat) (a0 : Nat → Nat) (h1 : Nat) (a1 : Nat → Nat) (s1 : St) (h2 : Nat) (n2 : Nat) (b2 : Nat → Int32) (fu : Nat) (out : St) (C : gC p s m args meth c (WS yX1_findWords cX1_findWords 6 none) cX1_findWords 6 none RX1) (hA : ∀ q : Nat, s.heap.size ≤ q → A q) (hK : va_K D vwCl (TY cy) s) (k_9 : St → Int32 → Int32 → Option (St)) (hk_9 : ∀ (u0 : St) (x2 : Int32) (x3 : Int32), k_9 u0 x2 x3 = some out → ∀ (H : Heap) (locs : List Loc) (ls : Array Slot), va_P D vwCl ((w1 cy h0 r0_5 a0 u0) ++ (w7 cy h1 h2 a1 s1) ++ (wV cy h2 n2 b2)) H → va_D A ((w1 cy h0 r0_5 a0 u0) ++ (w7 cy h1 h2 a1 s1) ++ (wV cy h2 n2 b2)) → va_S A s.heap H locs → lv_has ls 6 [(0, .ref h0), (1, .ref h1), (2, .int x2), (3, .int x3)] → W p l e ({ frames := 0, cells := 0, slots := 0, locals := 0 } : Room) s m args below meth c H locs 0 0 (MQ below (gQv D cy A ((w1 cy h0 r0_5 a0 out) ++ (w7 cy h1 h2 a1 s1) ++ (wV cy h2 n2 b2))) args s 0 0 A) (F0 m 9 ls [])) :
    ∀ (u0 : St) (x2 : Int32) (x3 : Int32) (x4 : Int32) (t0 : Int32), f_X1_findWords_L63 k_9 fu s1 n2 b2 u0 x2 x3 x4 t0 = some out → ∀ (H : Heap) (locs : List Loc) (ls : Array Slot), va_P D vwCl ((w1 cy h0 r0_5 a0 u0) ++ (w7 cy h1 h2 a1 s1) ++ (wV cy h2 n2 b2)) H → va_D A ((w1 cy h0 r0_5 a0 u0) ++ (w7 cy h1 h2 a1 s1) ++ (wV cy h2 n2 b2)) → va_S A s.heap H locs → lv_has ls 6 [(0, .ref h0), (1, .ref h1), (2, .int x2), (3, .int x3), (4, .int x4)] → W p l e ({ frames := 0, cells := 0, slots := 0, locals := 0 } : Room) s m args below meth c H locs 0 0 (MQ below (gQv D cy A ((w1 cy h0 r0_5 a0 out) ++ (w7 cy h1 h2 a1 s1) ++ (wV cy h2 n2 b2))) args s 0 0 A) (F0 m 63 ls [.int t0]) := by
  obtain ⟨hx, hb, hr, hml, hown, hts, hlk⟩ := id C
  have hown : s.vm.findClass RX1 = some m.cls := hown
  have hk_72 := hts _ (List.mem_cons_of_mem _ fl_RX1_72)
  intro u0 x2 x3 x4 t0 hf H locs ls hP hD hS hl
  unfold f_X1_findWords_L63 at hf
  refine lv_istore (lv' := [(5, .int t0), (0, .ref h0), (1, .ref h1), (2, .int x2), (3, .int x3), (4, .int x4)]) hx hb dX1_findWords_63 hl (by decide) rfl (fun ls hl => ?_)
  refine lv_iload hx hb dX1_findWords_65 (lv_at hl 0 rfl) ?_
  refine lv_if_eq (tgt := 82) hx hb dX1_findWords_67 (by decide) (fun c_67 => ?_) (fun c_67 => ?_)
  · have hf := op_pos c_67 hf
    exact b_X1_findWords_L82 l D cy h0 r0_5 a0 h1 a1 s1 h2 n2 b2 fu out C hA hK k_9 hk_9 u0 x2 x3 hf _ _ ls hP hD hS (lv_sub hl [1, 2, 3, 4] rfl)
  · have hf := op_neg c_67 hf
    refine lv_aload_n hx hb dX1_findWords_70 rfl (lv_at hl 2 rfl) ?_
    refine va_get (ci := 7) (v := .ref h2) (C := RX7) (T := TX7) (N := 7) hx hb hts (fun w h => List.mem_cons_of_mem _ (inX7 w h)) hown hK hP 6 rfl rfl 0 (by decide) hk_72 (fun _ h9 => h9) rfl dX1_findWords_71 ?_
    refine lv_iload hx hb dX1_findWords_74 (lv_at hl 5 rfl) ?_
    obtain ⟨hg_76, hf⟩ := op_if hf
    refine va_bald (f := b2) hx hb hK hP 8 1 rfl rfl (inb_in hg_76) dX1_findWords_76 ?_
    refine lv_bipush (v := 32) hx hb dX1_findWords_77 (by decide) ?_
    refine lv_icmp_ne (tgt := 116) hx hb dX1_findWords_79 (by decide) (fun c_79 => ?_) (fun c_79 => ?_)
    · have hf := op_neg c_79 hf
      refine lv_iinc (v := x3 + 1) (lv' := [(3, .int (x3 + 1)), (5, .int t0), (0, .ref h0), (1, .ref h1), (2, .int x2), (4, .int x4)]) hx hb dX1_findWords_116 hl (k := 4) rfl rfl (by decide) rfl (fun ls hl => ?_)
      refine lv_goto (tgt := 9) hx hb dX1_findWords_119 (by decide) ?_
      exact hk_9 u0 x2 (x3 + 1) hf _ _ ls hP hD hS (lv_sub hl [2, 3, 4, 0] rfl)
    · have hf := op_pos c_79 hf
      exact b_X1_findWords_L82 l D cy h0 r0_5 a0 h1 a1 s1 h2 n2 b2 fu out C hA hK k_9 hk_9 u0 x2 x3 hf _ _ ls hP hD hS (lv_sub hl [1, 2, 3, 4] rfl)
def f_X1_findWords_L62 (k_9 : St → Int32 → Int32 → Option (St)) (fu : Nat) (s1 : St) (n2 : Nat) (b2 : Nat → Int32) (u0 : St) (x2 : Int32) (x3 : Int32) (x4 : Int32) : Option (St) := f_X1_findWords_L63 k_9 fu s1 n2 b2 u0 x2 x3 x4 0
set_option maxHeartbeats 4000000 in
set_option maxRecDepth 100000 in
theorem b_X1_findWords_L62 {p : Program} {e : Env} {s : State} {m : MethodId} {args : Array Value} {below : List Frame} {meth : Method} {c : Code} {A : Nat → Prop} (l : Launch) (D : va_G) (cy : Nat → ClassId) (h0 : Nat) (r0_5 : Nat) (a0 : Nat → Nat) (h1 : Nat) (a1 : Nat → Nat) (s1 : St) (h2 : Nat) (n2 : Nat) (b2 : Nat → Int32) (fu : Nat) (out : St) (C : gC p s m args meth c (WS yX1_findWords cX1_findWords 6 none) cX1_findWords 6 none RX1) (hA : ∀ q : Nat, s.heap.size ≤ q → A q) (hK : va_K D vwCl (TY cy) s) (k_9 : St → Int32 → Int32 → Option (St)) (hk_9 : ∀ (u0 : St) (x2 : Int32) (x3 : Int32), k_9 u0 x2 x3 = some out → ∀ (H : Heap) (locs : List Loc) (ls : Array Slot), va_P D vwCl ((w1 cy h0 r0_5 a0 u0) ++ (w7 cy h1 h2 a1 s1) ++ (wV cy h2 n2 b2)) H → va_D A ((w1 cy h0 r0_5 a0 u0) ++ (w7 cy h1 h2 a1 s1) ++ (wV cy h2 n2 b2)) → va_S A s.heap H locs → lv_has ls 6 [(0, .ref h0), (1, .ref h1), (2, .int x2), (3, .int x3)] → W p l e ({ frames := 0, cells := 0, slots := 0, locals := 0 } : Room) s m args below meth c H locs 0 0 (MQ below (gQv D cy A ((w1 cy h0 r0_5 a0 out) ++ (w7 cy h1 h2 a1 s1) ++ (wV cy h2 n2 b2))) args s 0 0 A) (F0 m 9 ls [])) :
    ∀ (u0 : St) (x2 : Int32) (x3 : Int32) (x4 : Int32), f_X1_findWords_L62 k_9 fu s1 n2 b2 u0 x2 x3 x4 = some out → ∀ (H : Heap) (locs : List Loc) (ls : Array Slot), va_P D vwCl ((w1 cy h0 r0_5 a0 u0) ++ (w7 cy h1 h2 a1 s1) ++ (wV cy h2 n2 b2)) H → va_D A ((w1 cy h0 r0_5 a0 u0) ++ (w7 cy h1 h2 a1 s1) ++ (wV cy h2 n2 b2)) → va_S A s.heap H locs → lv_has ls 6 [(0, .ref h0), (1, .ref h1), (2, .int x2), (3, .int x3), (4, .int x4)] → W p l e ({ frames := 0, cells := 0, slots := 0, locals := 0 } : Room) s m args below meth c H locs 0 0 (MQ below (gQv D cy A ((w1 cy h0 r0_5 a0 out) ++ (w7 cy h1 h2 a1 s1) ++ (wV cy h2 n2 b2))) args s 0 0 A) (F0 m 62 ls []) := by
  obtain ⟨hx, hb, hr, hml, hown, hts, hlk⟩ := id C
  have hown : s.vm.findClass RX1 = some m.cls := hown
  intro u0 x2 x3 x4 hf H locs ls hP hD hS hl
  unfold f_X1_findWords_L62 at hf
  refine lv_iconst (v := 0) hx hb dX1_findWords_62 (by decide) ?_
  exact b_X1_findWords_L63 l D cy h0 r0_5 a0 h1 a1 s1 h2 n2 b2 fu out C hA hK k_9 hk_9 u0 x2 x3 x4 0 hf _ _ ls hP hD hS (lv_sub hl [0, 1, 2, 3, 4] rfl)
def f_X1_findWords_L9  (fu : Nat) (s1 : St) (n2 : Nat) (b2 : Nat → Int32) : Nat → St → Int32 → Int32 → Option (St)
  | 0, _, _, _ => none
  | n_9 + 1, u0, x2, x3 => if (s1.1 2) < x3 then (some u0) else (if 240 ≤ (u0.1 6) then (some u0) else (if (s1.1 2) ≤ x3 then (f_X1_findWords_L62 (f_X1_findWords_L9 fu s1 n2 b2 n_9) fu s1 n2 b2 u0 x2 x3 ((s1.1 1) + x3)) else (if ((s1.1 1) + x3) < 0 then (f_X1_findWords_L62 (f_X1_findWords_L9 fu s1 n2 b2 n_9) fu s1 n2 b2 u0 x2 x3 ((s1.1 1) + x3)) else (if (nI n2) ≤ ((s1.1 1) + x3) then (f_X1_findWords_L62 (f_X1_findWords_L9 fu s1 n2 b2 n_9) fu s1 n2 b2 u0 x2 x3 ((s1.1 1) + x3)) else (f_X1_findWords_L63 (f_X1_findWords_L9 fu s1 n2 b2 n_9) fu s1 n2 b2 u0 x2 x3 ((s1.1 1) + x3) 1)))))
set_option maxHeartbeats 4000000 in
set_option maxRecDepth 100000 in
theorem b_X1_findWords_L9 {p : Program} {e : Env} {s : State} {m : MethodId} {args : Array Value} {below : List Frame} {meth : Method} {c : Code} {A : Nat → Prop} (l : Launch) (D : va_G) (cy : Nat → ClassId) (h0 : Nat) (r0_5 : Nat) (a0 : Nat → Nat) (h1 : Nat) (a1 : Nat → Nat) (s1 : St) (h2 : Nat) (n2 : Nat) (b2 : Nat → Int32) (fu : Nat) (out : St) (C : gC p s m args meth c (WS yX1_findWords cX1_findWords 6 none) cX1_findWords 6 none RX1) (hA : ∀ q : Nat, s.heap.size ≤ q → A q) (hK : va_K D vwCl (TY cy) s)  :
    ∀ (n_9 : Nat), ∀ (u0 : St) (x2 : Int32) (x3 : Int32), f_X1_findWords_L9 fu s1 n2 b2 n_9 u0 x2 x3 = some out → ∀ (H : Heap) (locs : List Loc) (ls : Array Slot), va_P D vwCl ((w1 cy h0 r0_5 a0 u0) ++ (w7 cy h1 h2 a1 s1) ++ (wV cy h2 n2 b2)) H → va_D A ((w1 cy h0 r0_5 a0 u0) ++ (w7 cy h1 h2 a1 s1) ++ (wV cy h2 n2 b2)) → va_S A s.heap H locs → lv_has ls 6 [(0, .ref h0), (1, .ref h1), (2, .int x2), (3, .int x3)] → W p l e ({ frames := 0, cells := 0, slots := 0, locals := 0 } : Room) s m args below meth c H locs 0 0 (MQ below (gQv D cy A ((w1 cy h0 r0_5 a0 out) ++ (w7 cy h1 h2 a1 s1) ++ (wV cy h2 n2 b2))) args s 0 0 A) (F0 m 9 ls []) := by
  obtain ⟨hx, hb, hr, hml, hown, hts, hlk⟩ := id C
  have hown : s.vm.findClass RX1 = some m.cls := hown
  have hk_64 := hts _ (List.mem_cons_of_mem _ fl_RX1_64)
  have hk_61 := hts _ (List.mem_cons_of_mem _ fl_RX1_61)
  have hk_69 := hts _ (List.mem_cons_of_mem _ fl_RX1_69)
  have hk_72 := hts _ (List.mem_cons_of_mem _ fl_RX1_72)
  intro n_9
  induction n_9 with
  | zero => intro u0 x2 x3 hf; exact op_no hf
  | succ n_9 ih_9 =>
    intro u0 x2 x3 hf H locs ls hP hD hS hl
    rw [f_X1_findWords_L9] at hf
    refine lv_iload_n hx hb dX1_findWords_9 rfl (lv_at hl 3 rfl) ?_
    refine lv_aload_n hx hb dX1_findWords_10 rfl (lv_at hl 1 rfl) ?_
    refine va_get (ci := 7) (v := .int (s1.1 2)) (C := RX7) (T := TX7) (N := 7) hx hb hts (fun w h => List.mem_cons_of_mem _ (inX7 w h)) hown hK hP 6 rfl rfl 2 (by decide) hk_64 (fun _ h9 => h9) rfl dX1_findWords_11 ?_
    refine lv_icmp_gt (tgt := 122) hx hb dX1_findWords_14 (by decide) (fun c_14 => ?_) (fun c_14 => ?_)
    · have hf := op_pos c_14 hf
      rw [← Option.some.inj hf]
      exact g_vret hx hb hr hlk hK hP hD hS dX1_findWords_122
    · have hf := op_neg c_14 hf
      refine lv_aload_n hx hb dX1_findWords_17 rfl (lv_at hl 0 rfl) ?_
      refine va_get (ci := 1) (v := .int (u0.1 6)) (C := RX1) (T := TX1) (N := 9) hx hb hts (fun w h => List.mem_cons_of_mem _ (inX1 w h)) hown hK hP 0 rfl rfl 6 (by decide) hk_61 (fun _ h9 => h9) rfl dX1_findWords_18 ?_
      refine lv_sipush (v := 240) hx hb dX1_findWords_21 (by decide) ?_
      refine lv_icmp_ge (tgt := 122) hx hb dX1_findWords_24 (by decide) (fun c_24 => ?_) (fun c_24 => ?_)
      · have hf := op_pos c_24 hf
        rw [← Option.some.inj hf]
        exact g_vret hx hb hr hlk hK hP hD hS dX1_findWords_122
      · have hf := op_neg c_24 hf
        refine lv_aload_n hx hb dX1_findWords_27 rfl (lv_at hl 1 rfl) ?_
        refine va_get (ci := 7) (v := .int (s1.1 1)) (C := RX7) (T := TX7) (N := 7) hx hb hts (fun w h => List.mem_cons_of_mem _ (inX7 w h)) hown hK hP 6 rfl rfl 1 (by decide) hk_69 (fun _ h9 => h9) rfl dX1_findWords_28 ?_
        refine lv_iload_n hx hb dX1_findWords_31 rfl (lv_at hl 3 rfl) ?_
        refine lv_iadd hx hb dX1_findWords_32 ?_
        refine lv_istore (lv' := [(4, .int ((s1.1 1) + x3)), (0, .ref h0), (1, .ref h1), (2, .int x2), (3, .int x3)]) hx hb dX1_findWords_33 hl (by decide) rfl (fun ls hl => ?_)
        refine lv_iload_n hx hb dX1_findWords_35 rfl (lv_at hl 4 rfl) ?_
        refine lv_aload_n hx hb dX1_findWords_36 rfl (lv_at hl 2 rfl) ?_
        refine va_get (ci := 7) (v := .int (s1.1 2)) (C := RX7) (T := TX7) (N := 7) hx hb hts (fun w h => List.mem_cons_of_mem _ (inX7 w h)) hown hK hP 6 rfl rfl 2 (by decide) hk_64 (fun _ h9 => h9) rfl dX1_findWords_37 ?_
        refine lv_icmp_ge (tgt := 62) hx hb dX1_findWords_40 (by decide) (fun c_40 => ?_) (fun c_40 => ?_)
        · have hf := op_pos c_40 hf
          exact b_X1_findWords_L62 l D cy h0 r0_5 a0 h1 a1 s1 h2 n2 b2 fu out C hA hK (f_X1_findWords_L9 fu s1 n2 b2 n_9) ih_9 u0 x2 x3 ((s1.1 1) + x3) hf _ _ ls hP hD hS (lv_sub hl [1, 2, 3, 4, 0] rfl)
        · have hf := op_neg c_40 hf
          refine lv_iload hx hb dX1_findWords_43 (lv_at hl 0 rfl) ?_
          refine lv_if_lt (tgt := 62) hx hb dX1_findWords_45 (by decide) (fun c_45 => ?_) (fun c_45 => ?_)
          · have hf := op_pos c_45 hf
            exact b_X1_findWords_L62 l D cy h0 r0_5 a0 h1 a1 s1 h2 n2 b2 fu out C hA hK (f_X1_findWords_L9 fu s1 n2 b2 n_9) ih_9 u0 x2 x3 ((s1.1 1) + x3) hf _ _ ls hP hD hS (lv_sub hl [1, 2, 3, 4, 0] rfl)
          · have hf := op_neg c_45 hf
            refine lv_iload hx hb dX1_findWords_48 (lv_at hl 0 rfl) ?_
            refine lv_aload_n hx hb dX1_findWords_50 rfl (lv_at hl 2 rfl) ?_
            refine va_get (ci := 7) (v := .ref h2) (C := RX7) (T := TX7) (N := 7) hx hb hts (fun w h => List.mem_cons_of_mem _ (inX7 w h)) hown hK hP 6 rfl rfl 0 (by decide) hk_72 (fun _ h9 => h9) rfl dX1_findWords_51 ?_
            refine va_alen (v := nI n2) hx hb hK hP 8 1 rfl rfl rfl dX1_findWords_54 ?_
            refine lv_icmp_ge (tgt := 62) hx hb dX1_findWords_55 (by decide) (fun c_55 => ?_) (fun c_55 => ?_)
            · have hf := op_pos c_55 hf
              exact b_X1_findWords_L62 l D cy h0 r0_5 a0 h1 a1 s1 h2 n2 b2 fu out C hA hK (f_X1_findWords_L9 fu s1 n2 b2 n_9) ih_9 u0 x2 x3 ((s1.1 1) + x3) hf _ _ ls hP hD hS (lv_sub hl [1, 2, 3, 4, 0] rfl)
            · have hf := op_neg c_55 hf
              refine lv_iconst (v := 1) hx hb dX1_findWords_58 (by decide) ?_
              refine lv_goto (tgt := 63) hx hb dX1_findWords_59 (by decide) ?_
              exact b_X1_findWords_L63 l D cy h0 r0_5 a0 h1 a1 s1 h2 n2 b2 fu out C hA hK (f_X1_findWords_L9 fu s1 n2 b2 n_9) ih_9 u0 x2 x3 ((s1.1 1) + x3) 1 hf _ _ ls hP hD hS (lv_sub hl [1, 2, 3, 4, 0] rfl)
def f_X1_findWords (fu : Nat) (s1 : St) (n2 : Nat) (b2 : Nat → Int32) (s0 : St)  : Option (St) := f_X1_findWords_L9 fu s1 n2 b2 fu (sF s0 6 0) 0 0
theorem hdX1_findWords : yX1_findWords.cls = RX1 ∧ yX1_findWords.cls ≠ "java/lang/invoke/MethodHandle" ∧ yX1_findWords.cls ≠ "java/lang/invoke/VarHandle" ∧ (parseMethodDescriptor yX1_findWords.desc).map (fun d => d.parameters.length) = some 1 := by decide +kernel
set_option maxHeartbeats 4000000 in
set_option maxRecDepth 100000 in
theorem c_X1_findWords (l : Launch) (D : va_G) (cy : Nat → ClassId) (h0 : Nat) (r0_5 : Nat) (a0 : Nat → Nat) (s0 : St) (h1 : Nat) (a1 : Nat → Nat) (s1 : St) (h2 : Nat) (n2 : Nat) (b2 : Nat → Int32) (sz fu : Nat)  (out : St) (hf : f_X1_findWords fu s1 n2 b2 s0 = some out) :
    Met l yX1_findWords (WS yX1_findWords cX1_findWords 6 none) ({ frames := 0, cells := 0, slots := 0, locals := 0 } : Room) (va_Pc [.ref h0, .ref h1] (gP D cy sz ((w1 cy h0 r0_5 a0 s0) ++ (w7 cy h1 h2 a1 s1) ++ (wV cy h2 n2 b2)))) ((fun A : Nat → Prop => gQv D cy A ((w1 cy h0 r0_5 a0 out) ++ (w7 cy h1 h2 a1 s1) ++ (wV cy h2 n2 b2))) (va_A ((w1 cy h0 r0_5 a0 s0) ++ (w7 cy h1 h2 a1 s1) ++ (wV cy h2 n2 b2)) sz)) 0 0 (va_A ((w1 cy h0 r0_5 a0 s0) ++ (w7 cy h1 h2 a1 s1) ++ (wV cy h2 n2 b2)) sz) := by
  refine g_met (cc := cX1_findWords) (maxL := 6) (ret := none) (fun A : Nat → Prop => gQv D cy A ((w1 cy h0 r0_5 a0 out) ++ (w7 cy h1 h2 a1 s1) ++ (wV cy h2 n2 b2))) (by decide +kernel) rfl (Nat.le_of_ble_eq_true rfl) ?_
  intro p e s m below meth c A C hA hK hP hD ls hl
  obtain ⟨hx, hb, hr, hml, hown, hts, hlk⟩ := id C
  have hown : s.vm.findClass RX1 = some m.cls := hown
  have hS : va_S A s.heap s.heap [] := va_S.rf
  have hl : lv_has ls 6 [(0, .ref h0), (1, .ref h1)] := hl
  have hk_61 := hts _ (List.mem_cons_of_mem _ fl_RX1_61)
  unfold f_X1_findWords at hf
  refine lv_aload_n hx hb dX1_findWords_0 rfl (lv_at hl 0 rfl) ?_
  refine lv_iconst (v := 0) hx hb dX1_findWords_1 (by decide) ?_
  refine va_put (ci := 1) (v := .int 0) (ty := tyX1 6) (C := RX1) (T := TX1) (N := 9) hx hb hts (fun w h => List.mem_cons_of_mem _ (inX1 w h)) tyX1 tyX1_ok nmX1 hown hK hP hD hS 0 rfl rfl 6 (by decide) hk_61 (fun _ h9 => h9) rfl (tyX1_ok 6 (by decide)) rfl rfl (Nat.le_of_ble_eq_true rfl) dX1_findWords_2 (fun H locs hP hD hS => ?_)
  have hP : va_P D vwCl ((w1 cy h0 r0_5 a0 (sF s0 6 0)) ++ (w7 cy h1 h2 a1 s1) ++ (wV cy h2 n2 b2)) H := hP
  have hD : va_D A ((w1 cy h0 r0_5 a0 (sF s0 6 0)) ++ (w7 cy h1 h2 a1 s1) ++ (wV cy h2 n2 b2)) := hD
  refine lv_iconst (v := 0) hx hb dX1_findWords_5 (by decide) ?_
  refine lv_istore_n (lv' := [(2, .int 0), (0, .ref h0), (1, .ref h1)]) hx hb dX1_findWords_6 rfl hl (by decide) rfl (fun ls hl => ?_)
  refine lv_iconst (v := 0) hx hb dX1_findWords_7 (by decide) ?_
  refine lv_istore_n (lv' := [(3, .int 0), (2, .int 0), (0, .ref h0), (1, .ref h1)]) hx hb dX1_findWords_8 rfl hl (by decide) rfl (fun ls hl => ?_)
  exact b_X1_findWords_L9 l D cy h0 r0_5 a0 h1 a1 s1 h2 n2 b2 fu out C hA hK fu (sF s0 6 0) 0 0 hf _ _ ls hP hD hS (lv_sub hl [2, 3, 1, 0] rfl)
def f_X1_fillRows_L72 (k_30 : St → Int32 → Option (St)) (fu : Nat) (s1 : St) (u0 : St) (x1 : Int32) (x2 : Int32) : Option (St) := if inb x1 241 = true then (if inb x2 241 = true then (if inb x1 241 = true then (k_30 (sA (sA u0 2 x1.toNatClampNeg x2) 3 x1.toNatClampNeg ((u0.2 3 x2.toNatClampNeg) + 1)) (x1 + (-1))) else none) else none) else none
set_option maxHeartbeats 4000000 in
set_option maxRecDepth 100000 in
theorem b_X1_fillRows_L72 {p : Program} {e : Env} {s : State} {m : MethodId} {args : Array Value} {below : List Frame} {meth : Method} {c : Code} {A : Nat → Prop} (l : Launch) (D : va_G) (cy : Nat → ClassId) (h0 : Nat) (a0 : Nat → Nat) (h1 : Nat) (a1 : Nat → Nat) (s1 : St) (fu : Nat) (out : St) (C : gC p s m args meth c (WS yX1_fillRows cX1_fillRows 3 none) cX1_fillRows 3 none RX1) (hA : ∀ q : Nat, s.heap.size ≤ q → A q) (hK : va_K D vwCl (TY cy) s) (k_30 : St → Int32 → Option (St)) (hk_30 : ∀ (u0 : St) (x1 : Int32), k_30 u0 x1 = some out → ∀ (H : Heap) (locs : List Loc) (ls : Array Slot), va_P D vwCl ((w1 cy h0 h1 a0 u0) ++ (wP cy h1 a1 s1)) H → va_D A ((w1 cy h0 h1 a0 u0) ++ (wP cy h1 a1 s1)) → va_S A s.heap H locs → lv_has ls 3 [(0, .ref h0), (1, .int x1)] → W p l e ({ frames := 0, cells := 0, slots := 0, locals := 0 } : Room) s m args below meth c H locs 0 0 (MQ below (gQv D cy A ((w1 cy h0 h1 a0 out) ++ (wP cy h1 a1 s1))) args s 0 0 A) (F0 m 30 ls [])) :
    ∀ (u0 : St) (x1 : Int32) (x2 : Int32), f_X1_fillRows_L72 k_30 fu s1 u0 x1 x2 = some out → ∀ (H : Heap) (locs : List Loc) (ls : Array Slot), va_P D vwCl ((w1 cy h0 h1 a0 u0) ++ (wP cy h1 a1 s1)) H → va_D A ((w1 cy h0 h1 a0 u0) ++ (wP cy h1 a1 s1)) → va_S A s.heap H locs → lv_has ls 3 [(0, .ref h0), (1, .int x1), (2, .int x2)] → W p l e ({ frames := 0, cells := 0, slots := 0, locals := 0 } : Room) s m args below meth c H locs 0 0 (MQ below (gQv D cy A ((w1 cy h0 h1 a0 out) ++ (wP cy h1 a1 s1))) args s 0 0 A) (F0 m 72 ls []) := by
  obtain ⟨hx, hb, hr, hml, hown, hts, hlk⟩ := id C
  have hown : s.vm.findClass RX1 = some m.cls := hown
  have hk_18 := hts _ (List.mem_cons_of_mem _ fl_RX1_18)
  have hk_21 := hts _ (List.mem_cons_of_mem _ fl_RX1_21)
  intro u0 x1 x2 hf H locs ls hP hD hS hl
  unfold f_X1_fillRows_L72 at hf
  refine lv_aload_n hx hb dX1_fillRows_72 rfl (lv_at hl 0 rfl) ?_
  refine va_get (ci := 1) (v := .ref (a0 2)) (C := RX1) (T := TX1) (N := 9) hx hb hts (fun w h => List.mem_cons_of_mem _ (inX1 w h)) hown hK hP 0 rfl rfl 2 (by decide) hk_18 (fun _ h9 => h9) rfl dX1_fillRows_73 ?_
  refine lv_iload_n hx hb dX1_fillRows_76 rfl (lv_at hl 1 rfl) ?_
  refine lv_iload_n hx hb dX1_fillRows_77 rfl (lv_at hl 2 rfl) ?_
  obtain ⟨hg_78, hf⟩ := op_if hf
  refine va_iast (f := u0.2 2) (x := x2) hx hb hK hP hD hS 3 0 rfl rfl (inb_in hg_78) dX1_fillRows_78 (fun H locs hP hD hS => ?_)
  have hP : va_P D vwCl ((w1 cy h0 h1 a0 (sA u0 2 x1.toNatClampNeg x2)) ++ (wP cy h1 a1 s1)) H := hP
  have hD : va_D A ((w1 cy h0 h1 a0 (sA u0 2 x1.toNatClampNeg x2)) ++ (wP cy h1 a1 s1)) := hD
  refine lv_aload_n hx hb dX1_fillRows_79 rfl (lv_at hl 0 rfl) ?_
  refine va_get (ci := 1) (v := .ref (a0 3)) (C := RX1) (T := TX1) (N := 9) hx hb hts (fun w h => List.mem_cons_of_mem _ (inX1 w h)) hown hK hP 0 rfl rfl 3 (by decide) hk_21 (fun _ h9 => h9) rfl dX1_fillRows_80 ?_
  refine lv_iload_n hx hb dX1_fillRows_83 rfl (lv_at hl 1 rfl) ?_
  refine lv_aload_n hx hb dX1_fillRows_84 rfl (lv_at hl 0 rfl) ?_
  refine va_get (ci := 1) (v := .ref (a0 3)) (C := RX1) (T := TX1) (N := 9) hx hb hts (fun w h => List.mem_cons_of_mem _ (inX1 w h)) hown hK hP 0 rfl rfl 3 (by decide) hk_21 (fun _ h9 => h9) rfl dX1_fillRows_85 ?_
  refine lv_iload_n hx hb dX1_fillRows_88 rfl (lv_at hl 2 rfl) ?_
  obtain ⟨hg_89, hf⟩ := op_if hf
  refine va_iald (f := u0.2 3) hx hb hK hP 4 0 rfl rfl (inb_in hg_89) dX1_fillRows_89 ?_
  refine lv_iconst (v := 1) hx hb dX1_fillRows_90 (by decide) ?_
  refine lv_iadd hx hb dX1_fillRows_91 ?_
  obtain ⟨hg_92, hf⟩ := op_if hf
  refine va_iast (f := (sA u0 2 x1.toNatClampNeg x2).2 3) (x := (u0.2 3 x2.toNatClampNeg) + 1) hx hb hK hP hD hS 4 0 rfl rfl (inb_in hg_92) dX1_fillRows_92 (fun H locs hP hD hS => ?_)
  have hP : va_P D vwCl ((w1 cy h0 h1 a0 (sA (sA u0 2 x1.toNatClampNeg x2) 3 x1.toNatClampNeg ((u0.2 3 x2.toNatClampNeg) + 1))) ++ (wP cy h1 a1 s1)) H := hP
  have hD : va_D A ((w1 cy h0 h1 a0 (sA (sA u0 2 x1.toNatClampNeg x2) 3 x1.toNatClampNeg ((u0.2 3 x2.toNatClampNeg) + 1))) ++ (wP cy h1 a1 s1)) := hD
  refine lv_iinc (v := x1 + (-1)) (lv' := [(1, .int (x1 + (-1))), (0, .ref h0), (2, .int x2)]) hx hb dX1_fillRows_93 hl (k := 1) rfl rfl (by decide) rfl (fun ls hl => ?_)
  refine lv_goto (tgt := 30) hx hb dX1_fillRows_96 (by decide) ?_
  exact hk_30 (sA (sA u0 2 x1.toNatClampNeg x2) 3 x1.toNatClampNeg ((u0.2 3 x2.toNatClampNeg) + 1)) (x1 + (-1)) hf _ _ ls hP hD hS (lv_sub hl [1, 0] rfl)
def f_X1_fillRows_L38 (k_30 : St → Int32 → Option (St)) (fu : Nat) (s1 : St) : Nat → St → Int32 → Int32 → Option (St)
  | 0, _, _, _ => none
  | n_38 + 1, u0, x1, x2 => if (u0.1 6) ≤ x2 then (f_X1_fillRows_L72 k_30 fu s1 u0 x1 x2) else (if inb x2 240 = true then (if inb x1 240 = true then (if (u0.1 7) < ((u0.2 1 x2.toNatClampNeg) - (u0.2 0 x1.toNatClampNeg)) then (f_X1_fillRows_L72 k_30 fu s1 u0 x1 x2) else (f_X1_fillRows_L38 k_30 fu s1 n_38 u0 x1 (x2 + 1))) else none) else none)
set_option maxHeartbeats 4000000 in
set_option maxRecDepth 100000 in
theorem b_X1_fillRows_L38 {p : Program} {e : Env} {s : State} {m : MethodId} {args : Array Value} {below : List Frame} {meth : Method} {c : Code} {A : Nat → Prop} (l : Launch) (D : va_G) (cy : Nat → ClassId) (h0 : Nat) (a0 : Nat → Nat) (h1 : Nat) (a1 : Nat → Nat) (s1 : St) (fu : Nat) (out : St) (C : gC p s m args meth c (WS yX1_fillRows cX1_fillRows 3 none) cX1_fillRows 3 none RX1) (hA : ∀ q : Nat, s.heap.size ≤ q → A q) (hK : va_K D vwCl (TY cy) s) (k_30 : St → Int32 → Option (St)) (hk_30 : ∀ (u0 : St) (x1 : Int32), k_30 u0 x1 = some out → ∀ (H : Heap) (locs : List Loc) (ls : Array Slot), va_P D vwCl ((w1 cy h0 h1 a0 u0) ++ (wP cy h1 a1 s1)) H → va_D A ((w1 cy h0 h1 a0 u0) ++ (wP cy h1 a1 s1)) → va_S A s.heap H locs → lv_has ls 3 [(0, .ref h0), (1, .int x1)] → W p l e ({ frames := 0, cells := 0, slots := 0, locals := 0 } : Room) s m args below meth c H locs 0 0 (MQ below (gQv D cy A ((w1 cy h0 h1 a0 out) ++ (wP cy h1 a1 s1))) args s 0 0 A) (F0 m 30 ls [])) :
    ∀ (n_38 : Nat), ∀ (u0 : St) (x1 : Int32) (x2 : Int32), f_X1_fillRows_L38 k_30 fu s1 n_38 u0 x1 x2 = some out → ∀ (H : Heap) (locs : List Loc) (ls : Array Slot), va_P D vwCl ((w1 cy h0 h1 a0 u0) ++ (wP cy h1 a1 s1)) H → va_D A ((w1 cy h0 h1 a0 u0) ++ (wP cy h1 a1 s1)) → va_S A s.heap H locs → lv_has ls 3 [(0, .ref h0), (1, .int x1), (2, .int x2)] → W p l e ({ frames := 0, cells := 0, slots := 0, locals := 0 } : Room) s m args below meth c H locs 0 0 (MQ below (gQv D cy A ((w1 cy h0 h1 a0 out) ++ (wP cy h1 a1 s1))) args s 0 0 A) (F0 m 38 ls []) := by
  obtain ⟨hx, hb, hr, hml, hown, hts, hlk⟩ := id C
  have hown : s.vm.findClass RX1 = some m.cls := hown
  have hk_61 := hts _ (List.mem_cons_of_mem _ fl_RX1_61)
  have hk_15 := hts _ (List.mem_cons_of_mem _ fl_RX1_15)
  have hk_9 := hts _ (List.mem_cons_of_mem _ fl_RX1_9)
  have hk_32 := hts _ (List.mem_cons_of_mem _ fl_RX1_32)
  intro n_38
  induction n_38 with
  | zero => intro u0 x1 x2 hf; exact op_no hf
  | succ n_38 ih_38 =>
    intro u0 x1 x2 hf H locs ls hP hD hS hl
    rw [f_X1_fillRows_L38] at hf
    refine lv_iload_n hx hb dX1_fillRows_38 rfl (lv_at hl 2 rfl) ?_
    refine lv_aload_n hx hb dX1_fillRows_39 rfl (lv_at hl 0 rfl) ?_
    refine va_get (ci := 1) (v := .int (u0.1 6)) (C := RX1) (T := TX1) (N := 9) hx hb hts (fun w h => List.mem_cons_of_mem _ (inX1 w h)) hown hK hP 0 rfl rfl 6 (by decide) hk_61 (fun _ h9 => h9) rfl dX1_fillRows_40 ?_
    refine lv_icmp_ge (tgt := 72) hx hb dX1_fillRows_43 (by decide) (fun c_43 => ?_) (fun c_43 => ?_)
    · have hf := op_pos c_43 hf
      exact b_X1_fillRows_L72 l D cy h0 a0 h1 a1 s1 fu out C hA hK k_30 hk_30 u0 x1 x2 hf _ _ ls hP hD hS (lv_sub hl [0, 1, 2] rfl)
    · have hf := op_neg c_43 hf
      refine lv_aload_n hx hb dX1_fillRows_46 rfl (lv_at hl 0 rfl) ?_
      refine va_get (ci := 1) (v := .ref (a0 1)) (C := RX1) (T := TX1) (N := 9) hx hb hts (fun w h => List.mem_cons_of_mem _ (inX1 w h)) hown hK hP 0 rfl rfl 1 (by decide) hk_15 (fun _ h9 => h9) rfl dX1_fillRows_47 ?_
      refine lv_iload_n hx hb dX1_fillRows_50 rfl (lv_at hl 2 rfl) ?_
      obtain ⟨hg_51, hf⟩ := op_if hf
      refine va_iald (f := u0.2 1) hx hb hK hP 2 0 rfl rfl (inb_in hg_51) dX1_fillRows_51 ?_
      refine lv_aload_n hx hb dX1_fillRows_52 rfl (lv_at hl 0 rfl) ?_
      refine va_get (ci := 1) (v := .ref (a0 0)) (C := RX1) (T := TX1) (N := 9) hx hb hts (fun w h => List.mem_cons_of_mem _ (inX1 w h)) hown hK hP 0 rfl rfl 0 (by decide) hk_9 (fun _ h9 => h9) rfl dX1_fillRows_53 ?_
      refine lv_iload_n hx hb dX1_fillRows_56 rfl (lv_at hl 1 rfl) ?_
      obtain ⟨hg_57, hf⟩ := op_if hf
      refine va_iald (f := u0.2 0) hx hb hK hP 1 0 rfl rfl (inb_in hg_57) dX1_fillRows_57 ?_
      refine lv_isub hx hb dX1_fillRows_58 ?_
      refine lv_aload_n hx hb dX1_fillRows_59 rfl (lv_at hl 0 rfl) ?_
      refine va_get (ci := 1) (v := .int (u0.1 7)) (C := RX1) (T := TX1) (N := 9) hx hb hts (fun w h => List.mem_cons_of_mem _ (inX1 w h)) hown hK hP 0 rfl rfl 7 (by decide) hk_32 (fun _ h9 => h9) rfl dX1_fillRows_60 ?_
      refine lv_icmp_gt (tgt := 72) hx hb dX1_fillRows_63 (by decide) (fun c_63 => ?_) (fun c_63 => ?_)
      · have hf := op_pos c_63 hf
        exact b_X1_fillRows_L72 l D cy h0 a0 h1 a1 s1 fu out C hA hK k_30 hk_30 u0 x1 x2 hf _ _ ls hP hD hS (lv_sub hl [0, 1, 2] rfl)
      · have hf := op_neg c_63 hf
        refine lv_iinc (v := x2 + 1) (lv' := [(2, .int (x2 + 1)), (0, .ref h0), (1, .int x1)]) hx hb dX1_fillRows_66 hl (k := 2) rfl rfl (by decide) rfl (fun ls hl => ?_)
        refine lv_goto (tgt := 38) hx hb dX1_fillRows_69 (by decide) ?_
        exact ih_38 u0 x1 (x2 + 1) hf _ _ ls hP hD hS (lv_sub hl [1, 2, 0] rfl)
def f_X1_fillRows_L108  (fu : Nat) (s1 : St) : Nat → St → Int32 → Option (St)
  | 0, _, _ => none
  | n_108 + 1, u0, x1 => if 12 ≤ x1 then (some u0) else (if inb x1 13 = true then (if inb (u0.2 4 x1.toNatClampNeg) 241 = true then (if inb (x1 + 1) 13 = true then (f_X1_fillRows_L108 fu s1 n_108 (sA u0 4 ((x1 + 1).toNatClampNeg) (u0.2 2 (u0.2 4 x1.toNatClampNeg).toNatClampNeg)) (x1 + 1)) else none) else none) else none)
set_option maxHeartbeats 4000000 in
set_option maxRecDepth 100000 in
theorem b_X1_fillRows_L108 {p : Program} {e : Env} {s : State} {m : MethodId} {args : Array Value} {below : List Frame} {meth : Method} {c : Code} {A : Nat → Prop} (l : Launch) (D : va_G) (cy : Nat → ClassId) (h0 : Nat) (a0 : Nat → Nat) (h1 : Nat) (a1 : Nat → Nat) (s1 : St) (fu : Nat) (out : St) (C : gC p s m args meth c (WS yX1_fillRows cX1_fillRows 3 none) cX1_fillRows 3 none RX1) (hA : ∀ q : Nat, s.heap.size ≤ q → A q) (hK : va_K D vwCl (TY cy) s)  :
    ∀ (n_108 : Nat), ∀ (u0 : St) (x1 : Int32), f_X1_fillRows_L108 fu s1 n_108 u0 x1 = some out → ∀ (H : Heap) (locs : List Loc) (ls : Array Slot), va_P D vwCl ((w1 cy h0 h1 a0 u0) ++ (wP cy h1 a1 s1)) H → va_D A ((w1 cy h0 h1 a0 u0) ++ (wP cy h1 a1 s1)) → va_S A s.heap H locs → lv_has ls 3 [(0, .ref h0), (1, .int x1)] → W p l e ({ frames := 0, cells := 0, slots := 0, locals := 0 } : Room) s m args below meth c H locs 0 0 (MQ below (gQv D cy A ((w1 cy h0 h1 a0 out) ++ (wP cy h1 a1 s1))) args s 0 0 A) (F0 m 108 ls []) := by
  obtain ⟨hx, hb, hr, hml, hown, hts, hlk⟩ := id C
  have hown : s.vm.findClass RX1 = some m.cls := hown
  have hk_24 := hts _ (List.mem_cons_of_mem _ fl_RX1_24)
  have hk_18 := hts _ (List.mem_cons_of_mem _ fl_RX1_18)
  intro n_108
  induction n_108 with
  | zero => intro u0 x1 hf; exact op_no hf
  | succ n_108 ih_108 =>
    intro u0 x1 hf H locs ls hP hD hS hl
    rw [f_X1_fillRows_L108] at hf
    refine lv_iload_n hx hb dX1_fillRows_108 rfl (lv_at hl 1 rfl) ?_
    refine lv_bipush (v := 12) hx hb dX1_fillRows_109 (by decide) ?_
    refine lv_icmp_ge (tgt := 139) hx hb dX1_fillRows_111 (by decide) (fun c_111 => ?_) (fun c_111 => ?_)
    · have hf := op_pos c_111 hf
      rw [← Option.some.inj hf]
      exact g_vret hx hb hr hlk hK hP hD hS dX1_fillRows_139
    · have hf := op_neg c_111 hf
      refine lv_aload_n hx hb dX1_fillRows_114 rfl (lv_at hl 0 rfl) ?_
      refine va_get (ci := 1) (v := .ref (a0 4)) (C := RX1) (T := TX1) (N := 9) hx hb hts (fun w h => List.mem_cons_of_mem _ (inX1 w h)) hown hK hP 0 rfl rfl 4 (by decide) hk_24 (fun _ h9 => h9) rfl dX1_fillRows_115 ?_
      refine lv_iload_n hx hb dX1_fillRows_118 rfl (lv_at hl 1 rfl) ?_
      refine lv_iconst (v := 1) hx hb dX1_fillRows_119 (by decide) ?_
      refine lv_iadd hx hb dX1_fillRows_120 ?_
      refine lv_aload_n hx hb dX1_fillRows_121 rfl (lv_at hl 0 rfl) ?_
      refine va_get (ci := 1) (v := .ref (a0 2)) (C := RX1) (T := TX1) (N := 9) hx hb hts (fun w h => List.mem_cons_of_mem _ (inX1 w h)) hown hK hP 0 rfl rfl 2 (by decide) hk_18 (fun _ h9 => h9) rfl dX1_fillRows_122 ?_
      refine lv_aload_n hx hb dX1_fillRows_125 rfl (lv_at hl 0 rfl) ?_
      refine va_get (ci := 1) (v := .ref (a0 4)) (C := RX1) (T := TX1) (N := 9) hx hb hts (fun w h => List.mem_cons_of_mem _ (inX1 w h)) hown hK hP 0 rfl rfl 4 (by decide) hk_24 (fun _ h9 => h9) rfl dX1_fillRows_126 ?_
      refine lv_iload_n hx hb dX1_fillRows_129 rfl (lv_at hl 1 rfl) ?_
      obtain ⟨hg_130, hf⟩ := op_if hf
      refine va_iald (f := u0.2 4) hx hb hK hP 5 0 rfl rfl (inb_in hg_130) dX1_fillRows_130 ?_
      obtain ⟨hg_131, hf⟩ := op_if hf
      refine va_iald (f := u0.2 2) hx hb hK hP 3 0 rfl rfl (inb_in hg_131) dX1_fillRows_131 ?_
      obtain ⟨hg_132, hf⟩ := op_if hf
      refine va_iast (f := u0.2 4) (x := u0.2 2 (u0.2 4 x1.toNatClampNeg).toNatClampNeg) hx hb hK hP hD hS 5 0 rfl rfl (inb_in hg_132) dX1_fillRows_132 (fun H locs hP hD hS => ?_)
      have hP : va_P D vwCl ((w1 cy h0 h1 a0 (sA u0 4 ((x1 + 1).toNatClampNeg) (u0.2 2 (u0.2 4 x1.toNatClampNeg).toNatClampNeg))) ++ (wP cy h1 a1 s1)) H := hP
      have hD : va_D A ((w1 cy h0 h1 a0 (sA u0 4 ((x1 + 1).toNatClampNeg) (u0.2 2 (u0.2 4 x1.toNatClampNeg).toNatClampNeg))) ++ (wP cy h1 a1 s1)) := hD
      refine lv_iinc (v := x1 + 1) (lv' := [(1, .int (x1 + 1)), (0, .ref h0)]) hx hb dX1_fillRows_133 hl (k := 1) rfl rfl (by decide) rfl (fun ls hl => ?_)
      refine lv_goto (tgt := 108) hx hb dX1_fillRows_136 (by decide) ?_
      exact ih_108 (sA u0 4 ((x1 + 1).toNatClampNeg) (u0.2 2 (u0.2 4 x1.toNatClampNeg).toNatClampNeg)) (x1 + 1) hf _ _ ls hP hD hS (lv_sub hl [1, 0] rfl)
def f_X1_fillRows_L30  (fu : Nat) (s1 : St) : Nat → St → Int32 → Option (St)
  | 0, _, _ => none
  | n_30 + 1, u0, x1 => if x1 < 0 then (if inb (0 : Int32) 13 = true then (f_X1_fillRows_L108 fu s1 fu (sA u0 4 ((0 : Int32).toNatClampNeg) 0) 0) else none) else (f_X1_fillRows_L38 (f_X1_fillRows_L30 fu s1 n_30) fu s1 fu u0 x1 (x1 + 1))
set_option maxHeartbeats 4000000 in
set_option maxRecDepth 100000 in
theorem b_X1_fillRows_L30 {p : Program} {e : Env} {s : State} {m : MethodId} {args : Array Value} {below : List Frame} {meth : Method} {c : Code} {A : Nat → Prop} (l : Launch) (D : va_G) (cy : Nat → ClassId) (h0 : Nat) (a0 : Nat → Nat) (h1 : Nat) (a1 : Nat → Nat) (s1 : St) (fu : Nat) (out : St) (C : gC p s m args meth c (WS yX1_fillRows cX1_fillRows 3 none) cX1_fillRows 3 none RX1) (hA : ∀ q : Nat, s.heap.size ≤ q → A q) (hK : va_K D vwCl (TY cy) s)  :
    ∀ (n_30 : Nat), ∀ (u0 : St) (x1 : Int32), f_X1_fillRows_L30 fu s1 n_30 u0 x1 = some out → ∀ (H : Heap) (locs : List Loc) (ls : Array Slot), va_P D vwCl ((w1 cy h0 h1 a0 u0) ++ (wP cy h1 a1 s1)) H → va_D A ((w1 cy h0 h1 a0 u0) ++ (wP cy h1 a1 s1)) → va_S A s.heap H locs → lv_has ls 3 [(0, .ref h0), (1, .int x1)] → W p l e ({ frames := 0, cells := 0, slots := 0, locals := 0 } : Room) s m args below meth c H locs 0 0 (MQ below (gQv D cy A ((w1 cy h0 h1 a0 out) ++ (wP cy h1 a1 s1))) args s 0 0 A) (F0 m 30 ls []) := by
  obtain ⟨hx, hb, hr, hml, hown, hts, hlk⟩ := id C
  have hown : s.vm.findClass RX1 = some m.cls := hown
  have hk_24 := hts _ (List.mem_cons_of_mem _ fl_RX1_24)
  intro n_30
  induction n_30 with
  | zero => intro u0 x1 hf; exact op_no hf
  | succ n_30 ih_30 =>
    intro u0 x1 hf H locs ls hP hD hS hl
    rw [f_X1_fillRows_L30] at hf
    refine lv_iload_n hx hb dX1_fillRows_30 rfl (lv_at hl 1 rfl) ?_
    refine lv_if_lt (tgt := 99) hx hb dX1_fillRows_31 (by decide) (fun c_31 => ?_) (fun c_31 => ?_)
    · have hf := op_pos c_31 hf
      refine lv_aload_n hx hb dX1_fillRows_99 rfl (lv_at hl 0 rfl) ?_
      refine va_get (ci := 1) (v := .ref (a0 4)) (C := RX1) (T := TX1) (N := 9) hx hb hts (fun w h => List.mem_cons_of_mem _ (inX1 w h)) hown hK hP 0 rfl rfl 4 (by decide) hk_24 (fun _ h9 => h9) rfl dX1_fillRows_100 ?_
      refine lv_iconst (v := 0) hx hb dX1_fillRows_103 (by decide) ?_
      refine lv_iconst (v := 0) hx hb dX1_fillRows_104 (by decide) ?_
      obtain ⟨hg_105, hf⟩ := op_if hf
      refine va_iast (f := u0.2 4) (x := 0) hx hb hK hP hD hS 5 0 rfl rfl (inb_in hg_105) dX1_fillRows_105 (fun H locs hP hD hS => ?_)
      have hP : va_P D vwCl ((w1 cy h0 h1 a0 (sA u0 4 ((0 : Int32).toNatClampNeg) 0)) ++ (wP cy h1 a1 s1)) H := hP
      have hD : va_D A ((w1 cy h0 h1 a0 (sA u0 4 ((0 : Int32).toNatClampNeg) 0)) ++ (wP cy h1 a1 s1)) := hD
      refine lv_iconst (v := 0) hx hb dX1_fillRows_106 (by decide) ?_
      refine lv_istore_n (lv' := [(1, .int 0), (0, .ref h0)]) hx hb dX1_fillRows_107 rfl hl (by decide) rfl (fun ls hl => ?_)
      exact b_X1_fillRows_L108 l D cy h0 a0 h1 a1 s1 fu out C hA hK fu (sA u0 4 ((0 : Int32).toNatClampNeg) 0) 0 hf _ _ ls hP hD hS (lv_sub hl [1, 0] rfl)
    · have hf := op_neg c_31 hf
      refine lv_iload_n hx hb dX1_fillRows_34 rfl (lv_at hl 1 rfl) ?_
      refine lv_iconst (v := 1) hx hb dX1_fillRows_35 (by decide) ?_
      refine lv_iadd hx hb dX1_fillRows_36 ?_
      refine lv_istore_n (lv' := [(2, .int (x1 + 1)), (0, .ref h0), (1, .int x1)]) hx hb dX1_fillRows_37 rfl hl (by decide) rfl (fun ls hl => ?_)
      exact b_X1_fillRows_L38 l D cy h0 a0 h1 a1 s1 fu out C hA hK (f_X1_fillRows_L30 fu s1 n_30) ih_30 fu u0 x1 (x1 + 1) hf _ _ ls hP hD hS (lv_sub hl [1, 2, 0] rfl)
def f_X1_fillRows (fu : Nat) (s1 : St) (s0 : St)  : Option (St) := if inb (s0.1 6) 241 = true then (if inb (s0.1 6) 241 = true then (f_X1_fillRows_L30 fu s1 fu (sA (sA s0 2 ((s0.1 6).toNatClampNeg) (s0.1 6)) 3 ((s0.1 6).toNatClampNeg) 0) ((s0.1 6) - 1)) else none) else none
theorem hdX1_fillRows : yX1_fillRows.cls = RX1 ∧ yX1_fillRows.cls ≠ "java/lang/invoke/MethodHandle" ∧ yX1_fillRows.cls ≠ "java/lang/invoke/VarHandle" ∧ (parseMethodDescriptor yX1_fillRows.desc).map (fun d => d.parameters.length) = some 0 := by decide +kernel
set_option maxHeartbeats 4000000 in
set_option maxRecDepth 100000 in
theorem c_X1_fillRows (l : Launch) (D : va_G) (cy : Nat → ClassId) (h0 : Nat) (a0 : Nat → Nat) (s0 : St) (h1 : Nat) (a1 : Nat → Nat) (s1 : St) (sz fu : Nat)  (out : St) (hf : f_X1_fillRows fu s1 s0 = some out) :
    Met l yX1_fillRows (WS yX1_fillRows cX1_fillRows 3 none) ({ frames := 0, cells := 0, slots := 0, locals := 0 } : Room) (va_Pc [.ref h0] (gP D cy sz ((w1 cy h0 h1 a0 s0) ++ (wP cy h1 a1 s1)))) ((fun A : Nat → Prop => gQv D cy A ((w1 cy h0 h1 a0 out) ++ (wP cy h1 a1 s1))) (va_A ((w1 cy h0 h1 a0 s0) ++ (wP cy h1 a1 s1)) sz)) 0 0 (va_A ((w1 cy h0 h1 a0 s0) ++ (wP cy h1 a1 s1)) sz) := by
  refine g_met (cc := cX1_fillRows) (maxL := 3) (ret := none) (fun A : Nat → Prop => gQv D cy A ((w1 cy h0 h1 a0 out) ++ (wP cy h1 a1 s1))) (by decide +kernel) rfl (Nat.le_of_ble_eq_true rfl) ?_
  intro p e s m below meth c A C hA hK hP hD ls hl
  obtain ⟨hx, hb, hr, hml, hown, hts, hlk⟩ := id C
  have hown : s.vm.findClass RX1 = some m.cls := hown
  have hS : va_S A s.heap s.heap [] := va_S.rf
  have hl : lv_has ls 3 [(0, .ref h0)] := hl
  have hk_18 := hts _ (List.mem_cons_of_mem _ fl_RX1_18)
  have hk_61 := hts _ (List.mem_cons_of_mem _ fl_RX1_61)
  have hk_21 := hts _ (List.mem_cons_of_mem _ fl_RX1_21)
  unfold f_X1_fillRows at hf
  refine lv_aload_n hx hb dX1_fillRows_0 rfl (lv_at hl 0 rfl) ?_
  refine va_get (ci := 1) (v := .ref (a0 2)) (C := RX1) (T := TX1) (N := 9) hx hb hts (fun w h => List.mem_cons_of_mem _ (inX1 w h)) hown hK hP 0 rfl rfl 2 (by decide) hk_18 (fun _ h9 => h9) rfl dX1_fillRows_1 ?_
  refine lv_aload_n hx hb dX1_fillRows_4 rfl (lv_at hl 0 rfl) ?_
  refine va_get (ci := 1) (v := .int (s0.1 6)) (C := RX1) (T := TX1) (N := 9) hx hb hts (fun w h => List.mem_cons_of_mem _ (inX1 w h)) hown hK hP 0 rfl rfl 6 (by decide) hk_61 (fun _ h9 => h9) rfl dX1_fillRows_5 ?_
  refine lv_aload_n hx hb dX1_fillRows_8 rfl (lv_at hl 0 rfl) ?_
  refine va_get (ci := 1) (v := .int (s0.1 6)) (C := RX1) (T := TX1) (N := 9) hx hb hts (fun w h => List.mem_cons_of_mem _ (inX1 w h)) hown hK hP 0 rfl rfl 6 (by decide) hk_61 (fun _ h9 => h9) rfl dX1_fillRows_9 ?_
  obtain ⟨hg_12, hf⟩ := op_if hf
  refine va_iast (f := s0.2 2) (x := s0.1 6) hx hb hK hP hD hS 3 0 rfl rfl (inb_in hg_12) dX1_fillRows_12 (fun H locs hP hD hS => ?_)
  have hP : va_P D vwCl ((w1 cy h0 h1 a0 (sA s0 2 ((s0.1 6).toNatClampNeg) (s0.1 6))) ++ (wP cy h1 a1 s1)) H := hP
  have hD : va_D A ((w1 cy h0 h1 a0 (sA s0 2 ((s0.1 6).toNatClampNeg) (s0.1 6))) ++ (wP cy h1 a1 s1)) := hD
  refine lv_aload_n hx hb dX1_fillRows_13 rfl (lv_at hl 0 rfl) ?_
  refine va_get (ci := 1) (v := .ref (a0 3)) (C := RX1) (T := TX1) (N := 9) hx hb hts (fun w h => List.mem_cons_of_mem _ (inX1 w h)) hown hK hP 0 rfl rfl 3 (by decide) hk_21 (fun _ h9 => h9) rfl dX1_fillRows_14 ?_
  refine lv_aload_n hx hb dX1_fillRows_17 rfl (lv_at hl 0 rfl) ?_
  refine va_get (ci := 1) (v := .int (s0.1 6)) (C := RX1) (T := TX1) (N := 9) hx hb hts (fun w h => List.mem_cons_of_mem _ (inX1 w h)) hown hK hP 0 rfl rfl 6 (by decide) hk_61 (fun _ h9 => h9) rfl dX1_fillRows_18 ?_
  refine lv_iconst (v := 0) hx hb dX1_fillRows_21 (by decide) ?_
  obtain ⟨hg_22, hf⟩ := op_if hf
  refine va_iast (f := (sA s0 2 ((s0.1 6).toNatClampNeg) (s0.1 6)).2 3) (x := 0) hx hb hK hP hD hS 4 0 rfl rfl (inb_in hg_22) dX1_fillRows_22 (fun H locs hP hD hS => ?_)
  have hP : va_P D vwCl ((w1 cy h0 h1 a0 (sA (sA s0 2 ((s0.1 6).toNatClampNeg) (s0.1 6)) 3 ((s0.1 6).toNatClampNeg) 0)) ++ (wP cy h1 a1 s1)) H := hP
  have hD : va_D A ((w1 cy h0 h1 a0 (sA (sA s0 2 ((s0.1 6).toNatClampNeg) (s0.1 6)) 3 ((s0.1 6).toNatClampNeg) 0)) ++ (wP cy h1 a1 s1)) := hD
  refine lv_aload_n hx hb dX1_fillRows_23 rfl (lv_at hl 0 rfl) ?_
  refine va_get (ci := 1) (v := .int (s0.1 6)) (C := RX1) (T := TX1) (N := 9) hx hb hts (fun w h => List.mem_cons_of_mem _ (inX1 w h)) hown hK hP 0 rfl rfl 6 (by decide) hk_61 (fun _ h9 => h9) rfl dX1_fillRows_24 ?_
  refine lv_iconst (v := 1) hx hb dX1_fillRows_27 (by decide) ?_
  refine lv_isub hx hb dX1_fillRows_28 ?_
  refine lv_istore_n (lv' := [(1, .int ((s0.1 6) - 1)), (0, .ref h0)]) hx hb dX1_fillRows_29 rfl hl (by decide) rfl (fun ls hl => ?_)
  exact b_X1_fillRows_L30 l D cy h0 a0 h1 a1 s1 fu out C hA hK fu (sA (sA s0 2 ((s0.1 6).toNatClampNeg) (s0.1 6)) 3 ((s0.1 6).toNatClampNeg) 0) ((s0.1 6) - 1) hf _ _ ls hP hD hS (lv_sub hl [1, 0] rfl)
def f_X1_forgetPrices_L12 (k_2 : St → Int32 → Option (St)) (fu : Nat) (s0 : St) : Nat → St → Int32 → Int32 → Option (St)
  | 0, _, _, _ => none
  | n_12 + 1, u1, x1, x2 => if (s0.1 6) < x2 then (k_2 u1 (x1 + 1)) else (if inb x1 13 = true then (if inb x2 241 = true then (f_X1_forgetPrices_L12 k_2 fu s0 n_12 (sA u1 x1.toNatClampNeg x2.toNatClampNeg 1000000) x1 (x2 + 1)) else none) else none)
set_option maxHeartbeats 4000000 in
set_option maxRecDepth 100000 in
theorem b_X1_forgetPrices_L12 {p : Program} {e : Env} {s : State} {m : MethodId} {args : Array Value} {below : List Frame} {meth : Method} {c : Code} {A : Nat → Prop} (l : Launch) (D : va_G) (cy : Nat → ClassId) (h0 : Nat) (a0 : Nat → Nat) (s0 : St) (h1 : Nat) (a1 : Nat → Nat) (fu : Nat) (out : St) (C : gC p s m args meth c (WS yX1_forgetPrices cX1_forgetPrices 3 none) cX1_forgetPrices 3 none RX1) (hA : ∀ q : Nat, s.heap.size ≤ q → A q) (hK : va_K D vwCl (TY cy) s) (k_2 : St → Int32 → Option (St)) (hk_2 : ∀ (u1 : St) (x1 : Int32), k_2 u1 x1 = some out → ∀ (H : Heap) (locs : List Loc) (ls : Array Slot), va_P D vwCl ((w1 cy h0 h1 a0 s0) ++ (wP cy h1 a1 u1)) H → va_D A ((w1 cy h0 h1 a0 s0) ++ (wP cy h1 a1 u1)) → va_S A s.heap H locs → lv_has ls 3 [(0, .ref h0), (1, .int x1)] → W p l e ({ frames := 0, cells := 0, slots := 0, locals := 0 } : Room) s m args below meth c H locs 0 0 (MQ below (gQv D cy A ((w1 cy h0 h1 a0 s0) ++ (wP cy h1 a1 out))) args s 0 0 A) (F0 m 2 ls [])) :
    ∀ (n_12 : Nat), ∀ (u1 : St) (x1 : Int32) (x2 : Int32), f_X1_forgetPrices_L12 k_2 fu s0 n_12 u1 x1 x2 = some out → ∀ (H : Heap) (locs : List Loc) (ls : Array Slot), va_P D vwCl ((w1 cy h0 h1 a0 s0) ++ (wP cy h1 a1 u1)) H → va_D A ((w1 cy h0 h1 a0 s0) ++ (wP cy h1 a1 u1)) → va_S A s.heap H locs → lv_has ls 3 [(0, .ref h0), (1, .int x1), (2, .int x2)] → W p l e ({ frames := 0, cells := 0, slots := 0, locals := 0 } : Room) s m args below meth c H locs 0 0 (MQ below (gQv D cy A ((w1 cy h0 h1 a0 s0) ++ (wP cy h1 a1 out))) args s 0 0 A) (F0 m 12 ls []) := by
  obtain ⟨hx, hb, hr, hml, hown, hts, hlk⟩ := id C
  have hown : s.vm.findClass RX1 = some m.cls := hown
  have hk_61 := hts _ (List.mem_cons_of_mem _ fl_RX1_61)
  have hk_29 := hts _ (List.mem_cons_of_mem _ fl_RX1_29)
  have hcn_76 := hts _ (List.mem_cons_of_mem _ cn_RX1_76)
  intro n_12
  induction n_12 with
  | zero => intro u1 x1 x2 hf; exact op_no hf
  | succ n_12 ih_12 =>
    intro u1 x1 x2 hf H locs ls hP hD hS hl
    rw [f_X1_forgetPrices_L12] at hf
    refine lv_iload_n hx hb dX1_forgetPrices_12 rfl (lv_at hl 2 rfl) ?_
    refine lv_aload_n hx hb dX1_forgetPrices_13 rfl (lv_at hl 0 rfl) ?_
    refine va_get (ci := 1) (v := .int (s0.1 6)) (C := RX1) (T := TX1) (N := 9) hx hb hts (fun w h => List.mem_cons_of_mem _ (inX1 w h)) hown hK hP 0 rfl rfl 6 (by decide) hk_61 (fun _ h9 => h9) rfl dX1_forgetPrices_14 ?_
    refine lv_icmp_gt (tgt := 36) hx hb dX1_forgetPrices_17 (by decide) (fun c_17 => ?_) (fun c_17 => ?_)
    · have hf := op_pos c_17 hf
      refine lv_iinc (v := x1 + 1) (lv' := [(1, .int (x1 + 1)), (0, .ref h0), (2, .int x2)]) hx hb dX1_forgetPrices_36 hl (k := 1) rfl rfl (by decide) rfl (fun ls hl => ?_)
      refine lv_goto (tgt := 2) hx hb dX1_forgetPrices_39 (by decide) ?_
      exact hk_2 u1 (x1 + 1) hf _ _ ls hP hD hS (lv_sub hl [1, 0] rfl)
    · have hf := op_neg c_17 hf
      refine lv_aload_n hx hb dX1_forgetPrices_20 rfl (lv_at hl 0 rfl) ?_
      refine va_get (ci := 1) (v := .ref h1) (C := RX1) (T := TX1) (N := 9) hx hb hts (fun w h => List.mem_cons_of_mem _ (inX1 w h)) hown hK hP 0 rfl rfl 5 (by decide) hk_29 (fun _ h9 => h9) rfl dX1_forgetPrices_21 ?_
      refine lv_iload_n hx hb dX1_forgetPrices_24 rfl (lv_at hl 1 rfl) ?_
      obtain ⟨hg_25, hf⟩ := op_if hf
      refine g_aald2 hx hb hK hP 6 rfl (inb_in hg_25) dX1_forgetPrices_25 ?_
      refine lv_iload_n hx hb dX1_forgetPrices_26 rfl (lv_at hl 2 rfl) ?_
      refine lv_ldc (v := 1000000) hx hb hown hcn_76 dX1_forgetPrices_27 ?_
      obtain ⟨hg_29, hf⟩ := op_if hf
      refine va_iast (f := u1.2 x1.toNatClampNeg) (x := 1000000) hx hb hK hP hD hS _ 0 (c13 (P := fun j => ((w1 cy h0 h1 a0 s0) ++ (wP cy h1 a1 u1))[7 + j]? = some (a1 j, .inl (cy 0, 241, .inl (u1.2 j)))) rfl rfl rfl rfl rfl rfl rfl rfl rfl rfl rfl rfl rfl (inb_lt hg_25)) rfl (inb_in hg_29) dX1_forgetPrices_29 (fun H locs hP hD hS => ?_)
      rw [(c13 (P := fun j => ((w1 cy h0 h1 a0 s0) ++ (wP cy h1 a1 u1)).set (7 + j) (a1 j, .inl (cy 0, 241, .inl (upd (u1.2 j) x2.toNatClampNeg 1000000))) = (w1 cy h0 h1 a0 s0) ++ (wP cy h1 a1 (sA u1 j x2.toNatClampNeg 1000000))) rfl rfl rfl rfl rfl rfl rfl rfl rfl rfl rfl rfl rfl (inb_lt hg_25))] at hP hD
      refine lv_iinc (v := x2 + 1) (lv' := [(2, .int (x2 + 1)), (0, .ref h0), (1, .int x1)]) hx hb dX1_forgetPrices_30 hl (k := 2) rfl rfl (by decide) rfl (fun ls hl => ?_)
      refine lv_goto (tgt := 12) hx hb dX1_forgetPrices_33 (by decide) ?_
      exact ih_12 (sA u1 x1.toNatClampNeg x2.toNatClampNeg 1000000) x1 (x2 + 1) hf _ _ ls hP hD hS (lv_sub hl [1, 2, 0] rfl)
def f_X1_forgetPrices_L2  (fu : Nat) (s0 : St) : Nat → St → Int32 → Option (St)
  | 0, _, _ => none
  | n_2 + 1, u1, x1 => if (s0.1 8) < x1 then (some u1) else (f_X1_forgetPrices_L12 (f_X1_forgetPrices_L2 fu s0 n_2) fu s0 fu u1 x1 0)
set_option maxHeartbeats 4000000 in
set_option maxRecDepth 100000 in
theorem b_X1_forgetPrices_L2 {p : Program} {e : Env} {s : State} {m : MethodId} {args : Array Value} {below : List Frame} {meth : Method} {c : Code} {A : Nat → Prop} (l : Launch) (D : va_G) (cy : Nat → ClassId) (h0 : Nat) (a0 : Nat → Nat) (s0 : St) (h1 : Nat) (a1 : Nat → Nat) (fu : Nat) (out : St) (C : gC p s m args meth c (WS yX1_forgetPrices cX1_forgetPrices 3 none) cX1_forgetPrices 3 none RX1) (hA : ∀ q : Nat, s.heap.size ≤ q → A q) (hK : va_K D vwCl (TY cy) s)  :
    ∀ (n_2 : Nat), ∀ (u1 : St) (x1 : Int32), f_X1_forgetPrices_L2 fu s0 n_2 u1 x1 = some out → ∀ (H : Heap) (locs : List Loc) (ls : Array Slot), va_P D vwCl ((w1 cy h0 h1 a0 s0) ++ (wP cy h1 a1 u1)) H → va_D A ((w1 cy h0 h1 a0 s0) ++ (wP cy h1 a1 u1)) → va_S A s.heap H locs → lv_has ls 3 [(0, .ref h0), (1, .int x1)] → W p l e ({ frames := 0, cells := 0, slots := 0, locals := 0 } : Room) s m args below meth c H locs 0 0 (MQ below (gQv D cy A ((w1 cy h0 h1 a0 s0) ++ (wP cy h1 a1 out))) args s 0 0 A) (F0 m 2 ls []) := by
  obtain ⟨hx, hb, hr, hml, hown, hts, hlk⟩ := id C
  have hown : s.vm.findClass RX1 = some m.cls := hown
  have hk_49 := hts _ (List.mem_cons_of_mem _ fl_RX1_49)
  intro n_2
  induction n_2 with
  | zero => intro u1 x1 hf; exact op_no hf
  | succ n_2 ih_2 =>
    intro u1 x1 hf H locs ls hP hD hS hl
    rw [f_X1_forgetPrices_L2] at hf
    refine lv_iload_n hx hb dX1_forgetPrices_2 rfl (lv_at hl 1 rfl) ?_
    refine lv_aload_n hx hb dX1_forgetPrices_3 rfl (lv_at hl 0 rfl) ?_
    refine va_get (ci := 1) (v := .int (s0.1 8)) (C := RX1) (T := TX1) (N := 9) hx hb hts (fun w h => List.mem_cons_of_mem _ (inX1 w h)) hown hK hP 0 rfl rfl 8 (by decide) hk_49 (fun _ h9 => h9) rfl dX1_forgetPrices_4 ?_
    refine lv_icmp_gt (tgt := 42) hx hb dX1_forgetPrices_7 (by decide) (fun c_7 => ?_) (fun c_7 => ?_)
    · have hf := op_pos c_7 hf
      rw [← Option.some.inj hf]
      exact g_vret hx hb hr hlk hK hP hD hS dX1_forgetPrices_42
    · have hf := op_neg c_7 hf
      refine lv_iconst (v := 0) hx hb dX1_forgetPrices_10 (by decide) ?_
      refine lv_istore_n (lv' := [(2, .int 0), (0, .ref h0), (1, .int x1)]) hx hb dX1_forgetPrices_11 rfl hl (by decide) rfl (fun ls hl => ?_)
      exact b_X1_forgetPrices_L12 l D cy h0 a0 s0 h1 a1 fu out C hA hK (f_X1_forgetPrices_L2 fu s0 n_2) ih_2 fu u1 x1 0 hf _ _ ls hP hD hS (lv_sub hl [1, 2, 0] rfl)
def f_X1_forgetPrices (fu : Nat) (s0 : St) (s1 : St)  : Option (St) := f_X1_forgetPrices_L2 fu s0 fu s1 0
theorem hdX1_forgetPrices : yX1_forgetPrices.cls = RX1 ∧ yX1_forgetPrices.cls ≠ "java/lang/invoke/MethodHandle" ∧ yX1_forgetPrices.cls ≠ "java/lang/invoke/VarHandle" ∧ (parseMethodDescriptor yX1_forgetPrices.desc).map (fun d => d.parameters.length) = some 0 := by decide +kernel
set_option maxHeartbeats 4000000 in
set_option maxRecDepth 100000 in
theorem c_X1_forgetPrices (l : Launch) (D : va_G) (cy : Nat → ClassId) (h0 : Nat) (a0 : Nat → Nat) (s0 : St) (h1 : Nat) (a1 : Nat → Nat) (s1 : St) (sz fu : Nat)  (out : St) (hf : f_X1_forgetPrices fu s0 s1 = some out) :
    Met l yX1_forgetPrices (WS yX1_forgetPrices cX1_forgetPrices 3 none) ({ frames := 0, cells := 0, slots := 0, locals := 0 } : Room) (va_Pc [.ref h0] (gP D cy sz ((w1 cy h0 h1 a0 s0) ++ (wP cy h1 a1 s1)))) ((fun A : Nat → Prop => gQv D cy A ((w1 cy h0 h1 a0 s0) ++ (wP cy h1 a1 out))) (va_A ((w1 cy h0 h1 a0 s0) ++ (wP cy h1 a1 s1)) sz)) 0 0 (va_A ((w1 cy h0 h1 a0 s0) ++ (wP cy h1 a1 s1)) sz) := by
  refine g_met (cc := cX1_forgetPrices) (maxL := 3) (ret := none) (fun A : Nat → Prop => gQv D cy A ((w1 cy h0 h1 a0 s0) ++ (wP cy h1 a1 out))) (by decide +kernel) rfl (Nat.le_of_ble_eq_true rfl) ?_
  intro p e s m below meth c A C hA hK hP hD ls hl
  obtain ⟨hx, hb, hr, hml, hown, hts, hlk⟩ := id C
  have hown : s.vm.findClass RX1 = some m.cls := hown
  have hS : va_S A s.heap s.heap [] := va_S.rf
  have hl : lv_has ls 3 [(0, .ref h0)] := hl
  unfold f_X1_forgetPrices at hf
  refine lv_iconst (v := 0) hx hb dX1_forgetPrices_0 (by decide) ?_
  refine lv_istore_n (lv' := [(1, .int 0), (0, .ref h0)]) hx hb dX1_forgetPrices_1 rfl hl (by decide) rfl (fun ls hl => ?_)
  exact b_X1_forgetPrices_L2 l D cy h0 a0 s0 h1 a1 fu out C hA hK fu s1 0 hf _ _ ls hP hD hS (lv_sub hl [1, 0] rfl)
def f_X1_priceWith (fu : Nat) (s0 : St) (s1 : St)  (p1 : Int32) (p2 : Int32) (p3 : Int32) : Option (Int32) := if inb (p3 - 1) 240 = true then (if inb p2 240 = true then (if inb (p1 + 1) 13 = true then (if inb p3 241 = true then (some ((((s0.1 7) - ((s0.2 1 (p3 - 1).toNatClampNeg) - (s0.2 0 p2.toNatClampNeg))) * ((s0.1 7) - ((s0.2 1 (p3 - 1).toNatClampNeg) - (s0.2 0 p2.toNatClampNeg)))) + (s1.2 ((p1 + 1).toNatClampNeg) p3.toNatClampNeg))) else none) else none) else none) else none
theorem hdX1_priceWith : yX1_priceWith.cls = RX1 ∧ yX1_priceWith.cls ≠ "java/lang/invoke/MethodHandle" ∧ yX1_priceWith.cls ≠ "java/lang/invoke/VarHandle" ∧ (parseMethodDescriptor yX1_priceWith.desc).map (fun d => d.parameters.length) = some 3 := by decide +kernel
set_option maxHeartbeats 4000000 in
set_option maxRecDepth 100000 in
theorem c_X1_priceWith (l : Launch) (D : va_G) (cy : Nat → ClassId) (h0 : Nat) (a0 : Nat → Nat) (s0 : St) (h1 : Nat) (a1 : Nat → Nat) (s1 : St) (sz fu : Nat) (p1 : Int32) (p2 : Int32) (p3 : Int32) (out : Int32) (hf : f_X1_priceWith fu s0 s1 p1 p2 p3 = some out) :
    Met l yX1_priceWith (WS yX1_priceWith cX1_priceWith 5 (some .int)) ({ frames := 0, cells := 0, slots := 0, locals := 0 } : Room) (va_Pc [.ref h0, .int p1, .int p2, .int p3] (gP D cy sz ((w1 cy h0 h1 a0 s0) ++ (wP cy h1 a1 s1)))) ((fun A : Nat → Prop => gQi D cy A out ((w1 cy h0 h1 a0 s0) ++ (wP cy h1 a1 s1))) (va_A ((w1 cy h0 h1 a0 s0) ++ (wP cy h1 a1 s1)) sz)) 0 0 (va_A ((w1 cy h0 h1 a0 s0) ++ (wP cy h1 a1 s1)) sz) := by
  refine g_met (cc := cX1_priceWith) (maxL := 5) (ret := (some .int)) (fun A : Nat → Prop => gQi D cy A out ((w1 cy h0 h1 a0 s0) ++ (wP cy h1 a1 s1))) (by decide +kernel) rfl (Nat.le_of_ble_eq_true rfl) ?_
  intro p e s m below meth c A C hA hK hP hD ls hl
  obtain ⟨hx, hb, hr, hml, hown, hts, hlk⟩ := id C
  have hown : s.vm.findClass RX1 = some m.cls := hown
  have hS : va_S A s.heap s.heap [] := va_S.rf
  have hl : lv_has ls 5 [(0, .ref h0), (1, .int p1), (2, .int p2), (3, .int p3)] := hl
  have hk_32 := hts _ (List.mem_cons_of_mem _ fl_RX1_32)
  have hk_15 := hts _ (List.mem_cons_of_mem _ fl_RX1_15)
  have hk_9 := hts _ (List.mem_cons_of_mem _ fl_RX1_9)
  have hk_29 := hts _ (List.mem_cons_of_mem _ fl_RX1_29)
  unfold f_X1_priceWith at hf
  refine lv_aload_n hx hb dX1_priceWith_0 rfl (lv_at hl 0 rfl) ?_
  refine va_get (ci := 1) (v := .int (s0.1 7)) (C := RX1) (T := TX1) (N := 9) hx hb hts (fun w h => List.mem_cons_of_mem _ (inX1 w h)) hown hK hP 0 rfl rfl 7 (by decide) hk_32 (fun _ h9 => h9) rfl dX1_priceWith_1 ?_
  refine lv_aload_n hx hb dX1_priceWith_4 rfl (lv_at hl 0 rfl) ?_
  refine va_get (ci := 1) (v := .ref (a0 1)) (C := RX1) (T := TX1) (N := 9) hx hb hts (fun w h => List.mem_cons_of_mem _ (inX1 w h)) hown hK hP 0 rfl rfl 1 (by decide) hk_15 (fun _ h9 => h9) rfl dX1_priceWith_5 ?_
  refine lv_iload_n hx hb dX1_priceWith_8 rfl (lv_at hl 3 rfl) ?_
  refine lv_iconst (v := 1) hx hb dX1_priceWith_9 (by decide) ?_
  refine lv_isub hx hb dX1_priceWith_10 ?_
  obtain ⟨hg_11, hf⟩ := op_if hf
  refine va_iald (f := s0.2 1) hx hb hK hP 2 0 rfl rfl (inb_in hg_11) dX1_priceWith_11 ?_
  refine lv_aload_n hx hb dX1_priceWith_12 rfl (lv_at hl 0 rfl) ?_
  refine va_get (ci := 1) (v := .ref (a0 0)) (C := RX1) (T := TX1) (N := 9) hx hb hts (fun w h => List.mem_cons_of_mem _ (inX1 w h)) hown hK hP 0 rfl rfl 0 (by decide) hk_9 (fun _ h9 => h9) rfl dX1_priceWith_13 ?_
  refine lv_iload_n hx hb dX1_priceWith_16 rfl (lv_at hl 2 rfl) ?_
  obtain ⟨hg_17, hf⟩ := op_if hf
  refine va_iald (f := s0.2 0) hx hb hK hP 1 0 rfl rfl (inb_in hg_17) dX1_priceWith_17 ?_
  refine lv_isub hx hb dX1_priceWith_18 ?_
  refine lv_isub hx hb dX1_priceWith_19 ?_
  refine lv_istore (lv' := [(4, .int ((s0.1 7) - ((s0.2 1 (p3 - 1).toNatClampNeg) - (s0.2 0 p2.toNatClampNeg)))), (0, .ref h0), (1, .int p1), (2, .int p2), (3, .int p3)]) hx hb dX1_priceWith_20 hl (by decide) rfl (fun ls hl => ?_)
  refine lv_iload hx hb dX1_priceWith_22 (lv_at hl 0 rfl) ?_
  refine lv_iload hx hb dX1_priceWith_24 (lv_at hl 0 rfl) ?_
  refine lv_imul hx hb dX1_priceWith_26 ?_
  refine lv_aload_n hx hb dX1_priceWith_27 rfl (lv_at hl 1 rfl) ?_
  refine va_get (ci := 1) (v := .ref h1) (C := RX1) (T := TX1) (N := 9) hx hb hts (fun w h => List.mem_cons_of_mem _ (inX1 w h)) hown hK hP 0 rfl rfl 5 (by decide) hk_29 (fun _ h9 => h9) rfl dX1_priceWith_28 ?_
  refine lv_iload_n hx hb dX1_priceWith_31 rfl (lv_at hl 2 rfl) ?_
  refine lv_iconst (v := 1) hx hb dX1_priceWith_32 (by decide) ?_
  refine lv_iadd hx hb dX1_priceWith_33 ?_
  obtain ⟨hg_34, hf⟩ := op_if hf
  refine g_aald2 hx hb hK hP 6 rfl (inb_in hg_34) dX1_priceWith_34 ?_
  refine lv_iload_n hx hb dX1_priceWith_35 rfl (lv_at hl 4 rfl) ?_
  obtain ⟨hg_36, hf⟩ := op_if hf
  refine va_iald (f := s1.2 ((p1 + 1).toNatClampNeg)) hx hb hK hP _ 0 (c13 (P := fun j => ((w1 cy h0 h1 a0 s0) ++ (wP cy h1 a1 s1))[7 + j]? = some (a1 j, .inl (cy 0, 241, .inl (s1.2 j)))) rfl rfl rfl rfl rfl rfl rfl rfl rfl rfl rfl rfl rfl (inb_lt hg_34)) rfl (inb_in hg_36) dX1_priceWith_36 ?_
  refine lv_iadd hx hb dX1_priceWith_37 ?_
  rw [← Option.some.inj hf]
  exact g_iret hx hb hr hlk hK hP hD hS dX1_priceWith_38
def f_X1_leastPrice_L38  (fu : Nat) (s0 : St) (s1 : St) : Nat → Int32 → Int32 → Int32 → Int32 → Option (Int32)
  | 0, _, _, _, _ => none
  | n_38 + 1, x1, x2, x4, x5 => if inb x2 241 = true then (if (s0.2 2 x2.toNatClampNeg) < x5 then (some x4) else ((f_X1_priceWith fu s0 s1 x1 x2 x5).bind (fun q_56 => f_X1_leastPrice_L38 fu s0 s1 n_38 x1 x2 (if q_56 < x4 then q_56 else x4) (x5 + 1)))) else none
set_option maxHeartbeats 4000000 in
set_option maxRecDepth 100000 in
theorem b_X1_leastPrice_L38 {p : Program} {e : Env} {s : State} {m : MethodId} {args : Array Value} {below : List Frame} {meth : Method} {c : Code} {A : Nat → Prop} (l : Launch) (D : va_G) (cy : Nat → ClassId) (h0 : Nat) (a0 : Nat → Nat) (s0 : St) (h1 : Nat) (a1 : Nat → Nat) (s1 : St) (fu : Nat) (out : Int32) (C : gC p s m args meth c (WS yX1_leastPrice cX1_leastPrice 6 (some .int)) cX1_leastPrice 6 (some .int) RX1) (hA : ∀ q : Nat, s.heap.size ≤ q → A q) (hK : va_K D vwCl (TY cy) s)  :
    ∀ (n_38 : Nat), ∀ (x1 : Int32) (x2 : Int32) (x4 : Int32) (x5 : Int32), f_X1_leastPrice_L38 fu s0 s1 n_38 x1 x2 x4 x5 = some out → ∀ (H : Heap) (locs : List Loc) (ls : Array Slot), va_P D vwCl ((w1 cy h0 h1 a0 s0) ++ (wP cy h1 a1 s1)) H → va_D A ((w1 cy h0 h1 a0 s0) ++ (wP cy h1 a1 s1)) → va_S A s.heap H locs → lv_has ls 6 [(0, .ref h0), (1, .int x1), (2, .int x2), (4, .int x4), (5, .int x5)] → W p l e ({ frames := 1, cells := 0, slots := 0, locals := 24 } : Room) s m args below meth c H locs 0 0 (MQ below (gQi D cy A out ((w1 cy h0 h1 a0 s0) ++ (wP cy h1 a1 s1))) args s 0 0 A) (F0 m 38 ls []) := by
  obtain ⟨hx, hb, hr, hml, hown, hts, hlk⟩ := id C
  have hown : s.vm.findClass RX1 = some m.cls := hown
  have hk_18 := hts _ (List.mem_cons_of_mem _ fl_RX1_18)
  have hml_43 := hts _ (List.mem_cons_of_mem _ ml_RX1_43)
  have hms_min := hts _ (List.mem_cons_of_mem _ sm_min)
  have hmi_min := hts _ (List.mem_cons_of_mem _ in_Math)
  have hmc_min := hts _ (List.mem_cons_of_mem _ cd_min)
  intro n_38
  induction n_38 with
  | zero => intro x1 x2 x4 x5 hf; exact op_no hf
  | succ n_38 ih_38 =>
    intro x1 x2 x4 x5 hf H locs ls hP hD hS hl
    rw [f_X1_leastPrice_L38] at hf
    refine lv_iload hx hb dX1_leastPrice_38 (lv_at hl 4 rfl) ?_
    refine lv_aload_n hx hb dX1_leastPrice_40 rfl (lv_at hl 0 rfl) ?_
    refine va_get (ci := 1) (v := .ref (a0 2)) (C := RX1) (T := TX1) (N := 9) hx hb hts (fun w h => List.mem_cons_of_mem _ (inX1 w h)) hown hK hP 0 rfl rfl 2 (by decide) hk_18 (fun _ h9 => h9) rfl dX1_leastPrice_41 ?_
    refine lv_iload_n hx hb dX1_leastPrice_44 rfl (lv_at hl 2 rfl) ?_
    obtain ⟨hg_45, hf⟩ := op_if hf
    refine va_iald (f := s0.2 2) hx hb hK hP 3 0 rfl rfl (inb_in hg_45) dX1_leastPrice_45 ?_
    refine lv_icmp_gt (tgt := 70) hx hb dX1_leastPrice_46 (by decide) (fun c_46 => ?_) (fun c_46 => ?_)
    · have hf := op_pos c_46 hf
      refine lv_iload hx hb dX1_leastPrice_70 (lv_at hl 3 rfl) ?_
      rw [← Option.some.inj hf]
      exact g_iret hx hb hr hlk hK hP hD hS dX1_leastPrice_72
    · have hf := op_neg c_46 hf
      refine lv_iload hx hb dX1_leastPrice_49 (lv_at hl 3 rfl) ?_
      refine lv_aload_n hx hb dX1_leastPrice_51 rfl (lv_at hl 0 rfl) ?_
      refine lv_iload_n hx hb dX1_leastPrice_52 rfl (lv_at hl 1 rfl) ?_
      refine lv_iload_n hx hb dX1_leastPrice_53 rfl (lv_at hl 2 rfl) ?_
      refine lv_iload hx hb dX1_leastPrice_54 (lv_at hl 4 rfl) ?_
      obtain ⟨q_56, hc_56, hf⟩ := op_bind hf
      refine g_callVi (As := [.int x1, .int x2, .int x5]) (rest := [.int x4]) (w2 := (w1 cy h0 h1 a0 s0) ++ (wP cy h1 a1 s1)) ⟨hx, hb, hml, hown, hts⟩ (c_X1_priceWith l D cy h0 a0 s0 h1 a1 s1 _ fu x1 x2 x5 _ hc_56) (cwV 3 hts (gi_V ml_RX1_80 im_X1_priceWith se_X1_priceWith in_RX1 cd_X1_priceWith) rfl rfl rfl hdX1_priceWith ⟨Nat.le_of_ble_eq_true rfl, Nat.le_of_ble_eq_true rfl⟩) (va_recv hK hP (ci := 1) (q0 := 0) rfl rfl) rfl hl.1 rfl (Nat.le_of_ble_eq_true rfl) dX1_leastPrice_56 hK hP hD hS hA [0, 1, 2, 3, 4, 5, 6, 7, 8, 9, 10, 11, 12, 13, 14, 15, 16, 17, 18, 19] [] [0, 1, 2, 3, 4, 5, 6, 7, 8, 9, 10, 11, 12, 13, 14, 15, 16, 17, 18, 19] rfl rfl rfl rfl (by decide) rfl rfl (fun H locs hP hD hS => ?_)
      refine va_mmin hx hb (hml.trans hl.1.symm) hown hml_43 hms_min hmi_min hmc_min (Nat.le_of_ble_eq_true rfl) (Nat.le_of_ble_eq_true rfl) (Nat.zero_le _) (Nat.zero_le _) dX1_leastPrice_59 ?_
      refine lv_istore (lv' := [(4, .int (if q_56 < x4 then q_56 else x4)), (0, .ref h0), (1, .int x1), (2, .int x2), (5, .int x5)]) hx hb dX1_leastPrice_62 hl (by decide) rfl (fun ls hl => ?_)
      refine lv_iinc (v := x5 + 1) (lv' := [(5, .int (x5 + 1)), (4, .int (if q_56 < x4 then q_56 else x4)), (0, .ref h0), (1, .int x1), (2, .int x2)]) hx hb dX1_leastPrice_64 hl (k := 4) rfl rfl (by decide) rfl (fun ls hl => ?_)
      refine lv_goto (tgt := 38) hx hb dX1_leastPrice_67 (by decide) ?_
      exact ih_38 x1 x2 (if q_56 < x4 then q_56 else x4) (x5 + 1) hf _ _ ls hP hD hS (lv_sub hl [2, 3, 4, 1, 0] rfl)
def f_X1_leastPrice_L31  (fu : Nat) (s0 : St) (s1 : St) (x1 : Int32) (x2 : Int32) (t0 : Int32) : Option (Int32) := f_X1_leastPrice_L38 fu s0 s1 fu x1 x2 t0 (x2 + 1)
set_option maxHeartbeats 4000000 in
set_option maxRecDepth 100000 in
theorem b_X1_leastPrice_L31 {p : Program} {e : Env} {s : State} {m : MethodId} {args : Array Value} {below : List Frame} {meth : Method} {c : Code} {A : Nat → Prop} (l : Launch) (D : va_G) (cy : Nat → ClassId) (h0 : Nat) (a0 : Nat → Nat) (s0 : St) (h1 : Nat) (a1 : Nat → Nat) (s1 : St) (fu : Nat) (out : Int32) (C : gC p s m args meth c (WS yX1_leastPrice cX1_leastPrice 6 (some .int)) cX1_leastPrice 6 (some .int) RX1) (hA : ∀ q : Nat, s.heap.size ≤ q → A q) (hK : va_K D vwCl (TY cy) s)  :
    ∀ (x1 : Int32) (x2 : Int32) (t0 : Int32), f_X1_leastPrice_L31 fu s0 s1 x1 x2 t0 = some out → ∀ (H : Heap) (locs : List Loc) (ls : Array Slot), va_P D vwCl ((w1 cy h0 h1 a0 s0) ++ (wP cy h1 a1 s1)) H → va_D A ((w1 cy h0 h1 a0 s0) ++ (wP cy h1 a1 s1)) → va_S A s.heap H locs → lv_has ls 6 [(0, .ref h0), (1, .int x1), (2, .int x2)] → W p l e ({ frames := 1, cells := 0, slots := 0, locals := 24 } : Room) s m args below meth c H locs 0 0 (MQ below (gQi D cy A out ((w1 cy h0 h1 a0 s0) ++ (wP cy h1 a1 s1))) args s 0 0 A) (F0 m 31 ls [.int t0]) := by
  obtain ⟨hx, hb, hr, hml, hown, hts, hlk⟩ := id C
  have hown : s.vm.findClass RX1 = some m.cls := hown
  intro x1 x2 t0 hf H locs ls hP hD hS hl
  unfold f_X1_leastPrice_L31 at hf
  refine lv_istore (lv' := [(4, .int t0), (0, .ref h0), (1, .int x1), (2, .int x2)]) hx hb dX1_leastPrice_31 hl (by decide) rfl (fun ls hl => ?_)
  refine lv_iload_n hx hb dX1_leastPrice_33 rfl (lv_at hl 3 rfl) ?_
  refine lv_iconst (v := 1) hx hb dX1_leastPrice_34 (by decide) ?_
  refine lv_iadd hx hb dX1_leastPrice_35 ?_
  refine lv_istore (lv' := [(5, .int (x2 + 1)), (4, .int t0), (0, .ref h0), (1, .int x1), (2, .int x2)]) hx hb dX1_leastPrice_36 hl (by decide) rfl (fun ls hl => ?_)
  exact b_X1_leastPrice_L38 l D cy h0 a0 s0 h1 a1 s1 fu out C hA hK fu x1 x2 t0 (x2 + 1) hf _ _ ls hP hD hS (lv_sub hl [2, 3, 4, 1, 0] rfl)
def f_X1_leastPrice_L11  (fu : Nat) (s0 : St) (s1 : St) (x1 : Int32) (x2 : Int32) (t0 : Int32) : Option (Int32) := if t0 = 0 then (f_X1_leastPrice_L31 fu s0 s1 x1 x2 1000000) else (if inb (x1 + 1) 13 = true then (if inb x2 241 = true then (f_X1_leastPrice_L31 fu s0 s1 x1 x2 (s1.2 ((x1 + 1).toNatClampNeg) x2.toNatClampNeg)) else none) else none)
set_option maxHeartbeats 4000000 in
set_option maxRecDepth 100000 in
theorem b_X1_leastPrice_L11 {p : Program} {e : Env} {s : State} {m : MethodId} {args : Array Value} {below : List Frame} {meth : Method} {c : Code} {A : Nat → Prop} (l : Launch) (D : va_G) (cy : Nat → ClassId) (h0 : Nat) (a0 : Nat → Nat) (s0 : St) (h1 : Nat) (a1 : Nat → Nat) (s1 : St) (fu : Nat) (out : Int32) (C : gC p s m args meth c (WS yX1_leastPrice cX1_leastPrice 6 (some .int)) cX1_leastPrice 6 (some .int) RX1) (hA : ∀ q : Nat, s.heap.size ≤ q → A q) (hK : va_K D vwCl (TY cy) s)  :
    ∀ (x1 : Int32) (x2 : Int32) (t0 : Int32), f_X1_leastPrice_L11 fu s0 s1 x1 x2 t0 = some out → ∀ (H : Heap) (locs : List Loc) (ls : Array Slot), va_P D vwCl ((w1 cy h0 h1 a0 s0) ++ (wP cy h1 a1 s1)) H → va_D A ((w1 cy h0 h1 a0 s0) ++ (wP cy h1 a1 s1)) → va_S A s.heap H locs → lv_has ls 6 [(0, .ref h0), (1, .int x1), (2, .int x2)] → W p l e ({ frames := 1, cells := 0, slots := 0, locals := 24 } : Room) s m args below meth c H locs 0 0 (MQ below (gQi D cy A out ((w1 cy h0 h1 a0 s0) ++ (wP cy h1 a1 s1))) args s 0 0 A) (F0 m 11 ls [.int t0]) := by
  obtain ⟨hx, hb, hr, hml, hown, hts, hlk⟩ := id C
  have hown : s.vm.findClass RX1 = some m.cls := hown
  have hcn_76 := hts _ (List.mem_cons_of_mem _ cn_RX1_76)
  have hk_29 := hts _ (List.mem_cons_of_mem _ fl_RX1_29)
  intro x1 x2 t0 hf H locs ls hP hD hS hl
  unfold f_X1_leastPrice_L11 at hf
  refine lv_istore_n (lv' := [(3, .int t0), (0, .ref h0), (1, .int x1), (2, .int x2)]) hx hb dX1_leastPrice_11 rfl hl (by decide) rfl (fun ls hl => ?_)
  refine lv_iload_n hx hb dX1_leastPrice_12 rfl (lv_at hl 0 rfl) ?_
  refine lv_if_eq (tgt := 29) hx hb dX1_leastPrice_13 (by decide) (fun c_13 => ?_) (fun c_13 => ?_)
  · have hf := op_pos c_13 hf
    refine lv_ldc (v := 1000000) hx hb hown hcn_76 dX1_leastPrice_29 ?_
    exact b_X1_leastPrice_L31 l D cy h0 a0 s0 h1 a1 s1 fu out C hA hK x1 x2 1000000 hf _ _ ls hP hD hS (lv_sub hl [1, 2, 3] rfl)
  · have hf := op_neg c_13 hf
    refine lv_aload_n hx hb dX1_leastPrice_16 rfl (lv_at hl 1 rfl) ?_
    refine va_get (ci := 1) (v := .ref h1) (C := RX1) (T := TX1) (N := 9) hx hb hts (fun w h => List.mem_cons_of_mem _ (inX1 w h)) hown hK hP 0 rfl rfl 5 (by decide) hk_29 (fun _ h9 => h9) rfl dX1_leastPrice_17 ?_
    refine lv_iload_n hx hb dX1_leastPrice_20 rfl (lv_at hl 2 rfl) ?_
    refine lv_iconst (v := 1) hx hb dX1_leastPrice_21 (by decide) ?_
    refine lv_iadd hx hb dX1_leastPrice_22 ?_
    obtain ⟨hg_23, hf⟩ := op_if hf
    refine g_aald2 hx hb hK hP 6 rfl (inb_in hg_23) dX1_leastPrice_23 ?_
    refine lv_iload_n hx hb dX1_leastPrice_24 rfl (lv_at hl 3 rfl) ?_
    obtain ⟨hg_25, hf⟩ := op_if hf
    refine va_iald (f := s1.2 ((x1 + 1).toNatClampNeg)) hx hb hK hP _ 0 (c13 (P := fun j => ((w1 cy h0 h1 a0 s0) ++ (wP cy h1 a1 s1))[7 + j]? = some (a1 j, .inl (cy 0, 241, .inl (s1.2 j)))) rfl rfl rfl rfl rfl rfl rfl rfl rfl rfl rfl rfl rfl (inb_lt hg_23)) rfl (inb_in hg_25) dX1_leastPrice_25 ?_
    refine lv_goto (tgt := 31) hx hb dX1_leastPrice_26 (by decide) ?_
    exact b_X1_leastPrice_L31 l D cy h0 a0 s0 h1 a1 s1 fu out C hA hK x1 x2 (s1.2 ((x1 + 1).toNatClampNeg) x2.toNatClampNeg) hf _ _ ls hP hD hS (lv_sub hl [1, 2, 3] rfl)
def f_X1_leastPrice (fu : Nat) (s0 : St) (s1 : St)  (p1 : Int32) (p2 : Int32) : Option (Int32) := if nz 2 = true then (if (p1 - p1 / 2 * 2) = 0 then (f_X1_leastPrice_L11 fu s0 s1 p1 p2 0) else (f_X1_leastPrice_L11 fu s0 s1 p1 p2 1)) else none
theorem hdX1_leastPrice : yX1_leastPrice.cls = RX1 ∧ yX1_leastPrice.cls ≠ "java/lang/invoke/MethodHandle" ∧ yX1_leastPrice.cls ≠ "java/lang/invoke/VarHandle" ∧ (parseMethodDescriptor yX1_leastPrice.desc).map (fun d => d.parameters.length) = some 2 := by decide +kernel
set_option maxHeartbeats 4000000 in
set_option maxRecDepth 100000 in
theorem c_X1_leastPrice (l : Launch) (D : va_G) (cy : Nat → ClassId) (h0 : Nat) (a0 : Nat → Nat) (s0 : St) (h1 : Nat) (a1 : Nat → Nat) (s1 : St) (sz fu : Nat) (p1 : Int32) (p2 : Int32) (out : Int32) (hf : f_X1_leastPrice fu s0 s1 p1 p2 = some out) :
    Met l yX1_leastPrice (WS yX1_leastPrice cX1_leastPrice 6 (some .int)) ({ frames := 1, cells := 0, slots := 0, locals := 24 } : Room) (va_Pc [.ref h0, .int p1, .int p2] (gP D cy sz ((w1 cy h0 h1 a0 s0) ++ (wP cy h1 a1 s1)))) ((fun A : Nat → Prop => gQi D cy A out ((w1 cy h0 h1 a0 s0) ++ (wP cy h1 a1 s1))) (va_A ((w1 cy h0 h1 a0 s0) ++ (wP cy h1 a1 s1)) sz)) 0 0 (va_A ((w1 cy h0 h1 a0 s0) ++ (wP cy h1 a1 s1)) sz) := by
  refine g_met (cc := cX1_leastPrice) (maxL := 6) (ret := (some .int)) (fun A : Nat → Prop => gQi D cy A out ((w1 cy h0 h1 a0 s0) ++ (wP cy h1 a1 s1))) (by decide +kernel) rfl (Nat.le_of_ble_eq_true rfl) ?_
  intro p e s m below meth c A C hA hK hP hD ls hl
  obtain ⟨hx, hb, hr, hml, hown, hts, hlk⟩ := id C
  have hown : s.vm.findClass RX1 = some m.cls := hown
  have hS : va_S A s.heap s.heap [] := va_S.rf
  have hl : lv_has ls 6 [(0, .ref h0), (1, .int p1), (2, .int p2)] := hl
  unfold f_X1_leastPrice at hf
  refine lv_iload_n hx hb dX1_leastPrice_0 rfl (lv_at hl 1 rfl) ?_
  refine lv_iconst (v := 2) hx hb dX1_leastPrice_1 (by decide) ?_
  obtain ⟨hg_2, hf⟩ := op_if hf
  refine lv_irem hx hb dX1_leastPrice_2 (nz_ne hg_2) ?_
  refine lv_if_eq (tgt := 10) hx hb dX1_leastPrice_3 (by decide) (fun c_3 => ?_) (fun c_3 => ?_)
  · have hf := op_pos c_3 hf
    refine lv_iconst (v := 0) hx hb dX1_leastPrice_10 (by decide) ?_
    exact b_X1_leastPrice_L11 l D cy h0 a0 s0 h1 a1 s1 fu out C hA hK p1 p2 0 hf _ _ ls hP hD hS (lv_sub hl [0, 1, 2] rfl)
  · have hf := op_neg c_3 hf
    refine lv_iconst (v := 1) hx hb dX1_leastPrice_6 (by decide) ?_
    refine lv_goto (tgt := 11) hx hb dX1_leastPrice_7 (by decide) ?_
    exact b_X1_leastPrice_L11 l D cy h0 a0 s0 h1 a1 s1 fu out C hA hK p1 p2 1 hf _ _ ls hP hD hS (lv_sub hl [0, 1, 2] rfl)
def f_X1_priceWays_L33 (k_22 : St → Int32 → Option (St)) (fu : Nat) (s0 : St) : Nat → St → Int32 → Int32 → Option (St)
  | 0, _, _, _ => none
  | n_33 + 1, u1, x1, x2 => if x2 < 0 then (k_22 u1 (x1 + (-1))) else (if inb x2 241 = true then (if ((s0.1 8) - x1) < (s0.2 3 x2.toNatClampNeg) then (k_22 u1 (x1 + (-1))) else (if inb x1 13 = true then ((f_X1_leastPrice fu s0 u1 x1 x2).bind (fun q_62 => if inb x2 241 = true then (f_X1_priceWays_L33 k_22 fu s0 n_33 (sA u1 x1.toNatClampNeg x2.toNatClampNeg q_62) x1 (x2 + (-1))) else none)) else none)) else none)
set_option maxHeartbeats 4000000 in
set_option maxRecDepth 100000 in
theorem b_X1_priceWays_L33 {p : Program} {e : Env} {s : State} {m : MethodId} {args : Array Value} {below : List Frame} {meth : Method} {c : Code} {A : Nat → Prop} (l : Launch) (D : va_G) (cy : Nat → ClassId) (h0 : Nat) (a0 : Nat → Nat) (s0 : St) (h1 : Nat) (a1 : Nat → Nat) (fu : Nat) (out : St) (C : gC p s m args meth c (WS yX1_priceWays cX1_priceWays 3 none) cX1_priceWays 3 none RX1) (hA : ∀ q : Nat, s.heap.size ≤ q → A q) (hK : va_K D vwCl (TY cy) s) (k_22 : St → Int32 → Option (St)) (hk_22 : ∀ (u1 : St) (x1 : Int32), k_22 u1 x1 = some out → ∀ (H : Heap) (locs : List Loc) (ls : Array Slot), va_P D vwCl ((w1 cy h0 h1 a0 s0) ++ (wP cy h1 a1 u1)) H → va_D A ((w1 cy h0 h1 a0 s0) ++ (wP cy h1 a1 u1)) → va_S A s.heap H locs → lv_has ls 3 [(0, .ref h0), (1, .int x1)] → W p l e ({ frames := 2, cells := 0, slots := 0, locals := 49 } : Room) s m args below meth c H locs 0 0 (MQ below (gQv D cy A ((w1 cy h0 h1 a0 s0) ++ (wP cy h1 a1 out))) args s 0 0 A) (F0 m 22 ls [])) :
    ∀ (n_33 : Nat), ∀ (u1 : St) (x1 : Int32) (x2 : Int32), f_X1_priceWays_L33 k_22 fu s0 n_33 u1 x1 x2 = some out → ∀ (H : Heap) (locs : List Loc) (ls : Array Slot), va_P D vwCl ((w1 cy h0 h1 a0 s0) ++ (wP cy h1 a1 u1)) H → va_D A ((w1 cy h0 h1 a0 s0) ++ (wP cy h1 a1 u1)) → va_S A s.heap H locs → lv_has ls 3 [(0, .ref h0), (1, .int x1), (2, .int x2)] → W p l e ({ frames := 2, cells := 0, slots := 0, locals := 49 } : Room) s m args below meth c H locs 0 0 (MQ below (gQv D cy A ((w1 cy h0 h1 a0 s0) ++ (wP cy h1 a1 out))) args s 0 0 A) (F0 m 33 ls []) := by
  obtain ⟨hx, hb, hr, hml, hown, hts, hlk⟩ := id C
  have hown : s.vm.findClass RX1 = some m.cls := hown
  have hk_21 := hts _ (List.mem_cons_of_mem _ fl_RX1_21)
  have hk_49 := hts _ (List.mem_cons_of_mem _ fl_RX1_49)
  have hk_29 := hts _ (List.mem_cons_of_mem _ fl_RX1_29)
  intro n_33
  induction n_33 with
  | zero => intro u1 x1 x2 hf; exact op_no hf
  | succ n_33 ih_33 =>
    intro u1 x1 x2 hf H locs ls hP hD hS hl
    rw [f_X1_priceWays_L33] at hf
    refine lv_iload_n hx hb dX1_priceWays_33 rfl (lv_at hl 2 rfl) ?_
    refine lv_if_lt (tgt := 72) hx hb dX1_priceWays_34 (by decide) (fun c_34 => ?_) (fun c_34 => ?_)
    · have hf := op_pos c_34 hf
      refine lv_iinc (v := x1 + (-1)) (lv' := [(1, .int (x1 + (-1))), (0, .ref h0), (2, .int x2)]) hx hb dX1_priceWays_72 hl (k := 1) rfl rfl (by decide) rfl (fun ls hl => ?_)
      refine lv_goto (tgt := 22) hx hb dX1_priceWays_75 (by decide) ?_
      exact hk_22 u1 (x1 + (-1)) hf _ _ ls hP hD hS (lv_sub hl [1, 0] rfl)
    · have hf := op_neg c_34 hf
      refine lv_aload_n hx hb dX1_priceWays_37 rfl (lv_at hl 0 rfl) ?_
      refine va_get (ci := 1) (v := .ref (a0 3)) (C := RX1) (T := TX1) (N := 9) hx hb hts (fun w h => List.mem_cons_of_mem _ (inX1 w h)) hown hK hP 0 rfl rfl 3 (by decide) hk_21 (fun _ h9 => h9) rfl dX1_priceWays_38 ?_
      refine lv_iload_n hx hb dX1_priceWays_41 rfl (lv_at hl 2 rfl) ?_
      obtain ⟨hg_42, hf⟩ := op_if hf
      refine va_iald (f := s0.2 3) hx hb hK hP 4 0 rfl rfl (inb_in hg_42) dX1_priceWays_42 ?_
      refine lv_aload_n hx hb dX1_priceWays_43 rfl (lv_at hl 0 rfl) ?_
      refine va_get (ci := 1) (v := .int (s0.1 8)) (C := RX1) (T := TX1) (N := 9) hx hb hts (fun w h => List.mem_cons_of_mem _ (inX1 w h)) hown hK hP 0 rfl rfl 8 (by decide) hk_49 (fun _ h9 => h9) rfl dX1_priceWays_44 ?_
      refine lv_iload_n hx hb dX1_priceWays_47 rfl (lv_at hl 1 rfl) ?_
      refine lv_isub hx hb dX1_priceWays_48 ?_
      refine lv_icmp_gt (tgt := 72) hx hb dX1_priceWays_49 (by decide) (fun c_49 => ?_) (fun c_49 => ?_)
      · have hf := op_pos c_49 hf
        refine lv_iinc (v := x1 + (-1)) (lv' := [(1, .int (x1 + (-1))), (0, .ref h0), (2, .int x2)]) hx hb dX1_priceWays_72 hl (k := 1) rfl rfl (by decide) rfl (fun ls hl => ?_)
        refine lv_goto (tgt := 22) hx hb dX1_priceWays_75 (by decide) ?_
        exact hk_22 u1 (x1 + (-1)) hf _ _ ls hP hD hS (lv_sub hl [1, 0] rfl)
      · have hf := op_neg c_49 hf
        refine lv_aload_n hx hb dX1_priceWays_52 rfl (lv_at hl 0 rfl) ?_
        refine va_get (ci := 1) (v := .ref h1) (C := RX1) (T := TX1) (N := 9) hx hb hts (fun w h => List.mem_cons_of_mem _ (inX1 w h)) hown hK hP 0 rfl rfl 5 (by decide) hk_29 (fun _ h9 => h9) rfl dX1_priceWays_53 ?_
        refine lv_iload_n hx hb dX1_priceWays_56 rfl (lv_at hl 1 rfl) ?_
        obtain ⟨hg_57, hf⟩ := op_if hf
        refine g_aald2 hx hb hK hP 6 rfl (inb_in hg_57) dX1_priceWays_57 ?_
        refine lv_iload_n hx hb dX1_priceWays_58 rfl (lv_at hl 2 rfl) ?_
        refine lv_aload_n hx hb dX1_priceWays_59 rfl (lv_at hl 0 rfl) ?_
        refine lv_iload_n hx hb dX1_priceWays_60 rfl (lv_at hl 1 rfl) ?_
        refine lv_iload_n hx hb dX1_priceWays_61 rfl (lv_at hl 2 rfl) ?_
        obtain ⟨q_62, hc_62, hf⟩ := op_bind hf
        refine g_callVi (As := [.int x1, .int x2]) (rest := [.int x2, .ref (a1 x1.toNatClampNeg)]) (w2 := (w1 cy h0 h1 a0 s0) ++ (wP cy h1 a1 u1)) ⟨hx, hb, hml, hown, hts⟩ (c_X1_leastPrice l D cy h0 a0 s0 h1 a1 u1 _ fu x1 x2 _ hc_62) (cwV 2 hts (gi_V ml_RX1_77 im_X1_leastPrice se_X1_leastPrice in_RX1 cd_X1_leastPrice) rfl rfl rfl hdX1_leastPrice ⟨Nat.le_of_ble_eq_true rfl, Nat.le_of_ble_eq_true rfl⟩) (va_recv hK hP (ci := 1) (q0 := 0) rfl rfl) rfl hl.1 rfl (Nat.le_of_ble_eq_true rfl) dX1_priceWays_62 hK hP hD hS hA [0, 1, 2, 3, 4, 5, 6, 7, 8, 9, 10, 11, 12, 13, 14, 15, 16, 17, 18, 19] [] [0, 1, 2, 3, 4, 5, 6, 7, 8, 9, 10, 11, 12, 13, 14, 15, 16, 17, 18, 19] rfl rfl rfl rfl (by decide) rfl rfl (fun H locs hP hD hS => ?_)
        obtain ⟨hg_65, hf⟩ := op_if hf
        refine va_iast (f := u1.2 x1.toNatClampNeg) (x := q_62) hx hb hK hP hD hS _ 0 (c13 (P := fun j => ((w1 cy h0 h1 a0 s0) ++ (wP cy h1 a1 u1))[7 + j]? = some (a1 j, .inl (cy 0, 241, .inl (u1.2 j)))) rfl rfl rfl rfl rfl rfl rfl rfl rfl rfl rfl rfl rfl (inb_lt hg_57)) rfl (inb_in hg_65) dX1_priceWays_65 (fun H locs hP hD hS => ?_)
        rw [(c13 (P := fun j => ((w1 cy h0 h1 a0 s0) ++ (wP cy h1 a1 u1)).set (7 + j) (a1 j, .inl (cy 0, 241, .inl (upd (u1.2 j) x2.toNatClampNeg q_62))) = (w1 cy h0 h1 a0 s0) ++ (wP cy h1 a1 (sA u1 j x2.toNatClampNeg q_62))) rfl rfl rfl rfl rfl rfl rfl rfl rfl rfl rfl rfl rfl (inb_lt hg_57))] at hP hD
        refine lv_iinc (v := x2 + (-1)) (lv' := [(2, .int (x2 + (-1))), (0, .ref h0), (1, .int x1)]) hx hb dX1_priceWays_66 hl (k := 2) rfl rfl (by decide) rfl (fun ls hl => ?_)
        refine lv_goto (tgt := 33) hx hb dX1_priceWays_69 (by decide) ?_
        exact ih_33 (sA u1 x1.toNatClampNeg x2.toNatClampNeg q_62) x1 (x2 + (-1)) hf _ _ ls hP hD hS (lv_sub hl [1, 2, 0] rfl)
def f_X1_priceWays_L22  (fu : Nat) (s0 : St) : Nat → St → Int32 → Option (St)
  | 0, _, _ => none
  | n_22 + 1, u1, x1 => if x1 < 0 then (some u1) else (if inb x1 13 = true then (f_X1_priceWays_L33 (f_X1_priceWays_L22 fu s0 n_22) fu s0 fu u1 x1 (s0.2 4 x1.toNatClampNeg)) else none)
set_option maxHeartbeats 4000000 in
set_option maxRecDepth 100000 in
theorem b_X1_priceWays_L22 {p : Program} {e : Env} {s : State} {m : MethodId} {args : Array Value} {below : List Frame} {meth : Method} {c : Code} {A : Nat → Prop} (l : Launch) (D : va_G) (cy : Nat → ClassId) (h0 : Nat) (a0 : Nat → Nat) (s0 : St) (h1 : Nat) (a1 : Nat → Nat) (fu : Nat) (out : St) (C : gC p s m args meth c (WS yX1_priceWays cX1_priceWays 3 none) cX1_priceWays 3 none RX1) (hA : ∀ q : Nat, s.heap.size ≤ q → A q) (hK : va_K D vwCl (TY cy) s)  :
    ∀ (n_22 : Nat), ∀ (u1 : St) (x1 : Int32), f_X1_priceWays_L22 fu s0 n_22 u1 x1 = some out → ∀ (H : Heap) (locs : List Loc) (ls : Array Slot), va_P D vwCl ((w1 cy h0 h1 a0 s0) ++ (wP cy h1 a1 u1)) H → va_D A ((w1 cy h0 h1 a0 s0) ++ (wP cy h1 a1 u1)) → va_S A s.heap H locs → lv_has ls 3 [(0, .ref h0), (1, .int x1)] → W p l e ({ frames := 2, cells := 0, slots := 0, locals := 49 } : Room) s m args below meth c H locs 0 0 (MQ below (gQv D cy A ((w1 cy h0 h1 a0 s0) ++ (wP cy h1 a1 out))) args s 0 0 A) (F0 m 22 ls []) := by
  obtain ⟨hx, hb, hr, hml, hown, hts, hlk⟩ := id C
  have hown : s.vm.findClass RX1 = some m.cls := hown
  have hk_24 := hts _ (List.mem_cons_of_mem _ fl_RX1_24)
  intro n_22
  induction n_22 with
  | zero => intro u1 x1 hf; exact op_no hf
  | succ n_22 ih_22 =>
    intro u1 x1 hf H locs ls hP hD hS hl
    rw [f_X1_priceWays_L22] at hf
    refine lv_iload_n hx hb dX1_priceWays_22 rfl (lv_at hl 1 rfl) ?_
    refine lv_if_lt (tgt := 78) hx hb dX1_priceWays_23 (by decide) (fun c_23 => ?_) (fun c_23 => ?_)
    · have hf := op_pos c_23 hf
      rw [← Option.some.inj hf]
      exact g_vret hx hb hr hlk hK hP hD hS dX1_priceWays_78
    · have hf := op_neg c_23 hf
      refine lv_aload_n hx hb dX1_priceWays_26 rfl (lv_at hl 0 rfl) ?_
      refine va_get (ci := 1) (v := .ref (a0 4)) (C := RX1) (T := TX1) (N := 9) hx hb hts (fun w h => List.mem_cons_of_mem _ (inX1 w h)) hown hK hP 0 rfl rfl 4 (by decide) hk_24 (fun _ h9 => h9) rfl dX1_priceWays_27 ?_
      refine lv_iload_n hx hb dX1_priceWays_30 rfl (lv_at hl 1 rfl) ?_
      obtain ⟨hg_31, hf⟩ := op_if hf
      refine va_iald (f := s0.2 4) hx hb hK hP 5 0 rfl rfl (inb_in hg_31) dX1_priceWays_31 ?_
      refine lv_istore_n (lv' := [(2, .int (s0.2 4 x1.toNatClampNeg)), (0, .ref h0), (1, .int x1)]) hx hb dX1_priceWays_32 rfl hl (by decide) rfl (fun ls hl => ?_)
      exact b_X1_priceWays_L33 l D cy h0 a0 s0 h1 a1 fu out C hA hK (f_X1_priceWays_L22 fu s0 n_22) ih_22 fu u1 x1 (s0.2 4 x1.toNatClampNeg) hf _ _ ls hP hD hS (lv_sub hl [1, 2, 0] rfl)
def f_X1_priceWays (fu : Nat) (s0 : St) (s1 : St)  : Option (St) := if inb (s0.1 8) 13 = true then (if inb (s0.1 6) 241 = true then (f_X1_priceWays_L22 fu s0 fu (sA s1 ((s0.1 8).toNatClampNeg) ((s0.1 6).toNatClampNeg) 0) ((s0.1 8) - 1)) else none) else none
theorem hdX1_priceWays : yX1_priceWays.cls = RX1 ∧ yX1_priceWays.cls ≠ "java/lang/invoke/MethodHandle" ∧ yX1_priceWays.cls ≠ "java/lang/invoke/VarHandle" ∧ (parseMethodDescriptor yX1_priceWays.desc).map (fun d => d.parameters.length) = some 0 := by decide +kernel
set_option maxHeartbeats 4000000 in
set_option maxRecDepth 100000 in
theorem c_X1_priceWays (l : Launch) (D : va_G) (cy : Nat → ClassId) (h0 : Nat) (a0 : Nat → Nat) (s0 : St) (h1 : Nat) (a1 : Nat → Nat) (s1 : St) (sz fu : Nat)  (out : St) (hf : f_X1_priceWays fu s0 s1 = some out) :
    Met l yX1_priceWays (WS yX1_priceWays cX1_priceWays 3 none) ({ frames := 2, cells := 0, slots := 0, locals := 49 } : Room) (va_Pc [.ref h0] (gP D cy sz ((w1 cy h0 h1 a0 s0) ++ (wP cy h1 a1 s1)))) ((fun A : Nat → Prop => gQv D cy A ((w1 cy h0 h1 a0 s0) ++ (wP cy h1 a1 out))) (va_A ((w1 cy h0 h1 a0 s0) ++ (wP cy h1 a1 s1)) sz)) 0 0 (va_A ((w1 cy h0 h1 a0 s0) ++ (wP cy h1 a1 s1)) sz) := by
  refine g_met (cc := cX1_priceWays) (maxL := 3) (ret := none) (fun A : Nat → Prop => gQv D cy A ((w1 cy h0 h1 a0 s0) ++ (wP cy h1 a1 out))) (by decide +kernel) rfl (Nat.le_of_ble_eq_true rfl) ?_
  intro p e s m below meth c A C hA hK hP hD ls hl
  obtain ⟨hx, hb, hr, hml, hown, hts, hlk⟩ := id C
  have hown : s.vm.findClass RX1 = some m.cls := hown
  have hS : va_S A s.heap s.heap [] := va_S.rf
  have hl : lv_has ls 3 [(0, .ref h0)] := hl
  have hk_29 := hts _ (List.mem_cons_of_mem _ fl_RX1_29)
  have hk_49 := hts _ (List.mem_cons_of_mem _ fl_RX1_49)
  have hk_61 := hts _ (List.mem_cons_of_mem _ fl_RX1_61)
  unfold f_X1_priceWays at hf
  refine lv_aload_n hx hb dX1_priceWays_0 rfl (lv_at hl 0 rfl) ?_
  refine va_get (ci := 1) (v := .ref h1) (C := RX1) (T := TX1) (N := 9) hx hb hts (fun w h => List.mem_cons_of_mem _ (inX1 w h)) hown hK hP 0 rfl rfl 5 (by decide) hk_29 (fun _ h9 => h9) rfl dX1_priceWays_1 ?_
  refine lv_aload_n hx hb dX1_priceWays_4 rfl (lv_at hl 0 rfl) ?_
  refine va_get (ci := 1) (v := .int (s0.1 8)) (C := RX1) (T := TX1) (N := 9) hx hb hts (fun w h => List.mem_cons_of_mem _ (inX1 w h)) hown hK hP 0 rfl rfl 8 (by decide) hk_49 (fun _ h9 => h9) rfl dX1_priceWays_5 ?_
  obtain ⟨hg_8, hf⟩ := op_if hf
  refine g_aald2 hx hb hK hP 6 rfl (inb_in hg_8) dX1_priceWays_8 ?_
  refine lv_aload_n hx hb dX1_priceWays_9 rfl (lv_at hl 0 rfl) ?_
  refine va_get (ci := 1) (v := .int (s0.1 6)) (C := RX1) (T := TX1) (N := 9) hx hb hts (fun w h => List.mem_cons_of_mem _ (inX1 w h)) hown hK hP 0 rfl rfl 6 (by decide) hk_61 (fun _ h9 => h9) rfl dX1_priceWays_10 ?_
  refine lv_iconst (v := 0) hx hb dX1_priceWays_13 (by decide) ?_
  obtain ⟨hg_14, hf⟩ := op_if hf
  refine va_iast (f := s1.2 ((s0.1 8).toNatClampNeg)) (x := 0) hx hb hK hP hD hS _ 0 (c13 (P := fun j => ((w1 cy h0 h1 a0 s0) ++ (wP cy h1 a1 s1))[7 + j]? = some (a1 j, .inl (cy 0, 241, .inl (s1.2 j)))) rfl rfl rfl rfl rfl rfl rfl rfl rfl rfl rfl rfl rfl (inb_lt hg_8)) rfl (inb_in hg_14) dX1_priceWays_14 (fun H locs hP hD hS => ?_)
  rw [(c13 (P := fun j => ((w1 cy h0 h1 a0 s0) ++ (wP cy h1 a1 s1)).set (7 + j) (a1 j, .inl (cy 0, 241, .inl (upd (s1.2 j) (s0.1 6).toNatClampNeg 0))) = (w1 cy h0 h1 a0 s0) ++ (wP cy h1 a1 (sA s1 j (s0.1 6).toNatClampNeg 0))) rfl rfl rfl rfl rfl rfl rfl rfl rfl rfl rfl rfl rfl (inb_lt hg_8))] at hP hD
  refine lv_aload_n hx hb dX1_priceWays_15 rfl (lv_at hl 0 rfl) ?_
  refine va_get (ci := 1) (v := .int (s0.1 8)) (C := RX1) (T := TX1) (N := 9) hx hb hts (fun w h => List.mem_cons_of_mem _ (inX1 w h)) hown hK hP 0 rfl rfl 8 (by decide) hk_49 (fun _ h9 => h9) rfl dX1_priceWays_16 ?_
  refine lv_iconst (v := 1) hx hb dX1_priceWays_19 (by decide) ?_
  refine lv_isub hx hb dX1_priceWays_20 ?_
  refine lv_istore_n (lv' := [(1, .int ((s0.1 8) - 1)), (0, .ref h0)]) hx hb dX1_priceWays_21 rfl hl (by decide) rfl (fun ls hl => ?_)
  exact b_X1_priceWays_L22 l D cy h0 a0 s0 h1 a1 fu out C hA hK fu (sA s1 ((s0.1 8).toNatClampNeg) ((s0.1 6).toNatClampNeg) 0) ((s0.1 8) - 1) hf _ _ ls hP hD hS (lv_sub hl [1, 0] rfl)
def f_X1_longestStop_L7  (fu : Nat) (s0 : St) (s1 : St) : Nat → Int32 → Int32 → Int32 → Option (Int32)
  | 0, _, _, _ => none
  | n_7 + 1, x1, x2, x3 => if x3 ≤ x2 then (some x2) else ((f_X1_priceWith fu s0 s1 x1 x2 x3).bind (fun q_16 => if inb x1 13 = true then (if inb x2 241 = true then (if q_16 = (s1.2 x1.toNatClampNeg x2.toNatClampNeg) then (some x3) else (f_X1_longestStop_L7 fu s0 s1 n_7 x1 x2 (x3 + (-1)))) else none) else none))
set_option maxHeartbeats 4000000 in
set_option maxRecDepth 100000 in
theorem b_X1_longestStop_L7 {p : Program} {e : Env} {s : State} {m : MethodId} {args : Array Value} {below : List Frame} {meth : Method} {c : Code} {A : Nat → Prop} (l : Launch) (D : va_G) (cy : Nat → ClassId) (h0 : Nat) (a0 : Nat → Nat) (s0 : St) (h1 : Nat) (a1 : Nat → Nat) (s1 : St) (fu : Nat) (out : Int32) (C : gC p s m args meth c (WS yX1_longestStop cX1_longestStop 4 (some .int)) cX1_longestStop 4 (some .int) RX1) (hA : ∀ q : Nat, s.heap.size ≤ q → A q) (hK : va_K D vwCl (TY cy) s)  :
    ∀ (n_7 : Nat), ∀ (x1 : Int32) (x2 : Int32) (x3 : Int32), f_X1_longestStop_L7 fu s0 s1 n_7 x1 x2 x3 = some out → ∀ (H : Heap) (locs : List Loc) (ls : Array Slot), va_P D vwCl ((w1 cy h0 h1 a0 s0) ++ (wP cy h1 a1 s1)) H → va_D A ((w1 cy h0 h1 a0 s0) ++ (wP cy h1 a1 s1)) → va_S A s.heap H locs → lv_has ls 4 [(0, .ref h0), (1, .int x1), (2, .int x2), (3, .int x3)] → W p l e ({ frames := 1, cells := 0, slots := 0, locals := 24 } : Room) s m args below meth c H locs 0 0 (MQ below (gQi D cy A out ((w1 cy h0 h1 a0 s0) ++ (wP cy h1 a1 s1))) args s 0 0 A) (F0 m 7 ls []) := by
  obtain ⟨hx, hb, hr, hml, hown, hts, hlk⟩ := id C
  have hown : s.vm.findClass RX1 = some m.cls := hown
  have hk_29 := hts _ (List.mem_cons_of_mem _ fl_RX1_29)
  intro n_7
  induction n_7 with
  | zero => intro x1 x2 x3 hf; exact op_no hf
  | succ n_7 ih_7 =>
    intro x1 x2 x3 hf H locs ls hP hD hS hl
    rw [f_X1_longestStop_L7] at hf
    refine lv_iload_n hx hb dX1_longestStop_7 rfl (lv_at hl 3 rfl) ?_
    refine lv_iload_n hx hb dX1_longestStop_8 rfl (lv_at hl 2 rfl) ?_
    refine lv_icmp_le (tgt := 38) hx hb dX1_longestStop_9 (by decide) (fun c_9 => ?_) (fun c_9 => ?_)
    · have hf := op_pos c_9 hf
      refine lv_iload_n hx hb dX1_longestStop_38 rfl (lv_at hl 2 rfl) ?_
      rw [← Option.some.inj hf]
      exact g_iret hx hb hr hlk hK hP hD hS dX1_longestStop_39
    · have hf := op_neg c_9 hf
      refine lv_aload_n hx hb dX1_longestStop_12 rfl (lv_at hl 0 rfl) ?_
      refine lv_iload_n hx hb dX1_longestStop_13 rfl (lv_at hl 1 rfl) ?_
      refine lv_iload_n hx hb dX1_longestStop_14 rfl (lv_at hl 2 rfl) ?_
      refine lv_iload_n hx hb dX1_longestStop_15 rfl (lv_at hl 3 rfl) ?_
      obtain ⟨q_16, hc_16, hf⟩ := op_bind hf
      refine g_callVi (As := [.int x1, .int x2, .int x3]) (rest := []) (w2 := (w1 cy h0 h1 a0 s0) ++ (wP cy h1 a1 s1)) ⟨hx, hb, hml, hown, hts⟩ (c_X1_priceWith l D cy h0 a0 s0 h1 a1 s1 _ fu x1 x2 x3 _ hc_16) (cwV 3 hts (gi_V ml_RX1_80 im_X1_priceWith se_X1_priceWith in_RX1 cd_X1_priceWith) rfl rfl rfl hdX1_priceWith ⟨Nat.le_of_ble_eq_true rfl, Nat.le_of_ble_eq_true rfl⟩) (va_recv hK hP (ci := 1) (q0 := 0) rfl rfl) rfl hl.1 rfl (Nat.le_of_ble_eq_true rfl) dX1_longestStop_16 hK hP hD hS hA [0, 1, 2, 3, 4, 5, 6, 7, 8, 9, 10, 11, 12, 13, 14, 15, 16, 17, 18, 19] [] [0, 1, 2, 3, 4, 5, 6, 7, 8, 9, 10, 11, 12, 13, 14, 15, 16, 17, 18, 19] rfl rfl rfl rfl (by decide) rfl rfl (fun H locs hP hD hS => ?_)
      refine lv_aload_n hx hb dX1_longestStop_19 rfl (lv_at hl 0 rfl) ?_
      refine va_get (ci := 1) (v := .ref h1) (C := RX1) (T := TX1) (N := 9) hx hb hts (fun w h => List.mem_cons_of_mem _ (inX1 w h)) hown hK hP 0 rfl rfl 5 (by decide) hk_29 (fun _ h9 => h9) rfl dX1_longestStop_20 ?_
      refine lv_iload_n hx hb dX1_longestStop_23 rfl (lv_at hl 1 rfl) ?_
      obtain ⟨hg_24, hf⟩ := op_if hf
      refine g_aald2 hx hb hK hP 6 rfl (inb_in hg_24) dX1_longestStop_24 ?_
      refine lv_iload_n hx hb dX1_longestStop_25 rfl (lv_at hl 2 rfl) ?_
      obtain ⟨hg_26, hf⟩ := op_if hf
      refine va_iald (f := s1.2 x1.toNatClampNeg) hx hb hK hP _ 0 (c13 (P := fun j => ((w1 cy h0 h1 a0 s0) ++ (wP cy h1 a1 s1))[7 + j]? = some (a1 j, .inl (cy 0, 241, .inl (s1.2 j)))) rfl rfl rfl rfl rfl rfl rfl rfl rfl rfl rfl rfl rfl (inb_lt hg_24)) rfl (inb_in hg_26) dX1_longestStop_26 ?_
      refine lv_icmp_ne (tgt := 32) hx hb dX1_longestStop_27 (by decide) (fun c_27 => ?_) (fun c_27 => ?_)
      · have hf := op_neg c_27 hf
        refine lv_iinc (v := x3 + (-1)) (lv' := [(3, .int (x3 + (-1))), (0, .ref h0), (1, .int x1), (2, .int x2)]) hx hb dX1_longestStop_32 hl (k := 3) rfl rfl (by decide) rfl (fun ls hl => ?_)
        refine lv_goto (tgt := 7) hx hb dX1_longestStop_35 (by decide) ?_
        exact ih_7 x1 x2 (x3 + (-1)) hf _ _ ls hP hD hS (lv_sub hl [1, 2, 3, 0] rfl)
      · have hf := op_pos c_27 hf
        refine lv_iload_n hx hb dX1_longestStop_30 rfl (lv_at hl 3 rfl) ?_
        rw [← Option.some.inj hf]
        exact g_iret hx hb hr hlk hK hP hD hS dX1_longestStop_31
def f_X1_longestStop (fu : Nat) (s0 : St) (s1 : St)  (p1 : Int32) (p2 : Int32) : Option (Int32) := if inb p2 241 = true then (f_X1_longestStop_L7 fu s0 s1 fu p1 p2 (s0.2 2 p2.toNatClampNeg)) else none
theorem hdX1_longestStop : yX1_longestStop.cls = RX1 ∧ yX1_longestStop.cls ≠ "java/lang/invoke/MethodHandle" ∧ yX1_longestStop.cls ≠ "java/lang/invoke/VarHandle" ∧ (parseMethodDescriptor yX1_longestStop.desc).map (fun d => d.parameters.length) = some 2 := by decide +kernel
set_option maxHeartbeats 4000000 in
set_option maxRecDepth 100000 in
theorem c_X1_longestStop (l : Launch) (D : va_G) (cy : Nat → ClassId) (h0 : Nat) (a0 : Nat → Nat) (s0 : St) (h1 : Nat) (a1 : Nat → Nat) (s1 : St) (sz fu : Nat) (p1 : Int32) (p2 : Int32) (out : Int32) (hf : f_X1_longestStop fu s0 s1 p1 p2 = some out) :
    Met l yX1_longestStop (WS yX1_longestStop cX1_longestStop 4 (some .int)) ({ frames := 1, cells := 0, slots := 0, locals := 24 } : Room) (va_Pc [.ref h0, .int p1, .int p2] (gP D cy sz ((w1 cy h0 h1 a0 s0) ++ (wP cy h1 a1 s1)))) ((fun A : Nat → Prop => gQi D cy A out ((w1 cy h0 h1 a0 s0) ++ (wP cy h1 a1 s1))) (va_A ((w1 cy h0 h1 a0 s0) ++ (wP cy h1 a1 s1)) sz)) 0 0 (va_A ((w1 cy h0 h1 a0 s0) ++ (wP cy h1 a1 s1)) sz) := by
  refine g_met (cc := cX1_longestStop) (maxL := 4) (ret := (some .int)) (fun A : Nat → Prop => gQi D cy A out ((w1 cy h0 h1 a0 s0) ++ (wP cy h1 a1 s1))) (by decide +kernel) rfl (Nat.le_of_ble_eq_true rfl) ?_
  intro p e s m below meth c A C hA hK hP hD ls hl
  obtain ⟨hx, hb, hr, hml, hown, hts, hlk⟩ := id C
  have hown : s.vm.findClass RX1 = some m.cls := hown
  have hS : va_S A s.heap s.heap [] := va_S.rf
  have hl : lv_has ls 4 [(0, .ref h0), (1, .int p1), (2, .int p2)] := hl
  have hk_18 := hts _ (List.mem_cons_of_mem _ fl_RX1_18)
  unfold f_X1_longestStop at hf
  refine lv_aload_n hx hb dX1_longestStop_0 rfl (lv_at hl 0 rfl) ?_
  refine va_get (ci := 1) (v := .ref (a0 2)) (C := RX1) (T := TX1) (N := 9) hx hb hts (fun w h => List.mem_cons_of_mem _ (inX1 w h)) hown hK hP 0 rfl rfl 2 (by decide) hk_18 (fun _ h9 => h9) rfl dX1_longestStop_1 ?_
  refine lv_iload_n hx hb dX1_longestStop_4 rfl (lv_at hl 2 rfl) ?_
  obtain ⟨hg_5, hf⟩ := op_if hf
  refine va_iald (f := s0.2 2) hx hb hK hP 3 0 rfl rfl (inb_in hg_5) dX1_longestStop_5 ?_
  refine lv_istore_n (lv' := [(3, .int (s0.2 2 p2.toNatClampNeg)), (0, .ref h0), (1, .int p1), (2, .int p2)]) hx hb dX1_longestStop_6 rfl hl (by decide) rfl (fun ls hl => ?_)
  exact b_X1_longestStop_L7 l D cy h0 a0 s0 h1 a1 s1 fu out C hA hK fu p1 p2 (s0.2 2 p2.toNatClampNeg) hf _ _ ls hP hD hS (lv_sub hl [1, 2, 3, 0] rfl)
def f_X1_writeRows_L37 (k_4 : St → Int32 → Int32 → Option (St)) (fu : Nat) (s0 : St) (s1 : St) (u2 : St) (x2 : Int32) (x3 : Int32) (t0 : Int32) (t1 : Int32) : Option (St) := (f_X7_setRowEnd fu u2 t1 t0).bind (fun q_37 => k_4 q_37 x2 (x3 + 1))
set_option maxHeartbeats 4000000 in
set_option maxRecDepth 100000 in
theorem b_X1_writeRows_L37 {p : Program} {e : Env} {s : State} {m : MethodId} {args : Array Value} {below : List Frame} {meth : Method} {c : Code} {A : Nat → Prop} (l : Launch) (D : va_G) (cy : Nat → ClassId) (h0 : Nat) (a0 : Nat → Nat) (s0 : St) (h1 : Nat) (a1 : Nat → Nat) (s1 : St) (h2 : Nat) (r2_0 : Nat) (a2 : Nat → Nat) (fu : Nat) (out : St) (C : gC p s m args meth c (WS yX1_writeRows cX1_writeRows 4 none) cX1_writeRows 4 none RX1) (hA : ∀ q : Nat, s.heap.size ≤ q → A q) (hK : va_K D vwCl (TY cy) s) (k_4 : St → Int32 → Int32 → Option (St)) (hk_4 : ∀ (u2 : St) (x2 : Int32) (x3 : Int32), k_4 u2 x2 x3 = some out → ∀ (H : Heap) (locs : List Loc) (ls : Array Slot), va_P D vwCl ((w1 cy h0 h1 a0 s0) ++ (wP cy h1 a1 s1) ++ (w7 cy h2 r2_0 a2 u2)) H → va_D A ((w1 cy h0 h1 a0 s0) ++ (wP cy h1 a1 s1) ++ (w7 cy h2 r2_0 a2 u2)) → va_S A s.heap H locs → lv_has ls 4 [(0, .ref h0), (1, .ref h2), (2, .int x2), (3, .int x3)] → W p l e ({ frames := 2, cells := 0, slots := 0, locals := 47 } : Room) s m args below meth c H locs 0 0 (MQ below (gQv D cy A ((w1 cy h0 h1 a0 s0) ++ (wP cy h1 a1 s1) ++ (w7 cy h2 r2_0 a2 out))) args s 0 0 A) (F0 m 4 ls [])) :
    ∀ (u2 : St) (x2 : Int32) (x3 : Int32) (t0 : Int32) (t1 : Int32), f_X1_writeRows_L37 k_4 fu s0 s1 u2 x2 x3 t0 t1 = some out → ∀ (H : Heap) (locs : List Loc) (ls : Array Slot), va_P D vwCl ((w1 cy h0 h1 a0 s0) ++ (wP cy h1 a1 s1) ++ (w7 cy h2 r2_0 a2 u2)) H → va_D A ((w1 cy h0 h1 a0 s0) ++ (wP cy h1 a1 s1) ++ (w7 cy h2 r2_0 a2 u2)) → va_S A s.heap H locs → lv_has ls 4 [(0, .ref h0), (1, .ref h2), (2, .int x2), (3, .int x3)] → W p l e ({ frames := 2, cells := 0, slots := 0, locals := 47 } : Room) s m args below meth c H locs 0 0 (MQ below (gQv D cy A ((w1 cy h0 h1 a0 s0) ++ (wP cy h1 a1 s1) ++ (w7 cy h2 r2_0 a2 out))) args s 0 0 A) (F0 m 37 ls [.int t0, .int t1, .ref h2]) := by
  obtain ⟨hx, hb, hr, hml, hown, hts, hlk⟩ := id C
  have hown : s.vm.findClass RX1 = some m.cls := hown
  intro u2 x2 x3 t0 t1 hf H locs ls hP hD hS hl
  unfold f_X1_writeRows_L37 at hf
  obtain ⟨q_37, hc_37, hf⟩ := op_bind hf
  refine g_callVv (As := [.int t1, .int t0]) (rest := []) (w2 := (w1 cy h0 h1 a0 s0) ++ (wP cy h1 a1 s1) ++ (w7 cy h2 r2_0 a2 q_37)) ⟨hx, hb, hml, hown, hts⟩ (c_X7_setRowEnd l D cy h2 r2_0 a2 u2 _ fu t1 t0 _ hc_37) (cwV 2 hts (gi_V ml_RX1_87 im_X7_setRowEnd se_X7_setRowEnd in_RX7 cd_X7_setRowEnd) rfl rfl rfl hdX7_setRowEnd ⟨Nat.le_of_ble_eq_true rfl, Nat.le_of_ble_eq_true rfl⟩) (va_recv hK hP (ci := 7) (q0 := 20) rfl rfl) rfl hl.1 rfl (Nat.le_of_ble_eq_true rfl) dX1_writeRows_37 hK hP hD hS hA [20, 21] [0, 1, 2, 3, 4, 5, 6, 7, 8, 9, 10, 11, 12, 13, 14, 15, 16, 17, 18, 19] [0, 1, 2, 3, 4, 5, 6, 7, 8, 9, 10, 11, 12, 13, 14, 15, 16, 17, 18, 19, 20, 21] rfl rfl rfl rfl (by decide) rfl rfl (fun H locs hP hD hS => ?_)
  refine lv_iinc (v := x3 + 1) (lv' := [(3, .int (x3 + 1)), (0, .ref h0), (1, .ref h2), (2, .int x2)]) hx hb dX1_writeRows_40 hl (k := 3) rfl rfl (by decide) rfl (fun ls hl => ?_)
  refine lv_goto (tgt := 4) hx hb dX1_writeRows_43 (by decide) ?_
  exact hk_4 q_37 x2 (x3 + 1) hf _ _ ls hP hD hS (lv_sub hl [1, 2, 3, 0] rfl)
def f_X1_writeRows_L4  (fu : Nat) (s0 : St) (s1 : St) : Nat → St → Int32 → Int32 → Option (St)
  | 0, _, _, _ => none
  | n_4 + 1, u2, x2, x3 => if (s0.1 8) ≤ x3 then (if nz 2 = true then (if inb (0 : Int32) 13 = true then (if inb (0 : Int32) 241 = true then (some (sF (sF u2 4 ((s0.1 8) / 2)) 5 (s1.2 ((0 : Int32).toNatClampNeg) (0 : Int32).toNatClampNeg))) else none) else none) else none) else ((f_X1_longestStop fu s0 s1 x3 x2).bind (fun q_15 => if q_15 ≤ 0 then (f_X1_writeRows_L37 (f_X1_writeRows_L4 fu s0 s1 n_4) fu s0 s1 u2 q_15 x3 0 x3) else (if inb (q_15 - 1) 240 = true then (f_X1_writeRows_L37 (f_X1_writeRows_L4 fu s0 s1 n_4) fu s0 s1 u2 q_15 x3 (s0.2 1 (q_15 - 1).toNatClampNeg) x3) else none)))
set_option maxHeartbeats 4000000 in
set_option maxRecDepth 100000 in
theorem b_X1_writeRows_L4 {p : Program} {e : Env} {s : State} {m : MethodId} {args : Array Value} {below : List Frame} {meth : Method} {c : Code} {A : Nat → Prop} (l : Launch) (D : va_G) (cy : Nat → ClassId) (h0 : Nat) (a0 : Nat → Nat) (s0 : St) (h1 : Nat) (a1 : Nat → Nat) (s1 : St) (h2 : Nat) (r2_0 : Nat) (a2 : Nat → Nat) (fu : Nat) (out : St) (C : gC p s m args meth c (WS yX1_writeRows cX1_writeRows 4 none) cX1_writeRows 4 none RX1) (hA : ∀ q : Nat, s.heap.size ≤ q → A q) (hK : va_K D vwCl (TY cy) s)  :
    ∀ (n_4 : Nat), ∀ (u2 : St) (x2 : Int32) (x3 : Int32), f_X1_writeRows_L4 fu s0 s1 n_4 u2 x2 x3 = some out → ∀ (H : Heap) (locs : List Loc) (ls : Array Slot), va_P D vwCl ((w1 cy h0 h1 a0 s0) ++ (wP cy h1 a1 s1) ++ (w7 cy h2 r2_0 a2 u2)) H → va_D A ((w1 cy h0 h1 a0 s0) ++ (wP cy h1 a1 s1) ++ (w7 cy h2 r2_0 a2 u2)) → va_S A s.heap H locs → lv_has ls 4 [(0, .ref h0), (1, .ref h2), (2, .int x2), (3, .int x3)] → W p l e ({ frames := 2, cells := 0, slots := 0, locals := 47 } : Room) s m args below meth c H locs 0 0 (MQ below (gQv D cy A ((w1 cy h0 h1 a0 s0) ++ (wP cy h1 a1 s1) ++ (w7 cy h2 r2_0 a2 out))) args s 0 0 A) (F0 m 4 ls []) := by
  obtain ⟨hx, hb, hr, hml, hown, hts, hlk⟩ := id C
  have hown : s.vm.findClass RX1 = some m.cls := hown
  have hk_49 := hts _ (List.mem_cons_of_mem _ fl_RX1_49)
  have hk_91 := hts _ (List.mem_cons_of_mem _ fl_RX1_91)
  have hk_29 := hts _ (List.mem_cons_of_mem _ fl_RX1_29)
  have hk_94 := hts _ (List.mem_cons_of_mem _ fl_RX1_94)
  have hk_15 := hts _ (List.mem_cons_of_mem _ fl_RX1_15)
  intro n_4
  induction n_4 with
  | zero => intro u2 x2 x3 hf; exact op_no hf
  | succ n_4 ih_4 =>
    intro u2 x2 x3 hf H locs ls hP hD hS hl
    rw [f_X1_writeRows_L4] at hf
    refine lv_iload_n hx hb dX1_writeRows_4 rfl (lv_at hl 3 rfl) ?_
    refine lv_aload_n hx hb dX1_writeRows_5 rfl (lv_at hl 0 rfl) ?_
    refine va_get (ci := 1) (v := .int (s0.1 8)) (C := RX1) (T := TX1) (N := 9) hx hb hts (fun w h => List.mem_cons_of_mem _ (inX1 w h)) hown hK hP 0 rfl rfl 8 (by decide) hk_49 (fun _ h9 => h9) rfl dX1_writeRows_6 ?_
    refine lv_icmp_ge (tgt := 46) hx hb dX1_writeRows_9 (by decide) (fun c_9 => ?_) (fun c_9 => ?_)
    · have hf := op_pos c_9 hf
      refine lv_aload_n hx hb dX1_writeRows_46 rfl (lv_at hl 1 rfl) ?_
      refine lv_aload_n hx hb dX1_writeRows_47 rfl (lv_at hl 0 rfl) ?_
      refine va_get (ci := 1) (v := .int (s0.1 8)) (C := RX1) (T := TX1) (N := 9) hx hb hts (fun w h => List.mem_cons_of_mem _ (inX1 w h)) hown hK hP 0 rfl rfl 8 (by decide) hk_49 (fun _ h9 => h9) rfl dX1_writeRows_48 ?_
      refine lv_iconst (v := 2) hx hb dX1_writeRows_51 (by decide) ?_
      obtain ⟨hg_52, hf⟩ := op_if hf
      refine lv_idiv hx hb dX1_writeRows_52 (nz_ne hg_52) ?_
      refine va_put (ci := 7) (v := .int ((s0.1 8) / 2)) (ty := tyX7 4) (C := RX7) (T := TX7) (N := 7) hx hb hts (fun w h => List.mem_cons_of_mem _ (inX7 w h)) tyX7 tyX7_ok nmX7 hown hK hP hD hS 20 rfl rfl 4 (by decide) hk_91 (fun _ h9 => h9) rfl (tyX7_ok 4 (by decide)) rfl rfl (Nat.le_of_ble_eq_true rfl) dX1_writeRows_53 (fun H locs hP hD hS => ?_)
      have hP : va_P D vwCl ((w1 cy h0 h1 a0 s0) ++ (wP cy h1 a1 s1) ++ (w7 cy h2 r2_0 a2 (sF u2 4 ((s0.1 8) / 2)))) H := hP
      have hD : va_D A ((w1 cy h0 h1 a0 s0) ++ (wP cy h1 a1 s1) ++ (w7 cy h2 r2_0 a2 (sF u2 4 ((s0.1 8) / 2)))) := hD
      refine lv_aload_n hx hb dX1_writeRows_56 rfl (lv_at hl 1 rfl) ?_
      refine lv_aload_n hx hb dX1_writeRows_57 rfl (lv_at hl 0 rfl) ?_
      refine va_get (ci := 1) (v := .ref h1) (C := RX1) (T := TX1) (N := 9) hx hb hts (fun w h => List.mem_cons_of_mem _ (inX1 w h)) hown hK hP 0 rfl rfl 5 (by decide) hk_29 (fun _ h9 => h9) rfl dX1_writeRows_58 ?_
      refine lv_iconst (v := 0) hx hb dX1_writeRows_61 (by decide) ?_
      obtain ⟨hg_62, hf⟩ := op_if hf
      refine g_aald2 hx hb hK hP 6 rfl (inb_in hg_62) dX1_writeRows_62 ?_
      refine lv_iconst (v := 0) hx hb dX1_writeRows_63 (by decide) ?_
      obtain ⟨hg_64, hf⟩ := op_if hf
      refine va_iald (f := s1.2 ((0 : Int32).toNatClampNeg)) hx hb hK hP _ 0 (c13 (P := fun j => ((w1 cy h0 h1 a0 s0) ++ (wP cy h1 a1 s1) ++ (w7 cy h2 r2_0 a2 (sF u2 4 ((s0.1 8) / 2))))[7 + j]? = some (a1 j, .inl (cy 0, 241, .inl (s1.2 j)))) rfl rfl rfl rfl rfl rfl rfl rfl rfl rfl rfl rfl rfl (inb_lt hg_62)) rfl (inb_in hg_64) dX1_writeRows_64 ?_
      refine va_put (ci := 7) (v := .int (s1.2 ((0 : Int32).toNatClampNeg) (0 : Int32).toNatClampNeg)) (ty := tyX7 5) (C := RX7) (T := TX7) (N := 7) hx hb hts (fun w h => List.mem_cons_of_mem _ (inX7 w h)) tyX7 tyX7_ok nmX7 hown hK hP hD hS 20 rfl rfl 5 (by decide) hk_94 (fun _ h9 => h9) rfl (tyX7_ok 5 (by decide)) rfl rfl (Nat.le_of_ble_eq_true rfl) dX1_writeRows_65 (fun H locs hP hD hS => ?_)
      have hP : va_P D vwCl ((w1 cy h0 h1 a0 s0) ++ (wP cy h1 a1 s1) ++ (w7 cy h2 r2_0 a2 (sF (sF u2 4 ((s0.1 8) / 2)) 5 (s1.2 ((0 : Int32).toNatClampNeg) (0 : Int32).toNatClampNeg)))) H := hP
      have hD : va_D A ((w1 cy h0 h1 a0 s0) ++ (wP cy h1 a1 s1) ++ (w7 cy h2 r2_0 a2 (sF (sF u2 4 ((s0.1 8) / 2)) 5 (s1.2 ((0 : Int32).toNatClampNeg) (0 : Int32).toNatClampNeg)))) := hD
      rw [← Option.some.inj hf]
      exact g_vret hx hb hr hlk hK hP hD hS dX1_writeRows_68
    · have hf := op_neg c_9 hf
      refine lv_aload_n hx hb dX1_writeRows_12 rfl (lv_at hl 0 rfl) ?_
      refine lv_iload_n hx hb dX1_writeRows_13 rfl (lv_at hl 3 rfl) ?_
      refine lv_iload_n hx hb dX1_writeRows_14 rfl (lv_at hl 2 rfl) ?_
      obtain ⟨q_15, hc_15, hf⟩ := op_bind hf
      refine g_callVi (As := [.int x3, .int x2]) (rest := []) (w2 := (w1 cy h0 h1 a0 s0) ++ (wP cy h1 a1 s1) ++ (w7 cy h2 r2_0 a2 u2)) ⟨hx, hb, hml, hown, hts⟩ (c_X1_longestStop l D cy h0 a0 s0 h1 a1 s1 _ fu x3 x2 _ hc_15) (cwV 2 hts (gi_V ml_RX1_84 im_X1_longestStop se_X1_longestStop in_RX1 cd_X1_longestStop) rfl rfl rfl hdX1_longestStop ⟨Nat.le_of_ble_eq_true rfl, Nat.le_of_ble_eq_true rfl⟩) (va_recv hK hP (ci := 1) (q0 := 0) rfl rfl) rfl hl.1 rfl (Nat.le_of_ble_eq_true rfl) dX1_writeRows_15 hK hP hD hS hA [0, 1, 2, 3, 4, 5, 6, 7, 8, 9, 10, 11, 12, 13, 14, 15, 16, 17, 18, 19] [20, 21] [2, 3, 4, 5, 6, 7, 8, 9, 10, 11, 12, 13, 14, 15, 16, 17, 18, 19, 20, 21, 0, 1] rfl rfl rfl rfl (by decide) rfl rfl (fun H locs hP hD hS => ?_)
      refine lv_istore_n (lv' := [(2, .int q_15), (0, .ref h0), (1, .ref h2), (3, .int x3)]) hx hb dX1_writeRows_18 rfl hl (by decide) rfl (fun ls hl => ?_)
      refine lv_aload_n hx hb dX1_writeRows_19 rfl (lv_at hl 2 rfl) ?_
      refine lv_iload_n hx hb dX1_writeRows_20 rfl (lv_at hl 3 rfl) ?_
      refine lv_iload_n hx hb dX1_writeRows_21 rfl (lv_at hl 0 rfl) ?_
      refine lv_if_le (tgt := 36) hx hb dX1_writeRows_22 (by decide) (fun c_22 => ?_) (fun c_22 => ?_)
      · have hf := op_pos c_22 hf
        refine lv_iconst (v := 0) hx hb dX1_writeRows_36 (by decide) ?_
        exact b_X1_writeRows_L37 l D cy h0 a0 s0 h1 a1 s1 h2 r2_0 a2 fu out C hA hK (f_X1_writeRows_L4 fu s0 s1 n_4) ih_4 u2 q_15 x3 0 x3 hf _ _ ls hP hD hS (lv_sub hl [1, 2, 0, 3] rfl)
      · have hf := op_neg c_22 hf
        refine lv_aload_n hx hb dX1_writeRows_25 rfl (lv_at hl 1 rfl) ?_
        refine va_get (ci := 1) (v := .ref (a0 1)) (C := RX1) (T := TX1) (N := 9) hx hb hts (fun w h => List.mem_cons_of_mem _ (inX1 w h)) hown hK hP 0 rfl rfl 1 (by decide) hk_15 (fun _ h9 => h9) rfl dX1_writeRows_26 ?_
        refine lv_iload_n hx hb dX1_writeRows_29 rfl (lv_at hl 0 rfl) ?_
        refine lv_iconst (v := 1) hx hb dX1_writeRows_30 (by decide) ?_
        refine lv_isub hx hb dX1_writeRows_31 ?_
        obtain ⟨hg_32, hf⟩ := op_if hf
        refine va_iald (f := s0.2 1) hx hb hK hP 2 0 rfl rfl (inb_in hg_32) dX1_writeRows_32 ?_
        refine lv_goto (tgt := 37) hx hb dX1_writeRows_33 (by decide) ?_
        exact b_X1_writeRows_L37 l D cy h0 a0 s0 h1 a1 s1 h2 r2_0 a2 fu out C hA hK (f_X1_writeRows_L4 fu s0 s1 n_4) ih_4 u2 q_15 x3 (s0.2 1 (q_15 - 1).toNatClampNeg) x3 hf _ _ ls hP hD hS (lv_sub hl [1, 2, 0, 3] rfl)
def f_X1_writeRows (fu : Nat) (s0 : St) (s1 : St) (s2 : St)  : Option (St) := f_X1_writeRows_L4 fu s0 s1 fu s2 0 0
theorem hdX1_writeRows : yX1_writeRows.cls = RX1 ∧ yX1_writeRows.cls ≠ "java/lang/invoke/MethodHandle" ∧ yX1_writeRows.cls ≠ "java/lang/invoke/VarHandle" ∧ (parseMethodDescriptor yX1_writeRows.desc).map (fun d => d.parameters.length) = some 1 := by decide +kernel
set_option maxHeartbeats 4000000 in
set_option maxRecDepth 100000 in
theorem c_X1_writeRows (l : Launch) (D : va_G) (cy : Nat → ClassId) (h0 : Nat) (a0 : Nat → Nat) (s0 : St) (h1 : Nat) (a1 : Nat → Nat) (s1 : St) (h2 : Nat) (r2_0 : Nat) (a2 : Nat → Nat) (s2 : St) (sz fu : Nat)  (out : St) (hf : f_X1_writeRows fu s0 s1 s2 = some out) :
    Met l yX1_writeRows (WS yX1_writeRows cX1_writeRows 4 none) ({ frames := 2, cells := 0, slots := 0, locals := 47 } : Room) (va_Pc [.ref h0, .ref h2] (gP D cy sz ((w1 cy h0 h1 a0 s0) ++ (wP cy h1 a1 s1) ++ (w7 cy h2 r2_0 a2 s2)))) ((fun A : Nat → Prop => gQv D cy A ((w1 cy h0 h1 a0 s0) ++ (wP cy h1 a1 s1) ++ (w7 cy h2 r2_0 a2 out))) (va_A ((w1 cy h0 h1 a0 s0) ++ (wP cy h1 a1 s1) ++ (w7 cy h2 r2_0 a2 s2)) sz)) 0 0 (va_A ((w1 cy h0 h1 a0 s0) ++ (wP cy h1 a1 s1) ++ (w7 cy h2 r2_0 a2 s2)) sz) := by
  refine g_met (cc := cX1_writeRows) (maxL := 4) (ret := none) (fun A : Nat → Prop => gQv D cy A ((w1 cy h0 h1 a0 s0) ++ (wP cy h1 a1 s1) ++ (w7 cy h2 r2_0 a2 out))) (by decide +kernel) rfl (Nat.le_of_ble_eq_true rfl) ?_
  intro p e s m below meth c A C hA hK hP hD ls hl
  obtain ⟨hx, hb, hr, hml, hown, hts, hlk⟩ := id C
  have hown : s.vm.findClass RX1 = some m.cls := hown
  have hS : va_S A s.heap s.heap [] := va_S.rf
  have hl : lv_has ls 4 [(0, .ref h0), (1, .ref h2)] := hl
  unfold f_X1_writeRows at hf
  refine lv_iconst (v := 0) hx hb dX1_writeRows_0 (by decide) ?_
  refine lv_istore_n (lv' := [(2, .int 0), (0, .ref h0), (1, .ref h2)]) hx hb dX1_writeRows_1 rfl hl (by decide) rfl (fun ls hl => ?_)
  refine lv_iconst (v := 0) hx hb dX1_writeRows_2 (by decide) ?_
  refine lv_istore_n (lv' := [(3, .int 0), (2, .int 0), (0, .ref h0), (1, .ref h2)]) hx hb dX1_writeRows_3 rfl hl (by decide) rfl (fun ls hl => ?_)
  exact b_X1_writeRows_L4 l D cy h0 a0 s0 h1 a1 s1 h2 r2_0 a2 fu out C hA hK fu s2 0 0 hf _ _ ls hP hD hS (lv_sub hl [2, 3, 1, 0] rfl)
def f_X1_layOut (fu : Nat) (n3 : Nat) (b3 : Nat → Int32) (s0 : St) (s1 : St) (s2 : St) (p2 : Int32) : Option (St × St × St) := (f_X1_findWords fu s2 n3 b3 (sF s0 7 p2)).bind (fun q_7 => (f_X1_fillRows fu s1 q_7).bind (fun q_11 => if inb (0 : Int32) 241 = true then (if nz 2 = true then ((f_X1_forgetPrices fu (sF q_11 8 (if (((((q_11.2 3 (0 : Int32).toNatClampNeg) + 2) - 1) / 2) * 2) < 12 then (((((q_11.2 3 (0 : Int32).toNatClampNeg) + 2) - 1) / 2) * 2) else 12)) s1).bind (fun q_40 => (f_X1_priceWays fu (sF q_11 8 (if (((((q_11.2 3 (0 : Int32).toNatClampNeg) + 2) - 1) / 2) * 2) < 12 then (((((q_11.2 3 (0 : Int32).toNatClampNeg) + 2) - 1) / 2) * 2) else 12)) q_40).bind (fun q_44 => (f_X1_writeRows fu (sF q_11 8 (if (((((q_11.2 3 (0 : Int32).toNatClampNeg) + 2) - 1) / 2) * 2) < 12 then (((((q_11.2 3 (0 : Int32).toNatClampNeg) + 2) - 1) / 2) * 2) else 12)) q_44 s2).bind (fun q_49 => some (sF q_11 8 (if (((((q_11.2 3 (0 : Int32).toNatClampNeg) + 2) - 1) / 2) * 2) < 12 then (((((q_11.2 3 (0 : Int32).toNatClampNeg) + 2) - 1) / 2) * 2) else 12), q_44, q_49))))) else none) else none))
theorem hdX1_layOut : yX1_layOut.cls = RX1 ∧ yX1_layOut.cls ≠ "java/lang/invoke/MethodHandle" ∧ yX1_layOut.cls ≠ "java/lang/invoke/VarHandle" ∧ (parseMethodDescriptor yX1_layOut.desc).map (fun d => d.parameters.length) = some 2 := by decide +kernel
set_option maxHeartbeats 4000000 in
set_option maxRecDepth 100000 in
theorem c_X1_layOut (l : Launch) (D : va_G) (cy : Nat → ClassId) (h0 : Nat) (a0 : Nat → Nat) (s0 : St) (h1 : Nat) (a1 : Nat → Nat) (s1 : St) (h2 : Nat) (a2 : Nat → Nat) (s2 : St) (h3 : Nat) (n3 : Nat) (b3 : Nat → Int32) (sz fu : Nat) (p2 : Int32) (out : St × St × St) (hf : f_X1_layOut fu n3 b3 s0 s1 s2 p2 = some out) :
    Met l yX1_layOut (WS yX1_layOut cX1_layOut 4 none) ({ frames := 3, cells := 0, slots := 0, locals := 71 } : Room) (va_Pc [.ref h0, .ref h2, .int p2] (gP D cy sz ((w1 cy h0 h1 a0 s0) ++ (wP cy h1 a1 s1) ++ (w7 cy h2 h3 a2 s2) ++ (wV cy h3 n3 b3)))) ((fun A : Nat → Prop => gQv D cy A ((w1 cy h0 h1 a0 out.1) ++ (wP cy h1 a1 out.2.1) ++ (w7 cy h2 h3 a2 out.2.2) ++ (wV cy h3 n3 b3))) (va_A ((w1 cy h0 h1 a0 s0) ++ (wP cy h1 a1 s1) ++ (w7 cy h2 h3 a2 s2) ++ (wV cy h3 n3 b3)) sz)) 0 0 (va_A ((w1 cy h0 h1 a0 s0) ++ (wP cy h1 a1 s1) ++ (w7 cy h2 h3 a2 s2) ++ (wV cy h3 n3 b3)) sz) := by
  refine g_met (cc := cX1_layOut) (maxL := 4) (ret := none) (fun A : Nat → Prop => gQv D cy A ((w1 cy h0 h1 a0 out.1) ++ (wP cy h1 a1 out.2.1) ++ (w7 cy h2 h3 a2 out.2.2) ++ (wV cy h3 n3 b3))) (by decide +kernel) rfl (Nat.le_of_ble_eq_true rfl) ?_
  intro p e s m below meth c A C hA hK hP hD ls hl
  obtain ⟨hx, hb, hr, hml, hown, hts, hlk⟩ := id C
  have hown : s.vm.findClass RX1 = some m.cls := hown
  have hS : va_S A s.heap s.heap [] := va_S.rf
  have hl : lv_has ls 4 [(0, .ref h0), (1, .ref h2), (2, .int p2)] := hl
  have hk_32 := hts _ (List.mem_cons_of_mem _ fl_RX1_32)
  have hk_21 := hts _ (List.mem_cons_of_mem _ fl_RX1_21)
  have hml_43 := hts _ (List.mem_cons_of_mem _ ml_RX1_43)
  have hms_min := hts _ (List.mem_cons_of_mem _ sm_min)
  have hmi_min := hts _ (List.mem_cons_of_mem _ in_Math)
  have hmc_min := hts _ (List.mem_cons_of_mem _ cd_min)
  have hk_49 := hts _ (List.mem_cons_of_mem _ fl_RX1_49)
  unfold f_X1_layOut at hf
  refine lv_aload_n hx hb dX1_layOut_0 rfl (lv_at hl 0 rfl) ?_
  refine lv_iload_n hx hb dX1_layOut_1 rfl (lv_at hl 2 rfl) ?_
  refine va_put (ci := 1) (v := .int p2) (ty := tyX1 7) (C := RX1) (T := TX1) (N := 9) hx hb hts (fun w h => List.mem_cons_of_mem _ (inX1 w h)) tyX1 tyX1_ok nmX1 hown hK hP hD hS 0 rfl rfl 7 (by decide) hk_32 (fun _ h9 => h9) rfl (tyX1_ok 7 (by decide)) rfl rfl (Nat.le_of_ble_eq_true rfl) dX1_layOut_2 (fun H locs hP hD hS => ?_)
  have hP : va_P D vwCl ((w1 cy h0 h1 a0 (sF s0 7 p2)) ++ (wP cy h1 a1 s1) ++ (w7 cy h2 h3 a2 s2) ++ (wV cy h3 n3 b3)) H := hP
  have hD : va_D A ((w1 cy h0 h1 a0 (sF s0 7 p2)) ++ (wP cy h1 a1 s1) ++ (w7 cy h2 h3 a2 s2) ++ (wV cy h3 n3 b3)) := hD
  refine lv_aload_n hx hb dX1_layOut_5 rfl (lv_at hl 0 rfl) ?_
  refine lv_aload_n hx hb dX1_layOut_6 rfl (lv_at hl 1 rfl) ?_
  obtain ⟨q_7, hc_7, hf⟩ := op_bind hf
  refine g_callVv (As := [.ref h2]) (rest := []) (w2 := (w1 cy h0 h1 a0 q_7) ++ (wP cy h1 a1 s1) ++ (w7 cy h2 h3 a2 s2) ++ (wV cy h3 n3 b3)) ⟨hx, hb, hml, hown, hts⟩ (c_X1_findWords l D cy h0 h1 a0 (sF s0 7 p2) h2 a2 s2 h3 n3 b3 _ fu _ hc_7) (cwV 1 hts (gi_V ml_RX1_36 im_X1_findWords se_X1_findWords in_RX1 cd_X1_findWords) rfl rfl rfl hdX1_findWords ⟨Nat.le_of_ble_eq_true rfl, Nat.le_of_ble_eq_true rfl⟩) (va_recv hK hP (ci := 1) (q0 := 0) rfl rfl) rfl hl.1 rfl (Nat.le_of_ble_eq_true rfl) dX1_layOut_7 hK hP hD hS hA [0, 1, 2, 3, 4, 5, 20, 21, 22] [6, 7, 8, 9, 10, 11, 12, 13, 14, 15, 16, 17, 18, 19] [14, 15, 16, 17, 18, 19, 0, 1, 2, 3, 4, 5, 6, 7, 8, 9, 10, 11, 12, 13, 20, 21, 22] rfl rfl rfl rfl (by decide) rfl rfl (fun H locs hP hD hS => ?_)
  refine lv_aload_n hx hb dX1_layOut_10 rfl (lv_at hl 0 rfl) ?_
  obtain ⟨q_11, hc_11, hf⟩ := op_bind hf
  refine g_callVv (As := []) (rest := []) (w2 := (w1 cy h0 h1 a0 q_11) ++ (wP cy h1 a1 s1) ++ (w7 cy h2 h3 a2 s2) ++ (wV cy h3 n3 b3)) ⟨hx, hb, hml, hown, hts⟩ (c_X1_fillRows l D cy h0 a0 q_7 h1 a1 s1 _ fu _ hc_11) (cwV 0 hts (gi_V ml_RX1_40 im_X1_fillRows se_X1_fillRows in_RX1 cd_X1_fillRows) rfl rfl rfl hdX1_fillRows ⟨Nat.le_of_ble_eq_true rfl, Nat.le_of_ble_eq_true rfl⟩) (va_recv hK hP (ci := 1) (q0 := 0) rfl rfl) rfl hl.1 rfl (Nat.le_of_ble_eq_true rfl) dX1_layOut_11 hK hP hD hS hA [0, 1, 2, 3, 4, 5, 6, 7, 8, 9, 10, 11, 12, 13, 14, 15, 16, 17, 18, 19] [20, 21, 22] [3, 4, 5, 6, 7, 8, 9, 10, 11, 12, 13, 14, 15, 16, 17, 18, 19, 20, 21, 22, 0, 1, 2] rfl rfl rfl rfl (by decide) rfl rfl (fun H locs hP hD hS => ?_)
  refine lv_aload_n hx hb dX1_layOut_14 rfl (lv_at hl 0 rfl) ?_
  refine va_get (ci := 1) (v := .ref (a0 3)) (C := RX1) (T := TX1) (N := 9) hx hb hts (fun w h => List.mem_cons_of_mem _ (inX1 w h)) hown hK hP 0 rfl rfl 3 (by decide) hk_21 (fun _ h9 => h9) rfl dX1_layOut_15 ?_
  refine lv_iconst (v := 0) hx hb dX1_layOut_18 (by decide) ?_
  obtain ⟨hg_19, hf⟩ := op_if hf
  refine va_iald (f := q_11.2 3) hx hb hK hP 4 0 rfl rfl (inb_in hg_19) dX1_layOut_19 ?_
  refine lv_iconst (v := 2) hx hb dX1_layOut_20 (by decide) ?_
  refine lv_iadd hx hb dX1_layOut_21 ?_
  refine lv_iconst (v := 1) hx hb dX1_layOut_22 (by decide) ?_
  refine lv_isub hx hb dX1_layOut_23 ?_
  refine lv_iconst (v := 2) hx hb dX1_layOut_24 (by decide) ?_
  obtain ⟨hg_25, hf⟩ := op_if hf
  refine lv_idiv hx hb dX1_layOut_25 (nz_ne hg_25) ?_
  refine lv_istore_n (lv' := [(3, .int ((((q_11.2 3 (0 : Int32).toNatClampNeg) + 2) - 1) / 2)), (0, .ref h0), (1, .ref h2), (2, .int p2)]) hx hb dX1_layOut_26 rfl hl (by decide) rfl (fun ls hl => ?_)
  refine lv_aload_n hx hb dX1_layOut_27 rfl (lv_at hl 1 rfl) ?_
  refine lv_bipush (v := 12) hx hb dX1_layOut_28 (by decide) ?_
  refine lv_iload_n hx hb dX1_layOut_30 rfl (lv_at hl 0 rfl) ?_
  refine lv_iconst (v := 2) hx hb dX1_layOut_31 (by decide) ?_
  refine lv_imul hx hb dX1_layOut_32 ?_
  refine va_mmin hx hb (hml.trans hl.1.symm) hown hml_43 hms_min hmi_min hmc_min (Nat.le_of_ble_eq_true rfl) (Nat.le_of_ble_eq_true rfl) (Nat.zero_le _) (Nat.zero_le _) dX1_layOut_33 ?_
  refine va_put (ci := 1) (v := .int (if (((((q_11.2 3 (0 : Int32).toNatClampNeg) + 2) - 1) / 2) * 2) < 12 then (((((q_11.2 3 (0 : Int32).toNatClampNeg) + 2) - 1) / 2) * 2) else 12)) (ty := tyX1 8) (C := RX1) (T := TX1) (N := 9) hx hb hts (fun w h => List.mem_cons_of_mem _ (inX1 w h)) tyX1 tyX1_ok nmX1 hown hK hP hD hS 0 rfl rfl 8 (by decide) hk_49 (fun _ h9 => h9) rfl (tyX1_ok 8 (by decide)) rfl rfl (Nat.le_of_ble_eq_true rfl) dX1_layOut_36 (fun H locs hP hD hS => ?_)
  have hP : va_P D vwCl ((w1 cy h0 h1 a0 (sF q_11 8 (if (((((q_11.2 3 (0 : Int32).toNatClampNeg) + 2) - 1) / 2) * 2) < 12 then (((((q_11.2 3 (0 : Int32).toNatClampNeg) + 2) - 1) / 2) * 2) else 12))) ++ (wP cy h1 a1 s1) ++ (w7 cy h2 h3 a2 s2) ++ (wV cy h3 n3 b3)) H := hP
  have hD : va_D A ((w1 cy h0 h1 a0 (sF q_11 8 (if (((((q_11.2 3 (0 : Int32).toNatClampNeg) + 2) - 1) / 2) * 2) < 12 then (((((q_11.2 3 (0 : Int32).toNatClampNeg) + 2) - 1) / 2) * 2) else 12))) ++ (wP cy h1 a1 s1) ++ (w7 cy h2 h3 a2 s2) ++ (wV cy h3 n3 b3)) := hD
  refine lv_aload_n hx hb dX1_layOut_39 rfl (lv_at hl 1 rfl) ?_
  obtain ⟨q_40, hc_40, hf⟩ := op_bind hf
  refine g_callVv (As := []) (rest := []) (w2 := (w1 cy h0 h1 a0 (sF q_11 8 (if (((((q_11.2 3 (0 : Int32).toNatClampNeg) + 2) - 1) / 2) * 2) < 12 then (((((q_11.2 3 (0 : Int32).toNatClampNeg) + 2) - 1) / 2) * 2) else 12))) ++ (wP cy h1 a1 q_40) ++ (w7 cy h2 h3 a2 s2) ++ (wV cy h3 n3 b3)) ⟨hx, hb, hml, hown, hts⟩ (c_X1_forgetPrices l D cy h0 a0 (sF q_11 8 (if (((((q_11.2 3 (0 : Int32).toNatClampNeg) + 2) - 1) / 2) * 2) < 12 then (((((q_11.2 3 (0 : Int32).toNatClampNeg) + 2) - 1) / 2) * 2) else 12)) h1 a1 s1 _ fu _ hc_40) (cwV 0 hts (gi_V ml_RX1_52 im_X1_forgetPrices se_X1_forgetPrices in_RX1 cd_X1_forgetPrices) rfl rfl rfl hdX1_forgetPrices ⟨Nat.le_of_ble_eq_true rfl, Nat.le_of_ble_eq_true rfl⟩) (va_recv hK hP (ci := 1) (q0 := 0) rfl rfl) rfl hl.1 rfl (Nat.le_of_ble_eq_true rfl) dX1_layOut_40 hK hP hD hS hA [0, 1, 2, 3, 4, 5, 6, 7, 8, 9, 10, 11, 12, 13, 14, 15, 16, 17, 18, 19] [20, 21, 22] [3, 4, 5, 6, 7, 8, 9, 10, 11, 12, 13, 14, 15, 16, 17, 18, 19, 20, 21, 22, 0, 1, 2] rfl rfl rfl rfl (by decide) rfl rfl (fun H locs hP hD hS => ?_)
  refine lv_aload_n hx hb dX1_layOut_43 rfl (lv_at hl 1 rfl) ?_
  obtain ⟨q_44, hc_44, hf⟩ := op_bind hf
  refine g_callVv (As := []) (rest := []) (w2 := (w1 cy h0 h1 a0 (sF q_11 8 (if (((((q_11.2 3 (0 : Int32).toNatClampNeg) + 2) - 1) / 2) * 2) < 12 then (((((q_11.2 3 (0 : Int32).toNatClampNeg) + 2) - 1) / 2) * 2) else 12))) ++ (wP cy h1 a1 q_44) ++ (w7 cy h2 h3 a2 s2) ++ (wV cy h3 n3 b3)) ⟨hx, hb, hml, hown, hts⟩ (c_X1_priceWays l D cy h0 a0 (sF q_11 8 (if (((((q_11.2 3 (0 : Int32).toNatClampNeg) + 2) - 1) / 2) * 2) < 12 then (((((q_11.2 3 (0 : Int32).toNatClampNeg) + 2) - 1) / 2) * 2) else 12)) h1 a1 q_40 _ fu _ hc_44) (cwV 0 hts (gi_V ml_RX1_55 im_X1_priceWays se_X1_priceWays in_RX1 cd_X1_priceWays) rfl rfl rfl hdX1_priceWays ⟨Nat.le_of_ble_eq_true rfl, Nat.le_of_ble_eq_true rfl⟩) (va_recv hK hP (ci := 1) (q0 := 0) rfl rfl) rfl hl.1 rfl (Nat.le_of_ble_eq_true rfl) dX1_layOut_44 hK hP hD hS hA [0, 1, 2, 3, 4, 5, 6, 7, 8, 9, 10, 11, 12, 13, 14, 15, 16, 17, 18, 19] [20, 21, 22] [3, 4, 5, 6, 7, 8, 9, 10, 11, 12, 13, 14, 15, 16, 17, 18, 19, 20, 21, 22, 0, 1, 2] rfl rfl rfl rfl (by decide) rfl rfl (fun H locs hP hD hS => ?_)
  refine lv_aload_n hx hb dX1_layOut_47 rfl (lv_at hl 1 rfl) ?_
  refine lv_aload_n hx hb dX1_layOut_48 rfl (lv_at hl 2 rfl) ?_
  obtain ⟨q_49, hc_49, hf⟩ := op_bind hf
  refine g_callVv (As := [.ref h2]) (rest := []) (w2 := (w1 cy h0 h1 a0 (sF q_11 8 (if (((((q_11.2 3 (0 : Int32).toNatClampNeg) + 2) - 1) / 2) * 2) < 12 then (((((q_11.2 3 (0 : Int32).toNatClampNeg) + 2) - 1) / 2) * 2) else 12))) ++ (wP cy h1 a1 q_44) ++ (w7 cy h2 h3 a2 q_49) ++ (wV cy h3 n3 b3)) ⟨hx, hb, hml, hown, hts⟩ (c_X1_writeRows l D cy h0 a0 (sF q_11 8 (if (((((q_11.2 3 (0 : Int32).toNatClampNeg) + 2) - 1) / 2) * 2) < 12 then (((((q_11.2 3 (0 : Int32).toNatClampNeg) + 2) - 1) / 2) * 2) else 12)) h1 a1 q_44 h2 h3 a2 s2 _ fu _ hc_49) (cwV 1 hts (gi_V ml_RX1_58 im_X1_writeRows se_X1_writeRows in_RX1 cd_X1_writeRows) rfl rfl rfl hdX1_writeRows ⟨Nat.le_of_ble_eq_true rfl, Nat.le_of_ble_eq_true rfl⟩) (va_recv hK hP (ci := 1) (q0 := 0) rfl rfl) rfl hl.1 rfl (Nat.le_of_ble_eq_true rfl) dX1_layOut_49 hK hP hD hS hA [0, 1, 2, 3, 4, 5, 6, 7, 8, 9, 10, 11, 12, 13, 14, 15, 16, 17, 18, 19, 20, 21] [22] [1, 2, 3, 4, 5, 6, 7, 8, 9, 10, 11, 12, 13, 14, 15, 16, 17, 18, 19, 20, 21, 22, 0] rfl rfl rfl rfl (by decide) rfl rfl (fun H locs hP hD hS => ?_)
  rw [← Option.some.inj hf]
  exact g_vret hx hb hr hlk hK hP hD hS dX1_layOut_52
