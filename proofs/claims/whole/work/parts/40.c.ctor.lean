theorem va_D_keys {A : Nat → Prop} {a b : va_W} (hab : a.map Prod.fst = b.map Prod.fst) (h : va_D A a) : va_D A b := by
  obtain ⟨u1, u2⟩ := va_D_pw.mp h
  have t1 : (a.map Prod.fst).Pairwise (fun x y => x ≠ y) := List.pairwise_map.mpr u1
  rw [hab] at t1
  refine va_D_pw.mpr ⟨List.pairwise_map.mp t1, fun q hq => ?_⟩
  have t2 : q.1 ∈ a.map Prod.fst := by rw [hab]; exact List.mem_map.mpr ⟨q, hq, rfl⟩
  obtain ⟨z, hz, e⟩ := List.mem_map.mp t2
  rw [← e]
  exact u2 z hz
def fmB (cy : Nat → ClassId) (g : Nat) (a r : Nat → Nat) (i : Nat) : va_W := (List.range i).flatMap (wm cy a r (fun _ => s0i, fun _ => g))
theorem fmB_len (cy : Nat → ClassId) (g : Nat) (a r : Nat → Nat) (i : Nat) : (fmB cy g a r i).length = 2 * i := by
  induction i with
  | zero => rfl
  | succ i ih =>
    unfold fmB at ih ⊢
    rw [List.range_succ, List.flatMap_append, List.length_append, ih]
    show 2 * i + 2 = _
    omega
theorem fmB_succ (cy : Nat → ClassId) (g : Nat) (a r : Nat → Nat) (i q x : Nat) : fmB cy g a r i ++ w7 cy q g (fun _ => x) s0i = fmB cy g (va_up a i q) (va_up r i x) (i + 1) := by
  unfold fmB
  rw [List.range_succ, List.flatMap_append]
  have e : ∀ l : List Nat, (∀ j ∈ l, j ≠ i) → l.flatMap (wm cy a r (fun _ => s0i, fun _ => g)) = l.flatMap (wm cy (va_up a i q) (va_up r i x) (fun _ => s0i, fun _ => g)) := by
    intro l hl
    induction l with
    | nil => rfl
    | cons j l ih =>
      rw [List.flatMap_cons, List.flatMap_cons, ih (fun k hk => hl k (List.mem_cons_of_mem _ hk))]
      have hj := hl j List.mem_cons_self
      unfold wm
      rw [va_up_ne _ _ hj, va_up_ne _ _ hj]
  rw [e (List.range i) (fun j hj => by have := List.mem_range.mp hj; omega)]
  congr 1
  show _ = wm cy (va_up a i q) (va_up r i x) (fun _ => s0i, fun _ => g) i ++ []
  rw [List.append_nil]
  unfold wm
  rw [va_up_self, va_up_self]
set_option maxHeartbeats 4000000 in
set_option maxRecDepth 100000 in
theorem b_X0_init_L49 {p : Program} {e : Env} {s : State} {m : MethodId} {args : Array Value} {below : List Frame} {meth : Method} {c : Code} {A : Nat → Prop} (l : Launch) (D : va_G) (cy : Nat → ClassId) (h0 r g : Nat) (C : gC p s m args meth c (WS yX0_init cX0_init 4 none) cX0_init 4 none RX0) (hA : ∀ q : Nat, s.heap.size ≤ q → A q) (hM : gM s) (hK : va_K D vwCl (TY cy) s) (q8 rn rb : Nat) (X : va_W) (Q : State → Prop)
    (kk : ∀ (fA : Nat → Option Nat) (a rE : Nat → Nat), (∀ j, j < 160 → fA j = some (a j)) → ∀ (H : Heap) (locs : List Loc) (ls : Array Slot), va_P D vwCl (([(h0, .inr (0, [.ref q8, .ref rn, .ref rb, .ref r, .ref g])), (q8, .inl (cy 4, 160, .inr (.inr (.inr (.inr fA)))))] ++ X) ++ fmB cy g a rE 160) H → va_D A (([(h0, .inr (0, [.ref q8, .ref rn, .ref rb, .ref r, .ref g])), (q8, .inl (cy 4, 160, .inr (.inr (.inr (.inr fA)))))] ++ X) ++ fmB cy g a rE 160) → va_S A s.heap H locs → W p l e ({ frames := 2, cells := 343, slots := 7349, locals := 33 } : Room) s m args below meth c H locs (23 + 2 * 160) (4309 + 19 * 160) Q (F0 m 78 ls [])) :
    ∀ (n i : Nat) (fA : Nat → Option Nat) (a rE : Nat → Nat), i + n = 160 → (∀ j, j < i → fA j = some (a j)) → ∀ (H : Heap) (locs : List Loc) (ls : Array Slot), va_P D vwCl (([(h0, .inr (0, [.ref q8, .ref rn, .ref rb, .ref r, .ref g])), (q8, .inl (cy 4, 160, .inr (.inr (.inr (.inr fA)))))] ++ X) ++ fmB cy g a rE i) H → va_D A (([(h0, .inr (0, [.ref q8, .ref rn, .ref rb, .ref r, .ref g])), (q8, .inl (cy 4, 160, .inr (.inr (.inr (.inr fA)))))] ++ X) ++ fmB cy g a rE i) → va_S A s.heap H locs → lv_has ls 4 [(0, .ref h0), (2, .ref g), (3, .int (nI i))] → W p l e ({ frames := 2, cells := 343, slots := 7349, locals := 33 } : Room) s m args below meth c H locs (23 + 2 * i) (4309 + 19 * i) Q (F0 m 49 ls []) := by
  obtain ⟨hx, hb, hr, hml, hown, hts, hlk⟩ := id C
  have hown : s.vm.findClass RX0 = some m.cls := hown
  intro n
  induction n with
  | zero =>
    intro i fA a rE hi hf H locs ls hP hD hS hl
    have hi : i = 160 := by omega
    subst hi
    refine lv_iload_n hx hb dX0_init_49 rfl (lv_at hl 2 rfl) ?_
    refine lv_aload_n hx hb dX0_init_50 rfl (lv_at hl 0 rfl) ?_
    refine va_get (ci := 0) (v := .ref q8) (C := RX0) (T := TX0) (N := 5) hx hb hts (fun w h => List.mem_cons_of_mem _ (inX0 w h)) hown hK hP 0 rfl rfl 0 (by decide) (hts _ (List.mem_cons_of_mem _ fl_RX0_11)) (fun _ h9 => h9) rfl dX0_init_51 ?_
    refine va_alen (v := 160) hx hb hK hP 1 4 rfl rfl rfl dX0_init_54 ?_
    refine lv_icmp_ge (tgt := 78) hx hb dX0_init_55 (by decide) (fun c_55 => ?_) (fun c_55 => ?_)
    · exact kk fA a rE hf _ _ ls hP hD hS
    · exact absurd (show (160 : Int32) ≤ nI 160 by decide) c_55
  | succ n ih =>
    intro i fA a rE hi hf H locs ls hP hD hS hl
    refine lv_iload_n hx hb dX0_init_49 rfl (lv_at hl 2 rfl) ?_
    refine lv_aload_n hx hb dX0_init_50 rfl (lv_at hl 0 rfl) ?_
    refine va_get (ci := 0) (v := .ref q8) (C := RX0) (T := TX0) (N := 5) hx hb hts (fun w h => List.mem_cons_of_mem _ (inX0 w h)) hown hK hP 0 rfl rfl 0 (by decide) (hts _ (List.mem_cons_of_mem _ fl_RX0_11)) (fun _ h9 => h9) rfl dX0_init_51 ?_
    refine va_alen (v := 160) hx hb hK hP 1 4 rfl rfl rfl dX0_init_54 ?_
    refine lv_icmp_ge (tgt := 78) hx hb dX0_init_55 (by decide) (fun c_55 => ?_) (fun c_55 => ?_)
    · exact absurd c_55 (nI_ge (a := i) (b := 160) (by omega) (by decide))
    · refine lv_aload_n hx hb dX0_init_58 rfl (lv_at hl 0 rfl) ?_
      refine va_get (ci := 0) (v := .ref q8) (C := RX0) (T := TX0) (N := 5) hx hb hts (fun w h => List.mem_cons_of_mem _ (inX0 w h)) hown hK hP 0 rfl rfl 0 (by decide) (hts _ (List.mem_cons_of_mem _ fl_RX0_11)) (fun _ h9 => h9) rfl dX0_init_59 ?_
      refine lv_iload_n hx hb dX0_init_62 rfl (lv_at hl 2 rfl) ?_
      refine va_new (ci := 7) (fs := [.null, .int 0, .int 0, .int 0, .int 0, .int 0, .null]) (C := RX7) (T := TX7) (N := 7) hx hb hts (fun w h => List.mem_cons_of_mem _ (inX7 w h)) tyX7 tyX7_ok hown (hts _ (List.mem_cons_of_mem _ cl_RX0_9)) (hts _ (List.mem_cons_of_mem _ it_RX7)) (hts _ (List.mem_cons_of_mem _ in_RX7)) hK hP hD hS hA rfl (fun j hj => by rcases (show j = 0 ∨ j = 1 ∨ j = 2 ∨ j = 3 ∨ j = 4 ∨ j = 5 ∨ j = 6 by omega) with rfl | rfl | rfl | rfl | rfl | rfl | rfl <;> rfl) (show 23 + 2 * i + 1 ≤ 343 by omega) (show 4309 + 19 * i + 7 ≤ 7349 by omega) dX0_init_63 (fun q63 H hP hD hS => ?_)
      refine lv_dup hx hb dX0_init_66 rfl ?_
      refine lv_aload_n hx hb dX0_init_67 rfl (lv_at hl 1 rfl) ?_
      refine g_init (As := [.ref g]) (rest := [.ref q63, .int (nI i), .ref q8]) ⟨hx, hb, hml, hown, hts⟩ (c_X7_init l D cy q63 g _) (cwI 1 hts (gi_W cd_X7_init) rfl rfl rfl (hts _ (List.mem_cons_of_mem _ in_RX7)) (hts _ (List.mem_cons_of_mem _ ml_RX0_32)) (hts _ (List.mem_cons_of_mem _ im_X7_init)) rfl hdX7_init ⟨(Nat.le_of_ble_eq_true rfl), (Nat.le_of_ble_eq_true rfl)⟩) rfl hl.1 rfl (Nat.le_of_ble_eq_true rfl) dX0_init_68 hM hK hP hD hS hA (show 23 + 2 * i + 1 + 1 ≤ 343 by omega) (show 4309 + 19 * i + 7 + 12 ≤ 7349 by omega) (fun x68 H locs hP hD hS => ?_)
      have hq : (((([(h0, .inr (0, [.ref q8, .ref rn, .ref rb, .ref r, .ref g])), (q8, .inl (cy 4, 160, .inr (.inr (.inr (.inr fA)))))] : va_W) ++ X) ++ fmB cy g a rE i) ++ w7 cy q63 g (fun _ => x68) s0i)[((([(h0, .inr (0, [.ref q8, .ref rn, .ref rb, .ref r, .ref g])), (q8, .inl (cy 4, 160, .inr (.inr (.inr (.inr fA)))))] ++ X) ++ fmB cy g a rE i) : va_W).length]? = some (q63, .inr (7, [.ref g, .int (s0i.1 1), .int (s0i.1 2), .int (s0i.1 3), .int (s0i.1 4), .int (s0i.1 5), .ref x68])) := by
        rw [List.getElem?_append_right (Nat.le_refl _), Nat.sub_self]
        rfl
      refine va_astq (r := (RX7, TX7, 7)) hx hb hK hP hD hS 1 4 _ 7 rfl rfl hq rfl (vp_in_nI (show i < 160 by omega) (by decide)) dX0_init_71 (fun H locs hP hD hS => ?_)
      have e1 : (((([(h0, .inr (0, [.ref q8, .ref rn, .ref rb, .ref r, .ref g])), (q8, .inl (cy 4, 160, .inr (.inr (.inr (.inr fA)))))] : va_W) ++ X) ++ fmB cy g a rE i) ++ w7 cy q63 g (fun _ => x68) s0i).set 1 (q8, .inl (cy 4, 160, .inr (.inr (.inr (.inr (va_up fA (nI i).toNatClampNeg (some q63))))))) = (([(h0, .inr (0, [.ref q8, .ref rn, .ref rb, .ref r, .ref g])), (q8, .inl (cy 4, 160, .inr (.inr (.inr (.inr (va_up fA i (some q63)))))))] : va_W) ++ X) ++ fmB cy g (va_up a i q63) (va_up rE i x68) (i + 1) := by
        rw [nI_clamp (show i < 2 ^ 31 by omega), ← fmB_succ, ← List.append_assoc]
        rfl
      rw [e1] at hP hD
      refine lv_iinc (v := nI i + 1) (lv' := [(3, .int (nI i + 1)), (0, .ref h0), (2, .ref g)]) hx hb dX0_init_72 hl (k := 2) rfl rfl (by decide) rfl (fun ls hl => ?_)
      refine lv_goto (tgt := 49) hx hb dX0_init_75 (by decide) ?_
      rw [nI_1] at hl
      refine W.widen (k := 23 + 2 * (i + 1)) (n := 4309 + 19 * (i + 1)) (by omega) (by omega) (ih (i + 1) (va_up fA i (some q63)) (va_up a i q63) (va_up rE i x68) (by omega) (fun j hj => ?_) _ _ ls hP hD hS (lv_sub hl [1, 2, 0] rfl))
      by_cases hji : j = i
      · subst hji; rw [va_up_self, va_up_self]
      · rw [va_up_ne _ _ hji, va_up_ne _ _ hji]; exact hf j (by omega)
theorem hdX0_init : yX0_init.cls ≠ "java/lang/invoke/MethodHandle" ∧ yX0_init.cls ≠ "java/lang/invoke/VarHandle" ∧ (parseMethodDescriptor yX0_init.desc).map (fun d => d.parameters.length) = some 2 := by decide +kernel
set_option maxHeartbeats 4000000 in
set_option maxRecDepth 100000 in
theorem c_X0_init (l : Launch) (D : va_G) (cy : Nat → ClassId) (h0 r g : Nat) (sz : Nat) : Met l yX0_init (WS yX0_init cX0_init 4 none) ({ frames := 2, cells := 343, slots := 7349, locals := 33 } : Room) (va_Pc [.ref h0, .ref r, .ref g] (gPM D cy sz [(h0, .inr (0, [.null, .null, .null, .null, .null]))])) (gQx D cy (va_A [(h0, .inr (0, [.null, .null, .null, .null, .null]))] sz) (fun x : (Nat × (Nat → Nat) × (Nat → Nat) × Nat) × ((Nat → Nat) × Nat × (Nat → Nat)) => (((w0 cy h0 x.1.1 (x.1.2.1 160) x.1.2.2.2 r g s0i) ++ (wWa cy x.1.1 x.1.2.1) ++ (w1 cy x.1.2.2.2 x.2.2.1 x.2.1 s0i) ++ (wP cy x.2.2.1 x.2.2.2 s0i)) ++ (wF cy x.1.2.1 x.1.2.2.1 (fun _ => s0i, fun _ => g))))) 343 7349 (va_A [(h0, .inr (0, [.null, .null, .null, .null, .null]))] sz) := by
  refine g_metM (cc := cX0_init) (maxL := 4) (fun A : Nat → Prop => gQx D cy A (fun x : (Nat × (Nat → Nat) × (Nat → Nat) × Nat) × ((Nat → Nat) × Nat × (Nat → Nat)) => (((w0 cy h0 x.1.1 (x.1.2.1 160) x.1.2.2.2 r g s0i) ++ (wWa cy x.1.1 x.1.2.1) ++ (w1 cy x.1.2.2.2 x.2.2.1 x.2.1 s0i) ++ (wP cy x.2.2.1 x.2.2.2 s0i)) ++ (wF cy x.1.2.1 x.1.2.2.1 (fun _ => s0i, fun _ => g))))) (by decide +kernel) rfl (Nat.le_of_ble_eq_true rfl) ?_
  intro p e s m below meth c A C hin hA hM hK hP hD ls hl
  obtain ⟨hx, hb, hr, hml, hown, hts, hlk⟩ := id C
  have hown : s.vm.findClass RX0 = some m.cls := hown
  have hin : meth.name = "<init>" := hin
  have hS : va_S A s.heap s.heap [] := va_S.rf
  have hl : lv_has ls 4 [(0, .ref h0), (1, .ref r), (2, .ref g)] := hl
  refine lv_aload_n hx hb dX0_init_0 rfl (lv_at hl 0 rfl) ?_
  refine W.objInit hx hb hown (hts _ (List.mem_cons_of_mem _ oi_RX0)) (hts _ (List.mem_cons_of_mem _ im_oi)) (hts _ (List.mem_cons_of_mem _ cd_oi)) rfl (by rw [hml]; exact hl.1) rfl dX0_init_1 (Nat.le_of_ble_eq_true rfl) (Nat.le_of_ble_eq_true rfl) ?_
  refine W.eq (g2 := F0 m 4 ls []) rfl ?_
  refine lv_aload_n hx hb dX0_init_4 rfl (lv_at hl 0 rfl) ?_
  refine lv_sipush (v := 160) hx hb dX0_init_5 (by decide) ?_
  refine g_newW (N := 160) hx hb hown (hts _ (List.mem_cons_of_mem _ cl_RX0_9)) hM hK hP hD hS hA (by decide) (by decide) (by decide) (Nat.le_of_ble_eq_true rfl) (Nat.le_of_ble_eq_true rfl) dX0_init_8 (fun q8 H hP hD hS => ?_)
  have hP : va_P D vwCl ([(h0, .inr (0, [.null, .null, .null, .null, .null])), (q8, (.inl (cy 4, 160, .inr (.inr (.inr (.inr (fun _ => none)))))))] : va_W) H := hP
  have hD : va_D A ([(h0, .inr (0, [.null, .null, .null, .null, .null])), (q8, (.inl (cy 4, 160, .inr (.inr (.inr (.inr (fun _ => none)))))))] : va_W) := hD
  refine va_putF (ci := 0) (v := .ref q8) (ty := tyX0 0) (C := RX0) (T := TX0) (N := 5) hx hb hts (fun w h => List.mem_cons_of_mem _ (inX0 w h)) tyX0 tyX0_ok nmX0 hown hK hP hD hS 0 rfl rfl 0 (by decide) (hts _ (List.mem_cons_of_mem _ fl_RX0_11)) (fun _ h9 => h9) rfl hin rfl (tyX0_ok 0 (by decide)) rfl rfl (Nat.le_of_ble_eq_true rfl) dX0_init_11 (fun H locs hP hD hS => ?_)
  have hP : va_P D vwCl ([(h0, .inr (0, [.ref q8, .null, .null, .null, .null])), (q8, (.inl (cy 4, 160, .inr (.inr (.inr (.inr (fun _ => none)))))))] : va_W) H := hP
  have hD : va_D A ([(h0, .inr (0, [.ref q8, .null, .null, .null, .null])), (q8, (.inl (cy 4, 160, .inr (.inr (.inr (.inr (fun _ => none)))))))] : va_W) := hD
  refine lv_aload_n hx hb dX0_init_14 rfl (lv_at hl 0 rfl) ?_
  refine va_new (ci := 1) (fs := [.null, .null, .null, .null, .null, .null, .int 0, .int 0, .int 0]) (C := RX1) (T := TX1) (N := 9) hx hb hts (fun w h => List.mem_cons_of_mem _ (inX1 w h)) tyX1 tyX1_ok hown (hts _ (List.mem_cons_of_mem _ cl_RX0_17)) (hts _ (List.mem_cons_of_mem _ it_RX1)) (hts _ (List.mem_cons_of_mem _ in_RX1)) hK hP hD hS hA rfl (fun j hj => by rcases (show j = 0 ∨ j = 1 ∨ j = 2 ∨ j = 3 ∨ j = 4 ∨ j = 5 ∨ j = 6 ∨ j = 7 ∨ j = 8 by omega) with rfl | rfl | rfl | rfl | rfl | rfl | rfl | rfl | rfl <;> rfl) (Nat.le_of_ble_eq_true rfl) (Nat.le_of_ble_eq_true rfl) dX0_init_15 (fun q15 H hP hD hS => ?_)
  have hP : va_P D vwCl ([(h0, .inr (0, [.ref q8, .null, .null, .null, .null])), (q8, (.inl (cy 4, 160, .inr (.inr (.inr (.inr (fun _ => none))))))), (q15, .inr (1, [.null, .null, .null, .null, .null, .null, .int 0, .int 0, .int 0]))] : va_W) H := hP
  have hD : va_D A ([(h0, .inr (0, [.ref q8, .null, .null, .null, .null])), (q8, (.inl (cy 4, 160, .inr (.inr (.inr (.inr (fun _ => none))))))), (q15, .inr (1, [.null, .null, .null, .null, .null, .null, .int 0, .int 0, .int 0]))] : va_W) := hD
  refine lv_dup hx hb dX0_init_18 rfl ?_
  refine g_initN (ws := ([(h0, .inr (0, [.ref q8, .null, .null, .null, .null])), (q8, (.inl (cy 4, 160, .inr (.inr (.inr (.inr (fun _ => none)))))))] : va_W)) (wc := [(q15, .inr (1, [.null, .null, .null, .null, .null, .null, .int 0, .int 0, .int 0]))]) (As := []) (rest := [.ref q15, .ref h0]) ⟨hx, hb, hml, hown, hts⟩ (c_X1_init l D cy q15 _) ⟨va_cnB 0 hts (gi_W cd_X1_init) rfl rfl rfl hM.1.2.2.2 (hts _ (List.mem_cons_of_mem _ in_RX1)) hdX1_init ⟨(Nat.le_of_ble_eq_true rfl), (Nat.le_of_ble_eq_true rfl)⟩, rfl, (hts _ (List.mem_cons_of_mem _ im_X1_init))⟩ rfl hl.1 rfl (Nat.le_of_ble_eq_true rfl) dX0_init_19 hM hK hP hD hS hA (Nat.le_of_ble_eq_true rfl) (Nat.le_of_ble_eq_true rfl) (fun x19 H locs hP hD hS => ?_)
  have hP : va_P D vwCl ([(h0, .inr (0, [.ref q8, .null, .null, .null, .null])), (q8, (.inl (cy 4, 160, .inr (.inr (.inr (.inr (fun _ => none)))))))] ++ ((w1 cy q15 x19.2.1 x19.1 s0i) ++ (wP cy x19.2.1 x19.2.2 s0i)) : va_W) H := hP
  have hD : va_D A ([(h0, .inr (0, [.ref q8, .null, .null, .null, .null])), (q8, (.inl (cy 4, 160, .inr (.inr (.inr (.inr (fun _ => none)))))))] ++ ((w1 cy q15 x19.2.1 x19.1 s0i) ++ (wP cy x19.2.1 x19.2.2 s0i)) : va_W) := hD
  refine va_putF (ci := 0) (v := .ref q15) (ty := tyX0 2) (C := RX0) (T := TX0) (N := 5) hx hb hts (fun w h => List.mem_cons_of_mem _ (inX0 w h)) tyX0 tyX0_ok nmX0 hown hK hP hD hS 0 rfl rfl 2 (by decide) (hts _ (List.mem_cons_of_mem _ fl_RX0_20)) (fun _ h9 => h9) rfl hin rfl (tyX0_ok 2 (by decide)) rfl rfl (Nat.le_of_ble_eq_true rfl) dX0_init_22 (fun H locs hP hD hS => ?_)
  have hP : va_P D vwCl ([(h0, .inr (0, [.ref q8, .null, .ref q15, .null, .null])), (q8, (.inl (cy 4, 160, .inr (.inr (.inr (.inr (fun _ => none)))))))] ++ ((w1 cy q15 x19.2.1 x19.1 s0i) ++ (wP cy x19.2.1 x19.2.2 s0i)) : va_W) H := hP
  have hD : va_D A ([(h0, .inr (0, [.ref q8, .null, .ref q15, .null, .null])), (q8, (.inl (cy 4, 160, .inr (.inr (.inr (.inr (fun _ => none)))))))] ++ ((w1 cy q15 x19.2.1 x19.1 s0i) ++ (wP cy x19.2.1 x19.2.2 s0i)) : va_W) := hD
  refine lv_aload_n hx hb dX0_init_25 rfl (lv_at hl 0 rfl) ?_
  refine lv_aload_n hx hb dX0_init_26 rfl (lv_at hl 1 rfl) ?_
  refine va_put (ci := 0) (v := .ref r) (ty := tyX0 3) (C := RX0) (T := TX0) (N := 5) hx hb hts (fun w h => List.mem_cons_of_mem _ (inX0 w h)) tyX0 tyX0_ok nmX0 hown hK hP hD hS 0 rfl rfl 3 (by decide) (hts _ (List.mem_cons_of_mem _ fl_RX0_24)) (fun _ h9 => h9) rfl (tyX0_ok 3 (by decide)) rfl rfl (Nat.le_of_ble_eq_true rfl) dX0_init_27 (fun H locs hP hD hS => ?_)
  have hP : va_P D vwCl ([(h0, .inr (0, [.ref q8, .null, .ref q15, .ref r, .null])), (q8, (.inl (cy 4, 160, .inr (.inr (.inr (.inr (fun _ => none)))))))] ++ ((w1 cy q15 x19.2.1 x19.1 s0i) ++ (wP cy x19.2.1 x19.2.2 s0i)) : va_W) H := hP
  have hD : va_D A ([(h0, .inr (0, [.ref q8, .null, .ref q15, .ref r, .null])), (q8, (.inl (cy 4, 160, .inr (.inr (.inr (.inr (fun _ => none)))))))] ++ ((w1 cy q15 x19.2.1 x19.1 s0i) ++ (wP cy x19.2.1 x19.2.2 s0i)) : va_W) := hD
  refine lv_aload_n hx hb dX0_init_30 rfl (lv_at hl 0 rfl) ?_
  refine lv_aload_n hx hb dX0_init_31 rfl (lv_at hl 2 rfl) ?_
  refine va_put (ci := 0) (v := .ref g) (ty := tyX0 4) (C := RX0) (T := TX0) (N := 5) hx hb hts (fun w h => List.mem_cons_of_mem _ (inX0 w h)) tyX0 tyX0_ok nmX0 hown hK hP hD hS 0 rfl rfl 4 (by decide) (hts _ (List.mem_cons_of_mem _ fl_RX0_28)) (fun _ h9 => h9) rfl (tyX0_ok 4 (by decide)) rfl rfl (Nat.le_of_ble_eq_true rfl) dX0_init_32 (fun H locs hP hD hS => ?_)
  have hP : va_P D vwCl ([(h0, .inr (0, [.ref q8, .null, .ref q15, .ref r, .ref g])), (q8, (.inl (cy 4, 160, .inr (.inr (.inr (.inr (fun _ => none)))))))] ++ ((w1 cy q15 x19.2.1 x19.1 s0i) ++ (wP cy x19.2.1 x19.2.2 s0i)) : va_W) H := hP
  have hD : va_D A ([(h0, .inr (0, [.ref q8, .null, .ref q15, .ref r, .ref g])), (q8, (.inl (cy 4, 160, .inr (.inr (.inr (.inr (fun _ => none)))))))] ++ ((w1 cy q15 x19.2.1 x19.1 s0i) ++ (wP cy x19.2.1 x19.2.2 s0i)) : va_W) := hD
  refine lv_aload_n hx hb dX0_init_35 rfl (lv_at hl 0 rfl) ?_
  refine va_new (ci := 7) (fs := [.null, .int 0, .int 0, .int 0, .int 0, .int 0, .null]) (C := RX7) (T := TX7) (N := 7) hx hb hts (fun w h => List.mem_cons_of_mem _ (inX7 w h)) tyX7 tyX7_ok hown (hts _ (List.mem_cons_of_mem _ cl_RX0_9)) (hts _ (List.mem_cons_of_mem _ it_RX7)) (hts _ (List.mem_cons_of_mem _ in_RX7)) hK hP hD hS hA rfl (fun j hj => by rcases (show j = 0 ∨ j = 1 ∨ j = 2 ∨ j = 3 ∨ j = 4 ∨ j = 5 ∨ j = 6 by omega) with rfl | rfl | rfl | rfl | rfl | rfl | rfl <;> rfl) (Nat.le_of_ble_eq_true rfl) (Nat.le_of_ble_eq_true rfl) dX0_init_36 (fun q36 H hP hD hS => ?_)
  have hP : va_P D vwCl ([(h0, .inr (0, [.ref q8, .null, .ref q15, .ref r, .ref g])), (q8, (.inl (cy 4, 160, .inr (.inr (.inr (.inr (fun _ => none)))))))] ++ ((w1 cy q15 x19.2.1 x19.1 s0i) ++ (wP cy x19.2.1 x19.2.2 s0i)) ++ [(q36, .inr (7, [.null, .int 0, .int 0, .int 0, .int 0, .int 0, .null]))] : va_W) H := hP
  have hD : va_D A ([(h0, .inr (0, [.ref q8, .null, .ref q15, .ref r, .ref g])), (q8, (.inl (cy 4, 160, .inr (.inr (.inr (.inr (fun _ => none)))))))] ++ ((w1 cy q15 x19.2.1 x19.1 s0i) ++ (wP cy x19.2.1 x19.2.2 s0i)) ++ [(q36, .inr (7, [.null, .int 0, .int 0, .int 0, .int 0, .int 0, .null]))] : va_W) := hD
  refine lv_dup hx hb dX0_init_39 rfl ?_
  refine lv_aload_n hx hb dX0_init_40 rfl (lv_at hl 2 rfl) ?_
  refine g_init (ws := ([(h0, .inr (0, [.ref q8, .null, .ref q15, .ref r, .ref g])), (q8, (.inl (cy 4, 160, .inr (.inr (.inr (.inr (fun _ => none)))))))] ++ ((w1 cy q15 x19.2.1 x19.1 s0i) ++ (wP cy x19.2.1 x19.2.2 s0i)) : va_W)) (wc := [(q36, .inr (7, [.null, .int 0, .int 0, .int 0, .int 0, .int 0, .null]))]) (As := [.ref g]) (rest := [.ref q36, .ref h0]) ⟨hx, hb, hml, hown, hts⟩ (c_X7_init l D cy q36 g _) (cwI 1 hts (gi_W cd_X7_init) rfl rfl rfl (hts _ (List.mem_cons_of_mem _ in_RX7)) (hts _ (List.mem_cons_of_mem _ ml_RX0_32)) (hts _ (List.mem_cons_of_mem _ im_X7_init)) rfl hdX7_init ⟨(Nat.le_of_ble_eq_true rfl), (Nat.le_of_ble_eq_true rfl)⟩) rfl hl.1 rfl (Nat.le_of_ble_eq_true rfl) dX0_init_41 hM hK hP hD hS hA (Nat.le_of_ble_eq_true rfl) (Nat.le_of_ble_eq_true rfl) (fun x41 H locs hP hD hS => ?_)
  have hP : va_P D vwCl ([(h0, .inr (0, [.ref q8, .null, .ref q15, .ref r, .ref g])), (q8, (.inl (cy 4, 160, .inr (.inr (.inr (.inr (fun _ => none)))))))] ++ ((w1 cy q15 x19.2.1 x19.1 s0i) ++ (wP cy x19.2.1 x19.2.2 s0i)) ++ (w7 cy q36 g (fun _ => x41) s0i) : va_W) H := hP
  have hD : va_D A ([(h0, .inr (0, [.ref q8, .null, .ref q15, .ref r, .ref g])), (q8, (.inl (cy 4, 160, .inr (.inr (.inr (.inr (fun _ => none)))))))] ++ ((w1 cy q15 x19.2.1 x19.1 s0i) ++ (wP cy x19.2.1 x19.2.2 s0i)) ++ (w7 cy q36 g (fun _ => x41) s0i) : va_W) := hD
  refine va_putF (ci := 0) (v := .ref q36) (ty := tyX0 1) (C := RX0) (T := TX0) (N := 5) hx hb hts (fun w h => List.mem_cons_of_mem _ (inX0 w h)) tyX0 tyX0_ok nmX0 hown hK hP hD hS 0 rfl rfl 1 (by decide) (hts _ (List.mem_cons_of_mem _ fl_RX0_35)) (fun _ h9 => h9) rfl hin rfl (tyX0_ok 1 (by decide)) rfl rfl (Nat.le_of_ble_eq_true rfl) dX0_init_44 (fun H locs hP hD hS => ?_)
  have hP : va_P D vwCl ([(h0, .inr (0, [.ref q8, .ref q36, .ref q15, .ref r, .ref g])), (q8, (.inl (cy 4, 160, .inr (.inr (.inr (.inr (fun _ => none)))))))] ++ ((w1 cy q15 x19.2.1 x19.1 s0i) ++ (wP cy x19.2.1 x19.2.2 s0i)) ++ (w7 cy q36 g (fun _ => x41) s0i) : va_W) H := hP
  have hD : va_D A ([(h0, .inr (0, [.ref q8, .ref q36, .ref q15, .ref r, .ref g])), (q8, (.inl (cy 4, 160, .inr (.inr (.inr (.inr (fun _ => none)))))))] ++ ((w1 cy q15 x19.2.1 x19.1 s0i) ++ (wP cy x19.2.1 x19.2.2 s0i)) ++ (w7 cy q36 g (fun _ => x41) s0i) : va_W) := hD
  refine lv_iconst (v := 0) hx hb dX0_init_47 (by decide) ?_
  refine lv_istore_n (lv' := [(3, .int 0), (0, .ref h0), (1, .ref r), (2, .ref g)]) hx hb dX0_init_48 rfl hl (by decide) rfl (fun ls hl => ?_)
  have e0 : ([(h0, .inr (0, [.ref q8, .ref q36, .ref q15, .ref r, .ref g])), (q8, (.inl (cy 4, 160, .inr (.inr (.inr (.inr (fun _ => none)))))))] ++ ((w1 cy q15 x19.2.1 x19.1 s0i) ++ (wP cy x19.2.1 x19.2.2 s0i)) ++ (w7 cy q36 g (fun _ => x41) s0i) : va_W) = ([(h0, .inr (0, [.ref q8, .ref q36, .ref q15, .ref r, .ref g])), (q8, (.inl (cy 4, 160, .inr (.inr (.inr (.inr (fun _ => none)))))))] ++ (((w1 cy q15 x19.2.1 x19.1 s0i) ++ (wP cy x19.2.1 x19.2.2 s0i)) ++ (w7 cy q36 g (fun _ => x41) s0i))) ++ fmB cy g (fun _ => 0) (fun _ => 0) 0 := rfl
  rw [e0] at hP hD
  refine W.widen (k := 23 + 2 * 0) (n := 4309 + 19 * 0) (by decide) (by decide) (b_X0_init_L49 (e := e) (below := below) l D cy h0 r g C hA hM hK q8 q36 q15 (((w1 cy q15 x19.2.1 x19.1 s0i) ++ (wP cy x19.2.1 x19.2.2 s0i)) ++ (w7 cy q36 g (fun _ => x41) s0i)) (MQ below (gQx D cy A (fun x : (Nat × (Nat → Nat) × (Nat → Nat) × Nat) × ((Nat → Nat) × Nat × (Nat → Nat)) => (((w0 cy h0 x.1.1 (x.1.2.1 160) x.1.2.2.2 r g s0i) ++ (wWa cy x.1.1 x.1.2.1) ++ (w1 cy x.1.2.2.2 x.2.2.1 x.2.1 s0i) ++ (wP cy x.2.2.1 x.2.2.2 s0i)) ++ (wF cy x.1.2.1 x.1.2.2.1 (fun _ => s0i, fun _ => g))))) ([.ref h0, .ref r, .ref g] : List Value).toArray s 343 7349 A) ?_ 160 0 (fun _ => none) (fun _ => 0) (fun _ => 0) rfl (fun j hj => absurd hj (Nat.not_lt_zero j)) _ _ ls hP hD hS (lv_sub hl [1, 3, 0] rfl))
  clear hP hD hS hl ls
  intro fA a rE hf H locs ls hP hD hS
  have hpm : ((([(h0, .inr (0, [.ref q8, .ref q36, .ref q15, .ref r, .ref g])), (q8, .inl (cy 4, 160, .inr (.inr (.inr (.inr (fun j => some (va_up a 160 q36 j)))))))] : va_W) ++ (((w1 cy q15 x19.2.1 x19.1 s0i) ++ (wP cy x19.2.1 x19.2.2 s0i)) ++ (w7 cy q36 g (fun _ => x41) s0i))) ++ fmB cy g a rE 160).Perm ((fun x : (Nat × (Nat → Nat) × (Nat → Nat) × Nat) × ((Nat → Nat) × Nat × (Nat → Nat)) => (((w0 cy h0 x.1.1 (x.1.2.1 160) x.1.2.2.2 r g s0i) ++ (wWa cy x.1.1 x.1.2.1) ++ (w1 cy x.1.2.2.2 x.2.2.1 x.2.1 s0i) ++ (wP cy x.2.2.1 x.2.2.2 s0i)) ++ (wF cy x.1.2.1 x.1.2.2.1 (fun _ => s0i, fun _ => g)))) ((q8, va_up a 160 q36, va_up rE 160 x41, q15), x19)) := by
    have h2 : wF cy (va_up a 160 q36) (va_up rE 160 x41) (fun _ => s0i, fun _ => g) = fmB cy g a rE 160 ++ w7 cy q36 g (fun _ => x41) s0i := (fmB_succ cy g a rE 160 q36 x41).symm
    show List.Perm _ ((_ ++ _ ++ _ ++ _) ++ wF cy (va_up a 160 q36) (va_up rE 160 x41) (fun _ => s0i, fun _ => g))
    rw [h2]
    have h3 : (va_up a 160 q36) 160 = q36 := va_up_self _ _ _
    show List.Perm _ ((w0 cy h0 q8 (va_up a 160 q36 160) q15 r g s0i ++ _ ++ _ ++ _) ++ _)
    rw [h3]
    have h4 : ∀ (a1 a2 a3 a4 : va_W), ((a1 ++ (a2 ++ a3)) ++ a4).Perm ((a1 ++ a2) ++ (a4 ++ a3)) := by
      intro a1 a2 a3 a4
      rw [List.append_assoc, List.append_assoc, List.append_assoc]
      exact List.Perm.append_left _ (List.Perm.append_left _ List.perm_append_comm)
    exact h4 [(h0, .inr (0, [.ref q8, .ref q36, .ref q15, .ref r, .ref g])), (q8, .inl (cy 4, 160, .inr (.inr (.inr (.inr (fun j => some (va_up a 160 q36 j)))))))] ((w1 cy q15 x19.2.1 x19.1 s0i) ++ (wP cy x19.2.1 x19.2.2 s0i)) (w7 cy q36 g (fun _ => x41) s0i) (fmB cy g a rE 160)
  have hag : va_at D vwCl (q8, (.inl (cy 4, 160, .inr (.inr (.inr (.inr fA)))) : va_E)) H → va_at D vwCl (q8, (.inl (cy 4, 160, .inr (.inr (.inr (.inr (fun j => some (va_up a 160 q36 j)))))) : va_E)) H := by
    intro h
    refine Eq.trans h (congrArg some ?_)
    show vp_cell (cy 4) (160, .inr (.inr (.inr (.inr fA)))) = vp_cell (cy 4) (160, .inr (.inr (.inr (.inr (fun j => some (va_up a 160 q36 j))))))
    rw [vp_cell_q, vp_cell_q]
    refine arrV_agree (fun j hj => ?_)
    show va_rf (fA j) = va_rf (some (va_up a 160 q36 j))
    rw [hf j hj, va_up_ne _ _ (show j ≠ 160 by omega)]
  have hP : va_P D vwCl (([(h0, .inr (0, [.ref q8, .ref q36, .ref q15, .ref r, .ref g])), (q8, .inl (cy 4, 160, .inr (.inr (.inr (.inr (fun j => some (va_up a 160 q36 j)))))))] ++ (((w1 cy q15 x19.2.1 x19.1 s0i) ++ (wP cy x19.2.1 x19.2.2 s0i)) ++ (w7 cy q36 g (fun _ => x41) s0i))) ++ fmB cy g a rE 160) H := by
    refine va_P_mem.mpr (fun z hz => ?_)
    have hm := va_P_mem.mp hP
    rcases List.mem_append.mp hz with h | h
    · rcases List.mem_append.mp h with h | h
      · rcases List.mem_cons.mp h with h | h
        · subst h; exact hm _ (List.mem_append_left _ (List.mem_append_left _ List.mem_cons_self))
        · rcases List.mem_cons.mp h with h | h
          · subst h; exact hag (hm _ (List.mem_append_left _ (List.mem_append_left _ (List.mem_cons_of_mem _ List.mem_cons_self))))
          · cases h
      · exact hm z (List.mem_append_left _ (List.mem_append_right _ h))
    · exact hm z (List.mem_append_right _ h)
  have hD : va_D A (([(h0, .inr (0, [.ref q8, .ref q36, .ref q15, .ref r, .ref g])), (q8, .inl (cy 4, 160, .inr (.inr (.inr (.inr (fun j => some (va_up a 160 q36 j)))))))] ++ (((w1 cy q15 x19.2.1 x19.1 s0i) ++ (wP cy x19.2.1 x19.2.2 s0i)) ++ (w7 cy q36 g (fun _ => x41) s0i))) ++ fmB cy g a rE 160) := by
    refine va_D_keys ?_ hD
    rw [List.map_append, List.map_append, List.map_append, List.map_append]
    rfl
  exact g_xret ((q8, va_up a 160 q36, va_up rE 160 x41, q15), x19) hx hb hr hlk hK (va_P_perm hpm hP) (va_D_perm hpm hD) hS (by decide) (by decide) dX0_init_78
