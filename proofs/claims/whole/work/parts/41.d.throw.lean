/-! methods that throw: rules -/
abbrev nIOB : String := "java/lang/IndexOutOfBoundsException"
abbrev nNSE : String := "java/util/NoSuchElementException"
abbrev nRT : List String := ["java/lang/RuntimeException", "java/lang/Exception"]
def BX : List Cond := [.castable nIOB nIOB, .castable nNSE nNSE, .declares ⟨"java/lang/RuntimeException", "<init>", "()V"⟩, .declares ⟨"java/lang/RuntimeException", "<init>", "(Ljava/lang/String;)V"⟩, .declares ⟨"java/lang/Exception", "<init>", "()V"⟩, .declares ⟨"java/lang/Exception", "<init>", "(Ljava/lang/String;)V"⟩, .declares ⟨"java/lang/Throwable", "<init>", "()V"⟩, .declares ⟨"java/lang/Throwable", "<init>", "(Ljava/lang/String;)V"⟩]
theorem BX_tab : ∀ w ∈ BX, w.onTables = true := by decide +kernel
theorem bx1 : ∀ w ∈ (xt_at RX9 160 nIOB 7 Bundle.six nRT).filter (fun w => !goodWord w), w ∈ BX := by decide +kernel
theorem bx2 : ∀ w ∈ (xt_at RX9 183 nNSE 13 prog_24_method_4_code nRT).filter (fun w => !goodWord w), w ∈ BX := by decide +kernel
theorem gx1 : ∀ w ∈ (xt_at RX9 160 nIOB 7 Bundle.six nRT).filter goodWord, w ∈ lw_tbl := by decide +kernel
theorem gx2 : ∀ w ∈ (xt_at RX9 183 nNSE 13 prog_24_method_4_code nRT).filter goodWord, w ∈ lw_tbl := by decide +kernel
theorem go1 : ∀ w ∈ Cond.classLink RX9 156 nIOB :: Cond.initialized nIOB :: xt_at RX9 160 nIOB 7 Bundle.six nRT, vx_ot w = true := by decide +kernel
theorem go2 : ∀ w ∈ Cond.classLink RX9 179 nNSE :: Cond.initialized nNSE :: xt_at RX9 183 nNSE 13 prog_24_method_4_code nRT, vx_ot w = true := by decide +kernel
theorem in_IOB : Cond.initialized nIOB ∈ WA := wa_of (k := 97) (by decide +kernel) rfl
theorem in_NSE : Cond.initialized nNSE ∈ WA := wa_of (k := 98) (by decide +kernel) rfl
def gX (U : State) : Prop := ∀ w ∈ BX, va_Nw w U
theorem gX.same {u U : State} (hv : U.vm = u.vm) (h : gX u) : gX U := fun w hw => va_Nw.same (BX_tab w hw) hv.symm (h w hw)
theorem gX.warm {s U : State} (hW : s.WarmedH U.vm) (h : gX s) : gX U := by
  intro w hw
  have h0 := h w hw
  unfold BX at hw
  simp only [List.mem_cons, List.not_mem_nil, or_false] at hw
  rcases hw with rfl | rfl | rfl | rfl | rfl | rfl | rfl | rfl
  · exact va_Nw.warmC hW h0
  · exact va_Nw.warmC hW h0
  · exact va_Nw.warmD hW h0
  · exact va_Nw.warmD hW h0
  · exact va_Nw.warmD hW h0
  · exact va_Nw.warmD hW h0
  · exact va_Nw.warmD hW h0
  · exact va_Nw.warmD hW h0
def gT (A : Nat → Prop) (U : State) (H : Heap) : Prop := gX U ∧ ((∃ sa : Nat, vk_R RX9 158 "no such title" sa U) ∧ (∃ sa : Nat, vk_R RX9 181 "no such what" sa U) ∧ ∃ sa : Nat, vk_R RX9 199 "no such tongue" sa U) ∧ vx_Zq Bundle.tN "UNASSIGNED_STACK" Bundle.steD A U H ∧ vx_Zq Bundle.tN "SUPPRESSED_SENTINEL" Bundle.listD A U H
theorem gT.kept {A : Nat → Prop} {U : State} {H H1 : Heap} (h : gT A U H) (hq : ∀ a : Nat, a < H.size → ¬ A a → H1[a]? = H[a]?) : gT A U H1 := ⟨h.1, h.2.1, h.2.2.1.kept hq, h.2.2.2.kept hq⟩
theorem gT.narrow {A B : Nat → Prop} {U : State} {H : Heap} (h : gT A U H) (hAB : ∀ q, B q → A q) : gT B U H := ⟨h.1, h.2.1, h.2.2.1.narrow hAB, h.2.2.2.narrow hAB⟩
theorem gT.warm {A : Nat → Prop} {s U : State} {H : Heap} (hW : s.WarmedH U.vm) (h : gT A s H) : gT A U H := by
  obtain ⟨h1, ⟨⟨a, ha⟩, ⟨b, hb⟩, c, hc⟩, h3, h4⟩ := h
  exact ⟨gX.warm hW h1, ⟨⟨a, vk_R.warm hW ha⟩, ⟨b, vk_R.warm hW hb⟩, c, vk_R.warm hW hc⟩, vx_Zq.moved hW.alike h3, vx_Zq.moved hW.alike h4⟩
theorem gT.same {A : Nat → Prop} {u U : State} {H : Heap} (hv : U.vm = u.vm) (h : gT A u H) : gT A U H := by
  obtain ⟨h1, ⟨⟨a, ha⟩, ⟨b, hb⟩, c, hc⟩, h3, h4⟩ := h
  exact ⟨gX.same hv h1, ⟨⟨a, vk_R.same hv ha⟩, ⟨b, vk_R.same hv hb⟩, c, vk_R.same hv hc⟩, vx_Zq.moved (hv ▸ Vm.Alike.refl u.vm) h3, vx_Zq.moved (hv ▸ Vm.Alike.refl u.vm) h4⟩
abbrev gPT (D : va_G) (cy : Nat → ClassId) (sz : Nat) (ws : va_W) (U : State) : Prop := gP D cy sz ws U ∧ gT (va_A ws sz) U U.heap
abbrev gXC (D : va_G) (cy : Nat → ClassId) (A : Nat → Prop) (E0 : String) (ws : va_W) : String → State → State → Prop := vx_X (fun (_ : Unit) => True) (fun E _ t => E = E0 ∧ gB D cy A ws t) A
theorem g_metT {l : Launch} {y : MethodName} {ws ws' : List Cond} {rm : Room} {cc : ByteArray} {maxL mc ms : Nat} {ret : Option FieldType} {D : va_G} {cy : Nat → ClassId} {av : List Value} {wsx : va_W} {sz : Nat} (Qp : (Nat → Prop) → Array Value → State → Outcome → State → Prop) (Xp : (Nat → Prop) → String → State → State → Prop)
    (hy : plainName y.cls = true) (hw : ws = Cond.code y cc maxL ret :: ws') (hlen : (lg_sl av).length ≤ maxL)
    (body : ∀ (p : Program) (e : Env) (s : State) (m : MethodId) (below : List Frame) (meth : Method) (c : Code) (A : Nat → Prop), gC p s m av.toArray meth c ws cc maxL ret y.cls → (∀ x ∈ c.exceptionTable.toList, False) → (∀ q : Nat, s.heap.size ≤ q → A q) → gT A s s.heap → va_K D vwCl (TY cy) s → va_P D vwCl wsx s.heap → va_D A wsx → ∀ ls : Array Slot, lv_has ls maxL (lv_args 0 av) →
      W p l e rm s m av.toArray below meth c s.heap [] 0 0 (vx_MQ below (Qp A) (Xp A) av.toArray s mc ms A) (F0 m 0 ls [])) :
    vx_Met l y ws rm (va_Pc av (gPT D cy sz wsx)) (Qp (va_A wsx sz)) (Xp (va_A wsx sz)) mc ms (va_A wsx sz) := by
  refine vx_ofW (cc := cc) (maxL := maxL) (ret := ret) hy hw ?_
  intro p e s m args below meth c s₁ B hml ht hv
  obtain ⟨rfl, ⟨hsz, hP, hK, hD0⟩, hT⟩ := hv
  have hts := atoms_spec (ws := ws) B.pre
  have hown : s.vm.findClass y.cls = some m.cls := findClass_of_methodNamed B.named
  subst hsz
  have hD := hD0.self (sz := s.heap.size)
  have hl := lv_entry av (n := maxL) hlen
  rw [lg_entry_eq]
  exact body p e s m below meth c _ ⟨B.exec, B.bytes, B.returns, hml, hown, hts, B.notSynchronized⟩ ht (fun q h => Or.inr h) hT hK hP hD _ hl
section GWT2
variable {p : Program} {l : Launch} {e : Env} {R : Room} {s : State} {m : MethodId} {args : Array Value} {below : List Frame} {meth : Method} {c : Code} {H : Heap} {locs : List Loc} {Q : State → Prop} {A : Nat → Prop} {D : va_G} {cy : Nat → ClassId} {w : va_W} {cc : ByteArray} {pc : Nat} {ls : Array Slot} {cells slots : Nat}
theorem g_preT {av : List Value} {wc : va_W} (hK : va_K D vwCl (TY cy) s) (hPc : va_P D vwCl wc H) (hDc : va_D A wc) (hT : gT A s s.heap) (hS : va_S A s.heap H locs) (hFc : ∀ q, va_A wc H.size q → A q) : PreS s H (va_Pc av (gPT D cy H.size wc)) av :=
  ⟨fun a U g mk q => by obtain ⟨q0, ⟨q1, qP, qK, qD⟩, qE⟩ := q; exact ⟨q0, ⟨q1, qP, va_K.moved (u := U) (U := U.calling g mk a) (Vm.Alike.refl U.vm) qK, qD⟩, gT.same (u := U) (U := U.calling g mk a) rfl qE⟩, fun U hU hW => ⟨rfl, ⟨by rw [hU], by rw [hU]; exact hPc, va_K.moved hW.alike hK, hDc.weaken (fun _ _ _ _ => trivial)⟩, by rw [hU]; exact gT.warm hW ((hT.kept hS.2.1).narrow hFc)⟩⟩
theorem g_throw {ws : va_W} {cls text : String} {ik is ic sa mc ms ix : Nat} {rx : ByteArray} {rest : List Value} {Qc : Array Value → State → Outcome → State → Prop} (hx : p.tables.exec = Jvm.exec) (hb : c.code = cc) (hl : l.stackTraces = false) (x0 : decode rx 0 = .ok (.aload_n 0, 1)) (x1 : decode rx 1 = .ok (.aload_n 1, 1)) (x2 : decode rx 2 = .ok (.invokespecial ix, 3)) (x5 : decode rx 5 = .ok (.return_, 1)) (hown : s.vm.findClass RX9 = some m.cls) (hcls : Bundle.fit cls = true)
    (hk : (Cond.classLink RX9 ik cls).before args s = true) (hini : (Cond.initialized cls).before args s = true) (hstr : vk_R RX9 is text sa s) (hat : ∀ w ∈ xt_at RX9 ic cls ix rx nRT, w.before args s = true) (hgood : ∀ w ∈ Cond.classLink RX9 ik cls :: Cond.initialized cls :: xt_at RX9 ic cls ix rx nRT, vx_ot w = true)
    (hT : gT A s s.heap) (hK : va_K D vwCl (TY cy) s) (hP : va_P D vwCl ws H) (hD : va_D A ws) (hS : va_S A s.heap H locs) (hsize : ls.size = c.maxLocals)
    (d0 : decode cc pc = .ok (.new ik, 3)) (d3 : decode cc (pc + 3) = .ok (.dup, 1)) (d4 : decode cc (pc + 4) = .ok (.ldc is, 2)) (d6 : decode cc (pc + 6) = .ok (.invokespecial ic, 3)) (d9 : decode cc (pc + 9) = .ok (.athrow, 1))
    (ht : ∀ x ∈ c.exceptionTable.toList, False) (hRf : 5 < R.frames) (hRl : (rest.map fun v => v.category).sum + 82 ≤ R.locals) (hRc : cells + 1 ≤ R.cells) (hRs : slots + 6 ≤ R.slots) (hlk : meth.locks = false) (hc : cells + 1 ≤ mc) (hs : slots + 6 ≤ ms) :
    W p l e R s m args below meth c H locs cells slots (vx_MQ below Qc (gXC D cy A cls ws) args s mc ms A) (F0 m pc ls rest) := by
  refine xt_throw (own := RX9) (cls := cls) (text := text) (names := nRT) (ik := ik) (is := is) (ic := ic) (sa := sa) (A := A) hx hb hl x0 x1 x2 x5 hown hcls (by decide +kernel) hk hini hstr hat hgood hT.2.2.1 hT.2.2.2 hS hsize d0 d3 d4 d6 d9 (fun x h => (ht x h).elim) hRf hRl hRc hRs hlk (fun t hvm hz hq => ?_) hS.2.2 hc hs
  exact ⟨(), trivial, ⟨rfl, hP.kept (fun k x hx => hq x.1 ((hP k x hx).lt)), va_K.moved hvm hK, hD⟩, Nat.le_trans hS.1 hz, fun q h1 h2 => (hq q (Nat.lt_of_lt_of_le h1 hS.1)).trans (hS.2.1 q h1 h2)⟩
/-- a throw that comes out of a call goes on to the caller -/
theorem g_on {ws : va_W} {E0 : String} {mc ms mcn msn nL n index maxL : Nat} {y : MethodName} {wsm : List Cond} {rm : Room} {Ts : List Cond} {own C : String} {bytes : ByteArray} {ret : Option FieldType} {b : Nat} {As rest : List Value} {Qc : Array Value → State → Outcome → State → Prop}
    (S : CallFix p m c cc nL s args Ts own) (hM : vx_Met l y wsm rm (va_Pc (.ref b :: As) (gPT D cy H.size ws)) (va_Qv (fun (_ : Unit) => False) (fun _ _ => True) (va_A ws H.size)) (gXC D cy (va_A ws H.size) E0 ws) mcn msn (va_A ws H.size)) (cw : CallW R s args own C index y bytes maxL ret wsm rm mcn msn n)
    (hrc : ∃ cell : Cell, H[b]? = some cell ∧ cell.vm.isStatics = false ∧ s.vm.findClass C = some cell.cls) (hn : As.length = n) (hsize : ls.size = nL) {st0 : List Value} (hst : st0 = As.reverse ++ .ref b :: rest) (hW : (rest.map fun v => v.category).sum ≤ 8) (hdg : decode cc pc = .ok (.invokevirtual index, 3))
    (hT : gT A s s.heap) (hK : va_K D vwCl (TY cy) s) (hP : va_P D vwCl ws H) (hD : va_D A ws) (hS : va_S A s.heap H locs) (hA : ∀ q, s.heap.size ≤ q → A q) (ht : ∀ x ∈ c.exceptionTable.toList, False) (hlk : meth.locks = false) (hcc : cells + mcn ≤ R.cells) (hss : slots + msn ≤ R.slots) (hc : cells + mcn ≤ mc) (hs : slots + msn ≤ ms) :
    W p l e R s m args below meth c H locs cells slots (vx_MQ below Qc (gXC D cy A E0 ws) args s mc ms A) (F0 m pc ls st0) := by
  have hFc : ∀ q, va_A ws H.size q → A q := g_freeL (ws := []) hD hS hA
  obtain ⟨hp1, hp2⟩ := g_preT (av := .ref b :: As) hK hP hD hT hS hFc
  refine vx_callv (vx_runV (As := As) (rest := rest) S hM cw ⟨hp1, hrc, hp2⟩ rfl hn hsize hst (lv_room hW) hdg ⟨hcc, hss⟩) hS (fun q _ h => hFc q h) hFc (fun q _ h => hFc q h) (fun E ce q9 u t H1 locs1 ht1 hvm _ hB hz1 hk1 hS1 hce hcv hcl => ?_) (fun u t H1 locs1 ht1 hvm hf => hf.elim)
  obtain ⟨rfl, hB1, hB2, hB3⟩ := hB
  rw [ht1] at hB1
  exact vx_out (fun x h => (ht x h).elim) hlk hce hcv hcl (fun t' ht' hvm' => ⟨(), trivial, ⟨rfl, by rw [ht']; exact hB1, va_K.moved hvm' hK, hB3.weaken (fun k q hk h => hFc _ h)⟩, hS1.F ht'⟩) hS1.2.2 hc hs
end GWT2
def f_X9_titleX1 (fu : Nat) (s0 : St) (s1 : St) (p1 : Int32) (p2 : Int32) : Option Unit := (f_X5_hasTitle fu s1 p1).bind (fun q_5 => if q_5 = 0 then (some ()) else (none))
set_option maxHeartbeats 4000000 in
set_option maxRecDepth 100000 in
theorem t_X9_titleX1 (l : Launch) (hst : l.stackTraces = false) (D : va_G) (cy : Nat → ClassId) (h0 : Nat) (r0_0 : Nat) (r0_1 : Nat) (r0_3 : Nat) (r0_4 : Nat) (r0_5 : Nat) (r0_6 : Nat) (s0 : St) (h1 : Nat) (a1 : Nat → Nat) (s1 : St) (sz fu : Nat) (p1 : Int32) (p2 : Int32) (hf : f_X9_titleX1 fu s0 s1 p1 p2 = some ()) :
    vx_Met l yX9_title (WS yX9_title cX9_title 3 (some .int)) ({ frames := 6, cells := 1, slots := 6, locals := 90 } : Room) (va_Pc [.ref h0, .int p1, .int p2] (gPT D cy sz ((w9 cy h0 r0_0 r0_1 h1 r0_3 r0_4 r0_5 r0_6 s0) ++ (w5 cy h1 a1 s1)))) (va_Qi (fun _ (_ : Unit) => False) (fun _ _ => True) (va_A ((w9 cy h0 r0_0 r0_1 h1 r0_3 r0_4 r0_5 r0_6 s0) ++ (w5 cy h1 a1 s1)) sz)) (gXC D cy (va_A ((w9 cy h0 r0_0 r0_1 h1 r0_3 r0_4 r0_5 r0_6 s0) ++ (w5 cy h1 a1 s1)) sz) nIOB ((w9 cy h0 r0_0 r0_1 h1 r0_3 r0_4 r0_5 r0_6 s0) ++ (w5 cy h1 a1 s1))) 1 6 (va_A ((w9 cy h0 r0_0 r0_1 h1 r0_3 r0_4 r0_5 r0_6 s0) ++ (w5 cy h1 a1 s1)) sz) := by
  refine g_metT (cc := cX9_title) (maxL := 3) (ret := (some .int)) (fun A : Nat → Prop => va_Qi (fun _ (_ : Unit) => False) (fun _ _ => True) A) (fun A : Nat → Prop => gXC D cy A nIOB ((w9 cy h0 r0_0 r0_1 h1 r0_3 r0_4 r0_5 r0_6 s0) ++ (w5 cy h1 a1 s1))) (by decide +kernel) rfl (Nat.le_of_ble_eq_true rfl) ?_
  intro p e s m below meth c A C ht hA hT hK hP hD ls hl
  obtain ⟨hx, hb, hr, hml, hown, hts, hlk⟩ := id C
  have hown : s.vm.findClass RX9 = some m.cls := hown
  have hS : va_S A s.heap s.heap [] := va_S.rf
  have hl : lv_has ls 3 [(0, .ref h0), (1, .int p1), (2, .int p2)] := hl
  have hk_22 := hts _ (List.mem_cons_of_mem _ fl_RX9_22)
  unfold f_X9_titleX1 at hf
  refine lv_aload_n hx hb dX9_title_0 rfl (lv_at hl 0 rfl) ?_
  refine va_get (ci := 8) (v := .ref h1) (C := RX9) (T := TX9) (N := 7) hx hb hts (fun w h => List.mem_cons_of_mem _ (inX9 w h)) hown hK hP 0 rfl rfl 2 (by decide) hk_22 (fun _ h9 => h9) rfl dX9_title_1 ?_
  refine lv_iload_n hx hb dX9_title_4 rfl (lv_at hl 1 rfl) ?_
  obtain ⟨q_5, hc_5, hf⟩ := op_bind hf
  refine g_callVi (As := [.int p1]) (rest := []) (w2 := (w9 cy h0 r0_0 r0_1 h1 r0_3 r0_4 r0_5 r0_6 s0) ++ (w5 cy h1 a1 s1)) ⟨hx, hb, hml, hown, hts⟩ (c_X5_hasTitle l D cy h1 a1 s1 _ fu p1 _ hc_5) (cwV 1 hts (gi_V ml_RX9_109 im_X5_hasTitle se_X5_hasTitle in_RX5 cd_X5_hasTitle) rfl rfl rfl hdX5_hasTitle ⟨Nat.le_of_ble_eq_true rfl, Nat.le_of_ble_eq_true rfl⟩) (va_recv hK hP (ci := 5) (q0 := 1) rfl rfl) rfl hl.1 rfl (Nat.le_of_ble_eq_true rfl) dX9_title_5 hK hP hD hS hA [1, 2, 3, 4, 5, 6, 7, 8, 9] [0] [0, 1, 2, 3, 4, 5, 6, 7, 8, 9] rfl rfl rfl rfl (by decide) rfl rfl (fun H locs hP hD hS => ?_)
  refine lv_if_ne (tgt := 21) hx hb dX9_title_8 (by decide) (fun c_8 => ?_) (fun c_8 => ?_)
  · have hf := op_neg c_8 hf
    exact op_no hf
  · have hf := op_pos c_8 hf
    obtain ⟨sa, hstr⟩ := hT.2.1.1
    exact g_throw (cls := nIOB) (text := "no such title") (ik := 156) (is := 158) (ic := 160) (sa := sa) hx hb hst (by decide +kernel) (by decide +kernel) (by decide +kernel) (by decide +kernel) hown (by decide +kernel) (hts _ (List.mem_cons_of_mem _ cl_RX9_156)) (hts _ (List.mem_cons_of_mem _ in_IOB)) hstr (vx_hat (B := BX) (fun w hw => hts w (List.mem_cons_of_mem _ (List.mem_filter.mpr ⟨gx1 w hw, (List.mem_filter.mp hw).2⟩))) bx1 (fun w hw => va_Nw.use (BX_tab w hw) (hT.1 w hw))) go1 hT hK hP hD hS (hl.1.trans hml.symm) dX9_title_11 dX9_title_14 dX9_title_15 dX9_title_17 dX9_title_20 ht (Nat.le_of_ble_eq_true rfl) (Nat.le_of_ble_eq_true rfl) (Nat.le_of_ble_eq_true rfl) (Nat.le_of_ble_eq_true rfl) hlk (Nat.le_of_ble_eq_true rfl) (Nat.le_of_ble_eq_true rfl)
def f_X9_titleX2 (fu : Nat) (s0 : St) (s1 : St) (p1 : Int32) (p2 : Int32) : Option Unit := (f_X5_hasTitle fu s1 p1).bind (fun q_5 => if q_5 = 0 then (none) else (if p2 = 0 then (none) else (if p2 = 1 then (none) else (if p2 = 2 then (none) else (if p2 = 3 then (none) else (if p2 = 4 then (none) else (some ())))))))
set_option maxHeartbeats 4000000 in
set_option maxRecDepth 100000 in
theorem t_X9_titleX2 (l : Launch) (hst : l.stackTraces = false) (D : va_G) (cy : Nat → ClassId) (h0 : Nat) (r0_0 : Nat) (r0_1 : Nat) (r0_3 : Nat) (r0_4 : Nat) (r0_5 : Nat) (r0_6 : Nat) (s0 : St) (h1 : Nat) (a1 : Nat → Nat) (s1 : St) (sz fu : Nat) (p1 : Int32) (p2 : Int32) (hf : f_X9_titleX2 fu s0 s1 p1 p2 = some ()) :
    vx_Met l yX9_title (WS yX9_title cX9_title 3 (some .int)) ({ frames := 6, cells := 1, slots := 6, locals := 90 } : Room) (va_Pc [.ref h0, .int p1, .int p2] (gPT D cy sz ((w9 cy h0 r0_0 r0_1 h1 r0_3 r0_4 r0_5 r0_6 s0) ++ (w5 cy h1 a1 s1)))) (va_Qi (fun _ (_ : Unit) => False) (fun _ _ => True) (va_A ((w9 cy h0 r0_0 r0_1 h1 r0_3 r0_4 r0_5 r0_6 s0) ++ (w5 cy h1 a1 s1)) sz)) (gXC D cy (va_A ((w9 cy h0 r0_0 r0_1 h1 r0_3 r0_4 r0_5 r0_6 s0) ++ (w5 cy h1 a1 s1)) sz) nNSE ((w9 cy h0 r0_0 r0_1 h1 r0_3 r0_4 r0_5 r0_6 s0) ++ (w5 cy h1 a1 s1))) 1 6 (va_A ((w9 cy h0 r0_0 r0_1 h1 r0_3 r0_4 r0_5 r0_6 s0) ++ (w5 cy h1 a1 s1)) sz) := by
  refine g_metT (cc := cX9_title) (maxL := 3) (ret := (some .int)) (fun A : Nat → Prop => va_Qi (fun _ (_ : Unit) => False) (fun _ _ => True) A) (fun A : Nat → Prop => gXC D cy A nNSE ((w9 cy h0 r0_0 r0_1 h1 r0_3 r0_4 r0_5 r0_6 s0) ++ (w5 cy h1 a1 s1))) (by decide +kernel) rfl (Nat.le_of_ble_eq_true rfl) ?_
  intro p e s m below meth c A C ht hA hT hK hP hD ls hl
  obtain ⟨hx, hb, hr, hml, hown, hts, hlk⟩ := id C
  have hown : s.vm.findClass RX9 = some m.cls := hown
  have hS : va_S A s.heap s.heap [] := va_S.rf
  have hl : lv_has ls 3 [(0, .ref h0), (1, .int p1), (2, .int p2)] := hl
  have hk_22 := hts _ (List.mem_cons_of_mem _ fl_RX9_22)
  unfold f_X9_titleX2 at hf
  refine lv_aload_n hx hb dX9_title_0 rfl (lv_at hl 0 rfl) ?_
  refine va_get (ci := 8) (v := .ref h1) (C := RX9) (T := TX9) (N := 7) hx hb hts (fun w h => List.mem_cons_of_mem _ (inX9 w h)) hown hK hP 0 rfl rfl 2 (by decide) hk_22 (fun _ h9 => h9) rfl dX9_title_1 ?_
  refine lv_iload_n hx hb dX9_title_4 rfl (lv_at hl 1 rfl) ?_
  obtain ⟨q_5, hc_5, hf⟩ := op_bind hf
  refine g_callVi (As := [.int p1]) (rest := []) (w2 := (w9 cy h0 r0_0 r0_1 h1 r0_3 r0_4 r0_5 r0_6 s0) ++ (w5 cy h1 a1 s1)) ⟨hx, hb, hml, hown, hts⟩ (c_X5_hasTitle l D cy h1 a1 s1 _ fu p1 _ hc_5) (cwV 1 hts (gi_V ml_RX9_109 im_X5_hasTitle se_X5_hasTitle in_RX5 cd_X5_hasTitle) rfl rfl rfl hdX5_hasTitle ⟨Nat.le_of_ble_eq_true rfl, Nat.le_of_ble_eq_true rfl⟩) (va_recv hK hP (ci := 5) (q0 := 1) rfl rfl) rfl hl.1 rfl (Nat.le_of_ble_eq_true rfl) dX9_title_5 hK hP hD hS hA [1, 2, 3, 4, 5, 6, 7, 8, 9] [0] [0, 1, 2, 3, 4, 5, 6, 7, 8, 9] rfl rfl rfl rfl (by decide) rfl rfl (fun H locs hP hD hS => ?_)
  refine lv_if_ne (tgt := 21) hx hb dX9_title_8 (by decide) (fun c_8 => ?_) (fun c_8 => ?_)
  · have hf := op_neg c_8 hf
    refine lv_iload_n hx hb dX9_title_21 rfl (lv_at hl 2 rfl) ?_
    by_cases c_22_0 : p2 = 0
    · exact op_no (op_pos c_22_0 hf)
    · have hf := op_neg c_22_0 hf
      by_cases c_22_1 : p2 = 1
      · exact op_no (op_pos c_22_1 hf)
      · have hf := op_neg c_22_1 hf
        by_cases c_22_2 : p2 = 2
        · exact op_no (op_pos c_22_2 hf)
        · have hf := op_neg c_22_2 hf
          by_cases c_22_3 : p2 = 3
          · exact op_no (op_pos c_22_3 hf)
          · have hf := op_neg c_22_3 hf
            by_cases c_22_4 : p2 = 4
            · exact op_no (op_pos c_22_4 hf)
            · have hf := op_neg c_22_4 hf
              have e_0 : ¬ (p2).toInt = 0 := fun h => c_22_0 (Int32.toInt_inj.mp (h.trans (by decide)))
              have e_1 : ¬ (p2).toInt = 1 := fun h => c_22_1 (Int32.toInt_inj.mp (h.trans (by decide)))
              have e_2 : ¬ (p2).toInt = 2 := fun h => c_22_2 (Int32.toInt_inj.mp (h.trans (by decide)))
              have e_3 : ¬ (p2).toInt = 3 := fun h => c_22_3 (Int32.toInt_inj.mp (h.trans (by decide)))
              have e_4 : ¬ (p2).toInt = 4 := fun h => c_22_4 (Int32.toInt_inj.mp (h.trans (by decide)))
              refine lv_tableOut (tgt := 111) hx hb dX9_title_22 (by omega) (by decide) ?_
              obtain ⟨sa, hstr⟩ := hT.2.1.2.1
              exact g_throw (cls := nNSE) (text := "no such what") (ik := 179) (is := 181) (ic := 183) (sa := sa) hx hb hst (by decide +kernel) (by decide +kernel) (by decide +kernel) (by decide +kernel) hown (by decide +kernel) (hts _ (List.mem_cons_of_mem _ cl_RX9_179)) (hts _ (List.mem_cons_of_mem _ in_NSE)) hstr (vx_hat (B := BX) (fun w hw => hts w (List.mem_cons_of_mem _ (List.mem_filter.mpr ⟨gx2 w hw, (List.mem_filter.mp hw).2⟩))) bx2 (fun w hw => va_Nw.use (BX_tab w hw) (hT.1 w hw))) go2 hT hK hP hD hS (hl.1.trans hml.symm) dX9_title_111 dX9_title_114 dX9_title_115 dX9_title_117 dX9_title_120 ht (Nat.le_of_ble_eq_true rfl) (Nat.le_of_ble_eq_true rfl) (Nat.le_of_ble_eq_true rfl) (Nat.le_of_ble_eq_true rfl) hlk (Nat.le_of_ble_eq_true rfl) (Nat.le_of_ble_eq_true rfl)
  · have hf := op_pos c_8 hf
    exact op_no hf
def f_X9_refuseX1 (fu : Nat) (s0 : St) (s1 : St) (p1 : Int32) (p2 : Int32) : Option Unit := (f_X5_hasTitle fu s1 p1).bind (fun q_5 => if q_5 = 0 then (some ()) else (none))
set_option maxHeartbeats 4000000 in
set_option maxRecDepth 100000 in
theorem t_X9_refuseX1 (l : Launch) (hst : l.stackTraces = false) (D : va_G) (cy : Nat → ClassId) (h0 : Nat) (r0_0 : Nat) (r0_1 : Nat) (r0_3 : Nat) (r0_4 : Nat) (r0_5 : Nat) (r0_6 : Nat) (s0 : St) (h1 : Nat) (a1 : Nat → Nat) (s1 : St) (sz fu : Nat) (p1 : Int32) (p2 : Int32) (hf : f_X9_refuseX1 fu s0 s1 p1 p2 = some ()) :
    vx_Met l yX9_refuseUnknown (WS yX9_refuseUnknown cX9_refuseUnknown 3 none) ({ frames := 6, cells := 1, slots := 6, locals := 90 } : Room) (va_Pc [.ref h0, .int p1, .int p2] (gPT D cy sz ((w9 cy h0 r0_0 r0_1 h1 r0_3 r0_4 r0_5 r0_6 s0) ++ (w5 cy h1 a1 s1)))) (va_Qv (fun (_ : Unit) => False) (fun _ _ => True) (va_A ((w9 cy h0 r0_0 r0_1 h1 r0_3 r0_4 r0_5 r0_6 s0) ++ (w5 cy h1 a1 s1)) sz)) (gXC D cy (va_A ((w9 cy h0 r0_0 r0_1 h1 r0_3 r0_4 r0_5 r0_6 s0) ++ (w5 cy h1 a1 s1)) sz) nIOB ((w9 cy h0 r0_0 r0_1 h1 r0_3 r0_4 r0_5 r0_6 s0) ++ (w5 cy h1 a1 s1))) 1 6 (va_A ((w9 cy h0 r0_0 r0_1 h1 r0_3 r0_4 r0_5 r0_6 s0) ++ (w5 cy h1 a1 s1)) sz) := by
  refine g_metT (cc := cX9_refuseUnknown) (maxL := 3) (ret := none) (fun A : Nat → Prop => va_Qv (fun (_ : Unit) => False) (fun _ _ => True) A) (fun A : Nat → Prop => gXC D cy A nIOB ((w9 cy h0 r0_0 r0_1 h1 r0_3 r0_4 r0_5 r0_6 s0) ++ (w5 cy h1 a1 s1))) (by decide +kernel) rfl (Nat.le_of_ble_eq_true rfl) ?_
  intro p e s m below meth c A C ht hA hT hK hP hD ls hl
  obtain ⟨hx, hb, hr, hml, hown, hts, hlk⟩ := id C
  have hown : s.vm.findClass RX9 = some m.cls := hown
  have hS : va_S A s.heap s.heap [] := va_S.rf
  have hl : lv_has ls 3 [(0, .ref h0), (1, .int p1), (2, .int p2)] := hl
  have hk_22 := hts _ (List.mem_cons_of_mem _ fl_RX9_22)
  unfold f_X9_refuseX1 at hf
  refine lv_aload_n hx hb dX9_refuseUnknown_0 rfl (lv_at hl 0 rfl) ?_
  refine va_get (ci := 8) (v := .ref h1) (C := RX9) (T := TX9) (N := 7) hx hb hts (fun w h => List.mem_cons_of_mem _ (inX9 w h)) hown hK hP 0 rfl rfl 2 (by decide) hk_22 (fun _ h9 => h9) rfl dX9_refuseUnknown_1 ?_
  refine lv_iload_n hx hb dX9_refuseUnknown_4 rfl (lv_at hl 1 rfl) ?_
  obtain ⟨q_5, hc_5, hf⟩ := op_bind hf
  refine g_callVi (As := [.int p1]) (rest := []) (w2 := (w9 cy h0 r0_0 r0_1 h1 r0_3 r0_4 r0_5 r0_6 s0) ++ (w5 cy h1 a1 s1)) ⟨hx, hb, hml, hown, hts⟩ (c_X5_hasTitle l D cy h1 a1 s1 _ fu p1 _ hc_5) (cwV 1 hts (gi_V ml_RX9_109 im_X5_hasTitle se_X5_hasTitle in_RX5 cd_X5_hasTitle) rfl rfl rfl hdX5_hasTitle ⟨Nat.le_of_ble_eq_true rfl, Nat.le_of_ble_eq_true rfl⟩) (va_recv hK hP (ci := 5) (q0 := 1) rfl rfl) rfl hl.1 rfl (Nat.le_of_ble_eq_true rfl) dX9_refuseUnknown_5 hK hP hD hS hA [1, 2, 3, 4, 5, 6, 7, 8, 9] [0] [0, 1, 2, 3, 4, 5, 6, 7, 8, 9] rfl rfl rfl rfl (by decide) rfl rfl (fun H locs hP hD hS => ?_)
  refine lv_if_ne (tgt := 21) hx hb dX9_refuseUnknown_8 (by decide) (fun c_8 => ?_) (fun c_8 => ?_)
  · have hf := op_neg c_8 hf
    exact op_no hf
  · have hf := op_pos c_8 hf
    obtain ⟨sa, hstr⟩ := hT.2.1.1
    exact g_throw (cls := nIOB) (text := "no such title") (ik := 156) (is := 158) (ic := 160) (sa := sa) hx hb hst (by decide +kernel) (by decide +kernel) (by decide +kernel) (by decide +kernel) hown (by decide +kernel) (hts _ (List.mem_cons_of_mem _ cl_RX9_156)) (hts _ (List.mem_cons_of_mem _ in_IOB)) hstr (vx_hat (B := BX) (fun w hw => hts w (List.mem_cons_of_mem _ (List.mem_filter.mpr ⟨gx1 w hw, (List.mem_filter.mp hw).2⟩))) bx1 (fun w hw => va_Nw.use (BX_tab w hw) (hT.1 w hw))) go1 hT hK hP hD hS (hl.1.trans hml.symm) dX9_refuseUnknown_11 dX9_refuseUnknown_14 dX9_refuseUnknown_15 dX9_refuseUnknown_17 dX9_refuseUnknown_20 ht (Nat.le_of_ble_eq_true rfl) (Nat.le_of_ble_eq_true rfl) (Nat.le_of_ble_eq_true rfl) (Nat.le_of_ble_eq_true rfl) hlk (Nat.le_of_ble_eq_true rfl) (Nat.le_of_ble_eq_true rfl)
def f_X9_refuseX2 (fu : Nat) (s0 : St) (s1 : St) (p1 : Int32) (p2 : Int32) : Option Unit := (f_X5_hasTitle fu s1 p1).bind (fun q_5 => if q_5 = 0 then (none) else ((f_X5_hasTongue fu s1 p2).bind (fun q_26 => if q_26 = 0 then (some ()) else (none))))
set_option maxHeartbeats 4000000 in
set_option maxRecDepth 100000 in
theorem t_X9_refuseX2 (l : Launch) (hst : l.stackTraces = false) (D : va_G) (cy : Nat → ClassId) (h0 : Nat) (r0_0 : Nat) (r0_1 : Nat) (r0_3 : Nat) (r0_4 : Nat) (r0_5 : Nat) (r0_6 : Nat) (s0 : St) (h1 : Nat) (a1 : Nat → Nat) (s1 : St) (sz fu : Nat) (p1 : Int32) (p2 : Int32) (hf : f_X9_refuseX2 fu s0 s1 p1 p2 = some ()) :
    vx_Met l yX9_refuseUnknown (WS yX9_refuseUnknown cX9_refuseUnknown 3 none) ({ frames := 6, cells := 1, slots := 6, locals := 90 } : Room) (va_Pc [.ref h0, .int p1, .int p2] (gPT D cy sz ((w9 cy h0 r0_0 r0_1 h1 r0_3 r0_4 r0_5 r0_6 s0) ++ (w5 cy h1 a1 s1)))) (va_Qv (fun (_ : Unit) => False) (fun _ _ => True) (va_A ((w9 cy h0 r0_0 r0_1 h1 r0_3 r0_4 r0_5 r0_6 s0) ++ (w5 cy h1 a1 s1)) sz)) (gXC D cy (va_A ((w9 cy h0 r0_0 r0_1 h1 r0_3 r0_4 r0_5 r0_6 s0) ++ (w5 cy h1 a1 s1)) sz) nNSE ((w9 cy h0 r0_0 r0_1 h1 r0_3 r0_4 r0_5 r0_6 s0) ++ (w5 cy h1 a1 s1))) 1 6 (va_A ((w9 cy h0 r0_0 r0_1 h1 r0_3 r0_4 r0_5 r0_6 s0) ++ (w5 cy h1 a1 s1)) sz) := by
  refine g_metT (cc := cX9_refuseUnknown) (maxL := 3) (ret := none) (fun A : Nat → Prop => va_Qv (fun (_ : Unit) => False) (fun _ _ => True) A) (fun A : Nat → Prop => gXC D cy A nNSE ((w9 cy h0 r0_0 r0_1 h1 r0_3 r0_4 r0_5 r0_6 s0) ++ (w5 cy h1 a1 s1))) (by decide +kernel) rfl (Nat.le_of_ble_eq_true rfl) ?_
  intro p e s m below meth c A C ht hA hT hK hP hD ls hl
  obtain ⟨hx, hb, hr, hml, hown, hts, hlk⟩ := id C
  have hown : s.vm.findClass RX9 = some m.cls := hown
  have hS : va_S A s.heap s.heap [] := va_S.rf
  have hl : lv_has ls 3 [(0, .ref h0), (1, .int p1), (2, .int p2)] := hl
  have hk_22 := hts _ (List.mem_cons_of_mem _ fl_RX9_22)
  unfold f_X9_refuseX2 at hf
  refine lv_aload_n hx hb dX9_refuseUnknown_0 rfl (lv_at hl 0 rfl) ?_
  refine va_get (ci := 8) (v := .ref h1) (C := RX9) (T := TX9) (N := 7) hx hb hts (fun w h => List.mem_cons_of_mem _ (inX9 w h)) hown hK hP 0 rfl rfl 2 (by decide) hk_22 (fun _ h9 => h9) rfl dX9_refuseUnknown_1 ?_
  refine lv_iload_n hx hb dX9_refuseUnknown_4 rfl (lv_at hl 1 rfl) ?_
  obtain ⟨q_5, hc_5, hf⟩ := op_bind hf
  refine g_callVi (As := [.int p1]) (rest := []) (w2 := (w9 cy h0 r0_0 r0_1 h1 r0_3 r0_4 r0_5 r0_6 s0) ++ (w5 cy h1 a1 s1)) ⟨hx, hb, hml, hown, hts⟩ (c_X5_hasTitle l D cy h1 a1 s1 _ fu p1 _ hc_5) (cwV 1 hts (gi_V ml_RX9_109 im_X5_hasTitle se_X5_hasTitle in_RX5 cd_X5_hasTitle) rfl rfl rfl hdX5_hasTitle ⟨Nat.le_of_ble_eq_true rfl, Nat.le_of_ble_eq_true rfl⟩) (va_recv hK hP (ci := 5) (q0 := 1) rfl rfl) rfl hl.1 rfl (Nat.le_of_ble_eq_true rfl) dX9_refuseUnknown_5 hK hP hD hS hA [1, 2, 3, 4, 5, 6, 7, 8, 9] [0] [0, 1, 2, 3, 4, 5, 6, 7, 8, 9] rfl rfl rfl rfl (by decide) rfl rfl (fun H locs hP hD hS => ?_)
  refine lv_if_ne (tgt := 21) hx hb dX9_refuseUnknown_8 (by decide) (fun c_8 => ?_) (fun c_8 => ?_)
  · have hf := op_neg c_8 hf
    refine lv_aload_n hx hb dX9_refuseUnknown_21 rfl (lv_at hl 0 rfl) ?_
    refine va_get (ci := 8) (v := .ref h1) (C := RX9) (T := TX9) (N := 7) hx hb hts (fun w h => List.mem_cons_of_mem _ (inX9 w h)) hown hK hP 0 rfl rfl 2 (by decide) hk_22 (fun _ h9 => h9) rfl dX9_refuseUnknown_22 ?_
    refine lv_iload_n hx hb dX9_refuseUnknown_25 rfl (lv_at hl 2 rfl) ?_
    obtain ⟨q_26, hc_26, hf⟩ := op_bind hf
    refine g_callVi (As := [.int p2]) (rest := []) (w2 := (w9 cy h0 r0_0 r0_1 h1 r0_3 r0_4 r0_5 r0_6 s0) ++ (w5 cy h1 a1 s1)) ⟨hx, hb, hml, hown, hts⟩ (c_X5_hasTongue l D cy h1 a1 s1 _ fu p2 _ hc_26) (cwV 1 hts (gi_V ml_RX9_112 im_X5_hasTongue se_X5_hasTongue in_RX5 cd_X5_hasTongue) rfl rfl rfl hdX5_hasTongue ⟨Nat.le_of_ble_eq_true rfl, Nat.le_of_ble_eq_true rfl⟩) (va_recv hK hP (ci := 5) (q0 := 1) rfl rfl) rfl hl.1 rfl (Nat.le_of_ble_eq_true rfl) dX9_refuseUnknown_26 hK hP hD hS hA [1, 2, 3, 4, 5, 6, 7, 8, 9] [0] [0, 1, 2, 3, 4, 5, 6, 7, 8, 9] rfl rfl rfl rfl (by decide) rfl rfl (fun H locs hP hD hS => ?_)
    refine lv_if_ne (tgt := 42) hx hb dX9_refuseUnknown_29 (by decide) (fun c_29 => ?_) (fun c_29 => ?_)
    · have hf := op_neg c_29 hf
      exact op_no hf
    · have hf := op_pos c_29 hf
      obtain ⟨sa, hstr⟩ := hT.2.1.2.2
      exact g_throw (cls := nNSE) (text := "no such tongue") (ik := 179) (is := 199) (ic := 183) (sa := sa) hx hb hst (by decide +kernel) (by decide +kernel) (by decide +kernel) (by decide +kernel) hown (by decide +kernel) (hts _ (List.mem_cons_of_mem _ cl_RX9_179)) (hts _ (List.mem_cons_of_mem _ in_NSE)) hstr (vx_hat (B := BX) (fun w hw => hts w (List.mem_cons_of_mem _ (List.mem_filter.mpr ⟨gx2 w hw, (List.mem_filter.mp hw).2⟩))) bx2 (fun w hw => va_Nw.use (BX_tab w hw) (hT.1 w hw))) go2 hT hK hP hD hS (hl.1.trans hml.symm) dX9_refuseUnknown_32 dX9_refuseUnknown_35 dX9_refuseUnknown_36 dX9_refuseUnknown_38 dX9_refuseUnknown_41 ht (Nat.le_of_ble_eq_true rfl) (Nat.le_of_ble_eq_true rfl) (Nat.le_of_ble_eq_true rfl) (Nat.le_of_ble_eq_true rfl) hlk (Nat.le_of_ble_eq_true rfl) (Nat.le_of_ble_eq_true rfl)
  · have hf := op_pos c_8 hf
    exact op_no hf
set_option maxHeartbeats 4000000 in
set_option maxRecDepth 100000 in
theorem t_X9_pagesX1 (l : Launch) (hst : l.stackTraces = false) (D : va_G) (cy : Nat → ClassId) (h0 : Nat) (r0_0 : Nat) (r0_1 : Nat) (r0_3 : Nat) (r0_4 : Nat) (r0_5 : Nat) (r0_6 : Nat) (s0 : St) (h1 : Nat) (a1 : Nat → Nat) (s1 : St) (sz fu : Nat) (p1 : Int32) (p2 : Int32) (hf : f_X9_refuseX1 fu s0 s1 p1 p2 = some ()) :
    vx_Met l yX9_pages (WS yX9_pages cX9_pages 3 (some .int)) ({ frames := 7, cells := 1, slots := 6, locals := 112 } : Room) (va_Pc [.ref h0, .int p1, .int p2] (gPT D cy sz ((w9 cy h0 r0_0 r0_1 h1 r0_3 r0_4 r0_5 r0_6 s0) ++ (w5 cy h1 a1 s1)))) (va_Qi (fun _ (_ : Unit) => False) (fun _ _ => True) (va_A ((w9 cy h0 r0_0 r0_1 h1 r0_3 r0_4 r0_5 r0_6 s0) ++ (w5 cy h1 a1 s1)) sz)) (gXC D cy (va_A ((w9 cy h0 r0_0 r0_1 h1 r0_3 r0_4 r0_5 r0_6 s0) ++ (w5 cy h1 a1 s1)) sz) nIOB ((w9 cy h0 r0_0 r0_1 h1 r0_3 r0_4 r0_5 r0_6 s0) ++ (w5 cy h1 a1 s1))) 1 6 (va_A ((w9 cy h0 r0_0 r0_1 h1 r0_3 r0_4 r0_5 r0_6 s0) ++ (w5 cy h1 a1 s1)) sz) := by
  refine g_metT (cc := cX9_pages) (maxL := 3) (ret := (some .int)) (fun A : Nat → Prop => va_Qi (fun _ (_ : Unit) => False) (fun _ _ => True) A) (fun A : Nat → Prop => gXC D cy A nIOB ((w9 cy h0 r0_0 r0_1 h1 r0_3 r0_4 r0_5 r0_6 s0) ++ (w5 cy h1 a1 s1))) (by decide +kernel) rfl (Nat.le_of_ble_eq_true rfl) ?_
  intro p e s m below meth c A C ht hA hT hK hP hD ls hl
  obtain ⟨hx, hb, hr, hml, hown, hts, hlk⟩ := id C
  have hown : s.vm.findClass RX9 = some m.cls := hown
  have hS : va_S A s.heap s.heap [] := va_S.rf
  have hl : lv_has ls 3 [(0, .ref h0), (1, .int p1), (2, .int p2)] := hl
  refine lv_aload_n hx hb dX9_pages_0 rfl (lv_at hl 0 rfl) ?_
  refine lv_iload_n hx hb dX9_pages_1 rfl (lv_at hl 1 rfl) ?_
  refine lv_iload_n hx hb dX9_pages_2 rfl (lv_at hl 2 rfl) ?_
  exact g_on (As := [.int p1, .int p2]) (rest := []) ⟨hx, hb, hml, hown, hts⟩ (t_X9_refuseX1 l hst D cy h0 r0_0 r0_1 r0_3 r0_4 r0_5 r0_6 s0 h1 a1 s1 _ fu p1 p2 hf) (cwV 2 hts (gi_V ml_RX9_184 im_X9_refuseUnknown se_X9_refuseUnknown in_RX9 cd_X9_refuseUnknown) rfl rfl rfl hdX9_refuseUnknown ⟨(Nat.le_of_ble_eq_true rfl), (Nat.le_of_ble_eq_true rfl)⟩) (va_recv hK hP (ci := 8) (q0 := 0) rfl rfl) rfl hl.1 rfl (Nat.le_of_ble_eq_true rfl) dX9_pages_3 hT hK hP hD hS hA ht hlk (Nat.le_of_ble_eq_true rfl) (Nat.le_of_ble_eq_true rfl) (Nat.le_of_ble_eq_true rfl) (Nat.le_of_ble_eq_true rfl)
set_option maxHeartbeats 4000000 in
set_option maxRecDepth 100000 in
theorem t_X9_pagesX2 (l : Launch) (hst : l.stackTraces = false) (D : va_G) (cy : Nat → ClassId) (h0 : Nat) (r0_0 : Nat) (r0_1 : Nat) (r0_3 : Nat) (r0_4 : Nat) (r0_5 : Nat) (r0_6 : Nat) (s0 : St) (h1 : Nat) (a1 : Nat → Nat) (s1 : St) (sz fu : Nat) (p1 : Int32) (p2 : Int32) (hf : f_X9_refuseX2 fu s0 s1 p1 p2 = some ()) :
    vx_Met l yX9_pages (WS yX9_pages cX9_pages 3 (some .int)) ({ frames := 7, cells := 1, slots := 6, locals := 112 } : Room) (va_Pc [.ref h0, .int p1, .int p2] (gPT D cy sz ((w9 cy h0 r0_0 r0_1 h1 r0_3 r0_4 r0_5 r0_6 s0) ++ (w5 cy h1 a1 s1)))) (va_Qi (fun _ (_ : Unit) => False) (fun _ _ => True) (va_A ((w9 cy h0 r0_0 r0_1 h1 r0_3 r0_4 r0_5 r0_6 s0) ++ (w5 cy h1 a1 s1)) sz)) (gXC D cy (va_A ((w9 cy h0 r0_0 r0_1 h1 r0_3 r0_4 r0_5 r0_6 s0) ++ (w5 cy h1 a1 s1)) sz) nNSE ((w9 cy h0 r0_0 r0_1 h1 r0_3 r0_4 r0_5 r0_6 s0) ++ (w5 cy h1 a1 s1))) 1 6 (va_A ((w9 cy h0 r0_0 r0_1 h1 r0_3 r0_4 r0_5 r0_6 s0) ++ (w5 cy h1 a1 s1)) sz) := by
  refine g_metT (cc := cX9_pages) (maxL := 3) (ret := (some .int)) (fun A : Nat → Prop => va_Qi (fun _ (_ : Unit) => False) (fun _ _ => True) A) (fun A : Nat → Prop => gXC D cy A nNSE ((w9 cy h0 r0_0 r0_1 h1 r0_3 r0_4 r0_5 r0_6 s0) ++ (w5 cy h1 a1 s1))) (by decide +kernel) rfl (Nat.le_of_ble_eq_true rfl) ?_
  intro p e s m below meth c A C ht hA hT hK hP hD ls hl
  obtain ⟨hx, hb, hr, hml, hown, hts, hlk⟩ := id C
  have hown : s.vm.findClass RX9 = some m.cls := hown
  have hS : va_S A s.heap s.heap [] := va_S.rf
  have hl : lv_has ls 3 [(0, .ref h0), (1, .int p1), (2, .int p2)] := hl
  refine lv_aload_n hx hb dX9_pages_0 rfl (lv_at hl 0 rfl) ?_
  refine lv_iload_n hx hb dX9_pages_1 rfl (lv_at hl 1 rfl) ?_
  refine lv_iload_n hx hb dX9_pages_2 rfl (lv_at hl 2 rfl) ?_
  exact g_on (As := [.int p1, .int p2]) (rest := []) ⟨hx, hb, hml, hown, hts⟩ (t_X9_refuseX2 l hst D cy h0 r0_0 r0_1 r0_3 r0_4 r0_5 r0_6 s0 h1 a1 s1 _ fu p1 p2 hf) (cwV 2 hts (gi_V ml_RX9_184 im_X9_refuseUnknown se_X9_refuseUnknown in_RX9 cd_X9_refuseUnknown) rfl rfl rfl hdX9_refuseUnknown ⟨(Nat.le_of_ble_eq_true rfl), (Nat.le_of_ble_eq_true rfl)⟩) (va_recv hK hP (ci := 8) (q0 := 0) rfl rfl) rfl hl.1 rfl (Nat.le_of_ble_eq_true rfl) dX9_pages_3 hT hK hP hD hS hA ht hlk (Nat.le_of_ble_eq_true rfl) (Nat.le_of_ble_eq_true rfl) (Nat.le_of_ble_eq_true rfl) (Nat.le_of_ble_eq_true rfl)
set_option maxHeartbeats 4000000 in
set_option maxRecDepth 100000 in
theorem t_X9_priceX1 (l : Launch) (hst : l.stackTraces = false) (D : va_G) (cy : Nat → ClassId) (h0 : Nat) (r0_0 : Nat) (r0_1 : Nat) (r0_3 : Nat) (r0_4 : Nat) (r0_5 : Nat) (r0_6 : Nat) (s0 : St) (h1 : Nat) (a1 : Nat → Nat) (s1 : St) (sz fu : Nat) (p1 : Int32) (p2 : Int32) (hf : f_X9_refuseX1 fu s0 s1 p1 p2 = some ()) :
    vx_Met l yX9_price (WS yX9_price cX9_price 3 (some .int)) ({ frames := 7, cells := 1, slots := 6, locals := 112 } : Room) (va_Pc [.ref h0, .int p1, .int p2] (gPT D cy sz ((w9 cy h0 r0_0 r0_1 h1 r0_3 r0_4 r0_5 r0_6 s0) ++ (w5 cy h1 a1 s1)))) (va_Qi (fun _ (_ : Unit) => False) (fun _ _ => True) (va_A ((w9 cy h0 r0_0 r0_1 h1 r0_3 r0_4 r0_5 r0_6 s0) ++ (w5 cy h1 a1 s1)) sz)) (gXC D cy (va_A ((w9 cy h0 r0_0 r0_1 h1 r0_3 r0_4 r0_5 r0_6 s0) ++ (w5 cy h1 a1 s1)) sz) nIOB ((w9 cy h0 r0_0 r0_1 h1 r0_3 r0_4 r0_5 r0_6 s0) ++ (w5 cy h1 a1 s1))) 1 6 (va_A ((w9 cy h0 r0_0 r0_1 h1 r0_3 r0_4 r0_5 r0_6 s0) ++ (w5 cy h1 a1 s1)) sz) := by
  refine g_metT (cc := cX9_price) (maxL := 3) (ret := (some .int)) (fun A : Nat → Prop => va_Qi (fun _ (_ : Unit) => False) (fun _ _ => True) A) (fun A : Nat → Prop => gXC D cy A nIOB ((w9 cy h0 r0_0 r0_1 h1 r0_3 r0_4 r0_5 r0_6 s0) ++ (w5 cy h1 a1 s1))) (by decide +kernel) rfl (Nat.le_of_ble_eq_true rfl) ?_
  intro p e s m below meth c A C ht hA hT hK hP hD ls hl
  obtain ⟨hx, hb, hr, hml, hown, hts, hlk⟩ := id C
  have hown : s.vm.findClass RX9 = some m.cls := hown
  have hS : va_S A s.heap s.heap [] := va_S.rf
  have hl : lv_has ls 3 [(0, .ref h0), (1, .int p1), (2, .int p2)] := hl
  refine lv_aload_n hx hb dX9_price_0 rfl (lv_at hl 0 rfl) ?_
  refine lv_iload_n hx hb dX9_price_1 rfl (lv_at hl 1 rfl) ?_
  refine lv_iload_n hx hb dX9_price_2 rfl (lv_at hl 2 rfl) ?_
  exact g_on (As := [.int p1, .int p2]) (rest := []) ⟨hx, hb, hml, hown, hts⟩ (t_X9_refuseX1 l hst D cy h0 r0_0 r0_1 r0_3 r0_4 r0_5 r0_6 s0 h1 a1 s1 _ fu p1 p2 hf) (cwV 2 hts (gi_V ml_RX9_184 im_X9_refuseUnknown se_X9_refuseUnknown in_RX9 cd_X9_refuseUnknown) rfl rfl rfl hdX9_refuseUnknown ⟨(Nat.le_of_ble_eq_true rfl), (Nat.le_of_ble_eq_true rfl)⟩) (va_recv hK hP (ci := 8) (q0 := 0) rfl rfl) rfl hl.1 rfl (Nat.le_of_ble_eq_true rfl) dX9_price_3 hT hK hP hD hS hA ht hlk (Nat.le_of_ble_eq_true rfl) (Nat.le_of_ble_eq_true rfl) (Nat.le_of_ble_eq_true rfl) (Nat.le_of_ble_eq_true rfl)
set_option maxHeartbeats 4000000 in
set_option maxRecDepth 100000 in
theorem t_X9_priceX2 (l : Launch) (hst : l.stackTraces = false) (D : va_G) (cy : Nat → ClassId) (h0 : Nat) (r0_0 : Nat) (r0_1 : Nat) (r0_3 : Nat) (r0_4 : Nat) (r0_5 : Nat) (r0_6 : Nat) (s0 : St) (h1 : Nat) (a1 : Nat → Nat) (s1 : St) (sz fu : Nat) (p1 : Int32) (p2 : Int32) (hf : f_X9_refuseX2 fu s0 s1 p1 p2 = some ()) :
    vx_Met l yX9_price (WS yX9_price cX9_price 3 (some .int)) ({ frames := 7, cells := 1, slots := 6, locals := 112 } : Room) (va_Pc [.ref h0, .int p1, .int p2] (gPT D cy sz ((w9 cy h0 r0_0 r0_1 h1 r0_3 r0_4 r0_5 r0_6 s0) ++ (w5 cy h1 a1 s1)))) (va_Qi (fun _ (_ : Unit) => False) (fun _ _ => True) (va_A ((w9 cy h0 r0_0 r0_1 h1 r0_3 r0_4 r0_5 r0_6 s0) ++ (w5 cy h1 a1 s1)) sz)) (gXC D cy (va_A ((w9 cy h0 r0_0 r0_1 h1 r0_3 r0_4 r0_5 r0_6 s0) ++ (w5 cy h1 a1 s1)) sz) nNSE ((w9 cy h0 r0_0 r0_1 h1 r0_3 r0_4 r0_5 r0_6 s0) ++ (w5 cy h1 a1 s1))) 1 6 (va_A ((w9 cy h0 r0_0 r0_1 h1 r0_3 r0_4 r0_5 r0_6 s0) ++ (w5 cy h1 a1 s1)) sz) := by
  refine g_metT (cc := cX9_price) (maxL := 3) (ret := (some .int)) (fun A : Nat → Prop => va_Qi (fun _ (_ : Unit) => False) (fun _ _ => True) A) (fun A : Nat → Prop => gXC D cy A nNSE ((w9 cy h0 r0_0 r0_1 h1 r0_3 r0_4 r0_5 r0_6 s0) ++ (w5 cy h1 a1 s1))) (by decide +kernel) rfl (Nat.le_of_ble_eq_true rfl) ?_
  intro p e s m below meth c A C ht hA hT hK hP hD ls hl
  obtain ⟨hx, hb, hr, hml, hown, hts, hlk⟩ := id C
  have hown : s.vm.findClass RX9 = some m.cls := hown
  have hS : va_S A s.heap s.heap [] := va_S.rf
  have hl : lv_has ls 3 [(0, .ref h0), (1, .int p1), (2, .int p2)] := hl
  refine lv_aload_n hx hb dX9_price_0 rfl (lv_at hl 0 rfl) ?_
  refine lv_iload_n hx hb dX9_price_1 rfl (lv_at hl 1 rfl) ?_
  refine lv_iload_n hx hb dX9_price_2 rfl (lv_at hl 2 rfl) ?_
  exact g_on (As := [.int p1, .int p2]) (rest := []) ⟨hx, hb, hml, hown, hts⟩ (t_X9_refuseX2 l hst D cy h0 r0_0 r0_1 r0_3 r0_4 r0_5 r0_6 s0 h1 a1 s1 _ fu p1 p2 hf) (cwV 2 hts (gi_V ml_RX9_184 im_X9_refuseUnknown se_X9_refuseUnknown in_RX9 cd_X9_refuseUnknown) rfl rfl rfl hdX9_refuseUnknown ⟨(Nat.le_of_ble_eq_true rfl), (Nat.le_of_ble_eq_true rfl)⟩) (va_recv hK hP (ci := 8) (q0 := 0) rfl rfl) rfl hl.1 rfl (Nat.le_of_ble_eq_true rfl) dX9_price_3 hT hK hP hD hS hA ht hlk (Nat.le_of_ble_eq_true rfl) (Nat.le_of_ble_eq_true rfl) (Nat.le_of_ble_eq_true rfl) (Nat.le_of_ble_eq_true rfl)
