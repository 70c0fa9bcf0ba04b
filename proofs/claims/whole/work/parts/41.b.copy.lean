/-! calls by modules that may make cells; Arrays.copyOf of bytes -/
theorem g_metC {l : Launch} {y : MethodName} {ws ws' : List Cond} {rm : Room} {cc : ByteArray} {maxL mc ms : Nat} {ret : Option FieldType} {D : va_G} {cy : Nat → ClassId} {av : List Value} {wsx : va_W} {sz : Nat} (Qp : (Nat → Prop) → Array Value → State → Outcome → State → Prop)
    (hy : plainName y.cls = true) (hw : ws = Cond.code y cc maxL ret :: ws') (hlen : (lg_sl av).length ≤ maxL)
    (body : ∀ (p : Program) (e : Env) (s : State) (m : MethodId) (below : List Frame) (meth : Method) (c : Code) (A : Nat → Prop), gC p s m av.toArray meth c ws cc maxL ret y.cls → (∀ q : Nat, s.heap.size ≤ q → A q) → va_K D vwCl (TY cy) s → va_P D vwCl wsx s.heap → va_D A wsx → ∀ ls : Array Slot, lv_has ls maxL (lv_args 0 av) →
      W p l e rm s m av.toArray below meth c s.heap [] 0 0 (MQ below (Qp A) av.toArray s mc ms A) (F0 m 0 ls [])) :
    Met l y ws rm (va_Pc av (gP D cy sz wsx)) (Qp (va_A wsx sz)) mc ms (va_A wsx sz) := by
  refine Met.ofW (cc := cc) (maxL := maxL) (ret := ret) hy hw ?_
  intro p e s m args below meth c s₁ B hml hv
  obtain ⟨rfl, hsz, hP, hK, hD0⟩ := hv
  have hts := atoms_spec (ws := ws) B.pre
  have hown : s.vm.findClass y.cls = some m.cls := findClass_of_methodNamed B.named
  subst hsz
  have hD := hD0.self (sz := s.heap.size)
  have hl := lv_entry av (n := maxL) hlen
  rw [lg_entry_eq]
  exact body p e s m below meth c _ ⟨B.exec, B.bytes, B.returns, hml, hown, hts, B.notSynchronized⟩ (fun q h => Or.inr h) hK hP hD _ hl
abbrev gQrx (D : va_G) (cy : Nat → ClassId) (A : Nat → Prop) (Wf : Nat → va_W) : Array Value → State → Outcome → State → Prop := va_Qr (fun (_ : Unit) => True) (fun _ q => gB D cy A (Wf q)) A
abbrev gQix {X : Type} (D : va_G) (cy : Nat → ClassId) (A : Nat → Prop) (v : Int32) (Wf : X → va_W) : Array Value → State → Outcome → State → Prop := va_Qi (fun r (_ : X) => r = v) (fun x => gB D cy A (Wf x)) A
section GWH
variable {p : Program} {l : Launch} {e : Env} {R : Room} {s : State} {m : MethodId} {args : Array Value} {below : List Frame} {meth : Method} {c : Code} {H : Heap} {locs : List Loc} {Q : State → Prop} {A : Nat → Prop} {D : va_G} {cy : Nat → ClassId} {w : va_W} {cc : ByteArray} {pc : Nat} {ls : Array Slot} {cells slots : Nat}
variable {y : MethodName} {ms mc : List va_W} {wc : va_W} {wsm : List Cond} {rm : Room} {Ts : List Cond} {own C : String} {bytes : ByteArray} {maxL nL n index mcn msn nm nm2 : Nat} {ret : Option FieldType} {As rest : List Value} {b : Nat}
/-- the worlds about a call: the callee's cells behind the rest -/
theorem h_split {isC isR : List Nat} (hP : va_P D vwCl ms.flatten H) (hD : va_D A ms.flatten) (hS : va_S A s.heap H locs) (hA : ∀ q, s.heap.size ≤ q → A q) (hwc : wc = mc.flatten) (hlen : ms.length = nm) (hC : mpick ms isC = mc) (hperm : (isR ++ isC).Perm (List.range nm)) :
    va_P D vwCl ((mpick ms isR).flatten ++ wc) H ∧ va_D A ((mpick ms isR).flatten ++ wc) ∧ va_P D vwCl wc H ∧ va_D A wc ∧ ∀ q, va_A wc H.size q → A q := by
  subst hwc
  have pm := m_perm hlen hC hperm
  have hPu := va_P_perm pm hP
  have hDu := va_D_perm pm hD
  exact ⟨hPu, hDu, (va_P_split hPu).2, (va_D_split hDu).2.1, g_freeL hDu hS hA⟩
theorem h_back {X : Type} {m1 m2 : X → List va_W} {Wf : X → va_W} {isR isP : List Nat} {H1 : Heap} {t : State} (x : X) (hPu : va_P D vwCl ((mpick ms isR).flatten ++ wc) H) (hDu : va_D A ((mpick ms isR).flatten ++ wc)) (hS : va_S A s.heap H locs) (hA : ∀ q, s.heap.size ≤ q → A q)
    (hw1 : ∀ x, Wf x = (m1 x).flatten) (hlen2 : ∀ x, (mpick ms isR ++ m1 x).length = nm2) (hm2 : ∀ x, mpick (mpick ms isR ++ m1 x) isP = m2 x) (hpp : isP.Perm (List.range nm2))
    (hk1 : ∀ q : Nat, q < H.size → ¬ va_A wc H.size q → H1[q]? = H[q]?) (ht : t.heap = H1) (hB : gB D cy (va_A wc H.size) (Wf x) t) : va_P D vwCl (m2 x).flatten H1 ∧ va_D A (m2 x).flatten := by
  obtain ⟨h1, h2⟩ := g_join hPu hDu hS hA hk1 ht hB
  rw [hw1 x] at h1 h2
  have pb := m_perm2 (hlen2 x) (hm2 x) hpp
  exact ⟨va_P_perm pb h1, va_D_perm pb h2⟩
theorem h_callVi {PP : State → Prop} {X : Type} {post : Int32 → X → Prop} {m1 m2 : X → List va_W} {Wf : X → va_W} (S : CallFix p m c cc nL s args Ts own) (hM : Met l y wsm rm (va_Pc (.ref b :: As) PP) (va_Qi post (fun x => gB D cy (va_A wc H.size) (Wf x)) (va_A wc H.size)) mcn msn (va_A wc H.size)) (cw : CallW R s args own C index y bytes maxL ret wsm rm mcn msn n)
    (hrc : ∃ cell : Cell, H[b]? = some cell ∧ cell.vm.isStatics = false ∧ s.vm.findClass C = some cell.cls) (hp : va_P D vwCl wc H → va_D A wc → (∀ q, va_A wc H.size q → A q) → PreS s H (va_Pc (.ref b :: As) PP) (.ref b :: As)) (hn : As.length = n) (hsize : ls.size = nL) {st0 : List Value} (hst : st0 = As.reverse ++ .ref b :: rest) (hW : (rest.map fun v => v.category).sum ≤ 8) (hdg : decode cc pc = .ok (.invokevirtual index, 3))
    (hP : va_P D vwCl ms.flatten H) (hD : va_D A ms.flatten) (hS : va_S A s.heap H locs) (hA : ∀ q, s.heap.size ≤ q → A q) (hcc : cells + mcn ≤ R.cells) (hss : slots + msn ≤ R.slots) (isC isR isP : List Nat)
    (hwc : wc = mc.flatten) (hw1 : ∀ x, Wf x = (m1 x).flatten) (hlen : ms.length = nm) (hC : mpick ms isC = mc) (hperm : (isR ++ isC).Perm (List.range nm)) (hlen2 : ∀ x, (mpick ms isR ++ m1 x).length = nm2) (hm2 : ∀ x, mpick (mpick ms isR ++ m1 x) isP = m2 x) (hpp : isP.Perm (List.range nm2))
    (kk : ∀ (r : Int32) (x : X) (H1 : Heap) (locs1 : List Loc), post r x → va_P D vwCl (m2 x).flatten H1 → va_D A (m2 x).flatten → va_S A s.heap H1 locs1 → W p l e R s m args below meth c H1 locs1 (cells + mcn) (slots + msn) Q (F0 m (pc + 3) ls (.int r :: rest))) : W p l e R s m args below meth c H locs cells slots Q (F0 m pc ls st0) := by
  obtain ⟨hPu, hDu, hPc, hDc, hFc⟩ := h_split hP hD hS hA hwc hlen hC hperm
  obtain ⟨hp1, hp2⟩ := hp hPc hDc hFc
  refine va_calli (va_runV (As := As) (rest := rest) S hM cw ⟨hp1, hrc, hp2⟩ rfl hn hsize hst (lv_room hW) hdg ⟨hcc, hss⟩) hS (fun q _ h => hFc q h) hFc (fun r u t H1 locs1 ht hvm hw hB hz1 hk1 hS1 => ?_)
  obtain ⟨h1, h2⟩ := h_back u hPu hDu hS hA hw1 hlen2 hm2 hpp hk1 ht hB
  exact kk r u H1 locs1 hw h1 h2 hS1
theorem h_callVv {PP : State → Prop} {X : Type} {post : X → Prop} {m1 m2 : X → List va_W} {Wf : X → va_W} (S : CallFix p m c cc nL s args Ts own) (hM : Met l y wsm rm (va_Pc (.ref b :: As) PP) (va_Qv post (fun x => gB D cy (va_A wc H.size) (Wf x)) (va_A wc H.size)) mcn msn (va_A wc H.size)) (cw : CallW R s args own C index y bytes maxL ret wsm rm mcn msn n)
    (hrc : ∃ cell : Cell, H[b]? = some cell ∧ cell.vm.isStatics = false ∧ s.vm.findClass C = some cell.cls) (hp : va_P D vwCl wc H → va_D A wc → (∀ q, va_A wc H.size q → A q) → PreS s H (va_Pc (.ref b :: As) PP) (.ref b :: As)) (hn : As.length = n) (hsize : ls.size = nL) {st0 : List Value} (hst : st0 = As.reverse ++ .ref b :: rest) (hW : (rest.map fun v => v.category).sum ≤ 8) (hdg : decode cc pc = .ok (.invokevirtual index, 3))
    (hP : va_P D vwCl ms.flatten H) (hD : va_D A ms.flatten) (hS : va_S A s.heap H locs) (hA : ∀ q, s.heap.size ≤ q → A q) (hcc : cells + mcn ≤ R.cells) (hss : slots + msn ≤ R.slots) (isC isR isP : List Nat)
    (hwc : wc = mc.flatten) (hw1 : ∀ x, Wf x = (m1 x).flatten) (hlen : ms.length = nm) (hC : mpick ms isC = mc) (hperm : (isR ++ isC).Perm (List.range nm)) (hlen2 : ∀ x, (mpick ms isR ++ m1 x).length = nm2) (hm2 : ∀ x, mpick (mpick ms isR ++ m1 x) isP = m2 x) (hpp : isP.Perm (List.range nm2))
    (kk : ∀ (x : X) (H1 : Heap) (locs1 : List Loc), post x → va_P D vwCl (m2 x).flatten H1 → va_D A (m2 x).flatten → va_S A s.heap H1 locs1 → W p l e R s m args below meth c H1 locs1 (cells + mcn) (slots + msn) Q (F0 m (pc + 3) ls rest)) : W p l e R s m args below meth c H locs cells slots Q (F0 m pc ls st0) := by
  obtain ⟨hPu, hDu, hPc, hDc, hFc⟩ := h_split hP hD hS hA hwc hlen hC hperm
  obtain ⟨hp1, hp2⟩ := hp hPc hDc hFc
  refine va_callv (va_runV (As := As) (rest := rest) S hM cw ⟨hp1, hrc, hp2⟩ rfl hn hsize hst (lv_room hW) hdg ⟨hcc, hss⟩) hS (fun q _ h => hFc q h) hFc (fun u t H1 locs1 ht hvm hw hB hz1 hk1 hS1 => ?_)
  obtain ⟨h1, h2⟩ := h_back u hPu hDu hS hA hw1 hlen2 hm2 hpp hk1 ht hB
  exact kk u H1 locs1 hw h1 h2 hS1
theorem h_callSr {PP : State → Prop} {X : Type} {post : X → Prop} {m1 m2 : Nat → List va_W} {Wf : Nat → va_W} (S : CallFix p m c cc nL s args Ts own) (hM : Met l y wsm rm (va_Pc As PP) (va_Qr (fun (_ : Unit) => True) (fun _ q => gB D cy (va_A wc H.size) (Wf q)) (va_A wc H.size)) mcn msn (va_A wc H.size)) (cw : CallB R s args own index y bytes maxL ret wsm rm mcn msn n ∧ (Cond.static y).before args s = true)
    (hp : va_P D vwCl wc H → va_D A wc → (∀ q, va_A wc H.size q → A q) → PreS s H (va_Pc As PP) As) (hn : As.length = n) (hsize : ls.size = nL) {st0 : List Value} (hst : st0 = As.reverse ++ rest) (hW : (rest.map fun v => v.category).sum ≤ 8) (hdg : decode cc pc = .ok (.invokestatic index, 3))
    (hP : va_P D vwCl ms.flatten H) (hD : va_D A ms.flatten) (hS : va_S A s.heap H locs) (hA : ∀ q, s.heap.size ≤ q → A q) (hcc : cells + mcn ≤ R.cells) (hss : slots + msn ≤ R.slots) (isC isR isP : List Nat)
    (hwc : wc = mc.flatten) (hw1 : ∀ x, Wf x = (m1 x).flatten) (hlen : ms.length = nm) (hC : mpick ms isC = mc) (hperm : (isR ++ isC).Perm (List.range nm)) (hlen2 : ∀ x, (mpick ms isR ++ m1 x).length = nm2) (hm2 : ∀ x, mpick (mpick ms isR ++ m1 x) isP = m2 x) (hpp : isP.Perm (List.range nm2))
    (kk : ∀ (q : Nat) (H1 : Heap) (locs1 : List Loc), va_P D vwCl (m2 q).flatten H1 → va_D A (m2 q).flatten → va_S A s.heap H1 locs1 → W p l e R s m args below meth c H1 locs1 (cells + mcn) (slots + msn) Q (F0 m (pc + 3) ls (.ref q :: rest))) : W p l e R s m args below meth c H locs cells slots Q (F0 m pc ls st0) := by
  obtain ⟨hPu, hDu, hPc, hDc, hFc⟩ := h_split hP hD hS hA hwc hlen hC hperm
  obtain ⟨hp1, hp2⟩ := hp hPc hDc hFc
  refine va_callr (va_runS (As := As) (rest := rest) S hM cw ⟨hp1, hp2⟩ rfl hn hsize hst (lv_room hW) hdg ⟨hcc, hss⟩) hS (fun q _ h => hFc q h) hFc (fun u ra t H1 locs1 ht hvm hw hB hz1 hk1 hS1 => ?_)
  obtain ⟨h1, h2⟩ := h_back ra hPu hDu hS hA hw1 hlen2 hm2 hpp hk1 ht hB
  exact kk ra H1 locs1 h1 h2 hS1
theorem g_zretC {X : Type} {v : Int32} {mcn msn : Nat} {Wf : X → va_W} (x : X) (hx : p.tables.exec = Jvm.exec) (hb : c.code = cc) (hr : meth.sig.returnType = some .boolean) (hlk : meth.locks = false) (hv : isB v = true) (hK : va_K D vwCl (TY cy) s) (hP : va_P D vwCl (Wf x) H) (hD : va_D A (Wf x)) (hS : va_S A s.heap H locs) (h1 : cells ≤ mcn) (h2 : slots ≤ msn) (hdg : decode cc pc = .ok (.ireturn, 1)) : W p l e R s m args below meth c H locs cells slots (MQ below (gQix D cy A v Wf) args s mcn msn A) (F0 m pc ls [.int v]) := by
  refine W.widen (k := mcn) (n := msn) h1 h2 ?_
  exact W.zret (v := v) hx hb hr (isB_n hv) (fun t ht hW => ⟨⟨v, x, rfl, rfl, by rw [ht]; exact hP, va_K.moved hW.alike hK, hD⟩, hS.F ht⟩) hS.2.2 hdg hlk
theorem g_aretC {mcn msn v : Nat} {rt : FieldType} {Wf : Nat → va_W} (hx : p.tables.exec = Jvm.exec) (hb : c.code = cc) (hr : meth.sig.returnType = some rt) (hrt : (∃ n, rt = .object n) ∨ ∃ t, rt = .array t) (hlk : meth.locks = false) (hK : va_K D vwCl (TY cy) s) (hP : va_P D vwCl (Wf v) H) (hD : va_D A (Wf v)) (hS : va_S A s.heap H locs) (h1 : cells ≤ mcn) (h2 : slots ≤ msn) (hdg : decode cc pc = .ok (.areturn, 1)) : W p l e R s m args below meth c H locs cells slots (MQ below (gQrx D cy A Wf) args s mcn msn A) (F0 m pc ls [.ref v]) := by
  refine W.widen (k := mcn) (n := msn) h1 h2 ?_
  exact W.aret (v := .ref v) hx hb hr hrt (Or.inr ⟨v, rfl⟩) (fun t ht hW => ⟨⟨(), v, rfl, trivial, by rw [ht]; exact hP, va_K.moved hW.alike hK, hD⟩, hS.F ht⟩) hS.2.2 hdg hlk
end GWH
theorem nat_copy : Cond.native arraycopyName ∈ WA := wa_of (k := 789) (by decide +kernel) rfl
theorem sm_copy : Cond.static arraycopyName ∈ WA := wa_of (k := 788) (by decide +kernel) rfl
theorem ml_RJ7_150 : Cond.methodLink RJ7 150 arraycopyName ∈ WA := wa_of (k := 787) (by decide +kernel) rfl
theorem in_System : Cond.initialized "java/lang/System" ∈ WA := wa_of (k := 93) (by decide +kernel) rfl
theorem hdJ7_copyOf_9075b : yJ7_copyOf_9075b.cls ≠ "java/lang/invoke/MethodHandle" ∧ yJ7_copyOf_9075b.cls ≠ "java/lang/invoke/VarHandle" ∧ (parseMethodDescriptor yJ7_copyOf_9075b.desc).map (fun d => d.parameters.length) = some 2 := by decide +kernel
set_option maxHeartbeats 4000000 in
set_option maxRecDepth 100000 in
theorem c_copyOf (l : Launch) (D : va_G) (cy : Nat → ClassId) (h0 : Nat) (f : Nat → Int32) (sz k : Nat) (hk : k < 1500) (hfit : ∀ i, i < k → fits .byte (.int (f i)) = true) :
    Met l yJ7_copyOf_9075b (WS yJ7_copyOf_9075b cJ7_copyOf_9075b 3 (some (.array .byte))) ({ frames := 1, cells := 1, slots := 1500, locals := 40 } : Room) (va_Pc [.ref h0, .int (nI k)] (gP D cy sz (wB cy h0 f))) (gQrx D cy (va_A (wB cy h0 f) sz) (fun q => wB cy h0 f ++ wV cy q k (va_cpy f (fun _ => 0) 0 0 k))) 1 1500 (va_A (wB cy h0 f) sz) := by
  refine g_metC (cc := cJ7_copyOf_9075b) (maxL := 3) (ret := (some (.array .byte))) (fun A : Nat → Prop => gQrx D cy A (fun q => wB cy h0 f ++ wV cy q k (va_cpy f (fun _ => 0) 0 0 k))) (by decide +kernel) rfl (Nat.le_of_ble_eq_true rfl) ?_
  intro p e s m below meth c A C hA hK hP hD ls hl
  obtain ⟨hx, hb, hr, hml, hown, hts, hlk⟩ := id C
  have hown : s.vm.findClass RJ7 = some m.cls := hown
  have hS : va_S A s.heap s.heap [] := va_S.rf
  have hl : lv_has ls 3 [(0, .ref h0), (1, .int (nI k))] := hl
  have hkb : k < 2 ^ 31 := by omega
  refine lv_iload_n hx hb dJ7_copyOf_9075b_0 rfl (lv_at hl 1 rfl) ?_
  refine lv_aload_n hx hb dJ7_copyOf_9075b_1 rfl (lv_at hl 0 rfl) ?_
  refine va_alen (v := 1500) hx hb hK hP 0 1 rfl rfl rfl dJ7_copyOf_9075b_2 ?_
  refine lv_icmp_ne (tgt := 14) hx hb dJ7_copyOf_9075b_3 (by decide) (fun c_3 => ?_) (fun c_3 => ?_)
  · refine lv_iload_n hx hb dJ7_copyOf_9075b_14 rfl (lv_at hl 1 rfl) ?_
    refine g_newB (N := k) hx hb (hts _ (List.mem_cons_of_mem _ ac_byte)) hK hP hD hS hA (nI_pos hkb) (nI_clamp hkb) (by omega) (Nat.le_of_ble_eq_true rfl) (show 0 + k ≤ 1500 by omega) dJ7_copyOf_9075b_15 (fun q15 H hP hD hS => ?_)
    have hP : va_P D vwCl [(h0, .inl (cy 1, 1500, .inl f)), (q15, .inl (cy 1, k, .inl (fun _ => 0)))] H := hP
    have hD : va_D A [(h0, .inl (cy 1, 1500, .inl f)), (q15, .inl (cy 1, k, .inl (fun _ => 0)))] := hD
    refine lv_astore_n (lv' := [(2, .ref q15), (0, .ref h0), (1, .int (nI k))]) hx hb dJ7_copyOf_9075b_17 rfl hl (by decide) rfl (fun ls hl => ?_)
    refine lv_aload_n hx hb dJ7_copyOf_9075b_18 rfl (lv_at hl 1 rfl) ?_
    refine lv_iconst (v := 0) hx hb dJ7_copyOf_9075b_19 (by decide) ?_
    refine lv_aload_n hx hb dJ7_copyOf_9075b_20 rfl (lv_at hl 0 rfl) ?_
    refine lv_iconst (v := 0) hx hb dJ7_copyOf_9075b_21 (by decide) ?_
    refine lv_aload_n hx hb dJ7_copyOf_9075b_22 rfl (lv_at hl 1 rfl) ?_
    refine va_alen (v := 1500) hx hb hK hP 0 1 rfl rfl rfl dJ7_copyOf_9075b_23 ?_
    refine lv_iload_n hx hb dJ7_copyOf_9075b_24 rfl (lv_at hl 2 rfl) ?_
    refine va_mmin hx hb (hml.trans hl.1.symm) hown (hts _ (List.mem_cons_of_mem _ ml_RJ7_304)) (hts _ (List.mem_cons_of_mem _ sm_min)) (hts _ (List.mem_cons_of_mem _ in_Math)) (hts _ (List.mem_cons_of_mem _ cd_min)) (Nat.le_of_ble_eq_true rfl) (Nat.le_of_ble_eq_true rfl) (show 0 + 1 ≤ 1 by decide) (show 0 + k ≤ 1500 by omega) dJ7_copyOf_9075b_25 ?_
    rw [if_pos (show nI k < 1500 from nI_lt hk (by decide))]
    refine va_copyi hx hb (hml.trans hl.1.symm) hown (hts _ (List.mem_cons_of_mem _ ml_RJ7_150)) (hts _ (List.mem_cons_of_mem _ nat_copy)) (hts _ (List.mem_cons_of_mem _ sm_copy)) (hts _ (List.mem_cons_of_mem _ in_System)) hK hP hD hS 0 1 1 1 (ty := .byte) rfl rfl rfl rfl rfl (by decide) (by decide) (nI_pos hkb) (by rw [nI_clamp hkb]; show 0 + k ≤ 1500; omega) (by rw [nI_clamp hkb]; show 0 + k ≤ k; omega) (fun i hi => ?_) (Nat.le_of_ble_eq_true rfl) (Nat.le_of_ble_eq_true rfl) dJ7_copyOf_9075b_28 (fun H locs hP hD hS => ?_)
    · rw [nI_clamp hkb] at hi
      show fits .byte (.int (f (0 + i))) = true
      rw [Nat.zero_add]
      exact hfit i hi
    refine lv_aload_n hx hb dJ7_copyOf_9075b_31 rfl (lv_at hl 0 rfl) ?_
    rw [nI_clamp hkb] at hP hD
    exact g_aretC hx hb hr (Or.inr ⟨_, rfl⟩) hlk hK hP hD hS (Nat.le_of_ble_eq_true rfl) (show 0 + k ≤ 1500 by omega) dJ7_copyOf_9075b_32
  · exact absurd c_3 (fun h => absurd ((nI_eq (a := k) (b := 1500) hkb (by decide)).mp h) (by omega))
