/-! the law's helpers -/
abbrev HH : List (Nat × Nat × Nat × Nat) := [(0, 10, 13, 13), (0, 10, 17, 15)]
abbrev WSW (y : MethodName) (c : ByteArray) : List Cond := Cond.codeWith y c 5 (some .int) HH :: WA
def wO (cL : ClassId) (h : Nat) (f : Nat → Int64) : va_W := [(h, .inl (cL, 1, .inr (.inl f)))]
theorem gi_VW {w0 : Cond} {y : MethodName} {c : ByteArray} {n idx : Nat} {r : Option FieldType} {own C : String} (h1 : Cond.methodLink own idx y ∈ WA) (h2 : Cond.instanceMethod y ∈ WA) (h3 : Cond.selects C y y ∈ WA) (h4 : Cond.initialized C ∈ WA) (h5 : Cond.code y c n r ∈ WA) : GoodIn (w0 :: WA) (wsV own idx C y (WS y c n r)) := by
  refine goodIn_sub (fun w h => List.mem_cons_of_mem _ ?_) ?_
  · simp only [wsV, List.mem_append, List.mem_cons, List.not_mem_nil, or_false] at h
    rcases h with (rfl | rfl | rfl | rfl) | rfl | h <;> assumption
  · refine List.all_eq_true.mpr (fun w h => ?_)
    simp only [wsV, List.mem_append, List.mem_cons, List.not_mem_nil, or_false] at h
    rcases h with (rfl | rfl | rfl | rfl) | rfl | h <;> first | exact List.all_eq_true.mp WA_good _ h1 | exact List.all_eq_true.mp WA_good _ h2 | exact List.all_eq_true.mp WA_good _ h3 | exact List.all_eq_true.mp WA_good _ h4 | exact List.all_eq_true.mp WA_good _ h5 | exact List.all_eq_true.mp WA_good _ h
abbrev gPTN (D : va_G) (cy : Nat → ClassId) (sz : Nat) (ws : va_W) (U : State) : Prop := gPT D cy sz ws U ∧ va_Nc nNSE nIOB U
abbrev gPL (D : va_G) (cy : Nat → ClassId) (cL : ClassId) (adK adV : Nat → Nat) (sz : Nat) (ws : va_W) (U : State) : Prop := gPE D cy adK adV sz ws U ∧ va_K D vwCl [(cL, .long)] U
theorem hdL_title : yL_title.cls ≠ "java/lang/invoke/MethodHandle" ∧ yL_title.cls ≠ "java/lang/invoke/VarHandle" ∧ (parseMethodDescriptor yL_title.desc).map (fun d => d.parameters.length) = some 4 := by decide +kernel
set_option maxHeartbeats 4000000 in
set_option maxRecDepth 100000 in
theorem c_L_titleX1 (l : Launch) (hst : l.stackTraces = false) (D : va_G) (cy : Nat → ClassId) (h0 : Nat) (r0_0 : Nat) (r0_1 : Nat) (r0_3 : Nat) (r0_4 : Nat) (r0_5 : Nat) (r0_6 : Nat) (s0 : St) (h1 : Nat) (a1 : Nat → Nat) (s1 : St) (o : Nat) (sz fu : Nat) (p1 : Int32) (p2 : Int32) (hf : f_X9_titleX1 fu s0 s1 p1 p2 = some ()) :
    Met l yL_title (WSW yL_title cL_title) ({ frames := 7, cells := 1, slots := 6, locals := 112 } : Room) (va_Pc [.ref h0, .int p1, .int p2, .ref o] (gPTN D cy sz ((w9 cy h0 r0_0 r0_1 h1 r0_3 r0_4 r0_5 r0_6 s0) ++ (w5 cy h1 a1 s1)))) (gQi D cy (va_A ((w9 cy h0 r0_0 r0_1 h1 r0_3 r0_4 r0_5 r0_6 s0) ++ (w5 cy h1 a1 s1)) sz) 1 ((w9 cy h0 r0_0 r0_1 h1 r0_3 r0_4 r0_5 r0_6 s0) ++ (w5 cy h1 a1 s1))) 1 6 (va_A ((w9 cy h0 r0_0 r0_1 h1 r0_3 r0_4 r0_5 r0_6 s0) ++ (w5 cy h1 a1 s1)) sz) := by
  refine va_MetW (cc := cL_title) (maxL := 5) (ret := some .int) (hh := HH) (by decide +kernel) rfl ?_
  intro p e s m args below meth c s₁ B hml hv
  obtain ⟨rfl, ⟨⟨hsz, hP, hK, hD0⟩, hT⟩, hNc⟩ := hv
  have hts := atoms_spec (ws := (WSW yL_title cL_title)) B.pre
  have hown : s.vm.findClass RL = some m.cls := findClass_of_methodNamed B.named
  have htab : c.exceptionTable.toList = tableOf HH := vx_table (x := yL_title) B (hts _ List.mem_cons_self)
  subst hsz
  have hx := B.exec
  have hb := B.bytes
  have hr := B.returns
  have hlk := B.notSynchronized
  have hD := hD0.self (sz := s.heap.size)
  generalize hAe : va_A ((w9 cy h0 r0_0 r0_1 h1 r0_3 r0_4 r0_5 r0_6 s0) ++ (w5 cy h1 a1 s1)) s.heap.size = A at hD hT ⊢
  have hA : ∀ q : Nat, s.heap.size ≤ q → A q := fun q h => by rw [← hAe]; exact Or.inr h
  have hS : va_S A s.heap s.heap [] := va_S.rf
  have hl := lv_entry ([.ref h0, .int p1, .int p2, .ref o] : List Value) (n := 5) (Nat.le_of_ble_eq_true rfl)
  rw [lg_entry_eq]
  generalize (lg_sl ([.ref h0, .int p1, .int p2, .ref o] : List Value) ++ List.replicate (5 - (lg_sl ([.ref h0, .int p1, .int p2, .ref o] : List Value)).length) Slot.unset).toArray = ls at hl ⊢
  have hl : lv_has ls 5 [(0, .ref h0), (1, .int p1), (2, .int p2), (3, .ref o)] := hl
  refine lv_aload_n hx hb dL_title_0 rfl (lv_at hl 3 rfl) ?_
  refine lv_iconst (v := 0) hx hb dL_title_1 (by decide) ?_
  refine lv_aload_n hx hb dL_title_2 rfl (lv_at hl 0 rfl) ?_
  refine lv_iload_n hx hb dL_title_3 rfl (lv_at hl 1 rfl) ?_
  refine lv_iload_n hx hb dL_title_4 rfl (lv_at hl 2 rfl) ?_
  have hFc : ∀ q, va_A ((w9 cy h0 r0_0 r0_1 h1 r0_3 r0_4 r0_5 r0_6 s0) ++ (w5 cy h1 a1 s1)) s.heap.size q → A q := g_freeL (ws := []) hD hS hA
  obtain ⟨hp1, hp2⟩ := g_preT (av := [.ref h0, .int p1, .int p2]) hK hP hD hT hS hFc
  refine vx_calli (vx_runV (As := [.int p1, .int p2]) (rest := [.int 0, .ref o]) ⟨hx, hb, hml, hown, hts⟩ (t_X9_titleX1 l hst D cy h0 r0_0 r0_1 r0_3 r0_4 r0_5 r0_6 s0 h1 a1 s1 _ fu p1 p2 hf) (cwV 2 hts (gi_VW ml_RL_7 im_X9_title se_X9_title in_RX9 cd_X9_title) rfl rfl rfl hdX9_title ⟨(Nat.le_of_ble_eq_true rfl), (Nat.le_of_ble_eq_true rfl)⟩) ⟨hp1, va_recv hK hP (ci := 8) (q0 := 0) rfl rfl, hp2⟩ rfl rfl hl.1 rfl (lv_room (Nat.le_of_ble_eq_true rfl)) dL_title_5 ⟨(Nat.le_of_ble_eq_true rfl), (Nat.le_of_ble_eq_true rfl)⟩) hS (fun q _ h => hFc q h) hFc (fun q _ h => hFc q h) (fun E ce q9 u t H1 locs1 ht1 hvm _ hB hz1 hk1 hS1 hce hcv hcl => ?_) (fun r u t H1 locs1 ht1 hvm hf => hf.elim)
  obtain ⟨rfl, hB1, hB2, hB3⟩ := hB
  rw [ht1] at hB1
  refine vx_catch (name := nIOB) hown [] ⟨0, 10, 13, 13⟩ [⟨0, 10, 17, 15⟩] (by rw [htab]; rfl) (fun z hz => nomatch hz) (by decide) (by decide) (hts _ (List.mem_cons_of_mem _ cl_RL_13)) (va_Nw.use rfl (hT.1 _ (List.mem_of_getElem? (i := 0) rfl))) hce hcv hcl ?_
  refine lv_astore (lv' := [(4, .ref q9), (0, .ref h0), (1, .int p1), (2, .int p2), (3, .ref o)]) (pc := 13) hx hb dL_title_13 hl (by decide) rfl (fun ls hl => ?_)
  refine lv_iconst (v := 1) hx hb dL_title_15 (by decide) ?_
  refine W.widen (k := 1) (n := 6) (Nat.le_of_ble_eq_true rfl) (Nat.le_of_ble_eq_true rfl) ?_
  exact W.iret (v := 1) hx hb hr (fun t ht hW => ⟨⟨1, (), rfl, rfl, by rw [ht]; exact hB1, va_K.moved hW.alike hK, hB3.weaken (fun k q hk h => hFc _ h)⟩, hS1.F ht⟩) hS1.2.2 dL_title_16 hlk
set_option maxHeartbeats 4000000 in
set_option maxRecDepth 100000 in
theorem c_L_titleX2 (l : Launch) (hst : l.stackTraces = false) (D : va_G) (cy : Nat → ClassId) (h0 : Nat) (r0_0 : Nat) (r0_1 : Nat) (r0_3 : Nat) (r0_4 : Nat) (r0_5 : Nat) (r0_6 : Nat) (s0 : St) (h1 : Nat) (a1 : Nat → Nat) (s1 : St) (o : Nat) (sz fu : Nat) (p1 : Int32) (p2 : Int32) (hf : f_X9_titleX2 fu s0 s1 p1 p2 = some ()) :
    Met l yL_title (WSW yL_title cL_title) ({ frames := 7, cells := 1, slots := 6, locals := 112 } : Room) (va_Pc [.ref h0, .int p1, .int p2, .ref o] (gPTN D cy sz ((w9 cy h0 r0_0 r0_1 h1 r0_3 r0_4 r0_5 r0_6 s0) ++ (w5 cy h1 a1 s1)))) (gQi D cy (va_A ((w9 cy h0 r0_0 r0_1 h1 r0_3 r0_4 r0_5 r0_6 s0) ++ (w5 cy h1 a1 s1)) sz) 2 ((w9 cy h0 r0_0 r0_1 h1 r0_3 r0_4 r0_5 r0_6 s0) ++ (w5 cy h1 a1 s1))) 1 6 (va_A ((w9 cy h0 r0_0 r0_1 h1 r0_3 r0_4 r0_5 r0_6 s0) ++ (w5 cy h1 a1 s1)) sz) := by
  refine va_MetW (cc := cL_title) (maxL := 5) (ret := some .int) (hh := HH) (by decide +kernel) rfl ?_
  intro p e s m args below meth c s₁ B hml hv
  obtain ⟨rfl, ⟨⟨hsz, hP, hK, hD0⟩, hT⟩, hNc⟩ := hv
  have hts := atoms_spec (ws := (WSW yL_title cL_title)) B.pre
  have hown : s.vm.findClass RL = some m.cls := findClass_of_methodNamed B.named
  have htab : c.exceptionTable.toList = tableOf HH := vx_table (x := yL_title) B (hts _ List.mem_cons_self)
  subst hsz
  have hx := B.exec
  have hb := B.bytes
  have hr := B.returns
  have hlk := B.notSynchronized
  have hD := hD0.self (sz := s.heap.size)
  generalize hAe : va_A ((w9 cy h0 r0_0 r0_1 h1 r0_3 r0_4 r0_5 r0_6 s0) ++ (w5 cy h1 a1 s1)) s.heap.size = A at hD hT ⊢
  have hA : ∀ q : Nat, s.heap.size ≤ q → A q := fun q h => by rw [← hAe]; exact Or.inr h
  have hS : va_S A s.heap s.heap [] := va_S.rf
  have hl := lv_entry ([.ref h0, .int p1, .int p2, .ref o] : List Value) (n := 5) (Nat.le_of_ble_eq_true rfl)
  rw [lg_entry_eq]
  generalize (lg_sl ([.ref h0, .int p1, .int p2, .ref o] : List Value) ++ List.replicate (5 - (lg_sl ([.ref h0, .int p1, .int p2, .ref o] : List Value)).length) Slot.unset).toArray = ls at hl ⊢
  have hl : lv_has ls 5 [(0, .ref h0), (1, .int p1), (2, .int p2), (3, .ref o)] := hl
  refine lv_aload_n hx hb dL_title_0 rfl (lv_at hl 3 rfl) ?_
  refine lv_iconst (v := 0) hx hb dL_title_1 (by decide) ?_
  refine lv_aload_n hx hb dL_title_2 rfl (lv_at hl 0 rfl) ?_
  refine lv_iload_n hx hb dL_title_3 rfl (lv_at hl 1 rfl) ?_
  refine lv_iload_n hx hb dL_title_4 rfl (lv_at hl 2 rfl) ?_
  have hFc : ∀ q, va_A ((w9 cy h0 r0_0 r0_1 h1 r0_3 r0_4 r0_5 r0_6 s0) ++ (w5 cy h1 a1 s1)) s.heap.size q → A q := g_freeL (ws := []) hD hS hA
  obtain ⟨hp1, hp2⟩ := g_preT (av := [.ref h0, .int p1, .int p2]) hK hP hD hT hS hFc
  refine vx_calli (vx_runV (As := [.int p1, .int p2]) (rest := [.int 0, .ref o]) ⟨hx, hb, hml, hown, hts⟩ (t_X9_titleX2 l hst D cy h0 r0_0 r0_1 r0_3 r0_4 r0_5 r0_6 s0 h1 a1 s1 _ fu p1 p2 hf) (cwV 2 hts (gi_VW ml_RL_7 im_X9_title se_X9_title in_RX9 cd_X9_title) rfl rfl rfl hdX9_title ⟨(Nat.le_of_ble_eq_true rfl), (Nat.le_of_ble_eq_true rfl)⟩) ⟨hp1, va_recv hK hP (ci := 8) (q0 := 0) rfl rfl, hp2⟩ rfl rfl hl.1 rfl (lv_room (Nat.le_of_ble_eq_true rfl)) dL_title_5 ⟨(Nat.le_of_ble_eq_true rfl), (Nat.le_of_ble_eq_true rfl)⟩) hS (fun q _ h => hFc q h) hFc (fun q _ h => hFc q h) (fun E ce q9 u t H1 locs1 ht1 hvm _ hB hz1 hk1 hS1 hce hcv hcl => ?_) (fun r u t H1 locs1 ht1 hvm hf => hf.elim)
  obtain ⟨rfl, hB1, hB2, hB3⟩ := hB
  rw [ht1] at hB1
  refine vx_catch (name := nNSE) hown [⟨0, 10, 13, 13⟩] ⟨0, 10, 17, 15⟩ [] (by rw [htab]; rfl) (fun z hz => Or.inr ?_) (by decide) (by decide) (hts _ (List.mem_cons_of_mem _ cl_RL_15)) (va_Nw.use rfl (hT.1 _ (List.mem_of_getElem? (i := 1) rfl))) hce hcv hcl ?_
  · rcases List.mem_cons.mp hz with rfl | hz
    · exact ⟨by decide, nIOB, (hts _ (List.mem_cons_of_mem _ cl_RL_13)), hNc⟩
    · cases hz
  refine lv_astore (lv' := [(4, .ref q9), (0, .ref h0), (1, .int p1), (2, .int p2), (3, .ref o)]) (pc := 17) hx hb dL_title_17 hl (by decide) rfl (fun ls hl => ?_)
  refine lv_iconst (v := 2) hx hb dL_title_19 (by decide) ?_
  refine W.widen (k := 1) (n := 6) (Nat.le_of_ble_eq_true rfl) (Nat.le_of_ble_eq_true rfl) ?_
  exact W.iret (v := 2) hx hb hr (fun t ht hW => ⟨⟨2, (), rfl, rfl, by rw [ht]; exact hB1, va_K.moved hW.alike hK, hB3.weaken (fun k q hk h => hFc _ h)⟩, hS1.F ht⟩) hS1.2.2 dL_title_20 hlk
set_option maxHeartbeats 4000000 in
set_option maxRecDepth 100000 in
theorem c_L_titleN (l : Launch) (D : va_G) (cy : Nat → ClassId) (cL : ClassId) (adK adV : Nat → Nat) (h0 : Nat) (r0_0 : Nat) (r0_1 : Nat) (r0_3 : Nat) (r0_4 : Nat) (s0 : St) (h1 : Nat) (a1 : Nat → Nat) (s1 : St) (h2 : Nat) (a2 : Nat → Nat) (s2 : St) (h3 : Nat) (r3_2 : Nat) (r3_4 : Nat) (s3 : St) (h4 : Nat)  (a5 : Nat → Nat) (y5 : Nat → Nat) (s5 : FSt)  (L6 : List Nat) (c6 : Nat → Nat × (Nat → Int32)) (o : Nat) (fo : Nat → Int64) (sz fu : Nat) (p1 : Int32) (p2 : Int32) (out : Int32) (hf : f_X9_titleN fu s0 s1 s2 s3 s5 L6 c6 p1 p2 = some out) :
    Met l yL_title (WSW yL_title cL_title) ({ frames := 6, cells := 0, slots := 0, locals := 140 } : Room) (va_Pc [.ref h0, .int p1, .int p2, .ref o] (gPL D cy cL adK adV sz ([wO cL o fo, w9 cy h0 r0_0 r0_1 h1 r0_3 r0_4 h3 h2 s0, w5 cy h1 a1 s1, w2 cy h2 h1 a2 s2, w0 cy h3 h4 (a5 160) r3_2 h1 r3_4 s3, wWa cy h4 a5, wF cy a5 y5 s5, wK cy L6 c6] : List va_W).flatten)) (gQi D cy (va_A ([wO cL o fo, w9 cy h0 r0_0 r0_1 h1 r0_3 r0_4 h3 h2 s0, w5 cy h1 a1 s1, w2 cy h2 h1 a2 s2, w0 cy h3 h4 (a5 160) r3_2 h1 r3_4 s3, wWa cy h4 a5, wF cy a5 y5 s5, wK cy L6 c6] : List va_W).flatten sz) 0 ([wO cL o (vp_updL fo 0 out.toInt64), w9 cy h0 r0_0 r0_1 h1 r0_3 r0_4 h3 h2 s0, w5 cy h1 a1 s1, w2 cy h2 h1 a2 s2, w0 cy h3 h4 (a5 160) r3_2 h1 r3_4 s3, wWa cy h4 a5, wF cy a5 y5 s5, wK cy L6 c6] : List va_W).flatten) 0 0 (va_A ([wO cL o fo, w9 cy h0 r0_0 r0_1 h1 r0_3 r0_4 h3 h2 s0, w5 cy h1 a1 s1, w2 cy h2 h1 a2 s2, w0 cy h3 h4 (a5 160) r3_2 h1 r3_4 s3, wWa cy h4 a5, wF cy a5 y5 s5, wK cy L6 c6] : List va_W).flatten sz) := by
  refine va_MetW (cc := cL_title) (maxL := 5) (ret := some .int) (hh := HH) (by decide +kernel) rfl ?_
  intro p e s m args below meth c s₁ B hml hv
  obtain ⟨rfl, ⟨⟨hsz, hP, hK, hD0⟩, hE⟩, hKL⟩ := hv
  have hts := atoms_spec (ws := (WSW yL_title cL_title)) B.pre
  have hown : s.vm.findClass RL = some m.cls := findClass_of_methodNamed B.named
  subst hsz
  have hx := B.exec
  have hb := B.bytes
  have hr := B.returns
  have hlk := B.notSynchronized
  have hD := hD0.self (sz := s.heap.size)
  generalize hAe : va_A ([wO cL o fo, w9 cy h0 r0_0 r0_1 h1 r0_3 r0_4 h3 h2 s0, w5 cy h1 a1 s1, w2 cy h2 h1 a2 s2, w0 cy h3 h4 (a5 160) r3_2 h1 r3_4 s3, wWa cy h4 a5, wF cy a5 y5 s5, wK cy L6 c6] : List va_W).flatten s.heap.size = A at hD hE ⊢
  have hA : ∀ q : Nat, s.heap.size ≤ q → A q := fun q h => by rw [← hAe]; exact Or.inr h
  have hS : va_S A s.heap s.heap [] := va_S.rf
  have hl := lv_entry ([.ref h0, .int p1, .int p2, .ref o] : List Value) (n := 5) (Nat.le_of_ble_eq_true rfl)
  rw [lg_entry_eq]
  generalize (lg_sl ([.ref h0, .int p1, .int p2, .ref o] : List Value) ++ List.replicate (5 - (lg_sl ([.ref h0, .int p1, .int p2, .ref o] : List Value)).length) Slot.unset).toArray = ls at hl ⊢
  have hl : lv_has ls 5 [(0, .ref h0), (1, .int p1), (2, .int p2), (3, .ref o)] := hl
  refine lv_aload_n hx hb dL_title_0 rfl (lv_at hl 3 rfl) ?_
  refine lv_iconst (v := 0) hx hb dL_title_1 (by decide) ?_
  refine lv_aload_n hx hb dL_title_2 rfl (lv_at hl 0 rfl) ?_
  refine lv_iload_n hx hb dL_title_3 rfl (lv_at hl 1 rfl) ?_
  refine lv_iload_n hx hb dL_title_4 rfl (lv_at hl 2 rfl) ?_
  refine h_callVi (X := Unit) (As := [.int p1, .int p2]) (rest := [.int 0, .ref o]) (ms := [wO cL o fo, w9 cy h0 r0_0 r0_1 h1 r0_3 r0_4 h3 h2 s0, w5 cy h1 a1 s1, w2 cy h2 h1 a2 s2, w0 cy h3 h4 (a5 160) r3_2 h1 r3_4 s3, wWa cy h4 a5, wF cy a5 y5 s5, wK cy L6 c6]) (m1 := fun _ => [w9 cy h0 r0_0 r0_1 h1 r0_3 r0_4 h3 h2 s0, w5 cy h1 a1 s1, w2 cy h2 h1 a2 s2, w0 cy h3 h4 (a5 160) r3_2 h1 r3_4 s3, wWa cy h4 a5, wF cy a5 y5 s5, wK cy L6 c6]) (m2 := fun _ => [wO cL o fo, w9 cy h0 r0_0 r0_1 h1 r0_3 r0_4 h3 h2 s0, w5 cy h1 a1 s1, w2 cy h2 h1 a2 s2, w0 cy h3 h4 (a5 160) r3_2 h1 r3_4 s3, wWa cy h4 a5, wF cy a5 y5 s5, wK cy L6 c6]) (mc := [w9 cy h0 r0_0 r0_1 h1 r0_3 r0_4 h3 h2 s0, w5 cy h1 a1 s1, w2 cy h2 h1 a2 s2, w0 cy h3 h4 (a5 160) r3_2 h1 r3_4 s3, wWa cy h4 a5, wF cy a5 y5 s5, wK cy L6 c6]) (nm := 8) (nm2 := 8) ⟨hx, hb, hml, hown, hts⟩ (c_X9_titleN l D cy adK adV h0 r0_0 r0_1 r0_3 r0_4 s0 h1 a1 s1 h2 a2 s2 h3 r3_2 r3_4 s3 h4 a5 y5 s5 L6 c6 _ fu p1 p2 _ hf) (cwV 2 hts (gi_VW ml_RL_7 im_X9_title se_X9_title in_RX9 cd_X9_title) rfl rfl rfl hdX9_title ⟨(Nat.le_of_ble_eq_true rfl), (Nat.le_of_ble_eq_true rfl)⟩) (va_recv hK hP (ci := 8) (q0 := 1) rfl rfl) (fun hPc hDc hFc => g_preE hK hPc hDc hE hS hFc) rfl hl.1 rfl (Nat.le_of_ble_eq_true rfl) dL_title_5 hP hD hS hA (Nat.le_of_ble_eq_true rfl) (Nat.le_of_ble_eq_true rfl) [1, 2, 3, 4, 5, 6, 7] [0] [0, 1, 2, 3, 4, 5, 6, 7] (by simp only [List.flatten_cons, List.flatten_nil, List.append_nil, List.append_assoc]) (fun _ => by simp only [List.flatten_cons, List.flatten_nil, List.append_nil, List.append_assoc]) rfl rfl (by decide) (fun _ => rfl) (fun _ => rfl) (by decide) (fun r _ H locs hw hP hD hS => ?_)
  rw [show r = out from hw]
  have hP : va_P D vwCl ([wO cL o fo, w9 cy h0 r0_0 r0_1 h1 r0_3 r0_4 h3 h2 s0, w5 cy h1 a1 s1, w2 cy h2 h1 a2 s2, w0 cy h3 h4 (a5 160) r3_2 h1 r3_4 s3, wWa cy h4 a5, wF cy a5 y5 s5, wK cy L6 c6] : List va_W).flatten H := hP
  have hD : va_D A ([wO cL o fo, w9 cy h0 r0_0 r0_1 h1 r0_3 r0_4 h3 h2 s0, w5 cy h1 a1 s1, w2 cy h2 h1 a2 s2, w0 cy h3 h4 (a5 160) r3_2 h1 r3_4 s3, wWa cy h4 a5, wF cy a5 y5 s5, wK cy L6 c6] : List va_W).flatten := hD
  refine lv_i2l (v := out.toInt64) hx hb dL_title_8 rfl ?_
  refine va_last (f := fo) hx hb hKL hP hD hS 0 0 rfl rfl (inb_in (show inb 0 1 = true by decide)) dL_title_9 (fun H locs hP hD hS => ?_)
  refine lv_goto (tgt := 21) hx hb dL_title_10 (by decide) ?_
  refine lv_iconst (v := 0) hx hb dL_title_21 (by decide) ?_
  have hP : va_P D vwCl ([wO cL o (vp_updL fo 0 out.toInt64), w9 cy h0 r0_0 r0_1 h1 r0_3 r0_4 h3 h2 s0, w5 cy h1 a1 s1, w2 cy h2 h1 a2 s2, w0 cy h3 h4 (a5 160) r3_2 h1 r3_4 s3, wWa cy h4 a5, wF cy a5 y5 s5, wK cy L6 c6] : List va_W).flatten H := hP
  have hD : va_D A ([wO cL o (vp_updL fo 0 out.toInt64), w9 cy h0 r0_0 r0_1 h1 r0_3 r0_4 h3 h2 s0, w5 cy h1 a1 s1, w2 cy h2 h1 a2 s2, w0 cy h3 h4 (a5 160) r3_2 h1 r3_4 s3, wWa cy h4 a5, wF cy a5 y5 s5, wK cy L6 c6] : List va_W).flatten := hD
  exact g_iret hx hb hr hlk hK hP hD hS dL_title_22
theorem hdL_pages : yL_pages.cls ≠ "java/lang/invoke/MethodHandle" ∧ yL_pages.cls ≠ "java/lang/invoke/VarHandle" ∧ (parseMethodDescriptor yL_pages.desc).map (fun d => d.parameters.length) = some 4 := by decide +kernel
set_option maxHeartbeats 4000000 in
set_option maxRecDepth 100000 in
theorem c_L_pagesX1 (l : Launch) (hst : l.stackTraces = false) (D : va_G) (cy : Nat → ClassId) (h0 : Nat) (r0_0 : Nat) (r0_1 : Nat) (r0_3 : Nat) (r0_4 : Nat) (r0_5 : Nat) (r0_6 : Nat) (s0 : St) (h1 : Nat) (a1 : Nat → Nat) (s1 : St) (o : Nat) (sz fu : Nat) (p1 : Int32) (p2 : Int32) (hf : f_X9_refuseX1 fu s0 s1 p1 p2 = some ()) :
    Met l yL_pages (WSW yL_pages cL_pages) ({ frames := 8, cells := 1, slots := 6, locals := 134 } : Room) (va_Pc [.ref h0, .int p1, .int p2, .ref o] (gPTN D cy sz ((w9 cy h0 r0_0 r0_1 h1 r0_3 r0_4 r0_5 r0_6 s0) ++ (w5 cy h1 a1 s1)))) (gQi D cy (va_A ((w9 cy h0 r0_0 r0_1 h1 r0_3 r0_4 r0_5 r0_6 s0) ++ (w5 cy h1 a1 s1)) sz) 1 ((w9 cy h0 r0_0 r0_1 h1 r0_3 r0_4 r0_5 r0_6 s0) ++ (w5 cy h1 a1 s1))) 1 6 (va_A ((w9 cy h0 r0_0 r0_1 h1 r0_3 r0_4 r0_5 r0_6 s0) ++ (w5 cy h1 a1 s1)) sz) := by
  refine va_MetW (cc := cL_pages) (maxL := 5) (ret := some .int) (hh := HH) (by decide +kernel) rfl ?_
  intro p e s m args below meth c s₁ B hml hv
  obtain ⟨rfl, ⟨⟨hsz, hP, hK, hD0⟩, hT⟩, hNc⟩ := hv
  have hts := atoms_spec (ws := (WSW yL_pages cL_pages)) B.pre
  have hown : s.vm.findClass RL = some m.cls := findClass_of_methodNamed B.named
  have htab : c.exceptionTable.toList = tableOf HH := vx_table (x := yL_pages) B (hts _ List.mem_cons_self)
  subst hsz
  have hx := B.exec
  have hb := B.bytes
  have hr := B.returns
  have hlk := B.notSynchronized
  have hD := hD0.self (sz := s.heap.size)
  generalize hAe : va_A ((w9 cy h0 r0_0 r0_1 h1 r0_3 r0_4 r0_5 r0_6 s0) ++ (w5 cy h1 a1 s1)) s.heap.size = A at hD hT ⊢
  have hA : ∀ q : Nat, s.heap.size ≤ q → A q := fun q h => by rw [← hAe]; exact Or.inr h
  have hS : va_S A s.heap s.heap [] := va_S.rf
  have hl := lv_entry ([.ref h0, .int p1, .int p2, .ref o] : List Value) (n := 5) (Nat.le_of_ble_eq_true rfl)
  rw [lg_entry_eq]
  generalize (lg_sl ([.ref h0, .int p1, .int p2, .ref o] : List Value) ++ List.replicate (5 - (lg_sl ([.ref h0, .int p1, .int p2, .ref o] : List Value)).length) Slot.unset).toArray = ls at hl ⊢
  have hl : lv_has ls 5 [(0, .ref h0), (1, .int p1), (2, .int p2), (3, .ref o)] := hl
  refine lv_aload_n hx hb dL_pages_0 rfl (lv_at hl 3 rfl) ?_
  refine lv_iconst (v := 0) hx hb dL_pages_1 (by decide) ?_
  refine lv_aload_n hx hb dL_pages_2 rfl (lv_at hl 0 rfl) ?_
  refine lv_iload_n hx hb dL_pages_3 rfl (lv_at hl 1 rfl) ?_
  refine lv_iload_n hx hb dL_pages_4 rfl (lv_at hl 2 rfl) ?_
  have hFc : ∀ q, va_A ((w9 cy h0 r0_0 r0_1 h1 r0_3 r0_4 r0_5 r0_6 s0) ++ (w5 cy h1 a1 s1)) s.heap.size q → A q := g_freeL (ws := []) hD hS hA
  obtain ⟨hp1, hp2⟩ := g_preT (av := [.ref h0, .int p1, .int p2]) hK hP hD hT hS hFc
  refine vx_calli (vx_runV (As := [.int p1, .int p2]) (rest := [.int 0, .ref o]) ⟨hx, hb, hml, hown, hts⟩ (t_X9_pagesX1 l hst D cy h0 r0_0 r0_1 r0_3 r0_4 r0_5 r0_6 s0 h1 a1 s1 _ fu p1 p2 hf) (cwV 2 hts (gi_VW ml_RL_17 im_X9_pages se_X9_pages in_RX9 cd_X9_pages) rfl rfl rfl hdX9_pages ⟨(Nat.le_of_ble_eq_true rfl), (Nat.le_of_ble_eq_true rfl)⟩) ⟨hp1, va_recv hK hP (ci := 8) (q0 := 0) rfl rfl, hp2⟩ rfl rfl hl.1 rfl (lv_room (Nat.le_of_ble_eq_true rfl)) dL_pages_5 ⟨(Nat.le_of_ble_eq_true rfl), (Nat.le_of_ble_eq_true rfl)⟩) hS (fun q _ h => hFc q h) hFc (fun q _ h => hFc q h) (fun E ce q9 u t H1 locs1 ht1 hvm _ hB hz1 hk1 hS1 hce hcv hcl => ?_) (fun r u t H1 locs1 ht1 hvm hf => hf.elim)
  obtain ⟨rfl, hB1, hB2, hB3⟩ := hB
  rw [ht1] at hB1
  refine vx_catch (name := nIOB) hown [] ⟨0, 10, 13, 13⟩ [⟨0, 10, 17, 15⟩] (by rw [htab]; rfl) (fun z hz => nomatch hz) (by decide) (by decide) (hts _ (List.mem_cons_of_mem _ cl_RL_13)) (va_Nw.use rfl (hT.1 _ (List.mem_of_getElem? (i := 0) rfl))) hce hcv hcl ?_
  refine lv_astore (lv' := [(4, .ref q9), (0, .ref h0), (1, .int p1), (2, .int p2), (3, .ref o)]) (pc := 13) hx hb dL_pages_13 hl (by decide) rfl (fun ls hl => ?_)
  refine lv_iconst (v := 1) hx hb dL_pages_15 (by decide) ?_
  refine W.widen (k := 1) (n := 6) (Nat.le_of_ble_eq_true rfl) (Nat.le_of_ble_eq_true rfl) ?_
  exact W.iret (v := 1) hx hb hr (fun t ht hW => ⟨⟨1, (), rfl, rfl, by rw [ht]; exact hB1, va_K.moved hW.alike hK, hB3.weaken (fun k q hk h => hFc _ h)⟩, hS1.F ht⟩) hS1.2.2 dL_pages_16 hlk
set_option maxHeartbeats 4000000 in
set_option maxRecDepth 100000 in
theorem c_L_pagesX2 (l : Launch) (hst : l.stackTraces = false) (D : va_G) (cy : Nat → ClassId) (h0 : Nat) (r0_0 : Nat) (r0_1 : Nat) (r0_3 : Nat) (r0_4 : Nat) (r0_5 : Nat) (r0_6 : Nat) (s0 : St) (h1 : Nat) (a1 : Nat → Nat) (s1 : St) (o : Nat) (sz fu : Nat) (p1 : Int32) (p2 : Int32) (hf : f_X9_refuseX2 fu s0 s1 p1 p2 = some ()) :
    Met l yL_pages (WSW yL_pages cL_pages) ({ frames := 8, cells := 1, slots := 6, locals := 134 } : Room) (va_Pc [.ref h0, .int p1, .int p2, .ref o] (gPTN D cy sz ((w9 cy h0 r0_0 r0_1 h1 r0_3 r0_4 r0_5 r0_6 s0) ++ (w5 cy h1 a1 s1)))) (gQi D cy (va_A ((w9 cy h0 r0_0 r0_1 h1 r0_3 r0_4 r0_5 r0_6 s0) ++ (w5 cy h1 a1 s1)) sz) 2 ((w9 cy h0 r0_0 r0_1 h1 r0_3 r0_4 r0_5 r0_6 s0) ++ (w5 cy h1 a1 s1))) 1 6 (va_A ((w9 cy h0 r0_0 r0_1 h1 r0_3 r0_4 r0_5 r0_6 s0) ++ (w5 cy h1 a1 s1)) sz) := by
  refine va_MetW (cc := cL_pages) (maxL := 5) (ret := some .int) (hh := HH) (by decide +kernel) rfl ?_
  intro p e s m args below meth c s₁ B hml hv
  obtain ⟨rfl, ⟨⟨hsz, hP, hK, hD0⟩, hT⟩, hNc⟩ := hv
  have hts := atoms_spec (ws := (WSW yL_pages cL_pages)) B.pre
  have hown : s.vm.findClass RL = some m.cls := findClass_of_methodNamed B.named
  have htab : c.exceptionTable.toList = tableOf HH := vx_table (x := yL_pages) B (hts _ List.mem_cons_self)
  subst hsz
  have hx := B.exec
  have hb := B.bytes
  have hr := B.returns
  have hlk := B.notSynchronized
  have hD := hD0.self (sz := s.heap.size)
  generalize hAe : va_A ((w9 cy h0 r0_0 r0_1 h1 r0_3 r0_4 r0_5 r0_6 s0) ++ (w5 cy h1 a1 s1)) s.heap.size = A at hD hT ⊢
  have hA : ∀ q : Nat, s.heap.size ≤ q → A q := fun q h => by rw [← hAe]; exact Or.inr h
  have hS : va_S A s.heap s.heap [] := va_S.rf
  have hl := lv_entry ([.ref h0, .int p1, .int p2, .ref o] : List Value) (n := 5) (Nat.le_of_ble_eq_true rfl)
  rw [lg_entry_eq]
  generalize (lg_sl ([.ref h0, .int p1, .int p2, .ref o] : List Value) ++ List.replicate (5 - (lg_sl ([.ref h0, .int p1, .int p2, .ref o] : List Value)).length) Slot.unset).toArray = ls at hl ⊢
  have hl : lv_has ls 5 [(0, .ref h0), (1, .int p1), (2, .int p2), (3, .ref o)] := hl
  refine lv_aload_n hx hb dL_pages_0 rfl (lv_at hl 3 rfl) ?_
  refine lv_iconst (v := 0) hx hb dL_pages_1 (by decide) ?_
  refine lv_aload_n hx hb dL_pages_2 rfl (lv_at hl 0 rfl) ?_
  refine lv_iload_n hx hb dL_pages_3 rfl (lv_at hl 1 rfl) ?_
  refine lv_iload_n hx hb dL_pages_4 rfl (lv_at hl 2 rfl) ?_
  have hFc : ∀ q, va_A ((w9 cy h0 r0_0 r0_1 h1 r0_3 r0_4 r0_5 r0_6 s0) ++ (w5 cy h1 a1 s1)) s.heap.size q → A q := g_freeL (ws := []) hD hS hA
  obtain ⟨hp1, hp2⟩ := g_preT (av := [.ref h0, .int p1, .int p2]) hK hP hD hT hS hFc
  refine vx_calli (vx_runV (As := [.int p1, .int p2]) (rest := [.int 0, .ref o]) ⟨hx, hb, hml, hown, hts⟩ (t_X9_pagesX2 l hst D cy h0 r0_0 r0_1 r0_3 r0_4 r0_5 r0_6 s0 h1 a1 s1 _ fu p1 p2 hf) (cwV 2 hts (gi_VW ml_RL_17 im_X9_pages se_X9_pages in_RX9 cd_X9_pages) rfl rfl rfl hdX9_pages ⟨(Nat.le_of_ble_eq_true rfl), (Nat.le_of_ble_eq_true rfl)⟩) ⟨hp1, va_recv hK hP (ci := 8) (q0 := 0) rfl rfl, hp2⟩ rfl rfl hl.1 rfl (lv_room (Nat.le_of_ble_eq_true rfl)) dL_pages_5 ⟨(Nat.le_of_ble_eq_true rfl), (Nat.le_of_ble_eq_true rfl)⟩) hS (fun q _ h => hFc q h) hFc (fun q _ h => hFc q h) (fun E ce q9 u t H1 locs1 ht1 hvm _ hB hz1 hk1 hS1 hce hcv hcl => ?_) (fun r u t H1 locs1 ht1 hvm hf => hf.elim)
  obtain ⟨rfl, hB1, hB2, hB3⟩ := hB
  rw [ht1] at hB1
  refine vx_catch (name := nNSE) hown [⟨0, 10, 13, 13⟩] ⟨0, 10, 17, 15⟩ [] (by rw [htab]; rfl) (fun z hz => Or.inr ?_) (by decide) (by decide) (hts _ (List.mem_cons_of_mem _ cl_RL_15)) (va_Nw.use rfl (hT.1 _ (List.mem_of_getElem? (i := 1) rfl))) hce hcv hcl ?_
  · rcases List.mem_cons.mp hz with rfl | hz
    · exact ⟨by decide, nIOB, (hts _ (List.mem_cons_of_mem _ cl_RL_13)), hNc⟩
    · cases hz
  refine lv_astore (lv' := [(4, .ref q9), (0, .ref h0), (1, .int p1), (2, .int p2), (3, .ref o)]) (pc := 17) hx hb dL_pages_17 hl (by decide) rfl (fun ls hl => ?_)
  refine lv_iconst (v := 2) hx hb dL_pages_19 (by decide) ?_
  refine W.widen (k := 1) (n := 6) (Nat.le_of_ble_eq_true rfl) (Nat.le_of_ble_eq_true rfl) ?_
  exact W.iret (v := 2) hx hb hr (fun t ht hW => ⟨⟨2, (), rfl, rfl, by rw [ht]; exact hB1, va_K.moved hW.alike hK, hB3.weaken (fun k q hk h => hFc _ h)⟩, hS1.F ht⟩) hS1.2.2 dL_pages_20 hlk
set_option maxHeartbeats 4000000 in
set_option maxRecDepth 100000 in
theorem c_L_pagesN (l : Launch) (D : va_G) (cy : Nat → ClassId) (cL : ClassId) (adK adV : Nat → Nat) (h0 : Nat) (r0_0 : Nat) (r0_1 : Nat) (r0_3 : Nat) (r0_4 : Nat) (s0 : St) (h1 : Nat) (a1 : Nat → Nat) (s1 : St) (h2 : Nat) (a2 : Nat → Nat) (s2 : St) (h3 : Nat) (r3_2 : Nat) (r3_4 : Nat) (s3 : St) (h4 : Nat)  (a5 : Nat → Nat) (y5 : Nat → Nat) (s5 : FSt)  (L6 : List Nat) (c6 : Nat → Nat × (Nat → Int32)) (o : Nat) (fo : Nat → Int64) (sz fu : Nat) (p1 : Int32) (p2 : Int32) (out : Int32) (hf : f_X9_pagesN fu s0 s1 s2 s3 s5 L6 c6 p1 p2 = some out) :
    Met l yL_pages (WSW yL_pages cL_pages) ({ frames := 4, cells := 0, slots := 0, locals := 87 } : Room) (va_Pc [.ref h0, .int p1, .int p2, .ref o] (gPL D cy cL adK adV sz ([wO cL o fo, w9 cy h0 r0_0 r0_1 h1 r0_3 r0_4 h3 h2 s0, w5 cy h1 a1 s1, w2 cy h2 h1 a2 s2, w0 cy h3 h4 (a5 160) r3_2 h1 r3_4 s3, wWa cy h4 a5, wF cy a5 y5 s5, wK cy L6 c6] : List va_W).flatten)) (gQi D cy (va_A ([wO cL o fo, w9 cy h0 r0_0 r0_1 h1 r0_3 r0_4 h3 h2 s0, w5 cy h1 a1 s1, w2 cy h2 h1 a2 s2, w0 cy h3 h4 (a5 160) r3_2 h1 r3_4 s3, wWa cy h4 a5, wF cy a5 y5 s5, wK cy L6 c6] : List va_W).flatten sz) 0 ([wO cL o (vp_updL fo 0 out.toInt64), w9 cy h0 r0_0 r0_1 h1 r0_3 r0_4 h3 h2 s0, w5 cy h1 a1 s1, w2 cy h2 h1 a2 s2, w0 cy h3 h4 (a5 160) r3_2 h1 r3_4 s3, wWa cy h4 a5, wF cy a5 y5 s5, wK cy L6 c6] : List va_W).flatten) 0 0 (va_A ([wO cL o fo, w9 cy h0 r0_0 r0_1 h1 r0_3 r0_4 h3 h2 s0, w5 cy h1 a1 s1, w2 cy h2 h1 a2 s2, w0 cy h3 h4 (a5 160) r3_2 h1 r3_4 s3, wWa cy h4 a5, wF cy a5 y5 s5, wK cy L6 c6] : List va_W).flatten sz) := by
  refine va_MetW (cc := cL_pages) (maxL := 5) (ret := some .int) (hh := HH) (by decide +kernel) rfl ?_
  intro p e s m args below meth c s₁ B hml hv
  obtain ⟨rfl, ⟨⟨hsz, hP, hK, hD0⟩, hE⟩, hKL⟩ := hv
  have hts := atoms_spec (ws := (WSW yL_pages cL_pages)) B.pre
  have hown : s.vm.findClass RL = some m.cls := findClass_of_methodNamed B.named
  subst hsz
  have hx := B.exec
  have hb := B.bytes
  have hr := B.returns
  have hlk := B.notSynchronized
  have hD := hD0.self (sz := s.heap.size)
  generalize hAe : va_A ([wO cL o fo, w9 cy h0 r0_0 r0_1 h1 r0_3 r0_4 h3 h2 s0, w5 cy h1 a1 s1, w2 cy h2 h1 a2 s2, w0 cy h3 h4 (a5 160) r3_2 h1 r3_4 s3, wWa cy h4 a5, wF cy a5 y5 s5, wK cy L6 c6] : List va_W).flatten s.heap.size = A at hD hE ⊢
  have hA : ∀ q : Nat, s.heap.size ≤ q → A q := fun q h => by rw [← hAe]; exact Or.inr h
  have hS : va_S A s.heap s.heap [] := va_S.rf
  have hl := lv_entry ([.ref h0, .int p1, .int p2, .ref o] : List Value) (n := 5) (Nat.le_of_ble_eq_true rfl)
  rw [lg_entry_eq]
  generalize (lg_sl ([.ref h0, .int p1, .int p2, .ref o] : List Value) ++ List.replicate (5 - (lg_sl ([.ref h0, .int p1, .int p2, .ref o] : List Value)).length) Slot.unset).toArray = ls at hl ⊢
  have hl : lv_has ls 5 [(0, .ref h0), (1, .int p1), (2, .int p2), (3, .ref o)] := hl
  refine lv_aload_n hx hb dL_pages_0 rfl (lv_at hl 3 rfl) ?_
  refine lv_iconst (v := 0) hx hb dL_pages_1 (by decide) ?_
  refine lv_aload_n hx hb dL_pages_2 rfl (lv_at hl 0 rfl) ?_
  refine lv_iload_n hx hb dL_pages_3 rfl (lv_at hl 1 rfl) ?_
  refine lv_iload_n hx hb dL_pages_4 rfl (lv_at hl 2 rfl) ?_
  refine h_callVi (X := Unit) (As := [.int p1, .int p2]) (rest := [.int 0, .ref o]) (ms := [wO cL o fo, w9 cy h0 r0_0 r0_1 h1 r0_3 r0_4 h3 h2 s0, w5 cy h1 a1 s1, w2 cy h2 h1 a2 s2, w0 cy h3 h4 (a5 160) r3_2 h1 r3_4 s3, wWa cy h4 a5, wF cy a5 y5 s5, wK cy L6 c6]) (m1 := fun _ => [w9 cy h0 r0_0 r0_1 h1 r0_3 r0_4 h3 h2 s0, w5 cy h1 a1 s1, w2 cy h2 h1 a2 s2, w0 cy h3 h4 (a5 160) r3_2 h1 r3_4 s3, wWa cy h4 a5, wF cy a5 y5 s5, wK cy L6 c6]) (m2 := fun _ => [wO cL o fo, w9 cy h0 r0_0 r0_1 h1 r0_3 r0_4 h3 h2 s0, w5 cy h1 a1 s1, w2 cy h2 h1 a2 s2, w0 cy h3 h4 (a5 160) r3_2 h1 r3_4 s3, wWa cy h4 a5, wF cy a5 y5 s5, wK cy L6 c6]) (mc := [w9 cy h0 r0_0 r0_1 h1 r0_3 r0_4 h3 h2 s0, w5 cy h1 a1 s1, w2 cy h2 h1 a2 s2, w0 cy h3 h4 (a5 160) r3_2 h1 r3_4 s3, wWa cy h4 a5, wF cy a5 y5 s5, wK cy L6 c6]) (nm := 8) (nm2 := 8) ⟨hx, hb, hml, hown, hts⟩ (c_X9_pagesN l D cy h0 r0_0 r0_1 r0_3 r0_4 s0 h1 a1 s1 h2 a2 s2 h3 r3_2 r3_4 s3 h4 a5 y5 s5 L6 c6 _ fu p1 p2 _ hf) (cwV 2 hts (gi_VW ml_RL_17 im_X9_pages se_X9_pages in_RX9 cd_X9_pages) rfl rfl rfl hdX9_pages ⟨(Nat.le_of_ble_eq_true rfl), (Nat.le_of_ble_eq_true rfl)⟩) (va_recv hK hP (ci := 8) (q0 := 1) rfl rfl) (fun hPc hDc _ => g_pre hK hPc hDc) rfl hl.1 rfl (Nat.le_of_ble_eq_true rfl) dL_pages_5 hP hD hS hA (Nat.le_of_ble_eq_true rfl) (Nat.le_of_ble_eq_true rfl) [1, 2, 3, 4, 5, 6, 7] [0] [0, 1, 2, 3, 4, 5, 6, 7] (by simp only [List.flatten_cons, List.flatten_nil, List.append_nil, List.append_assoc]) (fun _ => by simp only [List.flatten_cons, List.flatten_nil, List.append_nil, List.append_assoc]) rfl rfl (by decide) (fun _ => rfl) (fun _ => rfl) (by decide) (fun r _ H locs hw hP hD hS => ?_)
  rw [show r = out from hw]
  have hP : va_P D vwCl ([wO cL o fo, w9 cy h0 r0_0 r0_1 h1 r0_3 r0_4 h3 h2 s0, w5 cy h1 a1 s1, w2 cy h2 h1 a2 s2, w0 cy h3 h4 (a5 160) r3_2 h1 r3_4 s3, wWa cy h4 a5, wF cy a5 y5 s5, wK cy L6 c6] : List va_W).flatten H := hP
  have hD : va_D A ([wO cL o fo, w9 cy h0 r0_0 r0_1 h1 r0_3 r0_4 h3 h2 s0, w5 cy h1 a1 s1, w2 cy h2 h1 a2 s2, w0 cy h3 h4 (a5 160) r3_2 h1 r3_4 s3, wWa cy h4 a5, wF cy a5 y5 s5, wK cy L6 c6] : List va_W).flatten := hD
  refine lv_i2l (v := out.toInt64) hx hb dL_pages_8 rfl ?_
  refine va_last (f := fo) hx hb hKL hP hD hS 0 0 rfl rfl (inb_in (show inb 0 1 = true by decide)) dL_pages_9 (fun H locs hP hD hS => ?_)
  refine lv_goto (tgt := 21) hx hb dL_pages_10 (by decide) ?_
  refine lv_iconst (v := 0) hx hb dL_pages_21 (by decide) ?_
  have hP : va_P D vwCl ([wO cL o (vp_updL fo 0 out.toInt64), w9 cy h0 r0_0 r0_1 h1 r0_3 r0_4 h3 h2 s0, w5 cy h1 a1 s1, w2 cy h2 h1 a2 s2, w0 cy h3 h4 (a5 160) r3_2 h1 r3_4 s3, wWa cy h4 a5, wF cy a5 y5 s5, wK cy L6 c6] : List va_W).flatten H := hP
  have hD : va_D A ([wO cL o (vp_updL fo 0 out.toInt64), w9 cy h0 r0_0 r0_1 h1 r0_3 r0_4 h3 h2 s0, w5 cy h1 a1 s1, w2 cy h2 h1 a2 s2, w0 cy h3 h4 (a5 160) r3_2 h1 r3_4 s3, wWa cy h4 a5, wF cy a5 y5 s5, wK cy L6 c6] : List va_W).flatten := hD
  exact g_iret hx hb hr hlk hK hP hD hS dL_pages_22
theorem hdL_price : yL_price.cls ≠ "java/lang/invoke/MethodHandle" ∧ yL_price.cls ≠ "java/lang/invoke/VarHandle" ∧ (parseMethodDescriptor yL_price.desc).map (fun d => d.parameters.length) = some 4 := by decide +kernel
set_option maxHeartbeats 4000000 in
set_option maxRecDepth 100000 in
theorem c_L_priceX1 (l : Launch) (hst : l.stackTraces = false) (D : va_G) (cy : Nat → ClassId) (h0 : Nat) (r0_0 : Nat) (r0_1 : Nat) (r0_3 : Nat) (r0_4 : Nat) (r0_5 : Nat) (r0_6 : Nat) (s0 : St) (h1 : Nat) (a1 : Nat → Nat) (s1 : St) (o : Nat) (sz fu : Nat) (p1 : Int32) (p2 : Int32) (hf : f_X9_refuseX1 fu s0 s1 p1 p2 = some ()) :
    Met l yL_price (WSW yL_price cL_price) ({ frames := 8, cells := 1, slots := 6, locals := 134 } : Room) (va_Pc [.ref h0, .int p1, .int p2, .ref o] (gPTN D cy sz ((w9 cy h0 r0_0 r0_1 h1 r0_3 r0_4 r0_5 r0_6 s0) ++ (w5 cy h1 a1 s1)))) (gQi D cy (va_A ((w9 cy h0 r0_0 r0_1 h1 r0_3 r0_4 r0_5 r0_6 s0) ++ (w5 cy h1 a1 s1)) sz) 1 ((w9 cy h0 r0_0 r0_1 h1 r0_3 r0_4 r0_5 r0_6 s0) ++ (w5 cy h1 a1 s1))) 1 6 (va_A ((w9 cy h0 r0_0 r0_1 h1 r0_3 r0_4 r0_5 r0_6 s0) ++ (w5 cy h1 a1 s1)) sz) := by
  refine va_MetW (cc := cL_price) (maxL := 5) (ret := some .int) (hh := HH) (by decide +kernel) rfl ?_
  intro p e s m args below meth c s₁ B hml hv
  obtain ⟨rfl, ⟨⟨hsz, hP, hK, hD0⟩, hT⟩, hNc⟩ := hv
  have hts := atoms_spec (ws := (WSW yL_price cL_price)) B.pre
  have hown : s.vm.findClass RL = some m.cls := findClass_of_methodNamed B.named
  have htab : c.exceptionTable.toList = tableOf HH := vx_table (x := yL_price) B (hts _ List.mem_cons_self)
  subst hsz
  have hx := B.exec
  have hb := B.bytes
  have hr := B.returns
  have hlk := B.notSynchronized
  have hD := hD0.self (sz := s.heap.size)
  generalize hAe : va_A ((w9 cy h0 r0_0 r0_1 h1 r0_3 r0_4 r0_5 r0_6 s0) ++ (w5 cy h1 a1 s1)) s.heap.size = A at hD hT ⊢
  have hA : ∀ q : Nat, s.heap.size ≤ q → A q := fun q h => by rw [← hAe]; exact Or.inr h
  have hS : va_S A s.heap s.heap [] := va_S.rf
  have hl := lv_entry ([.ref h0, .int p1, .int p2, .ref o] : List Value) (n := 5) (Nat.le_of_ble_eq_true rfl)
  rw [lg_entry_eq]
  generalize (lg_sl ([.ref h0, .int p1, .int p2, .ref o] : List Value) ++ List.replicate (5 - (lg_sl ([.ref h0, .int p1, .int p2, .ref o] : List Value)).length) Slot.unset).toArray = ls at hl ⊢
  have hl : lv_has ls 5 [(0, .ref h0), (1, .int p1), (2, .int p2), (3, .ref o)] := hl
  refine lv_aload_n hx hb dL_price_0 rfl (lv_at hl 3 rfl) ?_
  refine lv_iconst (v := 0) hx hb dL_price_1 (by decide) ?_
  refine lv_aload_n hx hb dL_price_2 rfl (lv_at hl 0 rfl) ?_
  refine lv_iload_n hx hb dL_price_3 rfl (lv_at hl 1 rfl) ?_
  refine lv_iload_n hx hb dL_price_4 rfl (lv_at hl 2 rfl) ?_
  have hFc : ∀ q, va_A ((w9 cy h0 r0_0 r0_1 h1 r0_3 r0_4 r0_5 r0_6 s0) ++ (w5 cy h1 a1 s1)) s.heap.size q → A q := g_freeL (ws := []) hD hS hA
  obtain ⟨hp1, hp2⟩ := g_preT (av := [.ref h0, .int p1, .int p2]) hK hP hD hT hS hFc
  refine vx_calli (vx_runV (As := [.int p1, .int p2]) (rest := [.int 0, .ref o]) ⟨hx, hb, hml, hown, hts⟩ (t_X9_priceX1 l hst D cy h0 r0_0 r0_1 r0_3 r0_4 r0_5 r0_6 s0 h1 a1 s1 _ fu p1 p2 hf) (cwV 2 hts (gi_VW ml_RL_20 im_X9_price se_X9_price in_RX9 cd_X9_price) rfl rfl rfl hdX9_price ⟨(Nat.le_of_ble_eq_true rfl), (Nat.le_of_ble_eq_true rfl)⟩) ⟨hp1, va_recv hK hP (ci := 8) (q0 := 0) rfl rfl, hp2⟩ rfl rfl hl.1 rfl (lv_room (Nat.le_of_ble_eq_true rfl)) dL_price_5 ⟨(Nat.le_of_ble_eq_true rfl), (Nat.le_of_ble_eq_true rfl)⟩) hS (fun q _ h => hFc q h) hFc (fun q _ h => hFc q h) (fun E ce q9 u t H1 locs1 ht1 hvm _ hB hz1 hk1 hS1 hce hcv hcl => ?_) (fun r u t H1 locs1 ht1 hvm hf => hf.elim)
  obtain ⟨rfl, hB1, hB2, hB3⟩ := hB
  rw [ht1] at hB1
  refine vx_catch (name := nIOB) hown [] ⟨0, 10, 13, 13⟩ [⟨0, 10, 17, 15⟩] (by rw [htab]; rfl) (fun z hz => nomatch hz) (by decide) (by decide) (hts _ (List.mem_cons_of_mem _ cl_RL_13)) (va_Nw.use rfl (hT.1 _ (List.mem_of_getElem? (i := 0) rfl))) hce hcv hcl ?_
  refine lv_astore (lv' := [(4, .ref q9), (0, .ref h0), (1, .int p1), (2, .int p2), (3, .ref o)]) (pc := 13) hx hb dL_price_13 hl (by decide) rfl (fun ls hl => ?_)
  refine lv_iconst (v := 1) hx hb dL_price_15 (by decide) ?_
  refine W.widen (k := 1) (n := 6) (Nat.le_of_ble_eq_true rfl) (Nat.le_of_ble_eq_true rfl) ?_
  exact W.iret (v := 1) hx hb hr (fun t ht hW => ⟨⟨1, (), rfl, rfl, by rw [ht]; exact hB1, va_K.moved hW.alike hK, hB3.weaken (fun k q hk h => hFc _ h)⟩, hS1.F ht⟩) hS1.2.2 dL_price_16 hlk
set_option maxHeartbeats 4000000 in
set_option maxRecDepth 100000 in
theorem c_L_priceX2 (l : Launch) (hst : l.stackTraces = false) (D : va_G) (cy : Nat → ClassId) (h0 : Nat) (r0_0 : Nat) (r0_1 : Nat) (r0_3 : Nat) (r0_4 : Nat) (r0_5 : Nat) (r0_6 : Nat) (s0 : St) (h1 : Nat) (a1 : Nat → Nat) (s1 : St) (o : Nat) (sz fu : Nat) (p1 : Int32) (p2 : Int32) (hf : f_X9_refuseX2 fu s0 s1 p1 p2 = some ()) :
    Met l yL_price (WSW yL_price cL_price) ({ frames := 8, cells := 1, slots := 6, locals := 134 } : Room) (va_Pc [.ref h0, .int p1, .int p2, .ref o] (gPTN D cy sz ((w9 cy h0 r0_0 r0_1 h1 r0_3 r0_4 r0_5 r0_6 s0) ++ (w5 cy h1 a1 s1)))) (gQi D cy (va_A ((w9 cy h0 r0_0 r0_1 h1 r0_3 r0_4 r0_5 r0_6 s0) ++ (w5 cy h1 a1 s1)) sz) 2 ((w9 cy h0 r0_0 r0_1 h1 r0_3 r0_4 r0_5 r0_6 s0) ++ (w5 cy h1 a1 s1))) 1 6 (va_A ((w9 cy h0 r0_0 r0_1 h1 r0_3 r0_4 r0_5 r0_6 s0) ++ (w5 cy h1 a1 s1)) sz) := by
  refine va_MetW (cc := cL_price) (maxL := 5) (ret := some .int) (hh := HH) (by decide +kernel) rfl ?_
  intro p e s m args below meth c s₁ B hml hv
  obtain ⟨rfl, ⟨⟨hsz, hP, hK, hD0⟩, hT⟩, hNc⟩ := hv
  have hts := atoms_spec (ws := (WSW yL_price cL_price)) B.pre
  have hown : s.vm.findClass RL = some m.cls := findClass_of_methodNamed B.named
  have htab : c.exceptionTable.toList = tableOf HH := vx_table (x := yL_price) B (hts _ List.mem_cons_self)
  subst hsz
  have hx := B.exec
  have hb := B.bytes
  have hr := B.returns
  have hlk := B.notSynchronized
  have hD := hD0.self (sz := s.heap.size)
  generalize hAe : va_A ((w9 cy h0 r0_0 r0_1 h1 r0_3 r0_4 r0_5 r0_6 s0) ++ (w5 cy h1 a1 s1)) s.heap.size = A at hD hT ⊢
  have hA : ∀ q : Nat, s.heap.size ≤ q → A q := fun q h => by rw [← hAe]; exact Or.inr h
  have hS : va_S A s.heap s.heap [] := va_S.rf
  have hl := lv_entry ([.ref h0, .int p1, .int p2, .ref o] : List Value) (n := 5) (Nat.le_of_ble_eq_true rfl)
  rw [lg_entry_eq]
  generalize (lg_sl ([.ref h0, .int p1, .int p2, .ref o] : List Value) ++ List.replicate (5 - (lg_sl ([.ref h0, .int p1, .int p2, .ref o] : List Value)).length) Slot.unset).toArray = ls at hl ⊢
  have hl : lv_has ls 5 [(0, .ref h0), (1, .int p1), (2, .int p2), (3, .ref o)] := hl
  refine lv_aload_n hx hb dL_price_0 rfl (lv_at hl 3 rfl) ?_
  refine lv_iconst (v := 0) hx hb dL_price_1 (by decide) ?_
  refine lv_aload_n hx hb dL_price_2 rfl (lv_at hl 0 rfl) ?_
  refine lv_iload_n hx hb dL_price_3 rfl (lv_at hl 1 rfl) ?_
  refine lv_iload_n hx hb dL_price_4 rfl (lv_at hl 2 rfl) ?_
  have hFc : ∀ q, va_A ((w9 cy h0 r0_0 r0_1 h1 r0_3 r0_4 r0_5 r0_6 s0) ++ (w5 cy h1 a1 s1)) s.heap.size q → A q := g_freeL (ws := []) hD hS hA
  obtain ⟨hp1, hp2⟩ := g_preT (av := [.ref h0, .int p1, .int p2]) hK hP hD hT hS hFc
  refine vx_calli (vx_runV (As := [.int p1, .int p2]) (rest := [.int 0, .ref o]) ⟨hx, hb, hml, hown, hts⟩ (t_X9_priceX2 l hst D cy h0 r0_0 r0_1 r0_3 r0_4 r0_5 r0_6 s0 h1 a1 s1 _ fu p1 p2 hf) (cwV 2 hts (gi_VW ml_RL_20 im_X9_price se_X9_price in_RX9 cd_X9_price) rfl rfl rfl hdX9_price ⟨(Nat.le_of_ble_eq_true rfl), (Nat.le_of_ble_eq_true rfl)⟩) ⟨hp1, va_recv hK hP (ci := 8) (q0 := 0) rfl rfl, hp2⟩ rfl rfl hl.1 rfl (lv_room (Nat.le_of_ble_eq_true rfl)) dL_price_5 ⟨(Nat.le_of_ble_eq_true rfl), (Nat.le_of_ble_eq_true rfl)⟩) hS (fun q _ h => hFc q h) hFc (fun q _ h => hFc q h) (fun E ce q9 u t H1 locs1 ht1 hvm _ hB hz1 hk1 hS1 hce hcv hcl => ?_) (fun r u t H1 locs1 ht1 hvm hf => hf.elim)
  obtain ⟨rfl, hB1, hB2, hB3⟩ := hB
  rw [ht1] at hB1
  refine vx_catch (name := nNSE) hown [⟨0, 10, 13, 13⟩] ⟨0, 10, 17, 15⟩ [] (by rw [htab]; rfl) (fun z hz => Or.inr ?_) (by decide) (by decide) (hts _ (List.mem_cons_of_mem _ cl_RL_15)) (va_Nw.use rfl (hT.1 _ (List.mem_of_getElem? (i := 1) rfl))) hce hcv hcl ?_
  · rcases List.mem_cons.mp hz with rfl | hz
    · exact ⟨by decide, nIOB, (hts _ (List.mem_cons_of_mem _ cl_RL_13)), hNc⟩
    · cases hz
  refine lv_astore (lv' := [(4, .ref q9), (0, .ref h0), (1, .int p1), (2, .int p2), (3, .ref o)]) (pc := 17) hx hb dL_price_17 hl (by decide) rfl (fun ls hl => ?_)
  refine lv_iconst (v := 2) hx hb dL_price_19 (by decide) ?_
  refine W.widen (k := 1) (n := 6) (Nat.le_of_ble_eq_true rfl) (Nat.le_of_ble_eq_true rfl) ?_
  exact W.iret (v := 2) hx hb hr (fun t ht hW => ⟨⟨2, (), rfl, rfl, by rw [ht]; exact hB1, va_K.moved hW.alike hK, hB3.weaken (fun k q hk h => hFc _ h)⟩, hS1.F ht⟩) hS1.2.2 dL_price_20 hlk
set_option maxHeartbeats 4000000 in
set_option maxRecDepth 100000 in
theorem c_L_priceN (l : Launch) (D : va_G) (cy : Nat → ClassId) (cL : ClassId) (adK adV : Nat → Nat) (h0 : Nat) (r0_0 : Nat) (r0_1 : Nat) (r0_3 : Nat) (r0_4 : Nat) (s0 : St) (h1 : Nat) (a1 : Nat → Nat) (s1 : St) (h2 : Nat) (a2 : Nat → Nat) (s2 : St) (h3 : Nat) (r3_2 : Nat) (r3_4 : Nat) (s3 : St) (h4 : Nat)  (a5 : Nat → Nat) (y5 : Nat → Nat) (s5 : FSt)  (L6 : List Nat) (c6 : Nat → Nat × (Nat → Int32)) (o : Nat) (fo : Nat → Int64) (sz fu : Nat) (p1 : Int32) (p2 : Int32) (out : Int32) (hf : f_X9_priceN fu s0 s1 s2 s3 s5 L6 c6 p1 p2 = some out) :
    Met l yL_price (WSW yL_price cL_price) ({ frames := 4, cells := 0, slots := 0, locals := 87 } : Room) (va_Pc [.ref h0, .int p1, .int p2, .ref o] (gPL D cy cL adK adV sz ([wO cL o fo, w9 cy h0 r0_0 r0_1 h1 r0_3 r0_4 h3 h2 s0, w5 cy h1 a1 s1, w2 cy h2 h1 a2 s2, w0 cy h3 h4 (a5 160) r3_2 h1 r3_4 s3, wWa cy h4 a5, wF cy a5 y5 s5, wK cy L6 c6] : List va_W).flatten)) (gQi D cy (va_A ([wO cL o fo, w9 cy h0 r0_0 r0_1 h1 r0_3 r0_4 h3 h2 s0, w5 cy h1 a1 s1, w2 cy h2 h1 a2 s2, w0 cy h3 h4 (a5 160) r3_2 h1 r3_4 s3, wWa cy h4 a5, wF cy a5 y5 s5, wK cy L6 c6] : List va_W).flatten sz) 0 ([wO cL o (vp_updL fo 0 out.toInt64), w9 cy h0 r0_0 r0_1 h1 r0_3 r0_4 h3 h2 s0, w5 cy h1 a1 s1, w2 cy h2 h1 a2 s2, w0 cy h3 h4 (a5 160) r3_2 h1 r3_4 s3, wWa cy h4 a5, wF cy a5 y5 s5, wK cy L6 c6] : List va_W).flatten) 0 0 (va_A ([wO cL o fo, w9 cy h0 r0_0 r0_1 h1 r0_3 r0_4 h3 h2 s0, w5 cy h1 a1 s1, w2 cy h2 h1 a2 s2, w0 cy h3 h4 (a5 160) r3_2 h1 r3_4 s3, wWa cy h4 a5, wF cy a5 y5 s5, wK cy L6 c6] : List va_W).flatten sz) := by
  refine va_MetW (cc := cL_price) (maxL := 5) (ret := some .int) (hh := HH) (by decide +kernel) rfl ?_
  intro p e s m args below meth c s₁ B hml hv
  obtain ⟨rfl, ⟨⟨hsz, hP, hK, hD0⟩, hE⟩, hKL⟩ := hv
  have hts := atoms_spec (ws := (WSW yL_price cL_price)) B.pre
  have hown : s.vm.findClass RL = some m.cls := findClass_of_methodNamed B.named
  subst hsz
  have hx := B.exec
  have hb := B.bytes
  have hr := B.returns
  have hlk := B.notSynchronized
  have hD := hD0.self (sz := s.heap.size)
  generalize hAe : va_A ([wO cL o fo, w9 cy h0 r0_0 r0_1 h1 r0_3 r0_4 h3 h2 s0, w5 cy h1 a1 s1, w2 cy h2 h1 a2 s2, w0 cy h3 h4 (a5 160) r3_2 h1 r3_4 s3, wWa cy h4 a5, wF cy a5 y5 s5, wK cy L6 c6] : List va_W).flatten s.heap.size = A at hD hE ⊢
  have hA : ∀ q : Nat, s.heap.size ≤ q → A q := fun q h => by rw [← hAe]; exact Or.inr h
  have hS : va_S A s.heap s.heap [] := va_S.rf
  have hl := lv_entry ([.ref h0, .int p1, .int p2, .ref o] : List Value) (n := 5) (Nat.le_of_ble_eq_true rfl)
  rw [lg_entry_eq]
  generalize (lg_sl ([.ref h0, .int p1, .int p2, .ref o] : List Value) ++ List.replicate (5 - (lg_sl ([.ref h0, .int p1, .int p2, .ref o] : List Value)).length) Slot.unset).toArray = ls at hl ⊢
  have hl : lv_has ls 5 [(0, .ref h0), (1, .int p1), (2, .int p2), (3, .ref o)] := hl
  refine lv_aload_n hx hb dL_price_0 rfl (lv_at hl 3 rfl) ?_
  refine lv_iconst (v := 0) hx hb dL_price_1 (by decide) ?_
  refine lv_aload_n hx hb dL_price_2 rfl (lv_at hl 0 rfl) ?_
  refine lv_iload_n hx hb dL_price_3 rfl (lv_at hl 1 rfl) ?_
  refine lv_iload_n hx hb dL_price_4 rfl (lv_at hl 2 rfl) ?_
  refine h_callVi (X := Unit) (As := [.int p1, .int p2]) (rest := [.int 0, .ref o]) (ms := [wO cL o fo, w9 cy h0 r0_0 r0_1 h1 r0_3 r0_4 h3 h2 s0, w5 cy h1 a1 s1, w2 cy h2 h1 a2 s2, w0 cy h3 h4 (a5 160) r3_2 h1 r3_4 s3, wWa cy h4 a5, wF cy a5 y5 s5, wK cy L6 c6]) (m1 := fun _ => [w9 cy h0 r0_0 r0_1 h1 r0_3 r0_4 h3 h2 s0, w5 cy h1 a1 s1, w2 cy h2 h1 a2 s2, w0 cy h3 h4 (a5 160) r3_2 h1 r3_4 s3, wWa cy h4 a5, wF cy a5 y5 s5, wK cy L6 c6]) (m2 := fun _ => [wO cL o fo, w9 cy h0 r0_0 r0_1 h1 r0_3 r0_4 h3 h2 s0, w5 cy h1 a1 s1, w2 cy h2 h1 a2 s2, w0 cy h3 h4 (a5 160) r3_2 h1 r3_4 s3, wWa cy h4 a5, wF cy a5 y5 s5, wK cy L6 c6]) (mc := [w9 cy h0 r0_0 r0_1 h1 r0_3 r0_4 h3 h2 s0, w5 cy h1 a1 s1, w2 cy h2 h1 a2 s2, w0 cy h3 h4 (a5 160) r3_2 h1 r3_4 s3, wWa cy h4 a5, wF cy a5 y5 s5, wK cy L6 c6]) (nm := 8) (nm2 := 8) ⟨hx, hb, hml, hown, hts⟩ (c_X9_priceN l D cy h0 r0_0 r0_1 r0_3 r0_4 s0 h1 a1 s1 h2 a2 s2 h3 r3_2 r3_4 s3 h4 a5 y5 s5 L6 c6 _ fu p1 p2 _ hf) (cwV 2 hts (gi_VW ml_RL_20 im_X9_price se_X9_price in_RX9 cd_X9_price) rfl rfl rfl hdX9_price ⟨(Nat.le_of_ble_eq_true rfl), (Nat.le_of_ble_eq_true rfl)⟩) (va_recv hK hP (ci := 8) (q0 := 1) rfl rfl) (fun hPc hDc _ => g_pre hK hPc hDc) rfl hl.1 rfl (Nat.le_of_ble_eq_true rfl) dL_price_5 hP hD hS hA (Nat.le_of_ble_eq_true rfl) (Nat.le_of_ble_eq_true rfl) [1, 2, 3, 4, 5, 6, 7] [0] [0, 1, 2, 3, 4, 5, 6, 7] (by simp only [List.flatten_cons, List.flatten_nil, List.append_nil, List.append_assoc]) (fun _ => by simp only [List.flatten_cons, List.flatten_nil, List.append_nil, List.append_assoc]) rfl rfl (by decide) (fun _ => rfl) (fun _ => rfl) (by decide) (fun r _ H locs hw hP hD hS => ?_)
  rw [show r = out from hw]
  have hP : va_P D vwCl ([wO cL o fo, w9 cy h0 r0_0 r0_1 h1 r0_3 r0_4 h3 h2 s0, w5 cy h1 a1 s1, w2 cy h2 h1 a2 s2, w0 cy h3 h4 (a5 160) r3_2 h1 r3_4 s3, wWa cy h4 a5, wF cy a5 y5 s5, wK cy L6 c6] : List va_W).flatten H := hP
  have hD : va_D A ([wO cL o fo, w9 cy h0 r0_0 r0_1 h1 r0_3 r0_4 h3 h2 s0, w5 cy h1 a1 s1, w2 cy h2 h1 a2 s2, w0 cy h3 h4 (a5 160) r3_2 h1 r3_4 s3, wWa cy h4 a5, wF cy a5 y5 s5, wK cy L6 c6] : List va_W).flatten := hD
  refine lv_i2l (v := out.toInt64) hx hb dL_price_8 rfl ?_
  refine va_last (f := fo) hx hb hKL hP hD hS 0 0 rfl rfl (inb_in (show inb 0 1 = true by decide)) dL_price_9 (fun H locs hP hD hS => ?_)
  refine lv_goto (tgt := 21) hx hb dL_price_10 (by decide) ?_
  refine lv_iconst (v := 0) hx hb dL_price_21 (by decide) ?_
  have hP : va_P D vwCl ([wO cL o (vp_updL fo 0 out.toInt64), w9 cy h0 r0_0 r0_1 h1 r0_3 r0_4 h3 h2 s0, w5 cy h1 a1 s1, w2 cy h2 h1 a2 s2, w0 cy h3 h4 (a5 160) r3_2 h1 r3_4 s3, wWa cy h4 a5, wF cy a5 y5 s5, wK cy L6 c6] : List va_W).flatten H := hP
  have hD : va_D A ([wO cL o (vp_updL fo 0 out.toInt64), w9 cy h0 r0_0 r0_1 h1 r0_3 r0_4 h3 h2 s0, w5 cy h1 a1 s1, w2 cy h2 h1 a2 s2, w0 cy h3 h4 (a5 160) r3_2 h1 r3_4 s3, wWa cy h4 a5, wF cy a5 y5 s5, wK cy L6 c6] : List va_W).flatten := hD
  exact g_iret hx hb hr hlk hK hP hD hS dL_price_22
