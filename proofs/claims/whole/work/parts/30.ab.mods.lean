/-! calls in worlds that are told by modules: the world is a list of module lists, flattened, and a tail; places are places of modules -/
def mpick {α : Type} (ms : List α) (is : List Nat) : List α := is.filterMap (fun i => ms[i]?)
theorem mpick_range {α : Type} (ms : List α) : mpick ms (List.range ms.length) = ms := by
  unfold mpick
  induction ms with
  | nil => rfl
  | cons a l ih =>
    rw [List.length_cons, List.range_succ_eq_map, List.filterMap_cons]
    simp only [List.getElem?_cons_zero, List.filterMap_map]
    refine congrArg (fun z => a :: z) ?_
    exact ih
theorem mpick_perm {α : Type} {ms : List α} {is : List Nat} (h : is.Perm (List.range ms.length)) : (mpick ms is).Perm ms := by
  have h1 := h.filterMap (fun i => ms[i]?)
  have h2 : (List.range ms.length).filterMap (fun i => ms[i]?) = ms := mpick_range ms
  rw [h2] at h1
  exact h1
theorem mflat_perm {ms ms' : List va_W} (h : ms.Perm ms') : (ms.flatten).Perm ms'.flatten := h.flatten
section GWM
variable {p : Program} {l : Launch} {e : Env} {R : Room} {s : State} {m : MethodId} {args : Array Value} {below : List Frame} {meth : Method} {c : Code} {H : Heap} {locs : List Loc} {Q : State → Prop} {A : Nat → Prop} {D : va_G} {cy : Nat → ClassId} {w : va_W} {cc : ByteArray} {pc : Nat} {ls : Array Slot}
theorem g_joinA {wr wcc w1c : va_W} {H1 : Heap} {t : State} (hP : va_P D vwCl (wr ++ wcc) H) (hD : va_D A (wr ++ wcc)) (hF : ∀ q, va_A wcc H.size q → A q)
    (hk1 : ∀ q : Nat, q < H.size → ¬ va_A wcc H.size q → H1[q]? = H[q]?) (ht : t.heap = H1) (hB : gB D cy (va_A wcc H.size) w1c t) : va_P D vwCl (wr ++ w1c) H1 ∧ va_D A (wr ++ w1c) := by
  obtain ⟨hPr, hPc⟩ := va_P_split hP
  obtain ⟨hDr, hDc, hdj⟩ := va_D_split hD
  obtain ⟨hB1, -, hB3⟩ := hB
  rw [ht] at hB1
  have hno : ∀ q ∈ wr, q.1 < H.size ∧ ¬ va_A wcc H.size q.1 := by
    intro q hq
    have hlt := (va_P_mem.mp hPr q hq).lt
    refine ⟨hlt, ?_⟩
    rintro (⟨k, e, hk⟩ | h3)
    · exact hdj q hq _ (List.mem_of_getElem? hk) rfl
    · omega
  refine ⟨va_P.app (va_P_mem.mpr (fun q hq => (va_P_mem.mp hPr q hq).kept (hk1 _ (hno q hq).1 (hno q hq).2))) hB1, va_D_glue hDr (hB3.weaken (fun _ _ _ h => hF _ h)) ?_⟩
  intro p hp q hq e
  obtain ⟨k, hk⟩ := List.getElem?_of_mem hq
  have h5 := hB3.2 k q hk
  rw [← e] at h5
  exact (hno p hp).2 h5
theorem m_perm {ms mc : List va_W} {n : Nat} {isC isR : List Nat} (hlen : ms.length = n) (hC : mpick ms isC = mc) (hperm : (isR ++ isC).Perm (List.range n)) : (ms.flatten).Perm ((mpick ms isR).flatten ++ mc.flatten) := by
  subst hlen
  have h1 := mpick_perm hperm
  unfold mpick at h1
  rw [List.filterMap_append] at h1
  have h2 : ((mpick ms isR) ++ mc).Perm ms := by rw [← hC]; exact h1
  have h3 := mflat_perm h2
  rw [List.flatten_append] at h3
  exact h3.symm
theorem m_perm2 {m1 m2 rs : List va_W} {n : Nat} {isP : List Nat} (hlen : (rs ++ m1).length = n) (h2 : mpick (rs ++ m1) isP = m2) (hpp : isP.Perm (List.range n)) : (rs.flatten ++ m1.flatten).Perm m2.flatten := by
  subst hlen
  have h3 := mflat_perm (mpick_perm hpp)
  rw [h2, List.flatten_append] at h3
  exact h3.symm
variable {adK adV : Nat → Nat} {y : MethodName} {ws w1 w2 tl tl1 : va_W} {ms mc m1 m2 : List va_W} {wsm : List Cond} {rm : Room} {Ts : List Cond} {own C host : String} {bytes : ByteArray} {maxL nL n index nm : Nat} {ret : Option FieldType} {As rest : List Value} {b : Nat} {wc : va_W}
theorem g_callViTM {r0 : Int32} (S : CallFix p m c cc nL s args Ts own) (hM : Met l y wsm rm (va_Pc (.ref b :: As) (gP D cy H.size wc)) (gQi D cy (va_A wc H.size) r0 w1) 0 0 (va_A wc H.size)) (cw : CallW R s args own C index y bytes maxL ret wsm rm 0 0 n)
    (hrc : ∃ cell : Cell, H[b]? = some cell ∧ cell.vm.isStatics = false ∧ s.vm.findClass C = some cell.cls) (hn : As.length = n) (hsize : ls.size = nL) {st0 : List Value} (hst : st0 = As.reverse ++ .ref b :: rest) (hW : (rest.map fun v => v.category).sum ≤ 8) (hdg : decode cc pc = .ok (.invokevirtual index, 3))
    (hK : va_K D vwCl (TY cy) s) (hP : va_P D vwCl (ws ++ tl) H) (hD : va_D A (ws ++ tl)) (hS : va_S A s.heap H locs) (hA : ∀ q, s.heap.size ≤ q → A q) (isC isR isP : List Nat)
    (hws : ws = ms.flatten) (hwc : wc = mc.flatten) (hw1 : w1 = m1.flatten) (hw2 : w2 = m2.flatten) (hlen : ms.length = nm) (hC : mpick ms isC = mc) (hperm : (isR ++ isC).Perm (List.range nm)) (hlen2 : (mpick ms isR ++ m1).length = nm) (hm2 : mpick (mpick ms isR ++ m1) isP = m2) (hpp : isP.Perm (List.range nm))
    (kk : ∀ (H1 : Heap) (locs1 : List Loc), va_P D vwCl (w2 ++ tl) H1 → va_D A (w2 ++ tl) → va_S A s.heap H1 locs1 → W p l e R s m args below meth c H1 locs1 0 0 Q (F0 m (pc + 3) ls (.int r0 :: rest))) : W p l e R s m args below meth c H locs 0 0 Q (F0 m pc ls st0) := by
  subst hws hwc hw1 hw2
  have pm := (m_perm hlen hC hperm).append_right tl
  have pm2 : (ms.flatten ++ tl).Perm (((mpick ms isR).flatten ++ tl) ++ mc.flatten) := pm.trans (by
    rw [List.append_assoc, List.append_assoc]
    exact List.Perm.append_left _ List.perm_append_comm)
  have hPu := va_P_perm pm2 hP
  have hDu := va_D_perm pm2 hD
  have hPc := (va_P_split hPu).2
  have hDc := (va_D_split hDu).2.1
  have hFc : ∀ q, va_A mc.flatten H.size q → A q := by
    rintro q (⟨k, e, hk⟩ | h)
    · exact hDc.2 k _ hk
    · exact hA q (Nat.le_trans hS.1 h)
  obtain ⟨hp1, hp2⟩ := g_pre (cy := cy) (av := (.ref b :: As)) hK hPc hDc
  refine va_calli (va_runV (As := As) (rest := rest) S hM cw ⟨hp1, hrc, hp2⟩ rfl hn hsize hst (lv_room hW) hdg ⟨Nat.zero_le _, Nat.zero_le _⟩) hS (fun q _ h => hFc q h) hFc (fun r u t H1 locs1 ht hvm hw hB hz1 hk1 hS1 => ?_)
  subst hw
  obtain ⟨h1, h2⟩ := g_joinA hPu hDu hFc hk1 ht hB
  have pb : (((mpick ms isR).flatten ++ tl) ++ m1.flatten).Perm (m2.flatten ++ tl) := by
    refine List.Perm.trans ?_ ((m_perm2 hlen2 hm2 hpp).append_right tl)
    rw [List.append_assoc, List.append_assoc]
    exact List.Perm.append_left _ List.perm_append_comm
  exact kk H1 locs1 (va_P_perm pb h1) (va_D_perm pb h2) hS1
theorem g_callViTME {r0 : Int32} (S : CallFix p m c cc nL s args Ts own) (hM : Met l y wsm rm (va_Pc (.ref b :: As) (gPE D cy adK adV H.size wc)) (gQi D cy (va_A wc H.size) r0 w1) 0 0 (va_A wc H.size)) (cw : CallW R s args own C index y bytes maxL ret wsm rm 0 0 n)
    (hrc : ∃ cell : Cell, H[b]? = some cell ∧ cell.vm.isStatics = false ∧ s.vm.findClass C = some cell.cls) (hn : As.length = n) (hsize : ls.size = nL) {st0 : List Value} (hst : st0 = As.reverse ++ .ref b :: rest) (hW : (rest.map fun v => v.category).sum ≤ 8) (hdg : decode cc pc = .ok (.invokevirtual index, 3))
    (hE : gE adK adV A s s.heap) (hK : va_K D vwCl (TY cy) s) (hP : va_P D vwCl (ws ++ tl) H) (hD : va_D A (ws ++ tl)) (hS : va_S A s.heap H locs) (hA : ∀ q, s.heap.size ≤ q → A q) (isC isR isP : List Nat)
    (hws : ws = ms.flatten) (hwc : wc = mc.flatten) (hw1 : w1 = m1.flatten) (hw2 : w2 = m2.flatten) (hlen : ms.length = nm) (hC : mpick ms isC = mc) (hperm : (isR ++ isC).Perm (List.range nm)) (hlen2 : (mpick ms isR ++ m1).length = nm) (hm2 : mpick (mpick ms isR ++ m1) isP = m2) (hpp : isP.Perm (List.range nm))
    (kk : ∀ (H1 : Heap) (locs1 : List Loc), va_P D vwCl (w2 ++ tl) H1 → va_D A (w2 ++ tl) → va_S A s.heap H1 locs1 → W p l e R s m args below meth c H1 locs1 0 0 Q (F0 m (pc + 3) ls (.int r0 :: rest))) : W p l e R s m args below meth c H locs 0 0 Q (F0 m pc ls st0) := by
  subst hws hwc hw1 hw2
  have pm := (m_perm hlen hC hperm).append_right tl
  have pm2 : (ms.flatten ++ tl).Perm (((mpick ms isR).flatten ++ tl) ++ mc.flatten) := pm.trans (by
    rw [List.append_assoc, List.append_assoc]
    exact List.Perm.append_left _ List.perm_append_comm)
  have hPu := va_P_perm pm2 hP
  have hDu := va_D_perm pm2 hD
  have hPc := (va_P_split hPu).2
  have hDc := (va_D_split hDu).2.1
  have hFc : ∀ q, va_A mc.flatten H.size q → A q := by
    rintro q (⟨k, e, hk⟩ | h)
    · exact hDc.2 k _ hk
    · exact hA q (Nat.le_trans hS.1 h)
  obtain ⟨hp1, hp2⟩ := g_preE (cy := cy) (av := (.ref b :: As)) hK hPc hDc hE hS hFc
  refine va_calli (va_runV (As := As) (rest := rest) S hM cw ⟨hp1, hrc, hp2⟩ rfl hn hsize hst (lv_room hW) hdg ⟨Nat.zero_le _, Nat.zero_le _⟩) hS (fun q _ h => hFc q h) hFc (fun r u t H1 locs1 ht hvm hw hB hz1 hk1 hS1 => ?_)
  subst hw
  obtain ⟨h1, h2⟩ := g_joinA hPu hDu hFc hk1 ht hB
  have pb : (((mpick ms isR).flatten ++ tl) ++ m1.flatten).Perm (m2.flatten ++ tl) := by
    refine List.Perm.trans ?_ ((m_perm2 hlen2 hm2 hpp).append_right tl)
    rw [List.append_assoc, List.append_assoc]
    exact List.Perm.append_left _ List.perm_append_comm
  exact kk H1 locs1 (va_P_perm pb h1) (va_D_perm pb h2) hS1
theorem g_callViUM {r0 : Int32} (S : CallFix p m c cc nL s args Ts own) (hM : Met l y wsm rm (va_Pc (.ref b :: As) (gP D cy H.size (wc ++ tl))) (gQi D cy (va_A (wc ++ tl) H.size) r0 (w1 ++ tl1)) 0 0 (va_A (wc ++ tl) H.size)) (cw : CallW R s args own C index y bytes maxL ret wsm rm 0 0 n)
    (hrc : ∃ cell : Cell, H[b]? = some cell ∧ cell.vm.isStatics = false ∧ s.vm.findClass C = some cell.cls) (hn : As.length = n) (hsize : ls.size = nL) {st0 : List Value} (hst : st0 = As.reverse ++ .ref b :: rest) (hW : (rest.map fun v => v.category).sum ≤ 8) (hdg : decode cc pc = .ok (.invokevirtual index, 3))
    (hK : va_K D vwCl (TY cy) s) (hP : va_P D vwCl (ws ++ tl) H) (hD : va_D A (ws ++ tl)) (hS : va_S A s.heap H locs) (hA : ∀ q, s.heap.size ≤ q → A q) (isC isR isP : List Nat)
    (hws : ws = ms.flatten) (hwc : wc = mc.flatten) (hw1 : w1 = m1.flatten) (hw2 : w2 = m2.flatten) (hlen : ms.length = nm) (hC : mpick ms isC = mc) (hperm : (isR ++ isC).Perm (List.range nm)) (hlen2 : (mpick ms isR ++ m1).length = nm) (hm2 : mpick (mpick ms isR ++ m1) isP = m2) (hpp : isP.Perm (List.range nm))
    (kk : ∀ (H1 : Heap) (locs1 : List Loc), va_P D vwCl (w2 ++ tl1) H1 → va_D A (w2 ++ tl1) → va_S A s.heap H1 locs1 → W p l e R s m args below meth c H1 locs1 0 0 Q (F0 m (pc + 3) ls (.int r0 :: rest))) : W p l e R s m args below meth c H locs 0 0 Q (F0 m pc ls st0) := by
  subst hws hwc hw1 hw2
  have pm := (m_perm hlen hC hperm).append_right tl
  have pm2 : (ms.flatten ++ tl).Perm ((mpick ms isR).flatten ++ (mc.flatten ++ tl)) := by rw [List.append_assoc] at pm; exact pm
  have hPu := va_P_perm pm2 hP
  have hDu := va_D_perm pm2 hD
  have hPc := (va_P_split hPu).2
  have hDc := (va_D_split hDu).2.1
  have hFc : ∀ q, va_A (mc.flatten ++ tl) H.size q → A q := by
    rintro q (⟨k, e, hk⟩ | h)
    · exact hDc.2 k _ hk
    · exact hA q (Nat.le_trans hS.1 h)
  obtain ⟨hp1, hp2⟩ := g_pre (cy := cy) (av := (.ref b :: As)) hK hPc hDc
  refine va_calli (va_runV (As := As) (rest := rest) S hM cw ⟨hp1, hrc, hp2⟩ rfl hn hsize hst (lv_room hW) hdg ⟨Nat.zero_le _, Nat.zero_le _⟩) hS (fun q _ h => hFc q h) hFc (fun r u t H1 locs1 ht hvm hw hB hz1 hk1 hS1 => ?_)
  subst hw
  obtain ⟨h1, h2⟩ := g_joinA hPu hDu hFc hk1 ht hB
  have pb : ((mpick ms isR).flatten ++ (m1.flatten ++ tl1)).Perm (m2.flatten ++ tl1) := by
    rw [← List.append_assoc]
    exact (m_perm2 hlen2 hm2 hpp).append_right tl1
  exact kk H1 locs1 (va_P_perm pb h1) (va_D_perm pb h2) hS1
theorem g_callViUME {r0 : Int32} (S : CallFix p m c cc nL s args Ts own) (hM : Met l y wsm rm (va_Pc (.ref b :: As) (gPE D cy adK adV H.size (wc ++ tl))) (gQi D cy (va_A (wc ++ tl) H.size) r0 (w1 ++ tl1)) 0 0 (va_A (wc ++ tl) H.size)) (cw : CallW R s args own C index y bytes maxL ret wsm rm 0 0 n)
    (hrc : ∃ cell : Cell, H[b]? = some cell ∧ cell.vm.isStatics = false ∧ s.vm.findClass C = some cell.cls) (hn : As.length = n) (hsize : ls.size = nL) {st0 : List Value} (hst : st0 = As.reverse ++ .ref b :: rest) (hW : (rest.map fun v => v.category).sum ≤ 8) (hdg : decode cc pc = .ok (.invokevirtual index, 3))
    (hE : gE adK adV A s s.heap) (hK : va_K D vwCl (TY cy) s) (hP : va_P D vwCl (ws ++ tl) H) (hD : va_D A (ws ++ tl)) (hS : va_S A s.heap H locs) (hA : ∀ q, s.heap.size ≤ q → A q) (isC isR isP : List Nat)
    (hws : ws = ms.flatten) (hwc : wc = mc.flatten) (hw1 : w1 = m1.flatten) (hw2 : w2 = m2.flatten) (hlen : ms.length = nm) (hC : mpick ms isC = mc) (hperm : (isR ++ isC).Perm (List.range nm)) (hlen2 : (mpick ms isR ++ m1).length = nm) (hm2 : mpick (mpick ms isR ++ m1) isP = m2) (hpp : isP.Perm (List.range nm))
    (kk : ∀ (H1 : Heap) (locs1 : List Loc), va_P D vwCl (w2 ++ tl1) H1 → va_D A (w2 ++ tl1) → va_S A s.heap H1 locs1 → W p l e R s m args below meth c H1 locs1 0 0 Q (F0 m (pc + 3) ls (.int r0 :: rest))) : W p l e R s m args below meth c H locs 0 0 Q (F0 m pc ls st0) := by
  subst hws hwc hw1 hw2
  have pm := (m_perm hlen hC hperm).append_right tl
  have pm2 : (ms.flatten ++ tl).Perm ((mpick ms isR).flatten ++ (mc.flatten ++ tl)) := by rw [List.append_assoc] at pm; exact pm
  have hPu := va_P_perm pm2 hP
  have hDu := va_D_perm pm2 hD
  have hPc := (va_P_split hPu).2
  have hDc := (va_D_split hDu).2.1
  have hFc : ∀ q, va_A (mc.flatten ++ tl) H.size q → A q := by
    rintro q (⟨k, e, hk⟩ | h)
    · exact hDc.2 k _ hk
    · exact hA q (Nat.le_trans hS.1 h)
  obtain ⟨hp1, hp2⟩ := g_preE (cy := cy) (av := (.ref b :: As)) hK hPc hDc hE hS hFc
  refine va_calli (va_runV (As := As) (rest := rest) S hM cw ⟨hp1, hrc, hp2⟩ rfl hn hsize hst (lv_room hW) hdg ⟨Nat.zero_le _, Nat.zero_le _⟩) hS (fun q _ h => hFc q h) hFc (fun r u t H1 locs1 ht hvm hw hB hz1 hk1 hS1 => ?_)
  subst hw
  obtain ⟨h1, h2⟩ := g_joinA hPu hDu hFc hk1 ht hB
  have pb : ((mpick ms isR).flatten ++ (m1.flatten ++ tl1)).Perm (m2.flatten ++ tl1) := by
    rw [← List.append_assoc]
    exact (m_perm2 hlen2 hm2 hpp).append_right tl1
  exact kk H1 locs1 (va_P_perm pb h1) (va_D_perm pb h2) hS1
theorem g_callVvTM (S : CallFix p m c cc nL s args Ts own) (hM : Met l y wsm rm (va_Pc (.ref b :: As) (gP D cy H.size wc)) (gQv D cy (va_A wc H.size) w1) 0 0 (va_A wc H.size)) (cw : CallW R s args own C index y bytes maxL ret wsm rm 0 0 n)
    (hrc : ∃ cell : Cell, H[b]? = some cell ∧ cell.vm.isStatics = false ∧ s.vm.findClass C = some cell.cls) (hn : As.length = n) (hsize : ls.size = nL) {st0 : List Value} (hst : st0 = As.reverse ++ .ref b :: rest) (hW : (rest.map fun v => v.category).sum ≤ 8) (hdg : decode cc pc = .ok (.invokevirtual index, 3))
    (hK : va_K D vwCl (TY cy) s) (hP : va_P D vwCl (ws ++ tl) H) (hD : va_D A (ws ++ tl)) (hS : va_S A s.heap H locs) (hA : ∀ q, s.heap.size ≤ q → A q) (isC isR isP : List Nat)
    (hws : ws = ms.flatten) (hwc : wc = mc.flatten) (hw1 : w1 = m1.flatten) (hw2 : w2 = m2.flatten) (hlen : ms.length = nm) (hC : mpick ms isC = mc) (hperm : (isR ++ isC).Perm (List.range nm)) (hlen2 : (mpick ms isR ++ m1).length = nm) (hm2 : mpick (mpick ms isR ++ m1) isP = m2) (hpp : isP.Perm (List.range nm))
    (kk : ∀ (H1 : Heap) (locs1 : List Loc), va_P D vwCl (w2 ++ tl) H1 → va_D A (w2 ++ tl) → va_S A s.heap H1 locs1 → W p l e R s m args below meth c H1 locs1 0 0 Q (F0 m (pc + 3) ls rest)) : W p l e R s m args below meth c H locs 0 0 Q (F0 m pc ls st0) := by
  subst hws hwc hw1 hw2
  have pm := (m_perm hlen hC hperm).append_right tl
  have pm2 : (ms.flatten ++ tl).Perm (((mpick ms isR).flatten ++ tl) ++ mc.flatten) := pm.trans (by
    rw [List.append_assoc, List.append_assoc]
    exact List.Perm.append_left _ List.perm_append_comm)
  have hPu := va_P_perm pm2 hP
  have hDu := va_D_perm pm2 hD
  have hPc := (va_P_split hPu).2
  have hDc := (va_D_split hDu).2.1
  have hFc : ∀ q, va_A mc.flatten H.size q → A q := by
    rintro q (⟨k, e, hk⟩ | h)
    · exact hDc.2 k _ hk
    · exact hA q (Nat.le_trans hS.1 h)
  obtain ⟨hp1, hp2⟩ := g_pre (cy := cy) (av := (.ref b :: As)) hK hPc hDc
  refine va_callv (va_runV (As := As) (rest := rest) S hM cw ⟨hp1, hrc, hp2⟩ rfl hn hsize hst (lv_room hW) hdg ⟨Nat.zero_le _, Nat.zero_le _⟩) hS (fun q _ h => hFc q h) hFc (fun u t H1 locs1 ht hvm hw hB hz1 hk1 hS1 => ?_)
  obtain ⟨h1, h2⟩ := g_joinA hPu hDu hFc hk1 ht hB
  have pb : (((mpick ms isR).flatten ++ tl) ++ m1.flatten).Perm (m2.flatten ++ tl) := by
    refine List.Perm.trans ?_ ((m_perm2 hlen2 hm2 hpp).append_right tl)
    rw [List.append_assoc, List.append_assoc]
    exact List.Perm.append_left _ List.perm_append_comm
  exact kk H1 locs1 (va_P_perm pb h1) (va_D_perm pb h2) hS1
theorem g_callVvTME (S : CallFix p m c cc nL s args Ts own) (hM : Met l y wsm rm (va_Pc (.ref b :: As) (gPE D cy adK adV H.size wc)) (gQv D cy (va_A wc H.size) w1) 0 0 (va_A wc H.size)) (cw : CallW R s args own C index y bytes maxL ret wsm rm 0 0 n)
    (hrc : ∃ cell : Cell, H[b]? = some cell ∧ cell.vm.isStatics = false ∧ s.vm.findClass C = some cell.cls) (hn : As.length = n) (hsize : ls.size = nL) {st0 : List Value} (hst : st0 = As.reverse ++ .ref b :: rest) (hW : (rest.map fun v => v.category).sum ≤ 8) (hdg : decode cc pc = .ok (.invokevirtual index, 3))
    (hE : gE adK adV A s s.heap) (hK : va_K D vwCl (TY cy) s) (hP : va_P D vwCl (ws ++ tl) H) (hD : va_D A (ws ++ tl)) (hS : va_S A s.heap H locs) (hA : ∀ q, s.heap.size ≤ q → A q) (isC isR isP : List Nat)
    (hws : ws = ms.flatten) (hwc : wc = mc.flatten) (hw1 : w1 = m1.flatten) (hw2 : w2 = m2.flatten) (hlen : ms.length = nm) (hC : mpick ms isC = mc) (hperm : (isR ++ isC).Perm (List.range nm)) (hlen2 : (mpick ms isR ++ m1).length = nm) (hm2 : mpick (mpick ms isR ++ m1) isP = m2) (hpp : isP.Perm (List.range nm))
    (kk : ∀ (H1 : Heap) (locs1 : List Loc), va_P D vwCl (w2 ++ tl) H1 → va_D A (w2 ++ tl) → va_S A s.heap H1 locs1 → W p l e R s m args below meth c H1 locs1 0 0 Q (F0 m (pc + 3) ls rest)) : W p l e R s m args below meth c H locs 0 0 Q (F0 m pc ls st0) := by
  subst hws hwc hw1 hw2
  have pm := (m_perm hlen hC hperm).append_right tl
  have pm2 : (ms.flatten ++ tl).Perm (((mpick ms isR).flatten ++ tl) ++ mc.flatten) := pm.trans (by
    rw [List.append_assoc, List.append_assoc]
    exact List.Perm.append_left _ List.perm_append_comm)
  have hPu := va_P_perm pm2 hP
  have hDu := va_D_perm pm2 hD
  have hPc := (va_P_split hPu).2
  have hDc := (va_D_split hDu).2.1
  have hFc : ∀ q, va_A mc.flatten H.size q → A q := by
    rintro q (⟨k, e, hk⟩ | h)
    · exact hDc.2 k _ hk
    · exact hA q (Nat.le_trans hS.1 h)
  obtain ⟨hp1, hp2⟩ := g_preE (cy := cy) (av := (.ref b :: As)) hK hPc hDc hE hS hFc
  refine va_callv (va_runV (As := As) (rest := rest) S hM cw ⟨hp1, hrc, hp2⟩ rfl hn hsize hst (lv_room hW) hdg ⟨Nat.zero_le _, Nat.zero_le _⟩) hS (fun q _ h => hFc q h) hFc (fun u t H1 locs1 ht hvm hw hB hz1 hk1 hS1 => ?_)
  obtain ⟨h1, h2⟩ := g_joinA hPu hDu hFc hk1 ht hB
  have pb : (((mpick ms isR).flatten ++ tl) ++ m1.flatten).Perm (m2.flatten ++ tl) := by
    refine List.Perm.trans ?_ ((m_perm2 hlen2 hm2 hpp).append_right tl)
    rw [List.append_assoc, List.append_assoc]
    exact List.Perm.append_left _ List.perm_append_comm
  exact kk H1 locs1 (va_P_perm pb h1) (va_D_perm pb h2) hS1
theorem g_callVvUM (S : CallFix p m c cc nL s args Ts own) (hM : Met l y wsm rm (va_Pc (.ref b :: As) (gP D cy H.size (wc ++ tl))) (gQv D cy (va_A (wc ++ tl) H.size) (w1 ++ tl1)) 0 0 (va_A (wc ++ tl) H.size)) (cw : CallW R s args own C index y bytes maxL ret wsm rm 0 0 n)
    (hrc : ∃ cell : Cell, H[b]? = some cell ∧ cell.vm.isStatics = false ∧ s.vm.findClass C = some cell.cls) (hn : As.length = n) (hsize : ls.size = nL) {st0 : List Value} (hst : st0 = As.reverse ++ .ref b :: rest) (hW : (rest.map fun v => v.category).sum ≤ 8) (hdg : decode cc pc = .ok (.invokevirtual index, 3))
    (hK : va_K D vwCl (TY cy) s) (hP : va_P D vwCl (ws ++ tl) H) (hD : va_D A (ws ++ tl)) (hS : va_S A s.heap H locs) (hA : ∀ q, s.heap.size ≤ q → A q) (isC isR isP : List Nat)
    (hws : ws = ms.flatten) (hwc : wc = mc.flatten) (hw1 : w1 = m1.flatten) (hw2 : w2 = m2.flatten) (hlen : ms.length = nm) (hC : mpick ms isC = mc) (hperm : (isR ++ isC).Perm (List.range nm)) (hlen2 : (mpick ms isR ++ m1).length = nm) (hm2 : mpick (mpick ms isR ++ m1) isP = m2) (hpp : isP.Perm (List.range nm))
    (kk : ∀ (H1 : Heap) (locs1 : List Loc), va_P D vwCl (w2 ++ tl1) H1 → va_D A (w2 ++ tl1) → va_S A s.heap H1 locs1 → W p l e R s m args below meth c H1 locs1 0 0 Q (F0 m (pc + 3) ls rest)) : W p l e R s m args below meth c H locs 0 0 Q (F0 m pc ls st0) := by
  subst hws hwc hw1 hw2
  have pm := (m_perm hlen hC hperm).append_right tl
  have pm2 : (ms.flatten ++ tl).Perm ((mpick ms isR).flatten ++ (mc.flatten ++ tl)) := by rw [List.append_assoc] at pm; exact pm
  have hPu := va_P_perm pm2 hP
  have hDu := va_D_perm pm2 hD
  have hPc := (va_P_split hPu).2
  have hDc := (va_D_split hDu).2.1
  have hFc : ∀ q, va_A (mc.flatten ++ tl) H.size q → A q := by
    rintro q (⟨k, e, hk⟩ | h)
    · exact hDc.2 k _ hk
    · exact hA q (Nat.le_trans hS.1 h)
  obtain ⟨hp1, hp2⟩ := g_pre (cy := cy) (av := (.ref b :: As)) hK hPc hDc
  refine va_callv (va_runV (As := As) (rest := rest) S hM cw ⟨hp1, hrc, hp2⟩ rfl hn hsize hst (lv_room hW) hdg ⟨Nat.zero_le _, Nat.zero_le _⟩) hS (fun q _ h => hFc q h) hFc (fun u t H1 locs1 ht hvm hw hB hz1 hk1 hS1 => ?_)
  obtain ⟨h1, h2⟩ := g_joinA hPu hDu hFc hk1 ht hB
  have pb : ((mpick ms isR).flatten ++ (m1.flatten ++ tl1)).Perm (m2.flatten ++ tl1) := by
    rw [← List.append_assoc]
    exact (m_perm2 hlen2 hm2 hpp).append_right tl1
  exact kk H1 locs1 (va_P_perm pb h1) (va_D_perm pb h2) hS1
theorem g_callVvUME (S : CallFix p m c cc nL s args Ts own) (hM : Met l y wsm rm (va_Pc (.ref b :: As) (gPE D cy adK adV H.size (wc ++ tl))) (gQv D cy (va_A (wc ++ tl) H.size) (w1 ++ tl1)) 0 0 (va_A (wc ++ tl) H.size)) (cw : CallW R s args own C index y bytes maxL ret wsm rm 0 0 n)
    (hrc : ∃ cell : Cell, H[b]? = some cell ∧ cell.vm.isStatics = false ∧ s.vm.findClass C = some cell.cls) (hn : As.length = n) (hsize : ls.size = nL) {st0 : List Value} (hst : st0 = As.reverse ++ .ref b :: rest) (hW : (rest.map fun v => v.category).sum ≤ 8) (hdg : decode cc pc = .ok (.invokevirtual index, 3))
    (hE : gE adK adV A s s.heap) (hK : va_K D vwCl (TY cy) s) (hP : va_P D vwCl (ws ++ tl) H) (hD : va_D A (ws ++ tl)) (hS : va_S A s.heap H locs) (hA : ∀ q, s.heap.size ≤ q → A q) (isC isR isP : List Nat)
    (hws : ws = ms.flatten) (hwc : wc = mc.flatten) (hw1 : w1 = m1.flatten) (hw2 : w2 = m2.flatten) (hlen : ms.length = nm) (hC : mpick ms isC = mc) (hperm : (isR ++ isC).Perm (List.range nm)) (hlen2 : (mpick ms isR ++ m1).length = nm) (hm2 : mpick (mpick ms isR ++ m1) isP = m2) (hpp : isP.Perm (List.range nm))
    (kk : ∀ (H1 : Heap) (locs1 : List Loc), va_P D vwCl (w2 ++ tl1) H1 → va_D A (w2 ++ tl1) → va_S A s.heap H1 locs1 → W p l e R s m args below meth c H1 locs1 0 0 Q (F0 m (pc + 3) ls rest)) : W p l e R s m args below meth c H locs 0 0 Q (F0 m pc ls st0) := by
  subst hws hwc hw1 hw2
  have pm := (m_perm hlen hC hperm).append_right tl
  have pm2 : (ms.flatten ++ tl).Perm ((mpick ms isR).flatten ++ (mc.flatten ++ tl)) := by rw [List.append_assoc] at pm; exact pm
  have hPu := va_P_perm pm2 hP
  have hDu := va_D_perm pm2 hD
  have hPc := (va_P_split hPu).2
  have hDc := (va_D_split hDu).2.1
  have hFc : ∀ q, va_A (mc.flatten ++ tl) H.size q → A q := by
    rintro q (⟨k, e, hk⟩ | h)
    · exact hDc.2 k _ hk
    · exact hA q (Nat.le_trans hS.1 h)
  obtain ⟨hp1, hp2⟩ := g_preE (cy := cy) (av := (.ref b :: As)) hK hPc hDc hE hS hFc
  refine va_callv (va_runV (As := As) (rest := rest) S hM cw ⟨hp1, hrc, hp2⟩ rfl hn hsize hst (lv_room hW) hdg ⟨Nat.zero_le _, Nat.zero_le _⟩) hS (fun q _ h => hFc q h) hFc (fun u t H1 locs1 ht hvm hw hB hz1 hk1 hS1 => ?_)
  obtain ⟨h1, h2⟩ := g_joinA hPu hDu hFc hk1 ht hB
  have pb : ((mpick ms isR).flatten ++ (m1.flatten ++ tl1)).Perm (m2.flatten ++ tl1) := by
    rw [← List.append_assoc]
    exact (m_perm2 hlen2 hm2 hpp).append_right tl1
  exact kk H1 locs1 (va_P_perm pb h1) (va_D_perm pb h2) hS1
theorem g_callVrTM {r0 : Nat} (S : CallFix p m c cc nL s args Ts own) (hM : Met l y wsm rm (va_Pc (.ref b :: As) (gP D cy H.size wc)) (gQr D cy (va_A wc H.size) r0 w1) 0 0 (va_A wc H.size)) (cw : CallW R s args own C index y bytes maxL ret wsm rm 0 0 n)
    (hrc : ∃ cell : Cell, H[b]? = some cell ∧ cell.vm.isStatics = false ∧ s.vm.findClass C = some cell.cls) (hn : As.length = n) (hsize : ls.size = nL) {st0 : List Value} (hst : st0 = As.reverse ++ .ref b :: rest) (hW : (rest.map fun v => v.category).sum ≤ 8) (hdg : decode cc pc = .ok (.invokevirtual index, 3))
    (hK : va_K D vwCl (TY cy) s) (hP : va_P D vwCl (ws ++ tl) H) (hD : va_D A (ws ++ tl)) (hS : va_S A s.heap H locs) (hA : ∀ q, s.heap.size ≤ q → A q) (isC isR isP : List Nat)
    (hws : ws = ms.flatten) (hwc : wc = mc.flatten) (hw1 : w1 = m1.flatten) (hw2 : w2 = m2.flatten) (hlen : ms.length = nm) (hC : mpick ms isC = mc) (hperm : (isR ++ isC).Perm (List.range nm)) (hlen2 : (mpick ms isR ++ m1).length = nm) (hm2 : mpick (mpick ms isR ++ m1) isP = m2) (hpp : isP.Perm (List.range nm))
    (kk : ∀ (H1 : Heap) (locs1 : List Loc), va_P D vwCl (w2 ++ tl) H1 → va_D A (w2 ++ tl) → va_S A s.heap H1 locs1 → W p l e R s m args below meth c H1 locs1 0 0 Q (F0 m (pc + 3) ls (.ref r0 :: rest))) : W p l e R s m args below meth c H locs 0 0 Q (F0 m pc ls st0) := by
  subst hws hwc hw1 hw2
  have pm := (m_perm hlen hC hperm).append_right tl
  have pm2 : (ms.flatten ++ tl).Perm (((mpick ms isR).flatten ++ tl) ++ mc.flatten) := pm.trans (by
    rw [List.append_assoc, List.append_assoc]
    exact List.Perm.append_left _ List.perm_append_comm)
  have hPu := va_P_perm pm2 hP
  have hDu := va_D_perm pm2 hD
  have hPc := (va_P_split hPu).2
  have hDc := (va_D_split hDu).2.1
  have hFc : ∀ q, va_A mc.flatten H.size q → A q := by
    rintro q (⟨k, e, hk⟩ | h)
    · exact hDc.2 k _ hk
    · exact hA q (Nat.le_trans hS.1 h)
  obtain ⟨hp1, hp2⟩ := g_pre (cy := cy) (av := (.ref b :: As)) hK hPc hDc
  refine va_callr (va_runV (As := As) (rest := rest) S hM cw ⟨hp1, hrc, hp2⟩ rfl hn hsize hst (lv_room hW) hdg ⟨Nat.zero_le _, Nat.zero_le _⟩) hS (fun q _ h => hFc q h) hFc (fun u a t H1 locs1 ht hvm hw hB hz1 hk1 hS1 => ?_)
  obtain ⟨rfl, hB⟩ := hB
  obtain ⟨h1, h2⟩ := g_joinA hPu hDu hFc hk1 ht hB
  have pb : (((mpick ms isR).flatten ++ tl) ++ m1.flatten).Perm (m2.flatten ++ tl) := by
    refine List.Perm.trans ?_ ((m_perm2 hlen2 hm2 hpp).append_right tl)
    rw [List.append_assoc, List.append_assoc]
    exact List.Perm.append_left _ List.perm_append_comm
  exact kk H1 locs1 (va_P_perm pb h1) (va_D_perm pb h2) hS1
theorem g_callVrTME {r0 : Nat} (S : CallFix p m c cc nL s args Ts own) (hM : Met l y wsm rm (va_Pc (.ref b :: As) (gPE D cy adK adV H.size wc)) (gQr D cy (va_A wc H.size) r0 w1) 0 0 (va_A wc H.size)) (cw : CallW R s args own C index y bytes maxL ret wsm rm 0 0 n)
    (hrc : ∃ cell : Cell, H[b]? = some cell ∧ cell.vm.isStatics = false ∧ s.vm.findClass C = some cell.cls) (hn : As.length = n) (hsize : ls.size = nL) {st0 : List Value} (hst : st0 = As.reverse ++ .ref b :: rest) (hW : (rest.map fun v => v.category).sum ≤ 8) (hdg : decode cc pc = .ok (.invokevirtual index, 3))
    (hE : gE adK adV A s s.heap) (hK : va_K D vwCl (TY cy) s) (hP : va_P D vwCl (ws ++ tl) H) (hD : va_D A (ws ++ tl)) (hS : va_S A s.heap H locs) (hA : ∀ q, s.heap.size ≤ q → A q) (isC isR isP : List Nat)
    (hws : ws = ms.flatten) (hwc : wc = mc.flatten) (hw1 : w1 = m1.flatten) (hw2 : w2 = m2.flatten) (hlen : ms.length = nm) (hC : mpick ms isC = mc) (hperm : (isR ++ isC).Perm (List.range nm)) (hlen2 : (mpick ms isR ++ m1).length = nm) (hm2 : mpick (mpick ms isR ++ m1) isP = m2) (hpp : isP.Perm (List.range nm))
    (kk : ∀ (H1 : Heap) (locs1 : List Loc), va_P D vwCl (w2 ++ tl) H1 → va_D A (w2 ++ tl) → va_S A s.heap H1 locs1 → W p l e R s m args below meth c H1 locs1 0 0 Q (F0 m (pc + 3) ls (.ref r0 :: rest))) : W p l e R s m args below meth c H locs 0 0 Q (F0 m pc ls st0) := by
  subst hws hwc hw1 hw2
  have pm := (m_perm hlen hC hperm).append_right tl
  have pm2 : (ms.flatten ++ tl).Perm (((mpick ms isR).flatten ++ tl) ++ mc.flatten) := pm.trans (by
    rw [List.append_assoc, List.append_assoc]
    exact List.Perm.append_left _ List.perm_append_comm)
  have hPu := va_P_perm pm2 hP
  have hDu := va_D_perm pm2 hD
  have hPc := (va_P_split hPu).2
  have hDc := (va_D_split hDu).2.1
  have hFc : ∀ q, va_A mc.flatten H.size q → A q := by
    rintro q (⟨k, e, hk⟩ | h)
    · exact hDc.2 k _ hk
    · exact hA q (Nat.le_trans hS.1 h)
  obtain ⟨hp1, hp2⟩ := g_preE (cy := cy) (av := (.ref b :: As)) hK hPc hDc hE hS hFc
  refine va_callr (va_runV (As := As) (rest := rest) S hM cw ⟨hp1, hrc, hp2⟩ rfl hn hsize hst (lv_room hW) hdg ⟨Nat.zero_le _, Nat.zero_le _⟩) hS (fun q _ h => hFc q h) hFc (fun u a t H1 locs1 ht hvm hw hB hz1 hk1 hS1 => ?_)
  obtain ⟨rfl, hB⟩ := hB
  obtain ⟨h1, h2⟩ := g_joinA hPu hDu hFc hk1 ht hB
  have pb : (((mpick ms isR).flatten ++ tl) ++ m1.flatten).Perm (m2.flatten ++ tl) := by
    refine List.Perm.trans ?_ ((m_perm2 hlen2 hm2 hpp).append_right tl)
    rw [List.append_assoc, List.append_assoc]
    exact List.Perm.append_left _ List.perm_append_comm
  exact kk H1 locs1 (va_P_perm pb h1) (va_D_perm pb h2) hS1
theorem g_callVrUM {r0 : Nat} (S : CallFix p m c cc nL s args Ts own) (hM : Met l y wsm rm (va_Pc (.ref b :: As) (gP D cy H.size (wc ++ tl))) (gQr D cy (va_A (wc ++ tl) H.size) r0 (w1 ++ tl1)) 0 0 (va_A (wc ++ tl) H.size)) (cw : CallW R s args own C index y bytes maxL ret wsm rm 0 0 n)
    (hrc : ∃ cell : Cell, H[b]? = some cell ∧ cell.vm.isStatics = false ∧ s.vm.findClass C = some cell.cls) (hn : As.length = n) (hsize : ls.size = nL) {st0 : List Value} (hst : st0 = As.reverse ++ .ref b :: rest) (hW : (rest.map fun v => v.category).sum ≤ 8) (hdg : decode cc pc = .ok (.invokevirtual index, 3))
    (hK : va_K D vwCl (TY cy) s) (hP : va_P D vwCl (ws ++ tl) H) (hD : va_D A (ws ++ tl)) (hS : va_S A s.heap H locs) (hA : ∀ q, s.heap.size ≤ q → A q) (isC isR isP : List Nat)
    (hws : ws = ms.flatten) (hwc : wc = mc.flatten) (hw1 : w1 = m1.flatten) (hw2 : w2 = m2.flatten) (hlen : ms.length = nm) (hC : mpick ms isC = mc) (hperm : (isR ++ isC).Perm (List.range nm)) (hlen2 : (mpick ms isR ++ m1).length = nm) (hm2 : mpick (mpick ms isR ++ m1) isP = m2) (hpp : isP.Perm (List.range nm))
    (kk : ∀ (H1 : Heap) (locs1 : List Loc), va_P D vwCl (w2 ++ tl1) H1 → va_D A (w2 ++ tl1) → va_S A s.heap H1 locs1 → W p l e R s m args below meth c H1 locs1 0 0 Q (F0 m (pc + 3) ls (.ref r0 :: rest))) : W p l e R s m args below meth c H locs 0 0 Q (F0 m pc ls st0) := by
  subst hws hwc hw1 hw2
  have pm := (m_perm hlen hC hperm).append_right tl
  have pm2 : (ms.flatten ++ tl).Perm ((mpick ms isR).flatten ++ (mc.flatten ++ tl)) := by rw [List.append_assoc] at pm; exact pm
  have hPu := va_P_perm pm2 hP
  have hDu := va_D_perm pm2 hD
  have hPc := (va_P_split hPu).2
  have hDc := (va_D_split hDu).2.1
  have hFc : ∀ q, va_A (mc.flatten ++ tl) H.size q → A q := by
    rintro q (⟨k, e, hk⟩ | h)
    · exact hDc.2 k _ hk
    · exact hA q (Nat.le_trans hS.1 h)
  obtain ⟨hp1, hp2⟩ := g_pre (cy := cy) (av := (.ref b :: As)) hK hPc hDc
  refine va_callr (va_runV (As := As) (rest := rest) S hM cw ⟨hp1, hrc, hp2⟩ rfl hn hsize hst (lv_room hW) hdg ⟨Nat.zero_le _, Nat.zero_le _⟩) hS (fun q _ h => hFc q h) hFc (fun u a t H1 locs1 ht hvm hw hB hz1 hk1 hS1 => ?_)
  obtain ⟨rfl, hB⟩ := hB
  obtain ⟨h1, h2⟩ := g_joinA hPu hDu hFc hk1 ht hB
  have pb : ((mpick ms isR).flatten ++ (m1.flatten ++ tl1)).Perm (m2.flatten ++ tl1) := by
    rw [← List.append_assoc]
    exact (m_perm2 hlen2 hm2 hpp).append_right tl1
  exact kk H1 locs1 (va_P_perm pb h1) (va_D_perm pb h2) hS1
theorem g_callVrUME {r0 : Nat} (S : CallFix p m c cc nL s args Ts own) (hM : Met l y wsm rm (va_Pc (.ref b :: As) (gPE D cy adK adV H.size (wc ++ tl))) (gQr D cy (va_A (wc ++ tl) H.size) r0 (w1 ++ tl1)) 0 0 (va_A (wc ++ tl) H.size)) (cw : CallW R s args own C index y bytes maxL ret wsm rm 0 0 n)
    (hrc : ∃ cell : Cell, H[b]? = some cell ∧ cell.vm.isStatics = false ∧ s.vm.findClass C = some cell.cls) (hn : As.length = n) (hsize : ls.size = nL) {st0 : List Value} (hst : st0 = As.reverse ++ .ref b :: rest) (hW : (rest.map fun v => v.category).sum ≤ 8) (hdg : decode cc pc = .ok (.invokevirtual index, 3))
    (hE : gE adK adV A s s.heap) (hK : va_K D vwCl (TY cy) s) (hP : va_P D vwCl (ws ++ tl) H) (hD : va_D A (ws ++ tl)) (hS : va_S A s.heap H locs) (hA : ∀ q, s.heap.size ≤ q → A q) (isC isR isP : List Nat)
    (hws : ws = ms.flatten) (hwc : wc = mc.flatten) (hw1 : w1 = m1.flatten) (hw2 : w2 = m2.flatten) (hlen : ms.length = nm) (hC : mpick ms isC = mc) (hperm : (isR ++ isC).Perm (List.range nm)) (hlen2 : (mpick ms isR ++ m1).length = nm) (hm2 : mpick (mpick ms isR ++ m1) isP = m2) (hpp : isP.Perm (List.range nm))
    (kk : ∀ (H1 : Heap) (locs1 : List Loc), va_P D vwCl (w2 ++ tl1) H1 → va_D A (w2 ++ tl1) → va_S A s.heap H1 locs1 → W p l e R s m args below meth c H1 locs1 0 0 Q (F0 m (pc + 3) ls (.ref r0 :: rest))) : W p l e R s m args below meth c H locs 0 0 Q (F0 m pc ls st0) := by
  subst hws hwc hw1 hw2
  have pm := (m_perm hlen hC hperm).append_right tl
  have pm2 : (ms.flatten ++ tl).Perm ((mpick ms isR).flatten ++ (mc.flatten ++ tl)) := by rw [List.append_assoc] at pm; exact pm
  have hPu := va_P_perm pm2 hP
  have hDu := va_D_perm pm2 hD
  have hPc := (va_P_split hPu).2
  have hDc := (va_D_split hDu).2.1
  have hFc : ∀ q, va_A (mc.flatten ++ tl) H.size q → A q := by
    rintro q (⟨k, e, hk⟩ | h)
    · exact hDc.2 k _ hk
    · exact hA q (Nat.le_trans hS.1 h)
  obtain ⟨hp1, hp2⟩ := g_preE (cy := cy) (av := (.ref b :: As)) hK hPc hDc hE hS hFc
  refine va_callr (va_runV (As := As) (rest := rest) S hM cw ⟨hp1, hrc, hp2⟩ rfl hn hsize hst (lv_room hW) hdg ⟨Nat.zero_le _, Nat.zero_le _⟩) hS (fun q _ h => hFc q h) hFc (fun u a t H1 locs1 ht hvm hw hB hz1 hk1 hS1 => ?_)
  obtain ⟨rfl, hB⟩ := hB
  obtain ⟨h1, h2⟩ := g_joinA hPu hDu hFc hk1 ht hB
  have pb : ((mpick ms isR).flatten ++ (m1.flatten ++ tl1)).Perm (m2.flatten ++ tl1) := by
    rw [← List.append_assoc]
    exact (m_perm2 hlen2 hm2 hpp).append_right tl1
  exact kk H1 locs1 (va_P_perm pb h1) (va_D_perm pb h2) hS1
theorem g_callSiTM {r0 : Int32} (S : CallFix p m c cc nL s args Ts own) (hM : Met l y wsm rm (va_Pc As (gP D cy H.size wc)) (gQi D cy (va_A wc H.size) r0 w1) 0 0 (va_A wc H.size)) (cw : CallB R s args own index y bytes maxL ret wsm rm 0 0 n ∧ (Cond.static y).before args s = true)
    (hn : As.length = n) (hsize : ls.size = nL) {st0 : List Value} (hst : st0 = As.reverse ++ rest) (hW : (rest.map fun v => v.category).sum ≤ 8) (hdg : decode cc pc = .ok (.invokestatic index, 3))
    (hK : va_K D vwCl (TY cy) s) (hP : va_P D vwCl (ws ++ tl) H) (hD : va_D A (ws ++ tl)) (hS : va_S A s.heap H locs) (hA : ∀ q, s.heap.size ≤ q → A q) (isC isR isP : List Nat)
    (hws : ws = ms.flatten) (hwc : wc = mc.flatten) (hw1 : w1 = m1.flatten) (hw2 : w2 = m2.flatten) (hlen : ms.length = nm) (hC : mpick ms isC = mc) (hperm : (isR ++ isC).Perm (List.range nm)) (hlen2 : (mpick ms isR ++ m1).length = nm) (hm2 : mpick (mpick ms isR ++ m1) isP = m2) (hpp : isP.Perm (List.range nm))
    (kk : ∀ (H1 : Heap) (locs1 : List Loc), va_P D vwCl (w2 ++ tl) H1 → va_D A (w2 ++ tl) → va_S A s.heap H1 locs1 → W p l e R s m args below meth c H1 locs1 0 0 Q (F0 m (pc + 3) ls (.int r0 :: rest))) : W p l e R s m args below meth c H locs 0 0 Q (F0 m pc ls st0) := by
  subst hws hwc hw1 hw2
  have pm := (m_perm hlen hC hperm).append_right tl
  have pm2 : (ms.flatten ++ tl).Perm (((mpick ms isR).flatten ++ tl) ++ mc.flatten) := pm.trans (by
    rw [List.append_assoc, List.append_assoc]
    exact List.Perm.append_left _ List.perm_append_comm)
  have hPu := va_P_perm pm2 hP
  have hDu := va_D_perm pm2 hD
  have hPc := (va_P_split hPu).2
  have hDc := (va_D_split hDu).2.1
  have hFc : ∀ q, va_A mc.flatten H.size q → A q := by
    rintro q (⟨k, e, hk⟩ | h)
    · exact hDc.2 k _ hk
    · exact hA q (Nat.le_trans hS.1 h)
  obtain ⟨hp1, hp2⟩ := g_pre (cy := cy) (av := As) hK hPc hDc
  refine va_calli (va_runS (As := As) (rest := rest) S hM cw ⟨hp1, hp2⟩ rfl hn hsize hst (lv_room hW) hdg ⟨Nat.zero_le _, Nat.zero_le _⟩) hS (fun q _ h => hFc q h) hFc (fun r u t H1 locs1 ht hvm hw hB hz1 hk1 hS1 => ?_)
  subst hw
  obtain ⟨h1, h2⟩ := g_joinA hPu hDu hFc hk1 ht hB
  have pb : (((mpick ms isR).flatten ++ tl) ++ m1.flatten).Perm (m2.flatten ++ tl) := by
    refine List.Perm.trans ?_ ((m_perm2 hlen2 hm2 hpp).append_right tl)
    rw [List.append_assoc, List.append_assoc]
    exact List.Perm.append_left _ List.perm_append_comm
  exact kk H1 locs1 (va_P_perm pb h1) (va_D_perm pb h2) hS1
theorem g_callSiTME {r0 : Int32} (S : CallFix p m c cc nL s args Ts own) (hM : Met l y wsm rm (va_Pc As (gPE D cy adK adV H.size wc)) (gQi D cy (va_A wc H.size) r0 w1) 0 0 (va_A wc H.size)) (cw : CallB R s args own index y bytes maxL ret wsm rm 0 0 n ∧ (Cond.static y).before args s = true)
    (hn : As.length = n) (hsize : ls.size = nL) {st0 : List Value} (hst : st0 = As.reverse ++ rest) (hW : (rest.map fun v => v.category).sum ≤ 8) (hdg : decode cc pc = .ok (.invokestatic index, 3))
    (hE : gE adK adV A s s.heap) (hK : va_K D vwCl (TY cy) s) (hP : va_P D vwCl (ws ++ tl) H) (hD : va_D A (ws ++ tl)) (hS : va_S A s.heap H locs) (hA : ∀ q, s.heap.size ≤ q → A q) (isC isR isP : List Nat)
    (hws : ws = ms.flatten) (hwc : wc = mc.flatten) (hw1 : w1 = m1.flatten) (hw2 : w2 = m2.flatten) (hlen : ms.length = nm) (hC : mpick ms isC = mc) (hperm : (isR ++ isC).Perm (List.range nm)) (hlen2 : (mpick ms isR ++ m1).length = nm) (hm2 : mpick (mpick ms isR ++ m1) isP = m2) (hpp : isP.Perm (List.range nm))
    (kk : ∀ (H1 : Heap) (locs1 : List Loc), va_P D vwCl (w2 ++ tl) H1 → va_D A (w2 ++ tl) → va_S A s.heap H1 locs1 → W p l e R s m args below meth c H1 locs1 0 0 Q (F0 m (pc + 3) ls (.int r0 :: rest))) : W p l e R s m args below meth c H locs 0 0 Q (F0 m pc ls st0) := by
  subst hws hwc hw1 hw2
  have pm := (m_perm hlen hC hperm).append_right tl
  have pm2 : (ms.flatten ++ tl).Perm (((mpick ms isR).flatten ++ tl) ++ mc.flatten) := pm.trans (by
    rw [List.append_assoc, List.append_assoc]
    exact List.Perm.append_left _ List.perm_append_comm)
  have hPu := va_P_perm pm2 hP
  have hDu := va_D_perm pm2 hD
  have hPc := (va_P_split hPu).2
  have hDc := (va_D_split hDu).2.1
  have hFc : ∀ q, va_A mc.flatten H.size q → A q := by
    rintro q (⟨k, e, hk⟩ | h)
    · exact hDc.2 k _ hk
    · exact hA q (Nat.le_trans hS.1 h)
  obtain ⟨hp1, hp2⟩ := g_preE (cy := cy) (av := As) hK hPc hDc hE hS hFc
  refine va_calli (va_runS (As := As) (rest := rest) S hM cw ⟨hp1, hp2⟩ rfl hn hsize hst (lv_room hW) hdg ⟨Nat.zero_le _, Nat.zero_le _⟩) hS (fun q _ h => hFc q h) hFc (fun r u t H1 locs1 ht hvm hw hB hz1 hk1 hS1 => ?_)
  subst hw
  obtain ⟨h1, h2⟩ := g_joinA hPu hDu hFc hk1 ht hB
  have pb : (((mpick ms isR).flatten ++ tl) ++ m1.flatten).Perm (m2.flatten ++ tl) := by
    refine List.Perm.trans ?_ ((m_perm2 hlen2 hm2 hpp).append_right tl)
    rw [List.append_assoc, List.append_assoc]
    exact List.Perm.append_left _ List.perm_append_comm
  exact kk H1 locs1 (va_P_perm pb h1) (va_D_perm pb h2) hS1
theorem g_callSiUM {r0 : Int32} (S : CallFix p m c cc nL s args Ts own) (hM : Met l y wsm rm (va_Pc As (gP D cy H.size (wc ++ tl))) (gQi D cy (va_A (wc ++ tl) H.size) r0 (w1 ++ tl1)) 0 0 (va_A (wc ++ tl) H.size)) (cw : CallB R s args own index y bytes maxL ret wsm rm 0 0 n ∧ (Cond.static y).before args s = true)
    (hn : As.length = n) (hsize : ls.size = nL) {st0 : List Value} (hst : st0 = As.reverse ++ rest) (hW : (rest.map fun v => v.category).sum ≤ 8) (hdg : decode cc pc = .ok (.invokestatic index, 3))
    (hK : va_K D vwCl (TY cy) s) (hP : va_P D vwCl (ws ++ tl) H) (hD : va_D A (ws ++ tl)) (hS : va_S A s.heap H locs) (hA : ∀ q, s.heap.size ≤ q → A q) (isC isR isP : List Nat)
    (hws : ws = ms.flatten) (hwc : wc = mc.flatten) (hw1 : w1 = m1.flatten) (hw2 : w2 = m2.flatten) (hlen : ms.length = nm) (hC : mpick ms isC = mc) (hperm : (isR ++ isC).Perm (List.range nm)) (hlen2 : (mpick ms isR ++ m1).length = nm) (hm2 : mpick (mpick ms isR ++ m1) isP = m2) (hpp : isP.Perm (List.range nm))
    (kk : ∀ (H1 : Heap) (locs1 : List Loc), va_P D vwCl (w2 ++ tl1) H1 → va_D A (w2 ++ tl1) → va_S A s.heap H1 locs1 → W p l e R s m args below meth c H1 locs1 0 0 Q (F0 m (pc + 3) ls (.int r0 :: rest))) : W p l e R s m args below meth c H locs 0 0 Q (F0 m pc ls st0) := by
  subst hws hwc hw1 hw2
  have pm := (m_perm hlen hC hperm).append_right tl
  have pm2 : (ms.flatten ++ tl).Perm ((mpick ms isR).flatten ++ (mc.flatten ++ tl)) := by rw [List.append_assoc] at pm; exact pm
  have hPu := va_P_perm pm2 hP
  have hDu := va_D_perm pm2 hD
  have hPc := (va_P_split hPu).2
  have hDc := (va_D_split hDu).2.1
  have hFc : ∀ q, va_A (mc.flatten ++ tl) H.size q → A q := by
    rintro q (⟨k, e, hk⟩ | h)
    · exact hDc.2 k _ hk
    · exact hA q (Nat.le_trans hS.1 h)
  obtain ⟨hp1, hp2⟩ := g_pre (cy := cy) (av := As) hK hPc hDc
  refine va_calli (va_runS (As := As) (rest := rest) S hM cw ⟨hp1, hp2⟩ rfl hn hsize hst (lv_room hW) hdg ⟨Nat.zero_le _, Nat.zero_le _⟩) hS (fun q _ h => hFc q h) hFc (fun r u t H1 locs1 ht hvm hw hB hz1 hk1 hS1 => ?_)
  subst hw
  obtain ⟨h1, h2⟩ := g_joinA hPu hDu hFc hk1 ht hB
  have pb : ((mpick ms isR).flatten ++ (m1.flatten ++ tl1)).Perm (m2.flatten ++ tl1) := by
    rw [← List.append_assoc]
    exact (m_perm2 hlen2 hm2 hpp).append_right tl1
  exact kk H1 locs1 (va_P_perm pb h1) (va_D_perm pb h2) hS1
theorem g_callSiUME {r0 : Int32} (S : CallFix p m c cc nL s args Ts own) (hM : Met l y wsm rm (va_Pc As (gPE D cy adK adV H.size (wc ++ tl))) (gQi D cy (va_A (wc ++ tl) H.size) r0 (w1 ++ tl1)) 0 0 (va_A (wc ++ tl) H.size)) (cw : CallB R s args own index y bytes maxL ret wsm rm 0 0 n ∧ (Cond.static y).before args s = true)
    (hn : As.length = n) (hsize : ls.size = nL) {st0 : List Value} (hst : st0 = As.reverse ++ rest) (hW : (rest.map fun v => v.category).sum ≤ 8) (hdg : decode cc pc = .ok (.invokestatic index, 3))
    (hE : gE adK adV A s s.heap) (hK : va_K D vwCl (TY cy) s) (hP : va_P D vwCl (ws ++ tl) H) (hD : va_D A (ws ++ tl)) (hS : va_S A s.heap H locs) (hA : ∀ q, s.heap.size ≤ q → A q) (isC isR isP : List Nat)
    (hws : ws = ms.flatten) (hwc : wc = mc.flatten) (hw1 : w1 = m1.flatten) (hw2 : w2 = m2.flatten) (hlen : ms.length = nm) (hC : mpick ms isC = mc) (hperm : (isR ++ isC).Perm (List.range nm)) (hlen2 : (mpick ms isR ++ m1).length = nm) (hm2 : mpick (mpick ms isR ++ m1) isP = m2) (hpp : isP.Perm (List.range nm))
    (kk : ∀ (H1 : Heap) (locs1 : List Loc), va_P D vwCl (w2 ++ tl1) H1 → va_D A (w2 ++ tl1) → va_S A s.heap H1 locs1 → W p l e R s m args below meth c H1 locs1 0 0 Q (F0 m (pc + 3) ls (.int r0 :: rest))) : W p l e R s m args below meth c H locs 0 0 Q (F0 m pc ls st0) := by
  subst hws hwc hw1 hw2
  have pm := (m_perm hlen hC hperm).append_right tl
  have pm2 : (ms.flatten ++ tl).Perm ((mpick ms isR).flatten ++ (mc.flatten ++ tl)) := by rw [List.append_assoc] at pm; exact pm
  have hPu := va_P_perm pm2 hP
  have hDu := va_D_perm pm2 hD
  have hPc := (va_P_split hPu).2
  have hDc := (va_D_split hDu).2.1
  have hFc : ∀ q, va_A (mc.flatten ++ tl) H.size q → A q := by
    rintro q (⟨k, e, hk⟩ | h)
    · exact hDc.2 k _ hk
    · exact hA q (Nat.le_trans hS.1 h)
  obtain ⟨hp1, hp2⟩ := g_preE (cy := cy) (av := As) hK hPc hDc hE hS hFc
  refine va_calli (va_runS (As := As) (rest := rest) S hM cw ⟨hp1, hp2⟩ rfl hn hsize hst (lv_room hW) hdg ⟨Nat.zero_le _, Nat.zero_le _⟩) hS (fun q _ h => hFc q h) hFc (fun r u t H1 locs1 ht hvm hw hB hz1 hk1 hS1 => ?_)
  subst hw
  obtain ⟨h1, h2⟩ := g_joinA hPu hDu hFc hk1 ht hB
  have pb : ((mpick ms isR).flatten ++ (m1.flatten ++ tl1)).Perm (m2.flatten ++ tl1) := by
    rw [← List.append_assoc]
    exact (m_perm2 hlen2 hm2 hpp).append_right tl1
  exact kk H1 locs1 (va_P_perm pb h1) (va_D_perm pb h2) hS1
theorem g_callSvTM (S : CallFix p m c cc nL s args Ts own) (hM : Met l y wsm rm (va_Pc As (gP D cy H.size wc)) (gQv D cy (va_A wc H.size) w1) 0 0 (va_A wc H.size)) (cw : CallB R s args own index y bytes maxL ret wsm rm 0 0 n ∧ (Cond.static y).before args s = true)
    (hn : As.length = n) (hsize : ls.size = nL) {st0 : List Value} (hst : st0 = As.reverse ++ rest) (hW : (rest.map fun v => v.category).sum ≤ 8) (hdg : decode cc pc = .ok (.invokestatic index, 3))
    (hK : va_K D vwCl (TY cy) s) (hP : va_P D vwCl (ws ++ tl) H) (hD : va_D A (ws ++ tl)) (hS : va_S A s.heap H locs) (hA : ∀ q, s.heap.size ≤ q → A q) (isC isR isP : List Nat)
    (hws : ws = ms.flatten) (hwc : wc = mc.flatten) (hw1 : w1 = m1.flatten) (hw2 : w2 = m2.flatten) (hlen : ms.length = nm) (hC : mpick ms isC = mc) (hperm : (isR ++ isC).Perm (List.range nm)) (hlen2 : (mpick ms isR ++ m1).length = nm) (hm2 : mpick (mpick ms isR ++ m1) isP = m2) (hpp : isP.Perm (List.range nm))
    (kk : ∀ (H1 : Heap) (locs1 : List Loc), va_P D vwCl (w2 ++ tl) H1 → va_D A (w2 ++ tl) → va_S A s.heap H1 locs1 → W p l e R s m args below meth c H1 locs1 0 0 Q (F0 m (pc + 3) ls rest)) : W p l e R s m args below meth c H locs 0 0 Q (F0 m pc ls st0) := by
  subst hws hwc hw1 hw2
  have pm := (m_perm hlen hC hperm).append_right tl
  have pm2 : (ms.flatten ++ tl).Perm (((mpick ms isR).flatten ++ tl) ++ mc.flatten) := pm.trans (by
    rw [List.append_assoc, List.append_assoc]
    exact List.Perm.append_left _ List.perm_append_comm)
  have hPu := va_P_perm pm2 hP
  have hDu := va_D_perm pm2 hD
  have hPc := (va_P_split hPu).2
  have hDc := (va_D_split hDu).2.1
  have hFc : ∀ q, va_A mc.flatten H.size q → A q := by
    rintro q (⟨k, e, hk⟩ | h)
    · exact hDc.2 k _ hk
    · exact hA q (Nat.le_trans hS.1 h)
  obtain ⟨hp1, hp2⟩ := g_pre (cy := cy) (av := As) hK hPc hDc
  refine va_callv (va_runS (As := As) (rest := rest) S hM cw ⟨hp1, hp2⟩ rfl hn hsize hst (lv_room hW) hdg ⟨Nat.zero_le _, Nat.zero_le _⟩) hS (fun q _ h => hFc q h) hFc (fun u t H1 locs1 ht hvm hw hB hz1 hk1 hS1 => ?_)
  obtain ⟨h1, h2⟩ := g_joinA hPu hDu hFc hk1 ht hB
  have pb : (((mpick ms isR).flatten ++ tl) ++ m1.flatten).Perm (m2.flatten ++ tl) := by
    refine List.Perm.trans ?_ ((m_perm2 hlen2 hm2 hpp).append_right tl)
    rw [List.append_assoc, List.append_assoc]
    exact List.Perm.append_left _ List.perm_append_comm
  exact kk H1 locs1 (va_P_perm pb h1) (va_D_perm pb h2) hS1
theorem g_callSvTME (S : CallFix p m c cc nL s args Ts own) (hM : Met l y wsm rm (va_Pc As (gPE D cy adK adV H.size wc)) (gQv D cy (va_A wc H.size) w1) 0 0 (va_A wc H.size)) (cw : CallB R s args own index y bytes maxL ret wsm rm 0 0 n ∧ (Cond.static y).before args s = true)
    (hn : As.length = n) (hsize : ls.size = nL) {st0 : List Value} (hst : st0 = As.reverse ++ rest) (hW : (rest.map fun v => v.category).sum ≤ 8) (hdg : decode cc pc = .ok (.invokestatic index, 3))
    (hE : gE adK adV A s s.heap) (hK : va_K D vwCl (TY cy) s) (hP : va_P D vwCl (ws ++ tl) H) (hD : va_D A (ws ++ tl)) (hS : va_S A s.heap H locs) (hA : ∀ q, s.heap.size ≤ q → A q) (isC isR isP : List Nat)
    (hws : ws = ms.flatten) (hwc : wc = mc.flatten) (hw1 : w1 = m1.flatten) (hw2 : w2 = m2.flatten) (hlen : ms.length = nm) (hC : mpick ms isC = mc) (hperm : (isR ++ isC).Perm (List.range nm)) (hlen2 : (mpick ms isR ++ m1).length = nm) (hm2 : mpick (mpick ms isR ++ m1) isP = m2) (hpp : isP.Perm (List.range nm))
    (kk : ∀ (H1 : Heap) (locs1 : List Loc), va_P D vwCl (w2 ++ tl) H1 → va_D A (w2 ++ tl) → va_S A s.heap H1 locs1 → W p l e R s m args below meth c H1 locs1 0 0 Q (F0 m (pc + 3) ls rest)) : W p l e R s m args below meth c H locs 0 0 Q (F0 m pc ls st0) := by
  subst hws hwc hw1 hw2
  have pm := (m_perm hlen hC hperm).append_right tl
  have pm2 : (ms.flatten ++ tl).Perm (((mpick ms isR).flatten ++ tl) ++ mc.flatten) := pm.trans (by
    rw [List.append_assoc, List.append_assoc]
    exact List.Perm.append_left _ List.perm_append_comm)
  have hPu := va_P_perm pm2 hP
  have hDu := va_D_perm pm2 hD
  have hPc := (va_P_split hPu).2
  have hDc := (va_D_split hDu).2.1
  have hFc : ∀ q, va_A mc.flatten H.size q → A q := by
    rintro q (⟨k, e, hk⟩ | h)
    · exact hDc.2 k _ hk
    · exact hA q (Nat.le_trans hS.1 h)
  obtain ⟨hp1, hp2⟩ := g_preE (cy := cy) (av := As) hK hPc hDc hE hS hFc
  refine va_callv (va_runS (As := As) (rest := rest) S hM cw ⟨hp1, hp2⟩ rfl hn hsize hst (lv_room hW) hdg ⟨Nat.zero_le _, Nat.zero_le _⟩) hS (fun q _ h => hFc q h) hFc (fun u t H1 locs1 ht hvm hw hB hz1 hk1 hS1 => ?_)
  obtain ⟨h1, h2⟩ := g_joinA hPu hDu hFc hk1 ht hB
  have pb : (((mpick ms isR).flatten ++ tl) ++ m1.flatten).Perm (m2.flatten ++ tl) := by
    refine List.Perm.trans ?_ ((m_perm2 hlen2 hm2 hpp).append_right tl)
    rw [List.append_assoc, List.append_assoc]
    exact List.Perm.append_left _ List.perm_append_comm
  exact kk H1 locs1 (va_P_perm pb h1) (va_D_perm pb h2) hS1
theorem g_callSvUM (S : CallFix p m c cc nL s args Ts own) (hM : Met l y wsm rm (va_Pc As (gP D cy H.size (wc ++ tl))) (gQv D cy (va_A (wc ++ tl) H.size) (w1 ++ tl1)) 0 0 (va_A (wc ++ tl) H.size)) (cw : CallB R s args own index y bytes maxL ret wsm rm 0 0 n ∧ (Cond.static y).before args s = true)
    (hn : As.length = n) (hsize : ls.size = nL) {st0 : List Value} (hst : st0 = As.reverse ++ rest) (hW : (rest.map fun v => v.category).sum ≤ 8) (hdg : decode cc pc = .ok (.invokestatic index, 3))
    (hK : va_K D vwCl (TY cy) s) (hP : va_P D vwCl (ws ++ tl) H) (hD : va_D A (ws ++ tl)) (hS : va_S A s.heap H locs) (hA : ∀ q, s.heap.size ≤ q → A q) (isC isR isP : List Nat)
    (hws : ws = ms.flatten) (hwc : wc = mc.flatten) (hw1 : w1 = m1.flatten) (hw2 : w2 = m2.flatten) (hlen : ms.length = nm) (hC : mpick ms isC = mc) (hperm : (isR ++ isC).Perm (List.range nm)) (hlen2 : (mpick ms isR ++ m1).length = nm) (hm2 : mpick (mpick ms isR ++ m1) isP = m2) (hpp : isP.Perm (List.range nm))
    (kk : ∀ (H1 : Heap) (locs1 : List Loc), va_P D vwCl (w2 ++ tl1) H1 → va_D A (w2 ++ tl1) → va_S A s.heap H1 locs1 → W p l e R s m args below meth c H1 locs1 0 0 Q (F0 m (pc + 3) ls rest)) : W p l e R s m args below meth c H locs 0 0 Q (F0 m pc ls st0) := by
  subst hws hwc hw1 hw2
  have pm := (m_perm hlen hC hperm).append_right tl
  have pm2 : (ms.flatten ++ tl).Perm ((mpick ms isR).flatten ++ (mc.flatten ++ tl)) := by rw [List.append_assoc] at pm; exact pm
  have hPu := va_P_perm pm2 hP
  have hDu := va_D_perm pm2 hD
  have hPc := (va_P_split hPu).2
  have hDc := (va_D_split hDu).2.1
  have hFc : ∀ q, va_A (mc.flatten ++ tl) H.size q → A q := by
    rintro q (⟨k, e, hk⟩ | h)
    · exact hDc.2 k _ hk
    · exact hA q (Nat.le_trans hS.1 h)
  obtain ⟨hp1, hp2⟩ := g_pre (cy := cy) (av := As) hK hPc hDc
  refine va_callv (va_runS (As := As) (rest := rest) S hM cw ⟨hp1, hp2⟩ rfl hn hsize hst (lv_room hW) hdg ⟨Nat.zero_le _, Nat.zero_le _⟩) hS (fun q _ h => hFc q h) hFc (fun u t H1 locs1 ht hvm hw hB hz1 hk1 hS1 => ?_)
  obtain ⟨h1, h2⟩ := g_joinA hPu hDu hFc hk1 ht hB
  have pb : ((mpick ms isR).flatten ++ (m1.flatten ++ tl1)).Perm (m2.flatten ++ tl1) := by
    rw [← List.append_assoc]
    exact (m_perm2 hlen2 hm2 hpp).append_right tl1
  exact kk H1 locs1 (va_P_perm pb h1) (va_D_perm pb h2) hS1
theorem g_callSvUME (S : CallFix p m c cc nL s args Ts own) (hM : Met l y wsm rm (va_Pc As (gPE D cy adK adV H.size (wc ++ tl))) (gQv D cy (va_A (wc ++ tl) H.size) (w1 ++ tl1)) 0 0 (va_A (wc ++ tl) H.size)) (cw : CallB R s args own index y bytes maxL ret wsm rm 0 0 n ∧ (Cond.static y).before args s = true)
    (hn : As.length = n) (hsize : ls.size = nL) {st0 : List Value} (hst : st0 = As.reverse ++ rest) (hW : (rest.map fun v => v.category).sum ≤ 8) (hdg : decode cc pc = .ok (.invokestatic index, 3))
    (hE : gE adK adV A s s.heap) (hK : va_K D vwCl (TY cy) s) (hP : va_P D vwCl (ws ++ tl) H) (hD : va_D A (ws ++ tl)) (hS : va_S A s.heap H locs) (hA : ∀ q, s.heap.size ≤ q → A q) (isC isR isP : List Nat)
    (hws : ws = ms.flatten) (hwc : wc = mc.flatten) (hw1 : w1 = m1.flatten) (hw2 : w2 = m2.flatten) (hlen : ms.length = nm) (hC : mpick ms isC = mc) (hperm : (isR ++ isC).Perm (List.range nm)) (hlen2 : (mpick ms isR ++ m1).length = nm) (hm2 : mpick (mpick ms isR ++ m1) isP = m2) (hpp : isP.Perm (List.range nm))
    (kk : ∀ (H1 : Heap) (locs1 : List Loc), va_P D vwCl (w2 ++ tl1) H1 → va_D A (w2 ++ tl1) → va_S A s.heap H1 locs1 → W p l e R s m args below meth c H1 locs1 0 0 Q (F0 m (pc + 3) ls rest)) : W p l e R s m args below meth c H locs 0 0 Q (F0 m pc ls st0) := by
  subst hws hwc hw1 hw2
  have pm := (m_perm hlen hC hperm).append_right tl
  have pm2 : (ms.flatten ++ tl).Perm ((mpick ms isR).flatten ++ (mc.flatten ++ tl)) := by rw [List.append_assoc] at pm; exact pm
  have hPu := va_P_perm pm2 hP
  have hDu := va_D_perm pm2 hD
  have hPc := (va_P_split hPu).2
  have hDc := (va_D_split hDu).2.1
  have hFc : ∀ q, va_A (mc.flatten ++ tl) H.size q → A q := by
    rintro q (⟨k, e, hk⟩ | h)
    · exact hDc.2 k _ hk
    · exact hA q (Nat.le_trans hS.1 h)
  obtain ⟨hp1, hp2⟩ := g_preE (cy := cy) (av := As) hK hPc hDc hE hS hFc
  refine va_callv (va_runS (As := As) (rest := rest) S hM cw ⟨hp1, hp2⟩ rfl hn hsize hst (lv_room hW) hdg ⟨Nat.zero_le _, Nat.zero_le _⟩) hS (fun q _ h => hFc q h) hFc (fun u t H1 locs1 ht hvm hw hB hz1 hk1 hS1 => ?_)
  obtain ⟨h1, h2⟩ := g_joinA hPu hDu hFc hk1 ht hB
  have pb : ((mpick ms isR).flatten ++ (m1.flatten ++ tl1)).Perm (m2.flatten ++ tl1) := by
    rw [← List.append_assoc]
    exact (m_perm2 hlen2 hm2 hpp).append_right tl1
  exact kk H1 locs1 (va_P_perm pb h1) (va_D_perm pb h2) hS1
theorem g_callNiTM {r0 : Int32} (S : CallFix p m c cc nL s args Ts own) (hM : Met l y wsm rm (va_Pc As (gP D cy H.size wc)) (gQi D cy (va_A wc H.size) r0 w1) 0 0 (va_A wc H.size)) (cw : va_CN R s args own index y host bytes maxL ret wsm rm 0 0 n ∧ (Cond.static y).before args s = true ∧ True)
    (hn : As.length = n) (hsize : ls.size = nL) {st0 : List Value} (hst : st0 = As.reverse ++ rest) (hW : (rest.map fun v => v.category).sum ≤ 8) (hdg : decode cc pc = .ok (.invokestatic index, 3))
    (hK : va_K D vwCl (TY cy) s) (hP : va_P D vwCl (ws ++ tl) H) (hD : va_D A (ws ++ tl)) (hS : va_S A s.heap H locs) (hA : ∀ q, s.heap.size ≤ q → A q) (isC isR isP : List Nat)
    (hws : ws = ms.flatten) (hwc : wc = mc.flatten) (hw1 : w1 = m1.flatten) (hw2 : w2 = m2.flatten) (hlen : ms.length = nm) (hC : mpick ms isC = mc) (hperm : (isR ++ isC).Perm (List.range nm)) (hlen2 : (mpick ms isR ++ m1).length = nm) (hm2 : mpick (mpick ms isR ++ m1) isP = m2) (hpp : isP.Perm (List.range nm))
    (kk : ∀ (H1 : Heap) (locs1 : List Loc), va_P D vwCl (w2 ++ tl) H1 → va_D A (w2 ++ tl) → va_S A s.heap H1 locs1 → W p l e R s m args below meth c H1 locs1 0 0 Q (F0 m (pc + 3) ls (.int r0 :: rest))) : W p l e R s m args below meth c H locs 0 0 Q (F0 m pc ls st0) := by
  subst hws hwc hw1 hw2
  have pm := (m_perm hlen hC hperm).append_right tl
  have pm2 : (ms.flatten ++ tl).Perm (((mpick ms isR).flatten ++ tl) ++ mc.flatten) := pm.trans (by
    rw [List.append_assoc, List.append_assoc]
    exact List.Perm.append_left _ List.perm_append_comm)
  have hPu := va_P_perm pm2 hP
  have hDu := va_D_perm pm2 hD
  have hPc := (va_P_split hPu).2
  have hDc := (va_D_split hDu).2.1
  have hFc : ∀ q, va_A mc.flatten H.size q → A q := by
    rintro q (⟨k, e, hk⟩ | h)
    · exact hDc.2 k _ hk
    · exact hA q (Nat.le_trans hS.1 h)
  obtain ⟨hp1, hp2⟩ := g_pre (cy := cy) (av := As) hK hPc hDc
  refine va_calli (va_runSN (As := As) (rest := rest) S hM cw ⟨hp1, hp2⟩ rfl hn hsize hst (lv_room hW) hdg ⟨Nat.zero_le _, Nat.zero_le _⟩) hS (fun q _ h => hFc q h) hFc (fun r u t H1 locs1 ht hvm hw hB hz1 hk1 hS1 => ?_)
  subst hw
  obtain ⟨h1, h2⟩ := g_joinA hPu hDu hFc hk1 ht hB
  have pb : (((mpick ms isR).flatten ++ tl) ++ m1.flatten).Perm (m2.flatten ++ tl) := by
    refine List.Perm.trans ?_ ((m_perm2 hlen2 hm2 hpp).append_right tl)
    rw [List.append_assoc, List.append_assoc]
    exact List.Perm.append_left _ List.perm_append_comm
  exact kk H1 locs1 (va_P_perm pb h1) (va_D_perm pb h2) hS1
theorem g_callNiUM {r0 : Int32} (S : CallFix p m c cc nL s args Ts own) (hM : Met l y wsm rm (va_Pc As (gP D cy H.size (wc ++ tl))) (gQi D cy (va_A (wc ++ tl) H.size) r0 (w1 ++ tl1)) 0 0 (va_A (wc ++ tl) H.size)) (cw : va_CN R s args own index y host bytes maxL ret wsm rm 0 0 n ∧ (Cond.static y).before args s = true ∧ True)
    (hn : As.length = n) (hsize : ls.size = nL) {st0 : List Value} (hst : st0 = As.reverse ++ rest) (hW : (rest.map fun v => v.category).sum ≤ 8) (hdg : decode cc pc = .ok (.invokestatic index, 3))
    (hK : va_K D vwCl (TY cy) s) (hP : va_P D vwCl (ws ++ tl) H) (hD : va_D A (ws ++ tl)) (hS : va_S A s.heap H locs) (hA : ∀ q, s.heap.size ≤ q → A q) (isC isR isP : List Nat)
    (hws : ws = ms.flatten) (hwc : wc = mc.flatten) (hw1 : w1 = m1.flatten) (hw2 : w2 = m2.flatten) (hlen : ms.length = nm) (hC : mpick ms isC = mc) (hperm : (isR ++ isC).Perm (List.range nm)) (hlen2 : (mpick ms isR ++ m1).length = nm) (hm2 : mpick (mpick ms isR ++ m1) isP = m2) (hpp : isP.Perm (List.range nm))
    (kk : ∀ (H1 : Heap) (locs1 : List Loc), va_P D vwCl (w2 ++ tl1) H1 → va_D A (w2 ++ tl1) → va_S A s.heap H1 locs1 → W p l e R s m args below meth c H1 locs1 0 0 Q (F0 m (pc + 3) ls (.int r0 :: rest))) : W p l e R s m args below meth c H locs 0 0 Q (F0 m pc ls st0) := by
  subst hws hwc hw1 hw2
  have pm := (m_perm hlen hC hperm).append_right tl
  have pm2 : (ms.flatten ++ tl).Perm ((mpick ms isR).flatten ++ (mc.flatten ++ tl)) := by rw [List.append_assoc] at pm; exact pm
  have hPu := va_P_perm pm2 hP
  have hDu := va_D_perm pm2 hD
  have hPc := (va_P_split hPu).2
  have hDc := (va_D_split hDu).2.1
  have hFc : ∀ q, va_A (mc.flatten ++ tl) H.size q → A q := by
    rintro q (⟨k, e, hk⟩ | h)
    · exact hDc.2 k _ hk
    · exact hA q (Nat.le_trans hS.1 h)
  obtain ⟨hp1, hp2⟩ := g_pre (cy := cy) (av := As) hK hPc hDc
  refine va_calli (va_runSN (As := As) (rest := rest) S hM cw ⟨hp1, hp2⟩ rfl hn hsize hst (lv_room hW) hdg ⟨Nat.zero_le _, Nat.zero_le _⟩) hS (fun q _ h => hFc q h) hFc (fun r u t H1 locs1 ht hvm hw hB hz1 hk1 hS1 => ?_)
  subst hw
  obtain ⟨h1, h2⟩ := g_joinA hPu hDu hFc hk1 ht hB
  have pb : ((mpick ms isR).flatten ++ (m1.flatten ++ tl1)).Perm (m2.flatten ++ tl1) := by
    rw [← List.append_assoc]
    exact (m_perm2 hlen2 hm2 hpp).append_right tl1
  exact kk H1 locs1 (va_P_perm pb h1) (va_D_perm pb h2) hS1
end GWM
