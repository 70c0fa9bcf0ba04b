/-! the String constants "tongues" .. "cut" and what String's own methods read -/
def slen (i : Nat) : Nat := ([7, 5, 5, 5, 2, 5, 3] : List Nat).getD i 0
def SBY : List (List Int32) := [[116, 111, 110, 103, 117, 101, 115], [119, 105, 100, 116, 104], [115, 112, 101, 101, 100], [98, 101, 97, 116, 115], [97, 116], [98, 108, 97, 110, 107], [99, 117, 116]]
def sbyt (i j : Nat) : Int32 := (SBY.getD i []).getD j 0
def sidx (i : Nat) : Nat := ([51, 87, 97, 102, 122, 133, 135] : List Nat).getD i 0
def stxt (i : Nat) : String := (["tongues", "width", "speed", "beats", "at", "blank", "cut"] : List String).getD i ""
def gN (U : State) : Prop := va_Nw (.methodLinkNest RX0 101 yX9_share "TitleDesk") U ∧ va_Nw (.methodLinkNest RX9 11 yX6_init "TitleDesk") U ∧ va_Nw (.methodLinkNest RX9 21 yX5_init "TitleDesk") U ∧ va_Nw (.methodLinkNest RX0 19 yX1_init "TitleDesk") U
theorem gN.warm {s U : State} (hW : s.WarmedH U.vm) (h : gN s) : gN U := ⟨va_Nw.warmM hW h.1, va_Nw.warmM hW h.2.1, va_Nw.warmM hW h.2.2.1, va_Nw.warmM hW h.2.2.2⟩
theorem gN.same {u U : State} (hv : U.vm = u.vm) (h : gN u) : gN U := ⟨va_Nw.same rfl hv.symm h.1, va_Nw.same rfl hv.symm h.2.1, va_Nw.same rfl hv.symm h.2.2.1, va_Nw.same rfl hv.symm h.2.2.2⟩
def gE (adK adV : Nat → Nat) (A : Nat → Prop) (U : State) (H : Heap) : Prop :=
  vk_S 7 [7, 5, 5, 5, 2, 5, 3] SBY adK adV A U H ∧ va_Z "java/lang/String" "COMPACT_STRINGS" "Z" (.int 1) A U H ∧ (va_Zq "jdk/internal/util/Preconditions" "SIOOBE_FORMATTER" "Ljava/util/function/BiFunction;" A U H ∧ gN U) ∧ ∀ i : Nat, i < 7 → vk_R RX3 (sidx i) (stxt i) (adK i) U
theorem gE.kept {adK adV : Nat → Nat} {A : Nat → Prop} {U : State} {H H1 : Heap} (h : gE adK adV A U H) (hq : ∀ a : Nat, a < H.size → ¬ A a → H1[a]? = H[a]?) : gE adK adV A U H1 := ⟨h.1.kept hq, h.2.1.kept hq, ⟨h.2.2.1.1.kept hq, h.2.2.1.2⟩, h.2.2.2⟩
theorem gE.narrow {adK adV : Nat → Nat} {A B : Nat → Prop} {U : State} {H : Heap} (h : gE adK adV A U H) (hAB : ∀ q, B q → A q) : gE adK adV B U H := ⟨h.1.narrow hAB, h.2.1.narrow hAB, ⟨h.2.2.1.1.narrow hAB, h.2.2.1.2⟩, h.2.2.2⟩
theorem gE.warm {adK adV : Nat → Nat} {A : Nat → Prop} {s U : State} {H : Heap} (hW : s.WarmedH U.vm) (h : gE adK adV A s H) : gE adK adV A U H := ⟨vk_S.moved hW.alike h.1, va_Z.moved hW.alike h.2.1, ⟨va_Zq.moved hW.alike h.2.2.1.1, gN.warm hW h.2.2.1.2⟩, fun i hi => vk_R.warm hW (h.2.2.2 i hi)⟩
theorem gE.same {adK adV : Nat → Nat} {A : Nat → Prop} {u U : State} {H : Heap} (hv : U.vm = u.vm) (h : gE adK adV A u H) : gE adK adV A U H := ⟨vk_S.moved (hv ▸ Vm.Alike.refl u.vm) h.1, va_Z.moved (hv ▸ Vm.Alike.refl u.vm) h.2.1, ⟨va_Zq.moved (hv ▸ Vm.Alike.refl u.vm) h.2.2.1.1, gN.same hv h.2.2.1.2⟩, fun i hi => vk_R.same hv (h.2.2.2 i hi)⟩
abbrev gPE (D : va_G) (cy : Nat → ClassId) (adK adV : Nat → Nat) (sz : Nat) (ws : va_W) (U : State) : Prop := gP D cy sz ws U ∧ gE adK adV (va_A ws sz) U U.heap
theorem g_metE {l : Launch} {y : MethodName} {ws ws' : List Cond} {rm : Room} {cc : ByteArray} {maxL : Nat} {ret : Option FieldType} {D : va_G} {cy : Nat → ClassId} {adK adV : Nat → Nat} {av : List Value} {wsx : va_W} {sz : Nat} (Qp : (Nat → Prop) → Array Value → State → Outcome → State → Prop)
    (hy : plainName y.cls = true) (hw : ws = Cond.code y cc maxL ret :: ws') (hlen : (lg_sl av).length ≤ maxL)
    (body : ∀ (p : Program) (e : Env) (s : State) (m : MethodId) (below : List Frame) (meth : Method) (c : Code) (A : Nat → Prop), gC p s m av.toArray meth c ws cc maxL ret y.cls → (∀ q : Nat, s.heap.size ≤ q → A q) → gE adK adV A s s.heap → va_K D vwCl (TY cy) s → va_P D vwCl wsx s.heap → va_D A wsx → ∀ ls : Array Slot, lv_has ls maxL (lv_args 0 av) →
      W p l e rm s m av.toArray below meth c s.heap [] 0 0 (MQ below (Qp A) av.toArray s 0 0 A) (F0 m 0 ls [])) :
    Met l y ws rm (va_Pc av (gPE D cy adK adV sz wsx)) (Qp (va_A wsx sz)) 0 0 (va_A wsx sz) := by
  refine Met.ofW (cc := cc) (maxL := maxL) (ret := ret) hy hw ?_
  intro p e s m args below meth c s₁ B hml hv
  obtain ⟨rfl, ⟨hsz, hP, hK, hD0⟩, hE⟩ := hv
  have hts := atoms_spec (ws := ws) B.pre
  have hown : s.vm.findClass y.cls = some m.cls := findClass_of_methodNamed B.named
  subst hsz
  have hD := hD0.self (sz := s.heap.size)
  have hl := lv_entry av (n := maxL) hlen
  rw [lg_entry_eq]
  exact body p e s m below meth c _ ⟨B.exec, B.bytes, B.returns, hml, hown, hts, B.notSynchronized⟩ (fun q h => Or.inr h) hE hK hP hD _ hl
section GWE
variable {p : Program} {l : Launch} {e : Env} {R : Room} {s : State} {m : MethodId} {args : Array Value} {below : List Frame} {meth : Method} {c : Code} {H : Heap} {locs : List Loc} {Q : State → Prop} {A : Nat → Prop} {D : va_G} {cy : Nat → ClassId} {w : va_W} {cc : ByteArray} {pc : Nat} {ls : Array Slot} {adK adV : Nat → Nat}
theorem g_preE {av : List Value} {wc : va_W} (hK : va_K D vwCl (TY cy) s) (hPc : va_P D vwCl wc H) (hDc : va_D A wc) (hE : gE adK adV A s s.heap) (hS : va_S A s.heap H locs) (hFc : ∀ q, va_A wc H.size q → A q) : PreS s H (va_Pc av (gPE D cy adK adV H.size wc)) av :=
  ⟨fun a U g mk q => by obtain ⟨q0, ⟨q1, qP, qK, qD⟩, qE⟩ := q; exact ⟨q0, ⟨q1, qP, va_K.moved (u := U) (U := U.calling g mk a) (Vm.Alike.refl U.vm) qK, qD⟩, gE.same (u := U) (U := U.calling g mk a) rfl qE⟩, fun U hU hW => ⟨rfl, ⟨by rw [hU], by rw [hU]; exact hPc, va_K.moved hW.alike hK, hDc.weaken (fun _ _ _ _ => trivial)⟩, by rw [hU]; exact gE.warm hW ((hE.kept hS.2.1).narrow hFc)⟩⟩
theorem g_nret {v : Int32} {ty : FieldType} (hx : p.tables.exec = Jvm.exec) (hb : c.code = cc) (hr : meth.sig.returnType = some ty) (hlk : meth.locks = false) (hv : narrow ty (.int v) = .int v) (hK : va_K D vwCl (TY cy) s) (hP : va_P D vwCl w H) (hD : va_D A w) (hS : va_S A s.heap H locs) (hdg : decode cc pc = .ok (.ireturn, 1)) : W p l e R s m args below meth c H locs 0 0 (MQ below (gQi D cy A v w) args s 0 0 A) (F0 m pc ls [.int v]) :=
  W.zret (v := v) hx hb hr hv (fun t ht hW => ⟨⟨v, (), rfl, rfl, by rw [ht]; exact hP, va_K.moved hW.alike hK, hD⟩, hS.F ht⟩) hS.2.2 hdg hlk
variable {y : MethodName} {ws ws1 w1 w2 : va_W} {wsm : List Cond} {rm : Room} {Ts : List Cond} {own C : String} {bytes : ByteArray} {maxL nL n index : Nat} {ret : Option FieldType} {As rest : List Value} {b : Nat} {wc : va_W}
theorem g_callViE {r0 : Int32} (S : CallFix p m c cc nL s args Ts own) (hM : Met l y wsm rm (va_Pc (.ref b :: As) (gPE D cy adK adV H.size wc)) (gQi D cy (va_A wc H.size) r0 w1) 0 0 (va_A wc H.size)) (cw : CallW R s args own C index y bytes maxL ret wsm rm 0 0 n)
    (hrc : ∃ cell : Cell, H[b]? = some cell ∧ cell.vm.isStatics = false ∧ s.vm.findClass C = some cell.cls) (hn : As.length = n) (hsize : ls.size = nL) {st0 : List Value} (hst : st0 = As.reverse ++ .ref b :: rest) (hW : (rest.map fun v => v.category).sum ≤ 8) (hdg : decode cc pc = .ok (.invokevirtual index, 3))
    (hE : gE adK adV A s s.heap) (hK : va_K D vwCl (TY cy) s) (hP : va_P D vwCl ws H) (hD : va_D A ws) (hS : va_S A s.heap H locs) (hA : ∀ q, s.heap.size ≤ q → A q) (isC isR isP : List Nat)
    (hC : isC.map (fun i => ws[i]?) = wc.map some) (hnc : va_nd isC = true) (hR : isR.map (fun i => ws[i]?) = (pick ws isR).map some) (hnr : va_nd isR = true) (hdis : ∀ i ∈ isR, i ∉ isC) (hp : isP.map (fun i => (pick ws isR ++ w1)[i]?) = w2.map some) (hnp : va_nd isP = true)
    (kk : ∀ (H1 : Heap) (locs1 : List Loc), va_P D vwCl w2 H1 → va_D A w2 → va_S A s.heap H1 locs1 → W p l e R s m args below meth c H1 locs1 0 0 Q (F0 m (pc + 3) ls (.int r0 :: rest))) : W p l e R s m args below meth c H locs 0 0 Q (F0 m pc ls st0) := by
  have hDc := hD.sub (ws' := wc) isC hnc hC
  have hPc : va_P D vwCl wc H := fun k q hq => by
    have h2 : (isC.map (fun i => ws[i]?))[k]? = some (some q) := by rw [hC]; simp [hq]
    rw [List.getElem?_map] at h2
    obtain ⟨i, -, hi⟩ := Option.map_eq_some_iff.mp h2
    exact hP i q hi
  have hFc := va_free (wc := wc) hD hS hA isC hC
  obtain ⟨hp1, hp2⟩ := g_preE (av := .ref b :: As) hK hPc hDc hE hS hFc
  refine va_calli (va_runV (As := As) (rest := rest) S hM cw ⟨hp1, hrc, hp2⟩ rfl hn hsize hst (lv_room hW) hdg ⟨Nat.zero_le _, Nat.zero_le _⟩) hS (fun q _ h => hFc q h) hFc (fun r u t H1 locs1 ht hvm hw hB hz1 hk1 hS1 => ?_)
  subst hw
  obtain ⟨h1, h2⟩ := g_after isC isR isP hP hD hS hA hC hR hnr hdis hp hnp hk1 ht hB
  exact kk H1 locs1 h1 h2 hS1
theorem g_callVvE (S : CallFix p m c cc nL s args Ts own) (hM : Met l y wsm rm (va_Pc (.ref b :: As) (gPE D cy adK adV H.size wc)) (gQv D cy (va_A wc H.size) w1) 0 0 (va_A wc H.size)) (cw : CallW R s args own C index y bytes maxL ret wsm rm 0 0 n)
    (hrc : ∃ cell : Cell, H[b]? = some cell ∧ cell.vm.isStatics = false ∧ s.vm.findClass C = some cell.cls) (hn : As.length = n) (hsize : ls.size = nL) {st0 : List Value} (hst : st0 = As.reverse ++ .ref b :: rest) (hW : (rest.map fun v => v.category).sum ≤ 8) (hdg : decode cc pc = .ok (.invokevirtual index, 3))
    (hE : gE adK adV A s s.heap) (hK : va_K D vwCl (TY cy) s) (hP : va_P D vwCl ws H) (hD : va_D A ws) (hS : va_S A s.heap H locs) (hA : ∀ q, s.heap.size ≤ q → A q) (isC isR isP : List Nat)
    (hC : isC.map (fun i => ws[i]?) = wc.map some) (hnc : va_nd isC = true) (hR : isR.map (fun i => ws[i]?) = (pick ws isR).map some) (hnr : va_nd isR = true) (hdis : ∀ i ∈ isR, i ∉ isC) (hp : isP.map (fun i => (pick ws isR ++ w1)[i]?) = w2.map some) (hnp : va_nd isP = true)
    (kk : ∀ (H1 : Heap) (locs1 : List Loc), va_P D vwCl w2 H1 → va_D A w2 → va_S A s.heap H1 locs1 → W p l e R s m args below meth c H1 locs1 0 0 Q (F0 m (pc + 3) ls rest)) : W p l e R s m args below meth c H locs 0 0 Q (F0 m pc ls st0) := by
  have hDc := hD.sub (ws' := wc) isC hnc hC
  have hPc : va_P D vwCl wc H := fun k q hq => by
    have h2 : (isC.map (fun i => ws[i]?))[k]? = some (some q) := by rw [hC]; simp [hq]
    rw [List.getElem?_map] at h2
    obtain ⟨i, -, hi⟩ := Option.map_eq_some_iff.mp h2
    exact hP i q hi
  have hFc := va_free (wc := wc) hD hS hA isC hC
  obtain ⟨hp1, hp2⟩ := g_preE (av := .ref b :: As) hK hPc hDc hE hS hFc
  refine va_callv (va_runV (As := As) (rest := rest) S hM cw ⟨hp1, hrc, hp2⟩ rfl hn hsize hst (lv_room hW) hdg ⟨Nat.zero_le _, Nat.zero_le _⟩) hS (fun q _ h => hFc q h) hFc (fun u t H1 locs1 ht hvm hw hB hz1 hk1 hS1 => ?_)
  obtain ⟨h1, h2⟩ := g_after isC isR isP hP hD hS hA hC hR hnr hdis hp hnp hk1 ht hB
  exact kk H1 locs1 h1 h2 hS1
theorem g_callSiE {r0 : Int32} (S : CallFix p m c cc nL s args Ts own) (hM : Met l y wsm rm (va_Pc As (gPE D cy adK adV H.size wc)) (gQi D cy (va_A wc H.size) r0 w1) 0 0 (va_A wc H.size)) (cw : CallB R s args own index y bytes maxL ret wsm rm 0 0 n ∧ (Cond.static y).before args s = true)
    (hn : As.length = n) (hsize : ls.size = nL) {st0 : List Value} (hst : st0 = As.reverse ++ rest) (hW : (rest.map fun v => v.category).sum ≤ 8) (hdg : decode cc pc = .ok (.invokestatic index, 3))
    (hE : gE adK adV A s s.heap) (hK : va_K D vwCl (TY cy) s) (hP : va_P D vwCl ws H) (hD : va_D A ws) (hS : va_S A s.heap H locs) (hA : ∀ q, s.heap.size ≤ q → A q) (isC isR isP : List Nat)
    (hC : isC.map (fun i => ws[i]?) = wc.map some) (hnc : va_nd isC = true) (hR : isR.map (fun i => ws[i]?) = (pick ws isR).map some) (hnr : va_nd isR = true) (hdis : ∀ i ∈ isR, i ∉ isC) (hp : isP.map (fun i => (pick ws isR ++ w1)[i]?) = w2.map some) (hnp : va_nd isP = true)
    (kk : ∀ (H1 : Heap) (locs1 : List Loc), va_P D vwCl w2 H1 → va_D A w2 → va_S A s.heap H1 locs1 → W p l e R s m args below meth c H1 locs1 0 0 Q (F0 m (pc + 3) ls (.int r0 :: rest))) : W p l e R s m args below meth c H locs 0 0 Q (F0 m pc ls st0) := by
  have hDc := hD.sub (ws' := wc) isC hnc hC
  have hPc : va_P D vwCl wc H := fun k q hq => by
    have h2 : (isC.map (fun i => ws[i]?))[k]? = some (some q) := by rw [hC]; simp [hq]
    rw [List.getElem?_map] at h2
    obtain ⟨i, -, hi⟩ := Option.map_eq_some_iff.mp h2
    exact hP i q hi
  have hFc := va_free (wc := wc) hD hS hA isC hC
  obtain ⟨hp1, hp2⟩ := g_preE (av := As) hK hPc hDc hE hS hFc
  refine va_calli (va_runS (As := As) (rest := rest) S hM cw ⟨hp1, hp2⟩ rfl hn hsize hst (lv_room hW) hdg ⟨Nat.zero_le _, Nat.zero_le _⟩) hS (fun q _ h => hFc q h) hFc (fun r u t H1 locs1 ht hvm hw hB hz1 hk1 hS1 => ?_)
  subst hw
  obtain ⟨h1, h2⟩ := g_after isC isR isP hP hD hS hA hC hR hnr hdis hp hnp hk1 ht hB
  exact kk H1 locs1 h1 h2 hS1
theorem g_callSvE (S : CallFix p m c cc nL s args Ts own) (hM : Met l y wsm rm (va_Pc As (gPE D cy adK adV H.size wc)) (gQv D cy (va_A wc H.size) w1) 0 0 (va_A wc H.size)) (cw : CallB R s args own index y bytes maxL ret wsm rm 0 0 n ∧ (Cond.static y).before args s = true)
    (hn : As.length = n) (hsize : ls.size = nL) {st0 : List Value} (hst : st0 = As.reverse ++ rest) (hW : (rest.map fun v => v.category).sum ≤ 8) (hdg : decode cc pc = .ok (.invokestatic index, 3))
    (hE : gE adK adV A s s.heap) (hK : va_K D vwCl (TY cy) s) (hP : va_P D vwCl ws H) (hD : va_D A ws) (hS : va_S A s.heap H locs) (hA : ∀ q, s.heap.size ≤ q → A q) (isC isR isP : List Nat)
    (hC : isC.map (fun i => ws[i]?) = wc.map some) (hnc : va_nd isC = true) (hR : isR.map (fun i => ws[i]?) = (pick ws isR).map some) (hnr : va_nd isR = true) (hdis : ∀ i ∈ isR, i ∉ isC) (hp : isP.map (fun i => (pick ws isR ++ w1)[i]?) = w2.map some) (hnp : va_nd isP = true)
    (kk : ∀ (H1 : Heap) (locs1 : List Loc), va_P D vwCl w2 H1 → va_D A w2 → va_S A s.heap H1 locs1 → W p l e R s m args below meth c H1 locs1 0 0 Q (F0 m (pc + 3) ls rest)) : W p l e R s m args below meth c H locs 0 0 Q (F0 m pc ls st0) := by
  have hDc := hD.sub (ws' := wc) isC hnc hC
  have hPc : va_P D vwCl wc H := fun k q hq => by
    have h2 : (isC.map (fun i => ws[i]?))[k]? = some (some q) := by rw [hC]; simp [hq]
    rw [List.getElem?_map] at h2
    obtain ⟨i, -, hi⟩ := Option.map_eq_some_iff.mp h2
    exact hP i q hi
  have hFc := va_free (wc := wc) hD hS hA isC hC
  obtain ⟨hp1, hp2⟩ := g_preE (av := As) hK hPc hDc hE hS hFc
  refine va_callv (va_runS (As := As) (rest := rest) S hM cw ⟨hp1, hp2⟩ rfl hn hsize hst (lv_room hW) hdg ⟨Nat.zero_le _, Nat.zero_le _⟩) hS (fun q _ h => hFc q h) hFc (fun u t H1 locs1 ht hvm hw hB hz1 hk1 hS1 => ?_)
  obtain ⟨h1, h2⟩ := g_after isC isR isP hP hD hS hA hC hR hnr hdis hp hnp hk1 ht hB
  exact kk H1 locs1 h1 h2 hS1
theorem g_callNi {r0 : Int32} (S : CallFix p m c cc nL s args Ts own) (hM : Met l y wsm rm (va_Pc As (gP D cy H.size wc)) (gQi D cy (va_A wc H.size) r0 w1) 0 0 (va_A wc H.size)) {host : String} (cw : va_CN R s args own index y host bytes maxL ret wsm rm 0 0 n ∧ (Cond.static y).before args s = true ∧ True)
    (hn : As.length = n) (hsize : ls.size = nL) {st0 : List Value} (hst : st0 = As.reverse ++ rest) (hW : (rest.map fun v => v.category).sum ≤ 8) (hdg : decode cc pc = .ok (.invokestatic index, 3))
    (hK : va_K D vwCl (TY cy) s) (hP : va_P D vwCl ws H) (hD : va_D A ws) (hS : va_S A s.heap H locs) (hA : ∀ q, s.heap.size ≤ q → A q) (isC isR isP : List Nat)
    (hC : isC.map (fun i => ws[i]?) = wc.map some) (hnc : va_nd isC = true) (hR : isR.map (fun i => ws[i]?) = (pick ws isR).map some) (hnr : va_nd isR = true) (hdis : ∀ i ∈ isR, i ∉ isC) (hp : isP.map (fun i => (pick ws isR ++ w1)[i]?) = w2.map some) (hnp : va_nd isP = true)
    (kk : ∀ (H1 : Heap) (locs1 : List Loc), va_P D vwCl w2 H1 → va_D A w2 → va_S A s.heap H1 locs1 → W p l e R s m args below meth c H1 locs1 0 0 Q (F0 m (pc + 3) ls (.int r0 :: rest))) : W p l e R s m args below meth c H locs 0 0 Q (F0 m pc ls st0) := by
  have hDc := hD.sub (ws' := wc) isC hnc hC
  have hPc : va_P D vwCl wc H := fun k q hq => by
    have h2 : (isC.map (fun i => ws[i]?))[k]? = some (some q) := by rw [hC]; simp [hq]
    rw [List.getElem?_map] at h2
    obtain ⟨i, -, hi⟩ := Option.map_eq_some_iff.mp h2
    exact hP i q hi
  have hFc := va_free (wc := wc) hD hS hA isC hC
  obtain ⟨hp1, hp2⟩ := g_pre (av := As) hK hPc hDc
  refine va_calli (va_runSN (As := As) (rest := rest) S hM cw ⟨hp1, hp2⟩ rfl hn hsize hst (lv_room hW) hdg ⟨Nat.zero_le _, Nat.zero_le _⟩) hS (fun q _ h => hFc q h) hFc (fun r u t H1 locs1 ht hvm hw hB hz1 hk1 hS1 => ?_)
  subst hw
  obtain ⟨h1, h2⟩ := g_after isC isR isP hP hD hS hA hC hR hnr hdis hp hnp hk1 ht hB
  exact kk H1 locs1 h1 h2 hS1
end GWE
theorem gi_W {yc y : MethodName} {cc c : ByteArray} {nc n : Nat} {rc r : Option FieldType} (h5 : Cond.code y c n r ∈ WA) : GoodIn (WS yc cc nc rc) (WS y c n r) := by
  refine goodIn_sub (fun w h => List.mem_cons_of_mem _ ?_) ?_
  · rcases List.mem_cons.mp h with rfl | h <;> assumption
  · refine List.all_eq_true.mpr (fun w h => ?_)
    rcases List.mem_cons.mp h with rfl | h
    · exact List.all_eq_true.mp WA_good _ h5
    · exact List.all_eq_true.mp WA_good _ h
theorem sb_ok : ∀ i, i < 7 → ∀ k, k < slen i → ((sbyt i k &&& 255).toUInt32 % 65536).toInt32 = sbyt i k ∧ narrow .char (.int (sbyt i k)) = .int (sbyt i k) := by decide +kernel
theorem slen_shr : ∀ i, i < 7 → nI (slen i) >>> ((0 : Int32) &&& 31) = nI (slen i) := by decide +kernel
theorem slen_lt : ∀ i, i < 7 → slen i < 2 ^ 31 := by decide +kernel
set_option maxHeartbeats 4000000 in
theorem c_str_coder (l : Launch) (D : va_G) (cy : Nat → ClassId) (adK adV : Nat → Nat) (i sz : Nat) (hi : i < 7) : Met l yJ0_coder_7d493 (WS yJ0_coder_7d493 cJ0_coder_7d493 1 (some .byte)) ({ frames := 0, cells := 0, slots := 0, locals := 0 } : Room) (va_Pc [.ref (adK i)] (gPE D cy adK adV sz [])) ((fun A : Nat → Prop => gQi D cy A 0 []) (va_A [] sz)) 0 0 (va_A [] sz) := by
  refine g_metE (cc := cJ0_coder_7d493) (maxL := 1) (ret := (some .byte)) (fun A : Nat → Prop => gQi D cy A 0 []) (by decide +kernel) rfl (Nat.le_of_ble_eq_true rfl) ?_
  intro p e s m below meth c A C hA hE hK hP hD ls hl
  obtain ⟨hx, hb, hr, hml, hown, hts, hlk⟩ := id C
  have hown : s.vm.findClass RJ0 = some m.cls := hown
  have hS : va_S A s.heap s.heap [] := va_S.rf
  have hl : lv_has ls 1 [(0, .ref (adK i))] := hl
  refine va_gets hx hb hE.2.1 hS hown (hts _ (List.mem_cons_of_mem _ fl_RJ0_38)) (fun _ h9 => h9) dJ0_coder_7d493_0 ?_
  refine lv_if_eq (tgt := 13) hx hb dJ0_coder_7d493_3 (by decide) (fun c_3 => absurd c_3 (by decide)) (fun _ => ?_)
  refine lv_aload_n hx hb dJ0_coder_7d493_6 rfl (lv_at hl 0 rfl) ?_
  refine vk_getf hx hb (hE.1.1 i hi).2.1 hS hown (hts _ (List.mem_cons_of_mem _ fl_RJ0_15)) (fun _ h9 => h9) dJ0_coder_7d493_7 ?_
  refine lv_goto (tgt := 14) hx hb dJ0_coder_7d493_10 (by decide) ?_
  exact g_nret hx hb hr hlk (by decide +kernel) hK hP hD hS dJ0_coder_7d493_14
set_option maxHeartbeats 4000000 in
theorem c_str_isLatin1 (l : Launch) (D : va_G) (cy : Nat → ClassId) (adK adV : Nat → Nat) (i sz : Nat) (hi : i < 7) : Met l yJ0_isLatin1_aae02 (WS yJ0_isLatin1_aae02 cJ0_isLatin1_aae02 1 (some .boolean)) ({ frames := 0, cells := 0, slots := 0, locals := 0 } : Room) (va_Pc [.ref (adK i)] (gPE D cy adK adV sz [])) ((fun A : Nat → Prop => gQi D cy A 1 []) (va_A [] sz)) 0 0 (va_A [] sz) := by
  refine g_metE (cc := cJ0_isLatin1_aae02) (maxL := 1) (ret := (some .boolean)) (fun A : Nat → Prop => gQi D cy A 1 []) (by decide +kernel) rfl (Nat.le_of_ble_eq_true rfl) ?_
  intro p e s m below meth c A C hA hE hK hP hD ls hl
  obtain ⟨hx, hb, hr, hml, hown, hts, hlk⟩ := id C
  have hown : s.vm.findClass RJ0 = some m.cls := hown
  have hS : va_S A s.heap s.heap [] := va_S.rf
  have hl : lv_has ls 1 [(0, .ref (adK i))] := hl
  refine va_gets hx hb hE.2.1 hS hown (hts _ (List.mem_cons_of_mem _ fl_RJ0_38)) (fun _ h9 => h9) dJ0_isLatin1_aae02_0 ?_
  refine lv_if_eq (tgt := 17) hx hb dJ0_isLatin1_aae02_3 (by decide) (fun c_3 => absurd c_3 (by decide)) (fun _ => ?_)
  refine lv_aload_n hx hb dJ0_isLatin1_aae02_6 rfl (lv_at hl 0 rfl) ?_
  refine vk_getf hx hb (hE.1.1 i hi).2.1 hS hown (hts _ (List.mem_cons_of_mem _ fl_RJ0_15)) (fun _ h9 => h9) dJ0_isLatin1_aae02_7 ?_
  refine lv_if_ne (tgt := 17) hx hb dJ0_isLatin1_aae02_10 (by decide) (fun c_3 => absurd rfl c_3) (fun _ => ?_)
  refine lv_iconst (v := 1) hx hb dJ0_isLatin1_aae02_13 (by decide) ?_
  refine lv_goto (tgt := 18) hx hb dJ0_isLatin1_aae02_14 (by decide) ?_
  exact g_nret hx hb hr hlk (by decide +kernel) hK hP hD hS dJ0_isLatin1_aae02_18
theorem hdJ0_coder : yJ0_coder_7d493.cls = RJ0 ∧ yJ0_coder_7d493.cls ≠ "java/lang/invoke/MethodHandle" ∧ yJ0_coder_7d493.cls ≠ "java/lang/invoke/VarHandle" ∧ (parseMethodDescriptor yJ0_coder_7d493.desc).map (fun d => d.parameters.length) = some 0 := by decide +kernel
theorem hdJ0_isLatin1 : yJ0_isLatin1_aae02.cls = RJ0 ∧ yJ0_isLatin1_aae02.cls ≠ "java/lang/invoke/MethodHandle" ∧ yJ0_isLatin1_aae02.cls ≠ "java/lang/invoke/VarHandle" ∧ (parseMethodDescriptor yJ0_isLatin1_aae02.desc).map (fun d => d.parameters.length) = some 0 := by decide +kernel
theorem hdJ0_length : yJ0_length_8abf5.cls = RJ0 ∧ yJ0_length_8abf5.cls ≠ "java/lang/invoke/MethodHandle" ∧ yJ0_length_8abf5.cls ≠ "java/lang/invoke/VarHandle" ∧ (parseMethodDescriptor yJ0_length_8abf5.desc).map (fun d => d.parameters.length) = some 0 := by decide +kernel
theorem hdJ0_charAt : yJ0_charAt_5068e.cls = RJ0 ∧ yJ0_charAt_5068e.cls ≠ "java/lang/invoke/MethodHandle" ∧ yJ0_charAt_5068e.cls ≠ "java/lang/invoke/VarHandle" ∧ (parseMethodDescriptor yJ0_charAt_5068e.desc).map (fun d => d.parameters.length) = some 1 := by decide +kernel
theorem hdJ3_checkIndex : yJ3_checkIndex_8e157.cls ≠ "java/lang/invoke/MethodHandle" ∧ yJ3_checkIndex_8e157.cls ≠ "java/lang/invoke/VarHandle" ∧ (parseMethodDescriptor yJ3_checkIndex_8e157.desc).map (fun d => d.parameters.length) = some 3 := by decide +kernel
theorem hdJ0_checkIndex : yJ0_checkIndex_df160.cls ≠ "java/lang/invoke/MethodHandle" ∧ yJ0_checkIndex_df160.cls ≠ "java/lang/invoke/VarHandle" ∧ (parseMethodDescriptor yJ0_checkIndex_df160.desc).map (fun d => d.parameters.length) = some 2 := by decide +kernel
theorem hdJ1_charAt : yJ1_charAt_3b067.cls ≠ "java/lang/invoke/MethodHandle" ∧ yJ1_charAt_3b067.cls ≠ "java/lang/invoke/VarHandle" ∧ (parseMethodDescriptor yJ1_charAt_3b067.desc).map (fun d => d.parameters.length) = some 2 := by decide +kernel
set_option maxHeartbeats 4000000 in
theorem c_str_length (l : Launch) (D : va_G) (cy : Nat → ClassId) (adK adV : Nat → Nat) (i sz : Nat) (hi : i < 7) : Met l yJ0_length_8abf5 (WS yJ0_length_8abf5 cJ0_length_8abf5 1 (some .int)) ({ frames := 1, cells := 0, slots := 0, locals := 20 } : Room) (va_Pc [.ref (adK i)] (gPE D cy adK adV sz [])) ((fun A : Nat → Prop => gQi D cy A (nI (slen i)) []) (va_A [] sz)) 0 0 (va_A [] sz) := by
  refine g_metE (cc := cJ0_length_8abf5) (maxL := 1) (ret := (some .int)) (fun A : Nat → Prop => gQi D cy A (nI (slen i)) []) (by decide +kernel) rfl (Nat.le_of_ble_eq_true rfl) ?_
  intro p e s m below meth c A C hA hE hK hP hD ls hl
  obtain ⟨hx, hb, hr, hml, hown, hts, hlk⟩ := id C
  have hown : s.vm.findClass RJ0 = some m.cls := hown
  have hS : va_S A s.heap s.heap [] := va_S.rf
  have hl : lv_has ls 1 [(0, .ref (adK i))] := hl
  refine lv_aload_n hx hb dJ0_length_8abf5_0 rfl (lv_at hl 0 rfl) ?_
  refine vk_getf hx hb (hE.1.1 i hi).2.2.1 hS hown (hts _ (List.mem_cons_of_mem _ fl_RJ0_9)) (fun _ h9 => h9) dJ0_length_8abf5_1 ?_
  refine va_tlen (v := nI (slen i)) hx hb (hE.1.1 i hi).2.2.2 hS rfl dJ0_length_8abf5_4 ?_
  refine lv_aload_n hx hb dJ0_length_8abf5_5 rfl (lv_at hl 0 rfl) ?_
  refine g_callViE (As := []) (rest := [.int (nI (slen i))]) (w2 := []) ⟨hx, hb, hml, hown, hts⟩ (c_str_coder l D cy adK adV i _ hi) (cwV 0 hts (gi_V ml_RJ0_335 im_J0_coder_7d493 se_J0_coder_7d493 in_RJ0 cd_J0_coder_7d493) rfl rfl rfl hdJ0_coder ⟨Nat.le_of_ble_eq_true rfl, Nat.le_of_ble_eq_true rfl⟩) (vk_recv hE.1 hi hS) rfl hl.1 rfl (Nat.le_of_ble_eq_true rfl) dJ0_length_8abf5_6 hE hK hP hD hS hA [] [] [] rfl rfl rfl rfl (by decide) rfl rfl (fun H locs hP hD hS => ?_)
  refine lv_ishr hx hb dJ0_length_8abf5_9 ?_
  rw [slen_shr i hi]
  exact g_iret hx hb hr hlk hK hP hD hS dJ0_length_8abf5_10
set_option maxHeartbeats 4000000 in
theorem c_str_check3 (l : Launch) (D : va_G) (cy : Nat → ClassId) (sz : Nat) (r : Option Nat) (i n : Int32) (h0 : ¬ i < 0) (h1 : i < n) : Met l yJ3_checkIndex_8e157 (WS yJ3_checkIndex_8e157 cJ3_checkIndex_8e157 3 (some .int)) ({ frames := 0, cells := 0, slots := 0, locals := 0 } : Room) (va_Pc [.int i, .int n, va_rf r] (gP D cy sz [])) ((fun A : Nat → Prop => gQi D cy A i []) (va_A [] sz)) 0 0 (va_A [] sz) := by
  refine g_met (cc := cJ3_checkIndex_8e157) (maxL := 3) (ret := (some .int)) (fun A : Nat → Prop => gQi D cy A i []) (by decide +kernel) rfl (by cases r <;> exact Nat.le_of_ble_eq_true rfl) ?_
  intro p e s m below meth c A C hA hK hP hD ls hl
  obtain ⟨hx, hb, hr, hml, hown, hts, hlk⟩ := id C
  have hS : va_S A s.heap s.heap [] := va_S.rf
  have hl : lv_has ls 3 [(0, .int i), (1, .int n), (2, va_rf r)] := hl
  refine lv_iload_n hx hb dJ3_checkIndex_8e157_0 rfl (lv_at hl 0 rfl) ?_
  refine lv_if_lt (tgt := 9) hx hb dJ3_checkIndex_8e157_1 (by decide) (fun c_3 => absurd c_3 h0) (fun _ => ?_)
  refine lv_iload_n hx hb dJ3_checkIndex_8e157_4 rfl (lv_at hl 0 rfl) ?_
  refine lv_iload_n hx hb dJ3_checkIndex_8e157_5 rfl (lv_at hl 1 rfl) ?_
  refine lv_icmp_lt (tgt := 16) hx hb dJ3_checkIndex_8e157_6 (by decide) (fun _ => ?_) (fun c_3 => absurd h1 c_3)
  refine lv_iload_n hx hb dJ3_checkIndex_8e157_16 rfl (lv_at hl 0 rfl) ?_
  exact g_iret hx hb hr hlk hK hP hD hS dJ3_checkIndex_8e157_17
set_option maxHeartbeats 4000000 in
theorem c_str_check (l : Launch) (D : va_G) (cy : Nat → ClassId) (adK adV : Nat → Nat) (sz : Nat) (i n : Int32) (h0 : ¬ i < 0) (h1 : i < n) : Met l yJ0_checkIndex_df160 (WS yJ0_checkIndex_df160 cJ0_checkIndex_df160 2 none) ({ frames := 1, cells := 0, slots := 0, locals := 22 } : Room) (va_Pc [.int i, .int n] (gPE D cy adK adV sz [])) ((fun A : Nat → Prop => gQv D cy A []) (va_A [] sz)) 0 0 (va_A [] sz) := by
  refine g_metE (cc := cJ0_checkIndex_df160) (maxL := 2) (ret := none) (fun A : Nat → Prop => gQv D cy A []) (by decide +kernel) rfl (Nat.le_of_ble_eq_true rfl) ?_
  intro p e s m below meth c A C hA hE hK hP hD ls hl
  obtain ⟨hx, hb, hr, hml, hown, hts, hlk⟩ := id C
  have hown : s.vm.findClass RJ0 = some m.cls := hown
  have hS : va_S A s.heap s.heap [] := va_S.rf
  have hl : lv_has ls 2 [(0, .int i), (1, .int n)] := hl
  refine lv_iload_n hx hb dJ0_checkIndex_df160_0 rfl (lv_at hl 0 rfl) ?_
  refine lv_iload_n hx hb dJ0_checkIndex_df160_1 rfl (lv_at hl 1 rfl) ?_
  have hq : ∃ r : Option Nat, va_Z "jdk/internal/util/Preconditions" "SIOOBE_FORMATTER" "Ljava/util/function/BiFunction;" (va_rf r) A s s.heap := by
    rcases hE.2.2.1.1 with h | ⟨t, h⟩
    · exact ⟨none, h⟩
    · exact ⟨some t, h⟩
  obtain ⟨r, hq⟩ := hq
  refine va_gets hx hb hq hS hown (hts _ (List.mem_cons_of_mem _ fl_RJ0_1053)) (fun _ h9 => h9) dJ0_checkIndex_df160_2 ?_
  refine g_callSi (As := [.int i, .int n, va_rf r]) (rest := []) (w2 := []) ⟨hx, hb, hml, hown, hts⟩ (c_str_check3 l D cy _ r i n h0 h1) (va_cwS 3 hts (gi_S ml_RJ0_1059 sm_J3_checkIndex_8e157 in_RJ3 cd_J3_checkIndex_8e157) rfl rfl rfl hdJ3_checkIndex ⟨Nat.le_of_ble_eq_true rfl, Nat.le_of_ble_eq_true rfl⟩) rfl hl.1 rfl (Nat.le_of_ble_eq_true rfl) dJ0_checkIndex_df160_5 hK hP hD hS hA [] [] [] rfl rfl rfl rfl (by decide) rfl rfl (fun H locs hP hD hS => ?_)
  refine lv_pop hx hb dJ0_checkIndex_df160_8 rfl ?_
  exact g_vret hx hb hr hlk hK hP hD hS dJ0_checkIndex_df160_9
set_option maxHeartbeats 4000000 in
theorem c_str_charAt1 (l : Launch) (D : va_G) (cy : Nat → ClassId) (adK adV : Nat → Nat) (i sz : Nat) (hi : i < 7) (k : Int32) (hk : inb k (slen i) = true) : Met l yJ1_charAt_3b067 (WS yJ1_charAt_3b067 cJ1_charAt_3b067 2 (some .char)) ({ frames := 2, cells := 0, slots := 0, locals := 43 } : Room) (va_Pc [.ref (adV i), .int k] (gPE D cy adK adV sz [])) ((fun A : Nat → Prop => gQi D cy A (sbyt i k.toNatClampNeg) []) (va_A [] sz)) 0 0 (va_A [] sz) := by
  refine g_metE (cc := cJ1_charAt_3b067) (maxL := 2) (ret := (some .char)) (fun A : Nat → Prop => gQi D cy A (sbyt i k.toNatClampNeg) []) (by decide +kernel) rfl (Nat.le_of_ble_eq_true rfl) ?_
  intro p e s m below meth c A C hA hE hK hP hD ls hl
  obtain ⟨hx, hb, hr, hml, hown, hts, hlk⟩ := id C
  have hown : s.vm.findClass RJ1 = some m.cls := hown
  have hS : va_S A s.heap s.heap [] := va_S.rf
  have hl : lv_has ls 2 [(0, .ref (adV i)), (1, .int k)] := hl
  have hlt := inb_lt hk
  have hin := inb_in hk
  obtain ⟨j, hj, rfl⟩ := vp_in_of hin (slen_lt i hi)
  have ec : (nI j).toNatClampNeg = j := nI_clamp (Nat.lt_trans hj (slen_lt i hi))
  refine lv_iload_n hx hb dJ1_charAt_3b067_0 rfl (lv_at hl 1 rfl) ?_
  refine lv_aload_n hx hb dJ1_charAt_3b067_1 rfl (lv_at hl 0 rfl) ?_
  refine va_tlen (v := nI (slen i)) hx hb (hE.1.1 i hi).2.2.2 hS rfl dJ1_charAt_3b067_2 ?_
  refine g_callSvE (As := [.int (nI j), .int (nI (slen i))]) (rest := []) (w2 := []) ⟨hx, hb, hml, hown, hts⟩ (c_str_check l D cy adK adV _ (nI j) (nI (slen i)) (nI_pos (Nat.lt_trans hj (slen_lt i hi))) (nI_lt hj (slen_lt i hi))) (va_cwS 2 hts (gi_S ml_RJ1_9 sm_J0_checkIndex_df160 in_RJ0 cd_J0_checkIndex_df160) rfl rfl rfl hdJ0_checkIndex ⟨Nat.le_of_ble_eq_true rfl, Nat.le_of_ble_eq_true rfl⟩) rfl hl.1 rfl (Nat.le_of_ble_eq_true rfl) dJ1_charAt_3b067_3 hE hK hP hD hS hA [] [] [] rfl rfl rfl rfl (by decide) rfl rfl (fun H locs hP hD hS => ?_)
  refine lv_aload_n hx hb dJ1_charAt_3b067_6 rfl (lv_at hl 0 rfl) ?_
  refine lv_iload_n hx hb dJ1_charAt_3b067_7 rfl (lv_at hl 1 rfl) ?_
  refine va_tb (v := .int (sbyt i (nI j).toNatClampNeg)) hx hb (hE.1.1 i hi).2.2.2 hS hin rfl dJ1_charAt_3b067_8 ?_
  refine lv_sipush (v := 255) hx hb dJ1_charAt_3b067_9 (by decide) ?_
  refine lv_iand hx hb dJ1_charAt_3b067_12 ?_
  refine lv_i2c (v := sbyt i (nI j).toNatClampNeg) hx hb dJ1_charAt_3b067_13 (by rw [ec]; exact (sb_ok i hi j hj).1) ?_
  exact g_nret hx hb hr hlk (by rw [ec]; exact (sb_ok i hi j hj).2) hK hP hD hS dJ1_charAt_3b067_14
set_option maxHeartbeats 4000000 in
theorem c_str_charAt (l : Launch) (D : va_G) (cy : Nat → ClassId) (adK adV : Nat → Nat) (i sz : Nat) (hi : i < 7) (k : Int32) (hk : inb k (slen i) = true) : Met l yJ0_charAt_5068e (WS yJ0_charAt_5068e cJ0_charAt_5068e 2 (some .char)) ({ frames := 3, cells := 0, slots := 0, locals := 64 } : Room) (va_Pc [.ref (adK i), .int k] (gPE D cy adK adV sz [])) ((fun A : Nat → Prop => gQi D cy A (sbyt i k.toNatClampNeg) []) (va_A [] sz)) 0 0 (va_A [] sz) := by
  refine g_metE (cc := cJ0_charAt_5068e) (maxL := 2) (ret := (some .char)) (fun A : Nat → Prop => gQi D cy A (sbyt i k.toNatClampNeg) []) (by decide +kernel) rfl (Nat.le_of_ble_eq_true rfl) ?_
  intro p e s m below meth c A C hA hE hK hP hD ls hl
  obtain ⟨hx, hb, hr, hml, hown, hts, hlk⟩ := id C
  have hown : s.vm.findClass RJ0 = some m.cls := hown
  have hS : va_S A s.heap s.heap [] := va_S.rf
  have hl : lv_has ls 2 [(0, .ref (adK i)), (1, .int k)] := hl
  have hin := inb_in hk
  refine lv_aload_n hx hb dJ0_charAt_5068e_0 rfl (lv_at hl 0 rfl) ?_
  refine g_callViE (As := []) (rest := []) (w2 := []) ⟨hx, hb, hml, hown, hts⟩ (c_str_isLatin1 l D cy adK adV i _ hi) (cwV 0 hts (gi_V ml_RJ0_492 im_J0_isLatin1_aae02 se_J0_isLatin1_aae02 in_RJ0 cd_J0_isLatin1_aae02) rfl rfl rfl hdJ0_isLatin1 ⟨Nat.le_of_ble_eq_true rfl, Nat.le_of_ble_eq_true rfl⟩) (vk_recv hE.1 hi hS) rfl hl.1 rfl (Nat.le_of_ble_eq_true rfl) dJ0_charAt_5068e_1 hE hK hP hD hS hA [] [] [] rfl rfl rfl rfl (by decide) rfl rfl (fun H locs hP hD hS => ?_)
  refine lv_if_eq (tgt := 16) hx hb dJ0_charAt_5068e_4 (by decide) (fun c_3 => absurd c_3 (by decide)) (fun _ => ?_)
  refine lv_aload_n hx hb dJ0_charAt_5068e_7 rfl (lv_at hl 0 rfl) ?_
  refine vk_getf hx hb (hE.1.1 i hi).2.2.1 hS hown (hts _ (List.mem_cons_of_mem _ fl_RJ0_9)) (fun _ h9 => h9) dJ0_charAt_5068e_8 ?_
  refine lv_iload_n hx hb dJ0_charAt_5068e_11 rfl (lv_at hl 1 rfl) ?_
  refine g_callSiE (As := [.ref (adV i), .int k]) (rest := []) (w2 := []) ⟨hx, hb, hml, hown, hts⟩ (c_str_charAt1 l D cy adK adV i _ hi k hk) (va_cwS 2 hts (gi_S ml_RJ0_495 sm_J1_charAt_3b067 in_RJ1 cd_J1_charAt_3b067) rfl rfl rfl hdJ1_charAt ⟨Nat.le_of_ble_eq_true rfl, Nat.le_of_ble_eq_true rfl⟩) rfl hl.1 rfl (Nat.le_of_ble_eq_true rfl) dJ0_charAt_5068e_12 hE hK hP hD hS hA [] [] [] rfl rfl rfl rfl (by decide) rfl rfl (fun H locs hP hD hS => ?_)
  obtain ⟨j, hj, rfl⟩ := vp_in_of hin (slen_lt i hi)
  have ec : (nI j).toNatClampNeg = j := nI_clamp (Nat.lt_trans hj (slen_lt i hi))
  exact g_nret hx hb hr hlk (by rw [ec]; exact (sb_ok i hi j hj).2) hK hP hD hS dJ0_charAt_5068e_15
