/-! own rows: pure states, guards, the uniform contract, calls -/
/-- the state of an object with its own arrays: its number fields by place, its arrays by the place of their field -/
abbrev St : Type := (Nat → Int32) × (Nat → Nat → Int32)
def sF (σ : St) (k : Nat) (v : Int32) : St := (upd σ.1 k v, σ.2)
def sA (σ : St) (k i : Nat) (v : Int32) : St := (σ.1, fun j => if j = k then upd (σ.2 k) i v else σ.2 j)
def inb (i : Int32) (n : Nat) : Bool := !(decide (i < 0)) && decide (i.toNatClampNeg < n)
theorem inb_in {i : Int32} {n : Nat} (h : inb i n = true) : vp_in i n := by
  simp only [inb, Bool.and_eq_true, Bool.not_eq_true', decide_eq_false_iff_not, decide_eq_true_eq] at h
  rintro (q | q)
  · exact h.1 q
  · omega
theorem in_inb {i : Int32} {n : Nat} (h : vp_in i n) : inb i n = true := by
  simp only [inb, Bool.and_eq_true, Bool.not_eq_true', decide_eq_false_iff_not, decide_eq_true_eq]
  exact ⟨fun q => h (Or.inl q), by
    rcases Nat.lt_or_ge i.toNatClampNeg n with q | q
    · exact q
    · exact absurd (Or.inr q) h⟩
theorem inb_lt {i : Int32} {n : Nat} (h : inb i n = true) : i.toNatClampNeg < n := by
  simp only [inb, Bool.and_eq_true, decide_eq_true_eq] at h
  exact h.2
theorem c13 {P : Nat → Prop} (h0 : P 0) (h1 : P 1) (h2 : P 2) (h3 : P 3) (h4 : P 4) (h5 : P 5) (h6 : P 6) (h7 : P 7) (h8 : P 8) (h9 : P 9) (h10 : P 10) (h11 : P 11) (h12 : P 12) {j : Nat} (h : j < 13) : P j := by
  rcases (show j = 0 ∨ j = 1 ∨ j = 2 ∨ j = 3 ∨ j = 4 ∨ j = 5 ∨ j = 6 ∨ j = 7 ∨ j = 8 ∨ j = 9 ∨ j = 10 ∨ j = 11 ∨ j = 12 by omega) with rfl | rfl | rfl | rfl | rfl | rfl | rfl | rfl | rfl | rfl | rfl | rfl | rfl <;> assumption
def sR (σ : St) (k : Nat) (f : Nat → Int32) : St := (σ.1, fun j => if j = k then f else σ.2 j)
def isB (v : Int32) : Bool := decide (v = 0) || decide (v = 1)
theorem isB_n {v : Int32} (h : isB v = true) : narrow .boolean (.int v) = .int v := by
  simp only [isB, Bool.or_eq_true, decide_eq_true_eq] at h
  rcases h with rfl | rfl <;> decide +kernel
theorem isB_f {v : Int32} (h : isB v = true) : fits .boolean (.int v) = true := by
  simp only [isB, Bool.or_eq_true, decide_eq_true_eq] at h
  rcases h with rfl | rfl <;> decide +kernel
theorem isB_v {v : Int32} (h : isB v = true) : vp_nar .boolean v = v := by
  simp only [isB, Bool.or_eq_true, decide_eq_true_eq] at h
  rcases h with rfl | rfl <;> decide +kernel
def nz (v : Int32) : Bool := !(decide (v = 0))
theorem nz_ne {v : Int32} (h : nz v = true) : ¬ v = 0 := by simpa [nz] using h
theorem op_if {α : Type} {b : Bool} {x : Option α} {o : α} (h : (if b = true then x else none) = some o) : b = true ∧ x = some o := by
  by_cases hb : b = true
  · rw [if_pos hb] at h; exact ⟨hb, h⟩
  · rw [if_neg hb] at h; cases h
theorem op_pos {α : Type} {c : Prop} [Decidable c] {x y : Option α} {o : α} (hc : c) (h : (if c then x else y) = some o) : x = some o := by rwa [if_pos hc] at h
theorem op_neg {α : Type} {c : Prop} [Decidable c] {x y : Option α} {o : α} (hc : ¬ c) (h : (if c then x else y) = some o) : y = some o := by rwa [if_neg hc] at h
theorem op_bind {α β : Type} {x : Option α} {k : α → Option β} {o : β} (h : x.bind k = some o) : ∃ r, x = some r ∧ k r = some o := Option.bind_eq_some_iff.mp h
theorem op_no {α : Type} {o : α} {P : Prop} (h : (none : Option α) = some o) : P := by cases h
/-- the array classes: int, byte, boolean, int[], Wording, long -/
abbrev TY (cy : Nat → ClassId) : List (ClassId × FieldType) := [(cy 0, .int), (cy 1, .byte), (cy 2, .boolean), (cy 3, .array .int), (cy 4, .object "TitleDesk$Wording")]
abbrev gP (D : va_G) (cy : Nat → ClassId) (sz : Nat) (ws : va_W) (U : State) : Prop := U.heap.size = sz ∧ va_P D vwCl ws U.heap ∧ va_K D vwCl (TY cy) U ∧ va_D (fun _ => True) ws
abbrev gB (D : va_G) (cy : Nat → ClassId) (A : Nat → Prop) (ws : va_W) (t : State) : Prop := va_P D vwCl ws t.heap ∧ va_K D vwCl (TY cy) t ∧ va_D A ws
abbrev gQi (D : va_G) (cy : Nat → ClassId) (A : Nat → Prop) (v : Int32) (ws : va_W) : Array Value → State → Outcome → State → Prop := va_Qi (fun r (_ : Unit) => r = v) (fun _ => gB D cy A ws) A
abbrev gQv (D : va_G) (cy : Nat → ClassId) (A : Nat → Prop) (ws : va_W) : Array Value → State → Outcome → State → Prop := va_Qv (fun (_ : Unit) => True) (fun _ => gB D cy A ws) A
/-- what a method's walk stands on -/
abbrev gC (p : Program) (s : State) (m : MethodId) (av : Array Value) (meth : Method) (c : Code) (ws : List Cond) (cc : ByteArray) (maxL : Nat) (ret : Option FieldType) (own : String) : Prop :=
  p.tables.exec = Jvm.exec ∧ c.code = cc ∧ meth.sig.returnType = ret ∧ c.maxLocals = maxL ∧ s.vm.findClass own = some m.cls ∧ (∀ w ∈ ws, w.before av s = true) ∧ meth.locks = false
theorem g_met {l : Launch} {y : MethodName} {ws ws' : List Cond} {rm : Room} {cc : ByteArray} {maxL : Nat} {ret : Option FieldType} {D : va_G} {cy : Nat → ClassId} {av : List Value} {wsx : va_W} {sz : Nat} (Qp : (Nat → Prop) → Array Value → State → Outcome → State → Prop)
    (hy : plainName y.cls = true) (hw : ws = Cond.code y cc maxL ret :: ws') (hlen : (lg_sl av).length ≤ maxL)
    (body : ∀ (p : Program) (e : Env) (s : State) (m : MethodId) (below : List Frame) (meth : Method) (c : Code) (A : Nat → Prop), gC p s m av.toArray meth c ws cc maxL ret y.cls → (∀ q : Nat, s.heap.size ≤ q → A q) → va_K D vwCl (TY cy) s → va_P D vwCl wsx s.heap → va_D A wsx → ∀ ls : Array Slot, lv_has ls maxL (lv_args 0 av) →
      W p l e rm s m av.toArray below meth c s.heap [] 0 0 (MQ below (Qp A) av.toArray s 0 0 A) (F0 m 0 ls [])) :
    Met l y ws rm (va_Pc av (gP D cy sz wsx)) (Qp (va_A wsx sz)) 0 0 (va_A wsx sz) := by
  refine Met.ofW (cc := cc) (maxL := maxL) (ret := ret) hy hw ?_
  intro p e s m args below meth c s₁ B hml hv
  obtain ⟨rfl, hsz, hP, hK, hD0⟩ := hv
  have hts := atoms_spec (ws := ws) B.pre
  have hown : s.vm.findClass y.cls = some m.cls := findClass_of_methodNamed B.named
  subst hsz
  have hD := hD0.self (sz := s.heap.size)
  have hl := lv_entry av (n := maxL) hlen
  rw [lg_entry_eq]
  exact body p e s m below meth c _ ⟨B.exec, B.bytes, B.returns, hml, hown, hts, B.notSynchronized⟩ (fun q h => Or.inr h) hK hP hD _ hl
section GW
variable {p : Program} {l : Launch} {e : Env} {R : Room} {s : State} {m : MethodId} {args : Array Value} {below : List Frame} {meth : Method} {c : Code} {H : Heap} {locs : List Loc} {Q : State → Prop} {A : Nat → Prop} {D : va_G} {cy : Nat → ClassId} {w : va_W} {cc : ByteArray} {pc : Nat} {ls : Array Slot}
theorem g_iret {v : Int32} (hx : p.tables.exec = Jvm.exec) (hb : c.code = cc) (hr : meth.sig.returnType = some .int) (hlk : meth.locks = false) (hK : va_K D vwCl (TY cy) s) (hP : va_P D vwCl w H) (hD : va_D A w) (hS : va_S A s.heap H locs) (hdg : decode cc pc = .ok (.ireturn, 1)) : W p l e R s m args below meth c H locs 0 0 (MQ below (gQi D cy A v w) args s 0 0 A) (F0 m pc ls [.int v]) :=
  W.iret (v := v) hx hb hr (fun t ht hW => ⟨⟨v, (), rfl, rfl, by rw [ht]; exact hP, va_K.moved hW.alike hK, hD⟩, hS.F ht⟩) hS.2.2 hdg hlk
theorem g_zret {v : Int32} (hx : p.tables.exec = Jvm.exec) (hb : c.code = cc) (hr : meth.sig.returnType = some .boolean) (hlk : meth.locks = false) (hv : isB v = true) (hK : va_K D vwCl (TY cy) s) (hP : va_P D vwCl w H) (hD : va_D A w) (hS : va_S A s.heap H locs) (hdg : decode cc pc = .ok (.ireturn, 1)) : W p l e R s m args below meth c H locs 0 0 (MQ below (gQi D cy A v w) args s 0 0 A) (F0 m pc ls [.int v]) :=
  W.zret (v := v) hx hb hr (isB_n hv) (fun t ht hW => ⟨⟨v, (), rfl, rfl, by rw [ht]; exact hP, va_K.moved hW.alike hK, hD⟩, hS.F ht⟩) hS.2.2 hdg hlk
theorem g_vret (hx : p.tables.exec = Jvm.exec) (hb : c.code = cc) (hr : meth.sig.returnType = none) (hlk : meth.locks = false) (hK : va_K D vwCl (TY cy) s) (hP : va_P D vwCl w H) (hD : va_D A w) (hS : va_S A s.heap H locs) (hdg : decode cc pc = .ok (.return_, 1)) : W p l e R s m args below meth c H locs 0 0 (MQ below (gQv D cy A w) args s 0 0 A) (F0 m pc ls []) :=
  W.vret hx hb hr (fun t ht hW => ⟨⟨(), rfl, trivial, by rw [ht]; exact hP, va_K.moved hW.alike hK, hD⟩, hS.F ht⟩) hS.2.2 hdg hlk
/-- the cells at these places -/
def pick (ws : va_W) (is : List Nat) : va_W := is.filterMap (fun i => ws[i]?)
theorem g_pre {av : List Value} {wc : va_W} (hK : va_K D vwCl (TY cy) s) (hPc : va_P D vwCl wc H) (hDc : va_D A wc) : PreS s H (va_Pc av (gP D cy H.size wc)) av :=
  ⟨fun a U g mk q => by obtain ⟨q0, q1, qP, qK, qD⟩ := q; exact ⟨q0, q1, qP, va_K.moved (u := U) (U := U.calling g mk a) (Vm.Alike.refl U.vm) qK, qD⟩, fun U hU hW => ⟨rfl, by rw [hU], by rw [hU]; exact hPc, va_K.moved hW.alike hK, hDc.weaken (fun _ _ _ _ => trivial)⟩⟩
/-- behind a call: the callee's cells as they came back beside the rest, in the caller's order -/
theorem g_after {ws wc w1 w2 : va_W} {H1 : Heap} {t : State} (isC isR isP : List Nat) (hP : va_P D vwCl ws H) (hD : va_D A ws) (hS : va_S A s.heap H locs) (hA : ∀ q, s.heap.size ≤ q → A q)
    (hC : isC.map (fun i => ws[i]?) = wc.map some) (hR : isR.map (fun i => ws[i]?) = (pick ws isR).map some) (hn : va_nd isR = true) (hdis : ∀ i ∈ isR, i ∉ isC) (hp : isP.map (fun i => (pick ws isR ++ w1)[i]?) = w2.map some) (hnp : va_nd isP = true)
    (hk1 : ∀ q : Nat, q < H.size → ¬ va_A wc H.size q → H1[q]? = H[q]?) (ht : t.heap = H1) (hB : gB D cy (va_A wc H.size) w1 t) : va_P D vwCl w2 H1 ∧ va_D A w2 := by
  obtain ⟨hP1, -, hD1⟩ := hB
  rw [ht] at hP1
  have hFc := va_free (wc := wc) hD hS hA isC hC
  obtain ⟨hP2, hD2⟩ := va_join (wr := pick ws isR) (w1 := w1) hP hD isC isR hC hR hn hdis hk1 hFc hP1 hD1
  refine ⟨hP2.sub isP ?_, hD2.sub isP hnp hp⟩
  have : ∀ (l : List Nat) (v : va_W), l.map (fun i => (pick ws isR ++ w1)[i]?) = v.map some → l.filterMap (fun i => (pick ws isR ++ w1)[i]?) = v := by
    intro l
    induction l with
    | nil => intro v h; cases v with
      | nil => rfl
      | cons a b => simp at h
    | cons i l ih => intro v h; cases v with
      | nil => simp at h
      | cons a b =>
        simp only [List.map_cons, List.cons.injEq] at h
        rw [List.filterMap_cons, h.1]
        simp only [ih b h.2]
  exact this _ _ hp
variable {y : MethodName} {ws ws1 w1 w2 : va_W} {wsm : List Cond} {rm : Room} {Ts : List Cond} {own C : String} {bytes : ByteArray} {maxL nL n index : Nat} {ret : Option FieldType} {As rest : List Value} {b : Nat} {wc : va_W}
theorem g_callVi {r0 : Int32} (S : CallFix p m c cc nL s args Ts own) (hM : Met l y wsm rm (va_Pc (.ref b :: As) (gP D cy H.size wc)) (gQi D cy (va_A wc H.size) r0 w1) 0 0 (va_A wc H.size)) (cw : CallW R s args own C index y bytes maxL ret wsm rm 0 0 n)
    (hrc : ∃ cell : Cell, H[b]? = some cell ∧ cell.vm.isStatics = false ∧ s.vm.findClass C = some cell.cls) (hn : As.length = n) (hsize : ls.size = nL) {st0 : List Value} (hst : st0 = As.reverse ++ .ref b :: rest) (hW : (rest.map fun v => v.category).sum ≤ 8) (hdg : decode cc pc = .ok (.invokevirtual index, 3))
    (hK : va_K D vwCl (TY cy) s) (hP : va_P D vwCl ws H) (hD : va_D A ws) (hS : va_S A s.heap H locs) (hA : ∀ q, s.heap.size ≤ q → A q) (isC isR isP : List Nat)
    (hC : isC.map (fun i => ws[i]?) = wc.map some) (hnc : va_nd isC = true) (hR : isR.map (fun i => ws[i]?) = (pick ws isR).map some) (hnr : va_nd isR = true) (hdis : ∀ i ∈ isR, i ∉ isC) (hp : isP.map (fun i => (pick ws isR ++ w1)[i]?) = w2.map some) (hnp : va_nd isP = true)
    (kk : ∀ (H1 : Heap) (locs1 : List Loc), va_P D vwCl w2 H1 → va_D A w2 → va_S A s.heap H1 locs1 → W p l e R s m args below meth c H1 locs1 0 0 Q (F0 m (pc + 3) ls (.int r0 :: rest))) : W p l e R s m args below meth c H locs 0 0 Q (F0 m pc ls st0) := by
  have hDc := hD.sub (ws' := wc) isC hnc hC
  have hPc : va_P D vwCl wc H := fun k q hq => by
    have h2 : (isC.map (fun i => ws[i]?))[k]? = some (some q) := by rw [hC]; simp [hq]
    rw [List.getElem?_map] at h2
    obtain ⟨i, -, hi⟩ := Option.map_eq_some_iff.mp h2
    exact hP i q hi
  have hFc := va_free (wc := wc) hD hS hA isC hC
  obtain ⟨hp1, hp2⟩ := g_pre (av := .ref b :: As) hK hPc hDc
  refine va_calli (va_runV (As := As) (rest := rest) S hM cw ⟨hp1, hrc, hp2⟩ rfl hn hsize hst (lv_room hW) hdg ⟨Nat.zero_le _, Nat.zero_le _⟩) hS (fun q _ h => hFc q h) hFc (fun r u t H1 locs1 ht hvm hw hB hz1 hk1 hS1 => ?_)
  subst hw
  obtain ⟨h1, h2⟩ := g_after isC isR isP hP hD hS hA hC hR hnr hdis hp hnp hk1 ht hB
  exact kk H1 locs1 h1 h2 hS1
theorem g_callVv (S : CallFix p m c cc nL s args Ts own) (hM : Met l y wsm rm (va_Pc (.ref b :: As) (gP D cy H.size wc)) (gQv D cy (va_A wc H.size) w1) 0 0 (va_A wc H.size)) (cw : CallW R s args own C index y bytes maxL ret wsm rm 0 0 n)
    (hrc : ∃ cell : Cell, H[b]? = some cell ∧ cell.vm.isStatics = false ∧ s.vm.findClass C = some cell.cls) (hn : As.length = n) (hsize : ls.size = nL) {st0 : List Value} (hst : st0 = As.reverse ++ .ref b :: rest) (hW : (rest.map fun v => v.category).sum ≤ 8) (hdg : decode cc pc = .ok (.invokevirtual index, 3))
    (hK : va_K D vwCl (TY cy) s) (hP : va_P D vwCl ws H) (hD : va_D A ws) (hS : va_S A s.heap H locs) (hA : ∀ q, s.heap.size ≤ q → A q) (isC isR isP : List Nat)
    (hC : isC.map (fun i => ws[i]?) = wc.map some) (hnc : va_nd isC = true) (hR : isR.map (fun i => ws[i]?) = (pick ws isR).map some) (hnr : va_nd isR = true) (hdis : ∀ i ∈ isR, i ∉ isC) (hp : isP.map (fun i => (pick ws isR ++ w1)[i]?) = w2.map some) (hnp : va_nd isP = true)
    (kk : ∀ (H1 : Heap) (locs1 : List Loc), va_P D vwCl w2 H1 → va_D A w2 → va_S A s.heap H1 locs1 → W p l e R s m args below meth c H1 locs1 0 0 Q (F0 m (pc + 3) ls rest)) : W p l e R s m args below meth c H locs 0 0 Q (F0 m pc ls st0) := by
  have hDc := hD.sub (ws' := wc) isC hnc hC
  have hPc : va_P D vwCl wc H := fun k q hq => by
    have h2 : (isC.map (fun i => ws[i]?))[k]? = some (some q) := by rw [hC]; simp [hq]
    rw [List.getElem?_map] at h2
    obtain ⟨i, -, hi⟩ := Option.map_eq_some_iff.mp h2
    exact hP i q hi
  have hFc := va_free (wc := wc) hD hS hA isC hC
  obtain ⟨hp1, hp2⟩ := g_pre (av := .ref b :: As) hK hPc hDc
  refine va_callv (va_runV (As := As) (rest := rest) S hM cw ⟨hp1, hrc, hp2⟩ rfl hn hsize hst (lv_room hW) hdg ⟨Nat.zero_le _, Nat.zero_le _⟩) hS (fun q _ h => hFc q h) hFc (fun u t H1 locs1 ht hvm hw hB hz1 hk1 hS1 => ?_)
  obtain ⟨h1, h2⟩ := g_after isC isR isP hP hD hS hA hC hR hnr hdis hp hnp hk1 ht hB
  exact kk H1 locs1 h1 h2 hS1
theorem g_callSi {r0 : Int32} (S : CallFix p m c cc nL s args Ts own) (hM : Met l y wsm rm (va_Pc As (gP D cy H.size wc)) (gQi D cy (va_A wc H.size) r0 w1) 0 0 (va_A wc H.size)) (cw : CallB R s args own index y bytes maxL ret wsm rm 0 0 n ∧ (Cond.static y).before args s = true)
    (hn : As.length = n) (hsize : ls.size = nL) {st0 : List Value} (hst : st0 = As.reverse ++ rest) (hW : (rest.map fun v => v.category).sum ≤ 8) (hdg : decode cc pc = .ok (.invokestatic index, 3))
    (hK : va_K D vwCl (TY cy) s) (hP : va_P D vwCl ws H) (hD : va_D A ws) (hS : va_S A s.heap H locs) (hA : ∀ q, s.heap.size ≤ q → A q) (isC isR isP : List Nat)
    (hC : isC.map (fun i => ws[i]?) = wc.map some) (hnc : va_nd isC = true) (hR : isR.map (fun i => ws[i]?) = (pick ws isR).map some) (hnr : va_nd isR = true) (hdis : ∀ i ∈ isR, i ∉ isC) (hp : isP.map (fun i => (pick ws isR ++ w1)[i]?) = w2.map some) (hnp : va_nd isP = true)
    (kk : ∀ (H1 : Heap) (locs1 : List Loc), va_P D vwCl w2 H1 → va_D A w2 → va_S A s.heap H1 locs1 → W p l e R s m args below meth c H1 locs1 0 0 Q (F0 m (pc + 3) ls (.int r0 :: rest))) : W p l e R s m args below meth c H locs 0 0 Q (F0 m pc ls st0) := by
  have hDc := hD.sub (ws' := wc) isC hnc hC
  have hPc : va_P D vwCl wc H := fun k q hq => by
    have h2 : (isC.map (fun i => ws[i]?))[k]? = some (some q) := by rw [hC]; simp [hq]
    rw [List.getElem?_map] at h2
    obtain ⟨i, -, hi⟩ := Option.map_eq_some_iff.mp h2
    exact hP i q hi
  have hFc := va_free (wc := wc) hD hS hA isC hC
  obtain ⟨hp1, hp2⟩ := g_pre (av := As) hK hPc hDc
  refine va_calli (va_runS (As := As) (rest := rest) S hM cw ⟨hp1, hp2⟩ rfl hn hsize hst (lv_room hW) hdg ⟨Nat.zero_le _, Nat.zero_le _⟩) hS (fun q _ h => hFc q h) hFc (fun r u t H1 locs1 ht hvm hw hB hz1 hk1 hS1 => ?_)
  subst hw
  obtain ⟨h1, h2⟩ := g_after isC isR isP hP hD hS hA hC hR hnr hdis hp hnp hk1 ht hB
  exact kk H1 locs1 h1 h2 hS1
theorem g_callSv (S : CallFix p m c cc nL s args Ts own) (hM : Met l y wsm rm (va_Pc As (gP D cy H.size wc)) (gQv D cy (va_A wc H.size) w1) 0 0 (va_A wc H.size)) (cw : CallB R s args own index y bytes maxL ret wsm rm 0 0 n ∧ (Cond.static y).before args s = true)
    (hn : As.length = n) (hsize : ls.size = nL) {st0 : List Value} (hst : st0 = As.reverse ++ rest) (hW : (rest.map fun v => v.category).sum ≤ 8) (hdg : decode cc pc = .ok (.invokestatic index, 3))
    (hK : va_K D vwCl (TY cy) s) (hP : va_P D vwCl ws H) (hD : va_D A ws) (hS : va_S A s.heap H locs) (hA : ∀ q, s.heap.size ≤ q → A q) (isC isR isP : List Nat)
    (hC : isC.map (fun i => ws[i]?) = wc.map some) (hnc : va_nd isC = true) (hR : isR.map (fun i => ws[i]?) = (pick ws isR).map some) (hnr : va_nd isR = true) (hdis : ∀ i ∈ isR, i ∉ isC) (hp : isP.map (fun i => (pick ws isR ++ w1)[i]?) = w2.map some) (hnp : va_nd isP = true)
    (kk : ∀ (H1 : Heap) (locs1 : List Loc), va_P D vwCl w2 H1 → va_D A w2 → va_S A s.heap H1 locs1 → W p l e R s m args below meth c H1 locs1 0 0 Q (F0 m (pc + 3) ls rest)) : W p l e R s m args below meth c H locs 0 0 Q (F0 m pc ls st0) := by
  have hDc := hD.sub (ws' := wc) isC hnc hC
  have hPc : va_P D vwCl wc H := fun k q hq => by
    have h2 : (isC.map (fun i => ws[i]?))[k]? = some (some q) := by rw [hC]; simp [hq]
    rw [List.getElem?_map] at h2
    obtain ⟨i, -, hi⟩ := Option.map_eq_some_iff.mp h2
    exact hP i q hi
  have hFc := va_free (wc := wc) hD hS hA isC hC
  obtain ⟨hp1, hp2⟩ := g_pre (av := As) hK hPc hDc
  refine va_callv (va_runS (As := As) (rest := rest) S hM cw ⟨hp1, hp2⟩ rfl hn hsize hst (lv_room hW) hdg ⟨Nat.zero_le _, Nat.zero_le _⟩) hS (fun q _ h => hFc q h) hFc (fun u t H1 locs1 ht hvm hw hB hz1 hk1 hS1 => ?_)
  obtain ⟨h1, h2⟩ := g_after isC isR isP hP hD hS hA hC hR hnr hdis hp hnp hk1 ht hB
  exact kk H1 locs1 h1 h2 hS1
theorem g_aald2 {ws : va_W} {a : Nat} (hx : p.tables.exec = Jvm.exec) (hb : c.code = cc) (hK : va_K D vwCl (TY cy) s) (hP : va_P D vwCl ws H) (q0 : Nat) {n : Nat} {f : Nat → Option Nat} (ha : ws[q0]? = some (a, .inl (cy 3, n, .inr (.inr (.inr (.inr f)))))) {i : Int32} (hin : vp_in i n) {rest : List Value} (hdg : decode cc pc = .ok (.aaload, 1))
    (kk : W p l e R s m args below meth c H locs 0 0 Q (F0 m (pc + 1) ls (va_rf (f i.toNatClampNeg) :: rest))) : W p l e R s m args below meth c H locs 0 0 Q (F0 m pc ls (.int i :: .ref a :: rest)) := by
  have hlt : i.toNatClampNeg < n := Nat.not_le.mp fun q => hin (Or.inr q)
  exact W.aald (v := va_rf (f i.toNatClampNeg)) (ty := .array .int) hx hb (hP q0 _ ha) ((hK.2 3 _ rfl).1 n (fun j => va_rf (f j))) rfl (fun q => by cases q) (by show ¬ (i < 0 ∨ (arrV _ _ _).slots.size ≤ _); rw [arrV_size]; exact hin) (by show (arrV _ _ _).slots[_]? = _; rw [arrV_read _ _ hlt]) rfl rfl hdg kk
end GW
