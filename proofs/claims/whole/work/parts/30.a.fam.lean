/-! worlds with a tail; the family of the 161 Wordings (160: the one for none), the rows of bytes by their addresses -/
abbrev FSt : Type := (Nat → St) × (Nat → Nat)
def fU (s : FSt) (J : Nat) (x : St) : FSt := (va_up s.1 J x, s.2)
def fG (s : FSt) (J : Nat) (x : St) (g : Nat) : FSt := (va_up s.1 J x, va_up s.2 J g)
def wm (cy : Nat → ClassId) (a r : Nat → Nat) (s : FSt) (j : Nat) : va_W := w7 cy (a j) (s.2 j) (fun _ => r j) (s.1 j)
def wF (cy : Nat → ClassId) (a r : Nat → Nat) (s : FSt) : va_W := (List.range 161).flatMap (wm cy a r s)
def xF (cy : Nat → ClassId) (a r : Nat → Nat) (s : FSt) (J : Nat) : va_W := ((List.range 161).erase J).flatMap (wm cy a r s)
def wK (cy : Nat → ClassId) (L : List Nat) (c : Nat → Nat × (Nat → Int32)) : va_W := L.map (fun x => (x, .inl (cy 1, (c x).1, .inl (c x).2)))
def wWa (cy : Nat → ClassId) (h : Nat) (a : Nat → Nat) : va_W := [(h, .inl (cy 4, 160, .inr (.inr (.inr (.inr (fun j => some (a j)))))))]
def memb (x : Nat) (L : List Nat) : Bool := decide (x ∈ L)
theorem memb_in {x : Nat} {L : List Nat} (h : memb x L = true) : x ∈ L := of_decide_eq_true h
def ltb (x n : Nat) : Bool := decide (x < n)
theorem ltb_lt {x n : Nat} (h : ltb x n = true) : x < n := of_decide_eq_true h
theorem va_P_mem {D : va_G} {cl : List vw_C} {ws : va_W} {H : Heap} : va_P D cl ws H ↔ ∀ q ∈ ws, va_at D cl q H :=
  ⟨fun h q hq => by obtain ⟨k, hk⟩ := List.getElem?_of_mem hq; exact h k q hk, fun h k q hk => h q (List.mem_of_getElem? hk)⟩
theorem va_P_perm {D : va_G} {cl : List vw_C} {ws ws' : va_W} {H : Heap} (h : ws.Perm ws') (hP : va_P D cl ws H) : va_P D cl ws' H :=
  va_P_mem.mpr (fun q hq => va_P_mem.mp hP q (h.mem_iff.mpr hq))
theorem va_D_pw {A : Nat → Prop} {ws : va_W} : va_D A ws ↔ ws.Pairwise (fun p q => p.1 ≠ q.1) ∧ ∀ q ∈ ws, A q.1 := by
  constructor
  · rintro ⟨h1, h2⟩
    refine ⟨List.pairwise_iff_getElem.mpr (fun i j hi hj hij e => ?_), fun q hq => by obtain ⟨k, hk⟩ := List.getElem?_of_mem hq; exact h2 k q hk⟩
    have := h1 i j _ _ (List.getElem?_eq_getElem hi) (List.getElem?_eq_getElem hj) e
    omega
  · rintro ⟨h1, h2⟩
    have h1 := List.pairwise_iff_getElem.mp h1
    refine ⟨fun i j p q hp hq e => ?_, fun k q hk => h2 q (List.mem_of_getElem? hk)⟩
    obtain ⟨hi, rfl⟩ := List.getElem?_eq_some_iff.mp hp
    obtain ⟨hj, rfl⟩ := List.getElem?_eq_some_iff.mp hq
    rcases Nat.lt_trichotomy i j with h | h | h
    · exact absurd e (h1 i j hi hj h)
    · exact h
    · exact absurd e.symm (h1 j i hj hi h)
theorem va_D_perm {A : Nat → Prop} {ws ws' : va_W} (h : ws.Perm ws') (hD : va_D A ws) : va_D A ws' := by
  obtain ⟨h1, h2⟩ := va_D_pw.mp hD
  exact va_D_pw.mpr ⟨h.pairwise h1 (fun e e' => e e'.symm), fun q hq => h2 q (h.mem_iff.mpr hq)⟩
theorem va_D_split {A : Nat → Prop} {ws tl : va_W} (hD : va_D A (ws ++ tl)) : va_D A ws ∧ va_D A tl ∧ ∀ p ∈ ws, ∀ q ∈ tl, p.1 ≠ q.1 := by
  obtain ⟨h1, h2⟩ := va_D_pw.mp hD
  obtain ⟨a, b, c⟩ := List.pairwise_append.mp h1
  exact ⟨va_D_pw.mpr ⟨a, fun q hq => h2 q (List.mem_append_left _ hq)⟩, va_D_pw.mpr ⟨b, fun q hq => h2 q (List.mem_append_right _ hq)⟩, c⟩
theorem va_D_glue {A : Nat → Prop} {ws tl : va_W} (h1 : va_D A ws) (h2 : va_D A tl) (h3 : ∀ p ∈ ws, ∀ q ∈ tl, p.1 ≠ q.1) : va_D A (ws ++ tl) := by
  obtain ⟨a1, a2⟩ := va_D_pw.mp h1
  obtain ⟨b1, b2⟩ := va_D_pw.mp h2
  exact va_D_pw.mpr ⟨List.pairwise_append.mpr ⟨a1, b1, h3⟩, fun q hq => (List.mem_append.mp hq).elim (a2 q) (b2 q)⟩
theorem va_P_split {D : va_G} {cl : List vw_C} {ws tl : va_W} {H : Heap} (h : va_P D cl (ws ++ tl) H) : va_P D cl ws H ∧ va_P D cl tl H :=
  ⟨va_P_mem.mpr (fun q hq => va_P_mem.mp h q (List.mem_append_left _ hq)), va_P_mem.mpr (fun q hq => va_P_mem.mp h q (List.mem_append_right _ hq))⟩
theorem wF_perm (cy : Nat → ClassId) (a r : Nat → Nat) (s : FSt) {J : Nat} (h : J < 161) : (wF cy a r s).Perm (wm cy a r s J ++ xF cy a r s J) := by
  have h1 : (List.range 161).Perm (J :: (List.range 161).erase J) := List.perm_cons_erase (List.mem_range.mpr h)
  have h2 := h1.flatMap_right (wm cy a r s)
  rw [List.flatMap_cons] at h2
  exact h2
theorem xF_eq (cy : Nat → ClassId) (a r : Nat → Nat) (s s' : FSt) (J : Nat) (h : ∀ j, j ≠ J → s.1 j = s'.1 j ∧ s.2 j = s'.2 j) : xF cy a r s J = xF cy a r s' J := by
  unfold xF
  have hn : ∀ j ∈ (List.range 161).erase J, wm cy a r s j = wm cy a r s' j := by
    intro j hj
    have hne : j ≠ J := fun e => by
      subst e
      exact List.Nodup.not_mem_erase List.nodup_range hj
    unfold wm
    rw [(h j hne).1, (h j hne).2]
  generalize (List.range 161).erase J = l at hn
  induction l with
  | nil => rfl
  | cons x l ih =>
    rw [List.flatMap_cons, List.flatMap_cons, hn x List.mem_cons_self, ih (fun j hj => hn j (List.mem_cons_of_mem _ hj))]
theorem fG_ne (s : FSt) (J : Nat) (x : St) (g : Nat) : ∀ j, j ≠ J → (fG s J x g).1 j = s.1 j ∧ (fG s J x g).2 j = s.2 j := fun j hj => ⟨va_up_ne _ _ hj, va_up_ne _ _ hj⟩
theorem fU_ne (s : FSt) (J : Nat) (x : St) : ∀ j, j ≠ J → (fU s J x).1 j = s.1 j ∧ (fU s J x).2 j = s.2 j := fun j hj => ⟨va_up_ne _ _ hj, rfl⟩
theorem wK_perm (cy : Nat → ClassId) {L : List Nat} (c : Nat → Nat × (Nat → Int32)) {x : Nat} (h : x ∈ L) : (wK cy L c).Perm (wV cy x (c x).1 (c x).2 ++ wK cy (L.erase x) c) := by
  have h1 := (List.perm_cons_erase h).map (fun x => ((x, .inl (cy 1, (c x).1, .inl (c x).2)) : Nat × va_E))
  exact h1
/-- one of the family brought forward, and back -/
theorem foc7 (cy : Nat → ClassId) (a r : Nat → Nat) (s : FSt) (K ws : va_W) {J : Nat} (h : J < 161) : (ws ++ (wF cy a r s ++ K)).Perm ((ws ++ w7 cy (a J) (s.2 J) (fun _ => r J) (s.1 J)) ++ (xF cy a r s J ++ K)) := by
  have h1 := (wF_perm cy a r s h).append_right K
  rw [List.append_assoc] at h1
  rw [show (ws ++ w7 cy (a J) (s.2 J) (fun _ => r J) (s.1 J)) ++ (xF cy a r s J ++ K) = ws ++ (wm cy a r s J ++ (xF cy a r s J ++ K)) from List.append_assoc _ _ _]
  exact h1.append_left ws
theorem foc7V (cy : Nat → ClassId) (a r : Nat → Nat) (s : FSt) (L : List Nat) (c : Nat → Nat × (Nat → Int32)) (ws : va_W) {J : Nat} (h : J < 161) (hg : s.2 J ∈ L) : (ws ++ (wF cy a r s ++ wK cy L c)).Perm ((ws ++ (w7 cy (a J) (s.2 J) (fun _ => r J) (s.1 J) ++ wV cy (s.2 J) (c (s.2 J)).1 (c (s.2 J)).2)) ++ (xF cy a r s J ++ wK cy (L.erase (s.2 J)) c)) := by
  have h1 := ((wF_perm cy a r s h).append (wK_perm cy c hg)).append_left ws
  refine h1.trans ?_
  rw [List.append_assoc, List.append_assoc, List.append_assoc]
  refine List.Perm.append_left ws (List.Perm.append_left _ ?_)
  rw [← List.append_assoc, ← List.append_assoc]
  exact (List.perm_append_comm).append_right _
theorem bak7 (cy : Nat → ClassId) (a r : Nat → Nat) (s : FSt) (K ws : va_W) {J : Nat} (h : J < 161) (x : St) (g : Nat) : ((ws ++ w7 cy (a J) g (fun _ => r J) x) ++ (xF cy a r s J ++ K)).Perm (ws ++ (wF cy a r (fG s J x g) ++ K)) := by
  have h1 := (foc7 cy a r (fG s J x g) K ws h).symm
  rw [xF_eq cy a r (fG s J x g) s J (fG_ne s J x g)] at h1
  have e1 : (fG s J x g).2 J = g := va_up_self _ _ _
  have e2 : (fG s J x g).1 J = x := va_up_self _ _ _
  rw [e1, e2] at h1
  exact h1
theorem bak7U (cy : Nat → ClassId) (a r : Nat → Nat) (s : FSt) (K ws : va_W) {J : Nat} (h : J < 161) (x : St) : ((ws ++ w7 cy (a J) (s.2 J) (fun _ => r J) x) ++ (xF cy a r s J ++ K)).Perm (ws ++ (wF cy a r (fU s J x) ++ K)) := by
  have h1 := (foc7 cy a r (fU s J x) K ws h).symm
  rw [xF_eq cy a r (fU s J x) s J (fU_ne s J x)] at h1
  have e2 : (fU s J x).1 J = x := va_up_self _ _ _
  rw [e2] at h1
  exact h1
theorem bak7V (cy : Nat → ClassId) (a r : Nat → Nat) (s : FSt) (L : List Nat) (c : Nat → Nat × (Nat → Int32)) (ws : va_W) {J : Nat} (h : J < 161) (hg : s.2 J ∈ L) (x : St) : ((ws ++ (w7 cy (a J) (s.2 J) (fun _ => r J) x ++ wV cy (s.2 J) (c (s.2 J)).1 (c (s.2 J)).2)) ++ (xF cy a r s J ++ wK cy (L.erase (s.2 J)) c)).Perm (ws ++ (wF cy a r (fU s J x) ++ wK cy L c)) := by
  have h1 := (foc7V cy a r (fU s J x) L c ws h hg).symm
  rw [xF_eq cy a r (fU s J x) s J (fU_ne s J x)] at h1
  have e2 : (fU s J x).1 J = x := va_up_self _ _ _
  rw [e2] at h1
  exact h1
theorem fam_at (cy : Nat → ClassId) (a r : Nat → Nat) (s : FSt) (K ws : va_W) {J : Nat} (h : J < 161) : ∃ k : Nat, (ws ++ (wF cy a r s ++ K))[k]? = some (a J, .inr (7, [.ref (s.2 J), .int ((s.1 J).1 1), .int ((s.1 J).1 2), .int ((s.1 J).1 3), .int ((s.1 J).1 4), .int ((s.1 J).1 5), .ref (r J)])) := by
  have h1 : (a J, (.inr (7, [.ref (s.2 J), .int ((s.1 J).1 1), .int ((s.1 J).1 2), .int ((s.1 J).1 3), .int ((s.1 J).1 4), .int ((s.1 J).1 5), .ref (r J)]) : va_E)) ∈ ws ++ (wF cy a r s ++ K) := by
    refine List.mem_append_right _ (List.mem_append_left _ ?_)
    refine List.mem_flatMap.mpr ⟨J, List.mem_range.mpr h, ?_⟩
    exact List.mem_cons_self
  exact List.getElem?_of_mem h1
def w6o (cy : Nat → ClassId) (h r0 : Nat) (σ : St) : va_W := [(h, .inr (6, [.ref r0, .int (σ.1 1)]))]
def eqn (a b : Nat) : Bool := decide (a = b)
theorem eqn_eq {a b : Nat} (h : eqn a b = true) : a = b := of_decide_eq_true h
theorem focB (cy : Nat → ClassId) {L : List Nat} (c : Nat → Nat × (Nat → Int32)) (F ws : va_W) {x : Nat} (hg : x ∈ L) (h5 : (c x).1 = 1500) : (ws ++ (F ++ wK cy L c)).Perm ((ws ++ wB cy x (c x).2) ++ (F ++ wK cy (L.erase x) c)) := by
  have h1 := wK_perm cy c hg
  rw [h5] at h1
  refine ((h1.append_left F).append_left ws).trans ?_
  rw [List.append_assoc]
  refine List.Perm.append_left ws ?_
  rw [← List.append_assoc, ← List.append_assoc]
  exact (List.perm_append_comm).append_right _
theorem K_at (cy : Nat → ClassId) {L : List Nat} (c : Nat → Nat × (Nat → Int32)) (F ws : va_W) {x : Nat} (h : x ∈ L) : ∃ k : Nat, (ws ++ (F ++ wK cy L c))[k]? = some (x, .inl (cy 1, (c x).1, .inl (c x).2)) := by
  have h1 : (x, (.inl (cy 1, (c x).1, .inl (c x).2) : va_E)) ∈ ws ++ (F ++ wK cy L c) := List.mem_append_right _ (List.mem_append_right _ (List.mem_map.mpr ⟨x, h, rfl⟩))
  exact List.getElem?_of_mem h1
section GWT
variable {p : Program} {l : Launch} {e : Env} {R : Room} {s : State} {m : MethodId} {args : Array Value} {below : List Frame} {meth : Method} {c : Code} {H : Heap} {locs : List Loc} {Q : State → Prop} {A : Nat → Prop} {D : va_G} {cy : Nat → ClassId} {w : va_W} {cc : ByteArray} {pc : Nat} {ls : Array Slot}
theorem g_afterT {ws wc w1 w2 tl : va_W} {H1 : Heap} {t : State} (isC isR isP : List Nat) (hP : va_P D vwCl (ws ++ tl) H) (hD : va_D A (ws ++ tl)) (hS : va_S A s.heap H locs) (hA : ∀ q, s.heap.size ≤ q → A q)
    (hC : isC.map (fun i => ws[i]?) = wc.map some) (hR : isR.map (fun i => ws[i]?) = (pick ws isR).map some) (hn : va_nd isR = true) (hdis : ∀ i ∈ isR, i ∉ isC) (hp : isP.map (fun i => (pick ws isR ++ w1)[i]?) = w2.map some) (hnp : va_nd isP = true)
    (hk1 : ∀ q : Nat, q < H.size → ¬ va_A wc H.size q → H1[q]? = H[q]?) (ht : t.heap = H1) (hB : gB D cy (va_A wc H.size) w1 t) : va_P D vwCl (w2 ++ tl) H1 ∧ va_D A (w2 ++ tl) := by
  obtain ⟨hPx, hPt⟩ := va_P_split hP
  obtain ⟨hDx, hDt, hdj⟩ := va_D_split hD
  obtain ⟨h1, h2⟩ := g_after isC isR isP hPx hDx hS hA hC hR hn hdis hp hnp hk1 ht hB
  have hwc : ∀ q ∈ wc, q ∈ ws := by
    intro q hq
    have h3 : some q ∈ wc.map some := List.mem_map.mpr ⟨q, hq, rfl⟩
    rw [← hC] at h3
    obtain ⟨i, -, hi⟩ := List.mem_map.mp h3
    exact List.mem_of_getElem? hi
  have hno : ∀ q ∈ tl, q.1 < H.size ∧ ¬ va_A wc H.size q.1 := by
    intro q hq
    have hlt := (va_P_mem.mp hPt q hq).lt
    refine ⟨hlt, ?_⟩
    rintro (⟨k, e, hk⟩ | h3)
    · exact hdj _ (hwc _ (List.mem_of_getElem? hk)) q hq rfl
    · omega
  refine ⟨va_P.app h1 (va_P_mem.mpr (fun q hq => (va_P_mem.mp hPt q hq).kept (hk1 _ (hno q hq).1 (hno q hq).2))), va_D_glue h2 hDt ?_⟩
  intro p hp2 q hq e
  have h3 : some p ∈ w2.map some := List.mem_map.mpr ⟨p, hp2, rfl⟩
  rw [← hp] at h3
  obtain ⟨i, -, hi⟩ := List.mem_map.mp h3
  rcases List.mem_append.mp (List.mem_of_getElem? hi) with h4 | h4
  · obtain ⟨j, -, hj⟩ := List.mem_filterMap.mp h4
    exact hdj p (List.mem_of_getElem? hj) q hq e
  · obtain ⟨k, hk⟩ := List.getElem?_of_mem h4
    have h5 := hB.2.2.2 k p hk
    rw [e] at h5
    exact (hno q hq).2 h5
abbrev gQr (D : va_G) (cy : Nat → ClassId) (A : Nat → Prop) (v : Nat) (ws : va_W) : Array Value → State → Outcome → State → Prop := va_Qr (fun (_ : Unit) => True) (fun _ a t => a = v ∧ gB D cy A ws t) A
theorem g_aret {v : Nat} {rt : FieldType} (hx : p.tables.exec = Jvm.exec) (hb : c.code = cc) (hr : meth.sig.returnType = some rt) (hrt : (∃ n, rt = .object n) ∨ ∃ t, rt = .array t) (hlk : meth.locks = false) (hK : va_K D vwCl (TY cy) s) (hP : va_P D vwCl w H) (hD : va_D A w) (hS : va_S A s.heap H locs) (hdg : decode cc pc = .ok (.areturn, 1)) : W p l e R s m args below meth c H locs 0 0 (MQ below (gQr D cy A v w) args s 0 0 A) (F0 m pc ls [.ref v]) :=
  W.aret (v := .ref v) hx hb hr hrt (Or.inr ⟨v, rfl⟩) (fun t ht hW => ⟨⟨(), v, rfl, trivial, rfl, by rw [ht]; exact hP, va_K.moved hW.alike hK, hD⟩, hS.F ht⟩) hS.2.2 hdg hlk
theorem g_subU {ws wc tl : va_W} (isC : List Nat) (hP : va_P D vwCl (ws ++ tl) H) (hD : va_D A (ws ++ tl)) (hS : va_S A s.heap H locs) (hA : ∀ q, s.heap.size ≤ q → A q) (hC : isC.map (fun i => ws[i]?) = wc.map some) (hnc : va_nd isC = true) : va_P D vwCl (wc ++ tl) H ∧ va_D A (wc ++ tl) ∧ (∀ q ∈ wc, q ∈ ws) ∧ ∀ q, va_A (wc ++ tl) H.size q → A q := by
  obtain ⟨hPx, hPt⟩ := va_P_split hP
  obtain ⟨hDx, hDt, hdj⟩ := va_D_split hD
  have hwc : ∀ q ∈ wc, q ∈ ws := by
    intro q hq
    have h3 : some q ∈ wc.map some := List.mem_map.mpr ⟨q, hq, rfl⟩
    rw [← hC] at h3
    obtain ⟨i, -, hi⟩ := List.mem_map.mp h3
    exact List.mem_of_getElem? hi
  have hD2 : va_D A (wc ++ tl) := va_D_glue (hDx.sub isC hnc hC) hDt (fun p hp q hq => hdj p (hwc p hp) q hq)
  refine ⟨va_P.app (va_P_mem.mpr (fun q hq => va_P_mem.mp hPx q (hwc q hq))) hPt, hD2, hwc, ?_⟩
  rintro q (⟨k, e, hk⟩ | h)
  · exact hD2.2 k _ hk
  · exact hA q (Nat.le_trans hS.1 h)
theorem g_afterU {ws wc w1 w2 tl tl1 : va_W} {H1 : Heap} {t : State} (isC isR isP : List Nat) (hP : va_P D vwCl (ws ++ tl) H) (hD : va_D A (ws ++ tl)) (hS : va_S A s.heap H locs) (hA : ∀ q, s.heap.size ≤ q → A q)
    (hC : isC.map (fun i => ws[i]?) = wc.map some) (hnc : va_nd isC = true) (hR : isR.map (fun i => ws[i]?) = (pick ws isR).map some) (hn : va_nd isR = true) (hdis : ∀ i ∈ isR, i ∉ isC) (hp : isP.map (fun i => (pick ws isR ++ w1)[i]?) = w2.map some) (hnp : va_nd isP = true)
    (hk1 : ∀ q : Nat, q < H.size → ¬ va_A (wc ++ tl) H.size q → H1[q]? = H[q]?) (ht : t.heap = H1) (hB : gB D cy (va_A (wc ++ tl) H.size) (w1 ++ tl1) t) : va_P D vwCl (w2 ++ tl1) H1 ∧ va_D A (w2 ++ tl1) := by
  obtain ⟨hP2, hD2, hwc, hF⟩ := g_subU isC hP hD hS hA hC hnc
  obtain ⟨hPx, hPt⟩ := va_P_split hP
  obtain ⟨hDx, hDt, hdj⟩ := va_D_split hD
  obtain ⟨hB1, -, hB3⟩ := hB
  rw [ht] at hB1
  obtain ⟨hPw1, hPt1⟩ := va_P_split hB1
  obtain ⟨hDw1, hDt1, hdj1⟩ := va_D_split hB3
  have hDr : va_D A (pick ws isR) := hDx.sub isR hn hR
  have hrs : ∀ q ∈ pick ws isR, q ∈ ws := fun q hq => by
    obtain ⟨j, -, hj⟩ := List.mem_filterMap.mp hq
    exact List.mem_of_getElem? hj
  -- what the rest holds lies outside the callee's cells
  have hno : ∀ q ∈ pick ws isR, q.1 < H.size ∧ ¬ va_A (wc ++ tl) H.size q.1 := by
    intro q hq
    have hlt := (va_P_mem.mp hPx q (hrs q hq)).lt
    refine ⟨hlt, ?_⟩
    rintro (⟨k, e, hk⟩ | h3)
    · rcases List.mem_append.mp (List.mem_of_getElem? hk) with h4 | h4
      · obtain ⟨j, hj, hji⟩ := List.mem_filterMap.mp hq
        have h5 : some (q.1, e) ∈ wc.map some := List.mem_map.mpr ⟨_, h4, rfl⟩
        rw [← hC] at h5
        obtain ⟨i, hi, hii⟩ := List.mem_map.mp h5
        have := hDx.1 j i _ _ hji hii rfl
        subst this
        exact hdis j hj hi
      · exact hdj q (hrs q hq) _ h4 rfl
    · omega
  have hPr : va_P D vwCl (pick ws isR) H1 := va_P_mem.mpr (fun q hq => (va_P_mem.mp hPx q (hrs q hq)).kept (hk1 _ (hno q hq).1 (hno q hq).2))
  have hd1 : ∀ p ∈ pick ws isR, ∀ q ∈ w1 ++ tl1, p.1 ≠ q.1 := by
    intro p hp2 q hq e
    obtain ⟨k, hk⟩ := List.getElem?_of_mem hq
    have h5 := hB3.2 k q hk
    rw [← e] at h5
    exact (hno p hp2).2 h5
  have hDw1' : va_D A w1 := hDw1.weaken (fun _ _ _ h => hF _ h)
  have hDt1' : va_D A tl1 := hDt1.weaken (fun _ _ _ h => hF _ h)
  have hDj : va_D A (pick ws isR ++ w1) := va_D_glue hDr hDw1' (fun p hp2 q hq => hd1 p hp2 q (List.mem_append_left _ hq))
  have hw2 : ∀ q ∈ w2, q ∈ pick ws isR ++ w1 := by
    intro q hq
    have h3 : some q ∈ w2.map some := List.mem_map.mpr ⟨q, hq, rfl⟩
    rw [← hp] at h3
    obtain ⟨i, -, hi⟩ := List.mem_map.mp h3
    exact List.mem_of_getElem? hi
  have hPj : va_P D vwCl (pick ws isR ++ w1) H1 := va_P.app hPr hPw1
  refine ⟨va_P.app (va_P_mem.mpr (fun q hq => va_P_mem.mp hPj q (hw2 q hq))) hPt1, va_D_glue (hDj.sub isP hnp hp) hDt1' ?_⟩
  intro p hp2 q hq
  rcases List.mem_append.mp (hw2 p hp2) with h4 | h4
  · exact hd1 p h4 q (List.mem_append_right _ hq)
  · exact hdj1 p h4 q hq
variable {adK adV : Nat → Nat} {y : MethodName} {ws ws1 w1 w2 tl tl1 : va_W} {wsm : List Cond} {rm : Room} {Ts : List Cond} {own C host : String} {bytes : ByteArray} {maxL nL n index : Nat} {ret : Option FieldType} {As rest : List Value} {b : Nat} {wc : va_W}
theorem g_callViT {r0 : Int32} (S : CallFix p m c cc nL s args Ts own) (hM : Met l y wsm rm (va_Pc (.ref b :: As) (gP D cy H.size wc)) (gQi D cy (va_A wc H.size) r0 w1) 0 0 (va_A wc H.size)) (cw : CallW R s args own C index y bytes maxL ret wsm rm 0 0 n)
    (hrc : ∃ cell : Cell, H[b]? = some cell ∧ cell.vm.isStatics = false ∧ s.vm.findClass C = some cell.cls) (hn : As.length = n) (hsize : ls.size = nL) {st0 : List Value} (hst : st0 = As.reverse ++ .ref b :: rest) (hW : (rest.map fun v => v.category).sum ≤ 8) (hdg : decode cc pc = .ok (.invokevirtual index, 3))
    (hK : va_K D vwCl (TY cy) s) (hP : va_P D vwCl (ws ++ tl) H) (hD : va_D A (ws ++ tl)) (hS : va_S A s.heap H locs) (hA : ∀ q, s.heap.size ≤ q → A q) (isC isR isP : List Nat)
    (hC : isC.map (fun i => ws[i]?) = wc.map some) (hnc : va_nd isC = true) (hR : isR.map (fun i => ws[i]?) = (pick ws isR).map some) (hnr : va_nd isR = true) (hdis : ∀ i ∈ isR, i ∉ isC) (hp : isP.map (fun i => (pick ws isR ++ w1)[i]?) = w2.map some) (hnp : va_nd isP = true)
    (kk : ∀ (H1 : Heap) (locs1 : List Loc), va_P D vwCl (w2 ++ tl) H1 → va_D A (w2 ++ tl) → va_S A s.heap H1 locs1 → W p l e R s m args below meth c H1 locs1 0 0 Q (F0 m (pc + 3) ls (.int r0 :: rest))) : W p l e R s m args below meth c H locs 0 0 Q (F0 m pc ls st0) := by
  obtain ⟨hPu, hDu, hwc, hFu⟩ := g_subU isC hP hD hS hA hC hnc
  have hPc := (va_P_split hPu).1
  have hDc := (va_D_split hDu).1
  have hFc : ∀ q, va_A wc H.size q → A q := by
    rintro q (⟨k, e, hk⟩ | h)
    · exact hDc.2 k _ hk
    · exact hA q (Nat.le_trans hS.1 h)
  obtain ⟨hp1, hp2⟩ := g_pre (cy := cy) (av := (.ref b :: As)) hK hPc hDc
  refine va_calli (va_runV (As := As) (rest := rest) S hM cw ⟨hp1, hrc, hp2⟩ rfl hn hsize hst (lv_room hW) hdg ⟨Nat.zero_le _, Nat.zero_le _⟩) hS (fun q _ h => hFc q h) hFc (fun r u t H1 locs1 ht hvm hw hB hz1 hk1 hS1 => ?_)
  subst hw
  obtain ⟨h1, h2⟩ := g_afterT isC isR isP hP hD hS hA hC hR hnr hdis hp hnp hk1 ht hB
  exact kk H1 locs1 h1 h2 hS1
theorem g_callViTE {r0 : Int32} (S : CallFix p m c cc nL s args Ts own) (hM : Met l y wsm rm (va_Pc (.ref b :: As) (gPE D cy adK adV H.size wc)) (gQi D cy (va_A wc H.size) r0 w1) 0 0 (va_A wc H.size)) (cw : CallW R s args own C index y bytes maxL ret wsm rm 0 0 n)
    (hrc : ∃ cell : Cell, H[b]? = some cell ∧ cell.vm.isStatics = false ∧ s.vm.findClass C = some cell.cls) (hn : As.length = n) (hsize : ls.size = nL) {st0 : List Value} (hst : st0 = As.reverse ++ .ref b :: rest) (hW : (rest.map fun v => v.category).sum ≤ 8) (hdg : decode cc pc = .ok (.invokevirtual index, 3))
    (hE : gE adK adV A s s.heap) (hK : va_K D vwCl (TY cy) s) (hP : va_P D vwCl (ws ++ tl) H) (hD : va_D A (ws ++ tl)) (hS : va_S A s.heap H locs) (hA : ∀ q, s.heap.size ≤ q → A q) (isC isR isP : List Nat)
    (hC : isC.map (fun i => ws[i]?) = wc.map some) (hnc : va_nd isC = true) (hR : isR.map (fun i => ws[i]?) = (pick ws isR).map some) (hnr : va_nd isR = true) (hdis : ∀ i ∈ isR, i ∉ isC) (hp : isP.map (fun i => (pick ws isR ++ w1)[i]?) = w2.map some) (hnp : va_nd isP = true)
    (kk : ∀ (H1 : Heap) (locs1 : List Loc), va_P D vwCl (w2 ++ tl) H1 → va_D A (w2 ++ tl) → va_S A s.heap H1 locs1 → W p l e R s m args below meth c H1 locs1 0 0 Q (F0 m (pc + 3) ls (.int r0 :: rest))) : W p l e R s m args below meth c H locs 0 0 Q (F0 m pc ls st0) := by
  obtain ⟨hPu, hDu, hwc, hFu⟩ := g_subU isC hP hD hS hA hC hnc
  have hPc := (va_P_split hPu).1
  have hDc := (va_D_split hDu).1
  have hFc : ∀ q, va_A wc H.size q → A q := by
    rintro q (⟨k, e, hk⟩ | h)
    · exact hDc.2 k _ hk
    · exact hA q (Nat.le_trans hS.1 h)
  obtain ⟨hp1, hp2⟩ := g_preE (cy := cy) (av := (.ref b :: As)) hK hPc hDc hE hS hFc
  refine va_calli (va_runV (As := As) (rest := rest) S hM cw ⟨hp1, hrc, hp2⟩ rfl hn hsize hst (lv_room hW) hdg ⟨Nat.zero_le _, Nat.zero_le _⟩) hS (fun q _ h => hFc q h) hFc (fun r u t H1 locs1 ht hvm hw hB hz1 hk1 hS1 => ?_)
  subst hw
  obtain ⟨h1, h2⟩ := g_afterT isC isR isP hP hD hS hA hC hR hnr hdis hp hnp hk1 ht hB
  exact kk H1 locs1 h1 h2 hS1
theorem g_callViU {r0 : Int32} (S : CallFix p m c cc nL s args Ts own) (hM : Met l y wsm rm (va_Pc (.ref b :: As) (gP D cy H.size (wc ++ tl))) (gQi D cy (va_A (wc ++ tl) H.size) r0 (w1 ++ tl1)) 0 0 (va_A (wc ++ tl) H.size)) (cw : CallW R s args own C index y bytes maxL ret wsm rm 0 0 n)
    (hrc : ∃ cell : Cell, H[b]? = some cell ∧ cell.vm.isStatics = false ∧ s.vm.findClass C = some cell.cls) (hn : As.length = n) (hsize : ls.size = nL) {st0 : List Value} (hst : st0 = As.reverse ++ .ref b :: rest) (hW : (rest.map fun v => v.category).sum ≤ 8) (hdg : decode cc pc = .ok (.invokevirtual index, 3))
    (hK : va_K D vwCl (TY cy) s) (hP : va_P D vwCl (ws ++ tl) H) (hD : va_D A (ws ++ tl)) (hS : va_S A s.heap H locs) (hA : ∀ q, s.heap.size ≤ q → A q) (isC isR isP : List Nat)
    (hC : isC.map (fun i => ws[i]?) = wc.map some) (hnc : va_nd isC = true) (hR : isR.map (fun i => ws[i]?) = (pick ws isR).map some) (hnr : va_nd isR = true) (hdis : ∀ i ∈ isR, i ∉ isC) (hp : isP.map (fun i => (pick ws isR ++ w1)[i]?) = w2.map some) (hnp : va_nd isP = true)
    (kk : ∀ (H1 : Heap) (locs1 : List Loc), va_P D vwCl (w2 ++ tl1) H1 → va_D A (w2 ++ tl1) → va_S A s.heap H1 locs1 → W p l e R s m args below meth c H1 locs1 0 0 Q (F0 m (pc + 3) ls (.int r0 :: rest))) : W p l e R s m args below meth c H locs 0 0 Q (F0 m pc ls st0) := by
  obtain ⟨hPu, hDu, hwc, hFu⟩ := g_subU isC hP hD hS hA hC hnc
  have hPc := hPu
  have hDc := hDu
  have hFc := hFu
  obtain ⟨hp1, hp2⟩ := g_pre (cy := cy) (av := (.ref b :: As)) hK hPc hDc
  refine va_calli (va_runV (As := As) (rest := rest) S hM cw ⟨hp1, hrc, hp2⟩ rfl hn hsize hst (lv_room hW) hdg ⟨Nat.zero_le _, Nat.zero_le _⟩) hS (fun q _ h => hFc q h) hFc (fun r u t H1 locs1 ht hvm hw hB hz1 hk1 hS1 => ?_)
  subst hw
  obtain ⟨h1, h2⟩ := g_afterU isC isR isP hP hD hS hA hC hnc hR hnr hdis hp hnp hk1 ht hB
  exact kk H1 locs1 h1 h2 hS1
theorem g_callViUE {r0 : Int32} (S : CallFix p m c cc nL s args Ts own) (hM : Met l y wsm rm (va_Pc (.ref b :: As) (gPE D cy adK adV H.size (wc ++ tl))) (gQi D cy (va_A (wc ++ tl) H.size) r0 (w1 ++ tl1)) 0 0 (va_A (wc ++ tl) H.size)) (cw : CallW R s args own C index y bytes maxL ret wsm rm 0 0 n)
    (hrc : ∃ cell : Cell, H[b]? = some cell ∧ cell.vm.isStatics = false ∧ s.vm.findClass C = some cell.cls) (hn : As.length = n) (hsize : ls.size = nL) {st0 : List Value} (hst : st0 = As.reverse ++ .ref b :: rest) (hW : (rest.map fun v => v.category).sum ≤ 8) (hdg : decode cc pc = .ok (.invokevirtual index, 3))
    (hE : gE adK adV A s s.heap) (hK : va_K D vwCl (TY cy) s) (hP : va_P D vwCl (ws ++ tl) H) (hD : va_D A (ws ++ tl)) (hS : va_S A s.heap H locs) (hA : ∀ q, s.heap.size ≤ q → A q) (isC isR isP : List Nat)
    (hC : isC.map (fun i => ws[i]?) = wc.map some) (hnc : va_nd isC = true) (hR : isR.map (fun i => ws[i]?) = (pick ws isR).map some) (hnr : va_nd isR = true) (hdis : ∀ i ∈ isR, i ∉ isC) (hp : isP.map (fun i => (pick ws isR ++ w1)[i]?) = w2.map some) (hnp : va_nd isP = true)
    (kk : ∀ (H1 : Heap) (locs1 : List Loc), va_P D vwCl (w2 ++ tl1) H1 → va_D A (w2 ++ tl1) → va_S A s.heap H1 locs1 → W p l e R s m args below meth c H1 locs1 0 0 Q (F0 m (pc + 3) ls (.int r0 :: rest))) : W p l e R s m args below meth c H locs 0 0 Q (F0 m pc ls st0) := by
  obtain ⟨hPu, hDu, hwc, hFu⟩ := g_subU isC hP hD hS hA hC hnc
  have hPc := hPu
  have hDc := hDu
  have hFc := hFu
  obtain ⟨hp1, hp2⟩ := g_preE (cy := cy) (av := (.ref b :: As)) hK hPc hDc hE hS hFc
  refine va_calli (va_runV (As := As) (rest := rest) S hM cw ⟨hp1, hrc, hp2⟩ rfl hn hsize hst (lv_room hW) hdg ⟨Nat.zero_le _, Nat.zero_le _⟩) hS (fun q _ h => hFc q h) hFc (fun r u t H1 locs1 ht hvm hw hB hz1 hk1 hS1 => ?_)
  subst hw
  obtain ⟨h1, h2⟩ := g_afterU isC isR isP hP hD hS hA hC hnc hR hnr hdis hp hnp hk1 ht hB
  exact kk H1 locs1 h1 h2 hS1
theorem g_callVvT (S : CallFix p m c cc nL s args Ts own) (hM : Met l y wsm rm (va_Pc (.ref b :: As) (gP D cy H.size wc)) (gQv D cy (va_A wc H.size) w1) 0 0 (va_A wc H.size)) (cw : CallW R s args own C index y bytes maxL ret wsm rm 0 0 n)
    (hrc : ∃ cell : Cell, H[b]? = some cell ∧ cell.vm.isStatics = false ∧ s.vm.findClass C = some cell.cls) (hn : As.length = n) (hsize : ls.size = nL) {st0 : List Value} (hst : st0 = As.reverse ++ .ref b :: rest) (hW : (rest.map fun v => v.category).sum ≤ 8) (hdg : decode cc pc = .ok (.invokevirtual index, 3))
    (hK : va_K D vwCl (TY cy) s) (hP : va_P D vwCl (ws ++ tl) H) (hD : va_D A (ws ++ tl)) (hS : va_S A s.heap H locs) (hA : ∀ q, s.heap.size ≤ q → A q) (isC isR isP : List Nat)
    (hC : isC.map (fun i => ws[i]?) = wc.map some) (hnc : va_nd isC = true) (hR : isR.map (fun i => ws[i]?) = (pick ws isR).map some) (hnr : va_nd isR = true) (hdis : ∀ i ∈ isR, i ∉ isC) (hp : isP.map (fun i => (pick ws isR ++ w1)[i]?) = w2.map some) (hnp : va_nd isP = true)
    (kk : ∀ (H1 : Heap) (locs1 : List Loc), va_P D vwCl (w2 ++ tl) H1 → va_D A (w2 ++ tl) → va_S A s.heap H1 locs1 → W p l e R s m args below meth c H1 locs1 0 0 Q (F0 m (pc + 3) ls rest)) : W p l e R s m args below meth c H locs 0 0 Q (F0 m pc ls st0) := by
  obtain ⟨hPu, hDu, hwc, hFu⟩ := g_subU isC hP hD hS hA hC hnc
  have hPc := (va_P_split hPu).1
  have hDc := (va_D_split hDu).1
  have hFc : ∀ q, va_A wc H.size q → A q := by
    rintro q (⟨k, e, hk⟩ | h)
    · exact hDc.2 k _ hk
    · exact hA q (Nat.le_trans hS.1 h)
  obtain ⟨hp1, hp2⟩ := g_pre (cy := cy) (av := (.ref b :: As)) hK hPc hDc
  refine va_callv (va_runV (As := As) (rest := rest) S hM cw ⟨hp1, hrc, hp2⟩ rfl hn hsize hst (lv_room hW) hdg ⟨Nat.zero_le _, Nat.zero_le _⟩) hS (fun q _ h => hFc q h) hFc (fun u t H1 locs1 ht hvm hw hB hz1 hk1 hS1 => ?_)
  obtain ⟨h1, h2⟩ := g_afterT isC isR isP hP hD hS hA hC hR hnr hdis hp hnp hk1 ht hB
  exact kk H1 locs1 h1 h2 hS1
theorem g_callVvTE (S : CallFix p m c cc nL s args Ts own) (hM : Met l y wsm rm (va_Pc (.ref b :: As) (gPE D cy adK adV H.size wc)) (gQv D cy (va_A wc H.size) w1) 0 0 (va_A wc H.size)) (cw : CallW R s args own C index y bytes maxL ret wsm rm 0 0 n)
    (hrc : ∃ cell : Cell, H[b]? = some cell ∧ cell.vm.isStatics = false ∧ s.vm.findClass C = some cell.cls) (hn : As.length = n) (hsize : ls.size = nL) {st0 : List Value} (hst : st0 = As.reverse ++ .ref b :: rest) (hW : (rest.map fun v => v.category).sum ≤ 8) (hdg : decode cc pc = .ok (.invokevirtual index, 3))
    (hE : gE adK adV A s s.heap) (hK : va_K D vwCl (TY cy) s) (hP : va_P D vwCl (ws ++ tl) H) (hD : va_D A (ws ++ tl)) (hS : va_S A s.heap H locs) (hA : ∀ q, s.heap.size ≤ q → A q) (isC isR isP : List Nat)
    (hC : isC.map (fun i => ws[i]?) = wc.map some) (hnc : va_nd isC = true) (hR : isR.map (fun i => ws[i]?) = (pick ws isR).map some) (hnr : va_nd isR = true) (hdis : ∀ i ∈ isR, i ∉ isC) (hp : isP.map (fun i => (pick ws isR ++ w1)[i]?) = w2.map some) (hnp : va_nd isP = true)
    (kk : ∀ (H1 : Heap) (locs1 : List Loc), va_P D vwCl (w2 ++ tl) H1 → va_D A (w2 ++ tl) → va_S A s.heap H1 locs1 → W p l e R s m args below meth c H1 locs1 0 0 Q (F0 m (pc + 3) ls rest)) : W p l e R s m args below meth c H locs 0 0 Q (F0 m pc ls st0) := by
  obtain ⟨hPu, hDu, hwc, hFu⟩ := g_subU isC hP hD hS hA hC hnc
  have hPc := (va_P_split hPu).1
  have hDc := (va_D_split hDu).1
  have hFc : ∀ q, va_A wc H.size q → A q := by
    rintro q (⟨k, e, hk⟩ | h)
    · exact hDc.2 k _ hk
    · exact hA q (Nat.le_trans hS.1 h)
  obtain ⟨hp1, hp2⟩ := g_preE (cy := cy) (av := (.ref b :: As)) hK hPc hDc hE hS hFc
  refine va_callv (va_runV (As := As) (rest := rest) S hM cw ⟨hp1, hrc, hp2⟩ rfl hn hsize hst (lv_room hW) hdg ⟨Nat.zero_le _, Nat.zero_le _⟩) hS (fun q _ h => hFc q h) hFc (fun u t H1 locs1 ht hvm hw hB hz1 hk1 hS1 => ?_)
  obtain ⟨h1, h2⟩ := g_afterT isC isR isP hP hD hS hA hC hR hnr hdis hp hnp hk1 ht hB
  exact kk H1 locs1 h1 h2 hS1
theorem g_callVvU (S : CallFix p m c cc nL s args Ts own) (hM : Met l y wsm rm (va_Pc (.ref b :: As) (gP D cy H.size (wc ++ tl))) (gQv D cy (va_A (wc ++ tl) H.size) (w1 ++ tl1)) 0 0 (va_A (wc ++ tl) H.size)) (cw : CallW R s args own C index y bytes maxL ret wsm rm 0 0 n)
    (hrc : ∃ cell : Cell, H[b]? = some cell ∧ cell.vm.isStatics = false ∧ s.vm.findClass C = some cell.cls) (hn : As.length = n) (hsize : ls.size = nL) {st0 : List Value} (hst : st0 = As.reverse ++ .ref b :: rest) (hW : (rest.map fun v => v.category).sum ≤ 8) (hdg : decode cc pc = .ok (.invokevirtual index, 3))
    (hK : va_K D vwCl (TY cy) s) (hP : va_P D vwCl (ws ++ tl) H) (hD : va_D A (ws ++ tl)) (hS : va_S A s.heap H locs) (hA : ∀ q, s.heap.size ≤ q → A q) (isC isR isP : List Nat)
    (hC : isC.map (fun i => ws[i]?) = wc.map some) (hnc : va_nd isC = true) (hR : isR.map (fun i => ws[i]?) = (pick ws isR).map some) (hnr : va_nd isR = true) (hdis : ∀ i ∈ isR, i ∉ isC) (hp : isP.map (fun i => (pick ws isR ++ w1)[i]?) = w2.map some) (hnp : va_nd isP = true)
    (kk : ∀ (H1 : Heap) (locs1 : List Loc), va_P D vwCl (w2 ++ tl1) H1 → va_D A (w2 ++ tl1) → va_S A s.heap H1 locs1 → W p l e R s m args below meth c H1 locs1 0 0 Q (F0 m (pc + 3) ls rest)) : W p l e R s m args below meth c H locs 0 0 Q (F0 m pc ls st0) := by
  obtain ⟨hPu, hDu, hwc, hFu⟩ := g_subU isC hP hD hS hA hC hnc
  have hPc := hPu
  have hDc := hDu
  have hFc := hFu
  obtain ⟨hp1, hp2⟩ := g_pre (cy := cy) (av := (.ref b :: As)) hK hPc hDc
  refine va_callv (va_runV (As := As) (rest := rest) S hM cw ⟨hp1, hrc, hp2⟩ rfl hn hsize hst (lv_room hW) hdg ⟨Nat.zero_le _, Nat.zero_le _⟩) hS (fun q _ h => hFc q h) hFc (fun u t H1 locs1 ht hvm hw hB hz1 hk1 hS1 => ?_)
  obtain ⟨h1, h2⟩ := g_afterU isC isR isP hP hD hS hA hC hnc hR hnr hdis hp hnp hk1 ht hB
  exact kk H1 locs1 h1 h2 hS1
theorem g_callVvUE (S : CallFix p m c cc nL s args Ts own) (hM : Met l y wsm rm (va_Pc (.ref b :: As) (gPE D cy adK adV H.size (wc ++ tl))) (gQv D cy (va_A (wc ++ tl) H.size) (w1 ++ tl1)) 0 0 (va_A (wc ++ tl) H.size)) (cw : CallW R s args own C index y bytes maxL ret wsm rm 0 0 n)
    (hrc : ∃ cell : Cell, H[b]? = some cell ∧ cell.vm.isStatics = false ∧ s.vm.findClass C = some cell.cls) (hn : As.length = n) (hsize : ls.size = nL) {st0 : List Value} (hst : st0 = As.reverse ++ .ref b :: rest) (hW : (rest.map fun v => v.category).sum ≤ 8) (hdg : decode cc pc = .ok (.invokevirtual index, 3))
    (hE : gE adK adV A s s.heap) (hK : va_K D vwCl (TY cy) s) (hP : va_P D vwCl (ws ++ tl) H) (hD : va_D A (ws ++ tl)) (hS : va_S A s.heap H locs) (hA : ∀ q, s.heap.size ≤ q → A q) (isC isR isP : List Nat)
    (hC : isC.map (fun i => ws[i]?) = wc.map some) (hnc : va_nd isC = true) (hR : isR.map (fun i => ws[i]?) = (pick ws isR).map some) (hnr : va_nd isR = true) (hdis : ∀ i ∈ isR, i ∉ isC) (hp : isP.map (fun i => (pick ws isR ++ w1)[i]?) = w2.map some) (hnp : va_nd isP = true)
    (kk : ∀ (H1 : Heap) (locs1 : List Loc), va_P D vwCl (w2 ++ tl1) H1 → va_D A (w2 ++ tl1) → va_S A s.heap H1 locs1 → W p l e R s m args below meth c H1 locs1 0 0 Q (F0 m (pc + 3) ls rest)) : W p l e R s m args below meth c H locs 0 0 Q (F0 m pc ls st0) := by
  obtain ⟨hPu, hDu, hwc, hFu⟩ := g_subU isC hP hD hS hA hC hnc
  have hPc := hPu
  have hDc := hDu
  have hFc := hFu
  obtain ⟨hp1, hp2⟩ := g_preE (cy := cy) (av := (.ref b :: As)) hK hPc hDc hE hS hFc
  refine va_callv (va_runV (As := As) (rest := rest) S hM cw ⟨hp1, hrc, hp2⟩ rfl hn hsize hst (lv_room hW) hdg ⟨Nat.zero_le _, Nat.zero_le _⟩) hS (fun q _ h => hFc q h) hFc (fun u t H1 locs1 ht hvm hw hB hz1 hk1 hS1 => ?_)
  obtain ⟨h1, h2⟩ := g_afterU isC isR isP hP hD hS hA hC hnc hR hnr hdis hp hnp hk1 ht hB
  exact kk H1 locs1 h1 h2 hS1
theorem g_callVrT {r0 : Nat} (S : CallFix p m c cc nL s args Ts own) (hM : Met l y wsm rm (va_Pc (.ref b :: As) (gP D cy H.size wc)) (gQr D cy (va_A wc H.size) r0 w1) 0 0 (va_A wc H.size)) (cw : CallW R s args own C index y bytes maxL ret wsm rm 0 0 n)
    (hrc : ∃ cell : Cell, H[b]? = some cell ∧ cell.vm.isStatics = false ∧ s.vm.findClass C = some cell.cls) (hn : As.length = n) (hsize : ls.size = nL) {st0 : List Value} (hst : st0 = As.reverse ++ .ref b :: rest) (hW : (rest.map fun v => v.category).sum ≤ 8) (hdg : decode cc pc = .ok (.invokevirtual index, 3))
    (hK : va_K D vwCl (TY cy) s) (hP : va_P D vwCl (ws ++ tl) H) (hD : va_D A (ws ++ tl)) (hS : va_S A s.heap H locs) (hA : ∀ q, s.heap.size ≤ q → A q) (isC isR isP : List Nat)
    (hC : isC.map (fun i => ws[i]?) = wc.map some) (hnc : va_nd isC = true) (hR : isR.map (fun i => ws[i]?) = (pick ws isR).map some) (hnr : va_nd isR = true) (hdis : ∀ i ∈ isR, i ∉ isC) (hp : isP.map (fun i => (pick ws isR ++ w1)[i]?) = w2.map some) (hnp : va_nd isP = true)
    (kk : ∀ (H1 : Heap) (locs1 : List Loc), va_P D vwCl (w2 ++ tl) H1 → va_D A (w2 ++ tl) → va_S A s.heap H1 locs1 → W p l e R s m args below meth c H1 locs1 0 0 Q (F0 m (pc + 3) ls (.ref r0 :: rest))) : W p l e R s m args below meth c H locs 0 0 Q (F0 m pc ls st0) := by
  obtain ⟨hPu, hDu, hwc, hFu⟩ := g_subU isC hP hD hS hA hC hnc
  have hPc := (va_P_split hPu).1
  have hDc := (va_D_split hDu).1
  have hFc : ∀ q, va_A wc H.size q → A q := by
    rintro q (⟨k, e, hk⟩ | h)
    · exact hDc.2 k _ hk
    · exact hA q (Nat.le_trans hS.1 h)
  obtain ⟨hp1, hp2⟩ := g_pre (cy := cy) (av := (.ref b :: As)) hK hPc hDc
  refine va_callr (va_runV (As := As) (rest := rest) S hM cw ⟨hp1, hrc, hp2⟩ rfl hn hsize hst (lv_room hW) hdg ⟨Nat.zero_le _, Nat.zero_le _⟩) hS (fun q _ h => hFc q h) hFc (fun u a t H1 locs1 ht hvm hw hB hz1 hk1 hS1 => ?_)
  obtain ⟨rfl, hB⟩ := hB
  obtain ⟨h1, h2⟩ := g_afterT isC isR isP hP hD hS hA hC hR hnr hdis hp hnp hk1 ht hB
  exact kk H1 locs1 h1 h2 hS1
theorem g_callVrTE {r0 : Nat} (S : CallFix p m c cc nL s args Ts own) (hM : Met l y wsm rm (va_Pc (.ref b :: As) (gPE D cy adK adV H.size wc)) (gQr D cy (va_A wc H.size) r0 w1) 0 0 (va_A wc H.size)) (cw : CallW R s args own C index y bytes maxL ret wsm rm 0 0 n)
    (hrc : ∃ cell : Cell, H[b]? = some cell ∧ cell.vm.isStatics = false ∧ s.vm.findClass C = some cell.cls) (hn : As.length = n) (hsize : ls.size = nL) {st0 : List Value} (hst : st0 = As.reverse ++ .ref b :: rest) (hW : (rest.map fun v => v.category).sum ≤ 8) (hdg : decode cc pc = .ok (.invokevirtual index, 3))
    (hE : gE adK adV A s s.heap) (hK : va_K D vwCl (TY cy) s) (hP : va_P D vwCl (ws ++ tl) H) (hD : va_D A (ws ++ tl)) (hS : va_S A s.heap H locs) (hA : ∀ q, s.heap.size ≤ q → A q) (isC isR isP : List Nat)
    (hC : isC.map (fun i => ws[i]?) = wc.map some) (hnc : va_nd isC = true) (hR : isR.map (fun i => ws[i]?) = (pick ws isR).map some) (hnr : va_nd isR = true) (hdis : ∀ i ∈ isR, i ∉ isC) (hp : isP.map (fun i => (pick ws isR ++ w1)[i]?) = w2.map some) (hnp : va_nd isP = true)
    (kk : ∀ (H1 : Heap) (locs1 : List Loc), va_P D vwCl (w2 ++ tl) H1 → va_D A (w2 ++ tl) → va_S A s.heap H1 locs1 → W p l e R s m args below meth c H1 locs1 0 0 Q (F0 m (pc + 3) ls (.ref r0 :: rest))) : W p l e R s m args below meth c H locs 0 0 Q (F0 m pc ls st0) := by
  obtain ⟨hPu, hDu, hwc, hFu⟩ := g_subU isC hP hD hS hA hC hnc
  have hPc := (va_P_split hPu).1
  have hDc := (va_D_split hDu).1
  have hFc : ∀ q, va_A wc H.size q → A q := by
    rintro q (⟨k, e, hk⟩ | h)
    · exact hDc.2 k _ hk
    · exact hA q (Nat.le_trans hS.1 h)
  obtain ⟨hp1, hp2⟩ := g_preE (cy := cy) (av := (.ref b :: As)) hK hPc hDc hE hS hFc
  refine va_callr (va_runV (As := As) (rest := rest) S hM cw ⟨hp1, hrc, hp2⟩ rfl hn hsize hst (lv_room hW) hdg ⟨Nat.zero_le _, Nat.zero_le _⟩) hS (fun q _ h => hFc q h) hFc (fun u a t H1 locs1 ht hvm hw hB hz1 hk1 hS1 => ?_)
  obtain ⟨rfl, hB⟩ := hB
  obtain ⟨h1, h2⟩ := g_afterT isC isR isP hP hD hS hA hC hR hnr hdis hp hnp hk1 ht hB
  exact kk H1 locs1 h1 h2 hS1
theorem g_callVrU {r0 : Nat} (S : CallFix p m c cc nL s args Ts own) (hM : Met l y wsm rm (va_Pc (.ref b :: As) (gP D cy H.size (wc ++ tl))) (gQr D cy (va_A (wc ++ tl) H.size) r0 (w1 ++ tl1)) 0 0 (va_A (wc ++ tl) H.size)) (cw : CallW R s args own C index y bytes maxL ret wsm rm 0 0 n)
    (hrc : ∃ cell : Cell, H[b]? = some cell ∧ cell.vm.isStatics = false ∧ s.vm.findClass C = some cell.cls) (hn : As.length = n) (hsize : ls.size = nL) {st0 : List Value} (hst : st0 = As.reverse ++ .ref b :: rest) (hW : (rest.map fun v => v.category).sum ≤ 8) (hdg : decode cc pc = .ok (.invokevirtual index, 3))
    (hK : va_K D vwCl (TY cy) s) (hP : va_P D vwCl (ws ++ tl) H) (hD : va_D A (ws ++ tl)) (hS : va_S A s.heap H locs) (hA : ∀ q, s.heap.size ≤ q → A q) (isC isR isP : List Nat)
    (hC : isC.map (fun i => ws[i]?) = wc.map some) (hnc : va_nd isC = true) (hR : isR.map (fun i => ws[i]?) = (pick ws isR).map some) (hnr : va_nd isR = true) (hdis : ∀ i ∈ isR, i ∉ isC) (hp : isP.map (fun i => (pick ws isR ++ w1)[i]?) = w2.map some) (hnp : va_nd isP = true)
    (kk : ∀ (H1 : Heap) (locs1 : List Loc), va_P D vwCl (w2 ++ tl1) H1 → va_D A (w2 ++ tl1) → va_S A s.heap H1 locs1 → W p l e R s m args below meth c H1 locs1 0 0 Q (F0 m (pc + 3) ls (.ref r0 :: rest))) : W p l e R s m args below meth c H locs 0 0 Q (F0 m pc ls st0) := by
  obtain ⟨hPu, hDu, hwc, hFu⟩ := g_subU isC hP hD hS hA hC hnc
  have hPc := hPu
  have hDc := hDu
  have hFc := hFu
  obtain ⟨hp1, hp2⟩ := g_pre (cy := cy) (av := (.ref b :: As)) hK hPc hDc
  refine va_callr (va_runV (As := As) (rest := rest) S hM cw ⟨hp1, hrc, hp2⟩ rfl hn hsize hst (lv_room hW) hdg ⟨Nat.zero_le _, Nat.zero_le _⟩) hS (fun q _ h => hFc q h) hFc (fun u a t H1 locs1 ht hvm hw hB hz1 hk1 hS1 => ?_)
  obtain ⟨rfl, hB⟩ := hB
  obtain ⟨h1, h2⟩ := g_afterU isC isR isP hP hD hS hA hC hnc hR hnr hdis hp hnp hk1 ht hB
  exact kk H1 locs1 h1 h2 hS1
theorem g_callVrUE {r0 : Nat} (S : CallFix p m c cc nL s args Ts own) (hM : Met l y wsm rm (va_Pc (.ref b :: As) (gPE D cy adK adV H.size (wc ++ tl))) (gQr D cy (va_A (wc ++ tl) H.size) r0 (w1 ++ tl1)) 0 0 (va_A (wc ++ tl) H.size)) (cw : CallW R s args own C index y bytes maxL ret wsm rm 0 0 n)
    (hrc : ∃ cell : Cell, H[b]? = some cell ∧ cell.vm.isStatics = false ∧ s.vm.findClass C = some cell.cls) (hn : As.length = n) (hsize : ls.size = nL) {st0 : List Value} (hst : st0 = As.reverse ++ .ref b :: rest) (hW : (rest.map fun v => v.category).sum ≤ 8) (hdg : decode cc pc = .ok (.invokevirtual index, 3))
    (hE : gE adK adV A s s.heap) (hK : va_K D vwCl (TY cy) s) (hP : va_P D vwCl (ws ++ tl) H) (hD : va_D A (ws ++ tl)) (hS : va_S A s.heap H locs) (hA : ∀ q, s.heap.size ≤ q → A q) (isC isR isP : List Nat)
    (hC : isC.map (fun i => ws[i]?) = wc.map some) (hnc : va_nd isC = true) (hR : isR.map (fun i => ws[i]?) = (pick ws isR).map some) (hnr : va_nd isR = true) (hdis : ∀ i ∈ isR, i ∉ isC) (hp : isP.map (fun i => (pick ws isR ++ w1)[i]?) = w2.map some) (hnp : va_nd isP = true)
    (kk : ∀ (H1 : Heap) (locs1 : List Loc), va_P D vwCl (w2 ++ tl1) H1 → va_D A (w2 ++ tl1) → va_S A s.heap H1 locs1 → W p l e R s m args below meth c H1 locs1 0 0 Q (F0 m (pc + 3) ls (.ref r0 :: rest))) : W p l e R s m args below meth c H locs 0 0 Q (F0 m pc ls st0) := by
  obtain ⟨hPu, hDu, hwc, hFu⟩ := g_subU isC hP hD hS hA hC hnc
  have hPc := hPu
  have hDc := hDu
  have hFc := hFu
  obtain ⟨hp1, hp2⟩ := g_preE (cy := cy) (av := (.ref b :: As)) hK hPc hDc hE hS hFc
  refine va_callr (va_runV (As := As) (rest := rest) S hM cw ⟨hp1, hrc, hp2⟩ rfl hn hsize hst (lv_room hW) hdg ⟨Nat.zero_le _, Nat.zero_le _⟩) hS (fun q _ h => hFc q h) hFc (fun u a t H1 locs1 ht hvm hw hB hz1 hk1 hS1 => ?_)
  obtain ⟨rfl, hB⟩ := hB
  obtain ⟨h1, h2⟩ := g_afterU isC isR isP hP hD hS hA hC hnc hR hnr hdis hp hnp hk1 ht hB
  exact kk H1 locs1 h1 h2 hS1
theorem g_callSiT {r0 : Int32} (S : CallFix p m c cc nL s args Ts own) (hM : Met l y wsm rm (va_Pc As (gP D cy H.size wc)) (gQi D cy (va_A wc H.size) r0 w1) 0 0 (va_A wc H.size)) (cw : CallB R s args own index y bytes maxL ret wsm rm 0 0 n ∧ (Cond.static y).before args s = true)
    (hn : As.length = n) (hsize : ls.size = nL) {st0 : List Value} (hst : st0 = As.reverse ++ rest) (hW : (rest.map fun v => v.category).sum ≤ 8) (hdg : decode cc pc = .ok (.invokestatic index, 3))
    (hK : va_K D vwCl (TY cy) s) (hP : va_P D vwCl (ws ++ tl) H) (hD : va_D A (ws ++ tl)) (hS : va_S A s.heap H locs) (hA : ∀ q, s.heap.size ≤ q → A q) (isC isR isP : List Nat)
    (hC : isC.map (fun i => ws[i]?) = wc.map some) (hnc : va_nd isC = true) (hR : isR.map (fun i => ws[i]?) = (pick ws isR).map some) (hnr : va_nd isR = true) (hdis : ∀ i ∈ isR, i ∉ isC) (hp : isP.map (fun i => (pick ws isR ++ w1)[i]?) = w2.map some) (hnp : va_nd isP = true)
    (kk : ∀ (H1 : Heap) (locs1 : List Loc), va_P D vwCl (w2 ++ tl) H1 → va_D A (w2 ++ tl) → va_S A s.heap H1 locs1 → W p l e R s m args below meth c H1 locs1 0 0 Q (F0 m (pc + 3) ls (.int r0 :: rest))) : W p l e R s m args below meth c H locs 0 0 Q (F0 m pc ls st0) := by
  obtain ⟨hPu, hDu, hwc, hFu⟩ := g_subU isC hP hD hS hA hC hnc
  have hPc := (va_P_split hPu).1
  have hDc := (va_D_split hDu).1
  have hFc : ∀ q, va_A wc H.size q → A q := by
    rintro q (⟨k, e, hk⟩ | h)
    · exact hDc.2 k _ hk
    · exact hA q (Nat.le_trans hS.1 h)
  obtain ⟨hp1, hp2⟩ := g_pre (cy := cy) (av := As) hK hPc hDc
  refine va_calli (va_runS (As := As) (rest := rest) S hM cw ⟨hp1, hp2⟩ rfl hn hsize hst (lv_room hW) hdg ⟨Nat.zero_le _, Nat.zero_le _⟩) hS (fun q _ h => hFc q h) hFc (fun r u t H1 locs1 ht hvm hw hB hz1 hk1 hS1 => ?_)
  subst hw
  obtain ⟨h1, h2⟩ := g_afterT isC isR isP hP hD hS hA hC hR hnr hdis hp hnp hk1 ht hB
  exact kk H1 locs1 h1 h2 hS1
theorem g_callSiTE {r0 : Int32} (S : CallFix p m c cc nL s args Ts own) (hM : Met l y wsm rm (va_Pc As (gPE D cy adK adV H.size wc)) (gQi D cy (va_A wc H.size) r0 w1) 0 0 (va_A wc H.size)) (cw : CallB R s args own index y bytes maxL ret wsm rm 0 0 n ∧ (Cond.static y).before args s = true)
    (hn : As.length = n) (hsize : ls.size = nL) {st0 : List Value} (hst : st0 = As.reverse ++ rest) (hW : (rest.map fun v => v.category).sum ≤ 8) (hdg : decode cc pc = .ok (.invokestatic index, 3))
    (hE : gE adK adV A s s.heap) (hK : va_K D vwCl (TY cy) s) (hP : va_P D vwCl (ws ++ tl) H) (hD : va_D A (ws ++ tl)) (hS : va_S A s.heap H locs) (hA : ∀ q, s.heap.size ≤ q → A q) (isC isR isP : List Nat)
    (hC : isC.map (fun i => ws[i]?) = wc.map some) (hnc : va_nd isC = true) (hR : isR.map (fun i => ws[i]?) = (pick ws isR).map some) (hnr : va_nd isR = true) (hdis : ∀ i ∈ isR, i ∉ isC) (hp : isP.map (fun i => (pick ws isR ++ w1)[i]?) = w2.map some) (hnp : va_nd isP = true)
    (kk : ∀ (H1 : Heap) (locs1 : List Loc), va_P D vwCl (w2 ++ tl) H1 → va_D A (w2 ++ tl) → va_S A s.heap H1 locs1 → W p l e R s m args below meth c H1 locs1 0 0 Q (F0 m (pc + 3) ls (.int r0 :: rest))) : W p l e R s m args below meth c H locs 0 0 Q (F0 m pc ls st0) := by
  obtain ⟨hPu, hDu, hwc, hFu⟩ := g_subU isC hP hD hS hA hC hnc
  have hPc := (va_P_split hPu).1
  have hDc := (va_D_split hDu).1
  have hFc : ∀ q, va_A wc H.size q → A q := by
    rintro q (⟨k, e, hk⟩ | h)
    · exact hDc.2 k _ hk
    · exact hA q (Nat.le_trans hS.1 h)
  obtain ⟨hp1, hp2⟩ := g_preE (cy := cy) (av := As) hK hPc hDc hE hS hFc
  refine va_calli (va_runS (As := As) (rest := rest) S hM cw ⟨hp1, hp2⟩ rfl hn hsize hst (lv_room hW) hdg ⟨Nat.zero_le _, Nat.zero_le _⟩) hS (fun q _ h => hFc q h) hFc (fun r u t H1 locs1 ht hvm hw hB hz1 hk1 hS1 => ?_)
  subst hw
  obtain ⟨h1, h2⟩ := g_afterT isC isR isP hP hD hS hA hC hR hnr hdis hp hnp hk1 ht hB
  exact kk H1 locs1 h1 h2 hS1
theorem g_callSiU {r0 : Int32} (S : CallFix p m c cc nL s args Ts own) (hM : Met l y wsm rm (va_Pc As (gP D cy H.size (wc ++ tl))) (gQi D cy (va_A (wc ++ tl) H.size) r0 (w1 ++ tl1)) 0 0 (va_A (wc ++ tl) H.size)) (cw : CallB R s args own index y bytes maxL ret wsm rm 0 0 n ∧ (Cond.static y).before args s = true)
    (hn : As.length = n) (hsize : ls.size = nL) {st0 : List Value} (hst : st0 = As.reverse ++ rest) (hW : (rest.map fun v => v.category).sum ≤ 8) (hdg : decode cc pc = .ok (.invokestatic index, 3))
    (hK : va_K D vwCl (TY cy) s) (hP : va_P D vwCl (ws ++ tl) H) (hD : va_D A (ws ++ tl)) (hS : va_S A s.heap H locs) (hA : ∀ q, s.heap.size ≤ q → A q) (isC isR isP : List Nat)
    (hC : isC.map (fun i => ws[i]?) = wc.map some) (hnc : va_nd isC = true) (hR : isR.map (fun i => ws[i]?) = (pick ws isR).map some) (hnr : va_nd isR = true) (hdis : ∀ i ∈ isR, i ∉ isC) (hp : isP.map (fun i => (pick ws isR ++ w1)[i]?) = w2.map some) (hnp : va_nd isP = true)
    (kk : ∀ (H1 : Heap) (locs1 : List Loc), va_P D vwCl (w2 ++ tl1) H1 → va_D A (w2 ++ tl1) → va_S A s.heap H1 locs1 → W p l e R s m args below meth c H1 locs1 0 0 Q (F0 m (pc + 3) ls (.int r0 :: rest))) : W p l e R s m args below meth c H locs 0 0 Q (F0 m pc ls st0) := by
  obtain ⟨hPu, hDu, hwc, hFu⟩ := g_subU isC hP hD hS hA hC hnc
  have hPc := hPu
  have hDc := hDu
  have hFc := hFu
  obtain ⟨hp1, hp2⟩ := g_pre (cy := cy) (av := As) hK hPc hDc
  refine va_calli (va_runS (As := As) (rest := rest) S hM cw ⟨hp1, hp2⟩ rfl hn hsize hst (lv_room hW) hdg ⟨Nat.zero_le _, Nat.zero_le _⟩) hS (fun q _ h => hFc q h) hFc (fun r u t H1 locs1 ht hvm hw hB hz1 hk1 hS1 => ?_)
  subst hw
  obtain ⟨h1, h2⟩ := g_afterU isC isR isP hP hD hS hA hC hnc hR hnr hdis hp hnp hk1 ht hB
  exact kk H1 locs1 h1 h2 hS1
theorem g_callSiUE {r0 : Int32} (S : CallFix p m c cc nL s args Ts own) (hM : Met l y wsm rm (va_Pc As (gPE D cy adK adV H.size (wc ++ tl))) (gQi D cy (va_A (wc ++ tl) H.size) r0 (w1 ++ tl1)) 0 0 (va_A (wc ++ tl) H.size)) (cw : CallB R s args own index y bytes maxL ret wsm rm 0 0 n ∧ (Cond.static y).before args s = true)
    (hn : As.length = n) (hsize : ls.size = nL) {st0 : List Value} (hst : st0 = As.reverse ++ rest) (hW : (rest.map fun v => v.category).sum ≤ 8) (hdg : decode cc pc = .ok (.invokestatic index, 3))
    (hE : gE adK adV A s s.heap) (hK : va_K D vwCl (TY cy) s) (hP : va_P D vwCl (ws ++ tl) H) (hD : va_D A (ws ++ tl)) (hS : va_S A s.heap H locs) (hA : ∀ q, s.heap.size ≤ q → A q) (isC isR isP : List Nat)
    (hC : isC.map (fun i => ws[i]?) = wc.map some) (hnc : va_nd isC = true) (hR : isR.map (fun i => ws[i]?) = (pick ws isR).map some) (hnr : va_nd isR = true) (hdis : ∀ i ∈ isR, i ∉ isC) (hp : isP.map (fun i => (pick ws isR ++ w1)[i]?) = w2.map some) (hnp : va_nd isP = true)
    (kk : ∀ (H1 : Heap) (locs1 : List Loc), va_P D vwCl (w2 ++ tl1) H1 → va_D A (w2 ++ tl1) → va_S A s.heap H1 locs1 → W p l e R s m args below meth c H1 locs1 0 0 Q (F0 m (pc + 3) ls (.int r0 :: rest))) : W p l e R s m args below meth c H locs 0 0 Q (F0 m pc ls st0) := by
  obtain ⟨hPu, hDu, hwc, hFu⟩ := g_subU isC hP hD hS hA hC hnc
  have hPc := hPu
  have hDc := hDu
  have hFc := hFu
  obtain ⟨hp1, hp2⟩ := g_preE (cy := cy) (av := As) hK hPc hDc hE hS hFc
  refine va_calli (va_runS (As := As) (rest := rest) S hM cw ⟨hp1, hp2⟩ rfl hn hsize hst (lv_room hW) hdg ⟨Nat.zero_le _, Nat.zero_le _⟩) hS (fun q _ h => hFc q h) hFc (fun r u t H1 locs1 ht hvm hw hB hz1 hk1 hS1 => ?_)
  subst hw
  obtain ⟨h1, h2⟩ := g_afterU isC isR isP hP hD hS hA hC hnc hR hnr hdis hp hnp hk1 ht hB
  exact kk H1 locs1 h1 h2 hS1
theorem g_callSvT (S : CallFix p m c cc nL s args Ts own) (hM : Met l y wsm rm (va_Pc As (gP D cy H.size wc)) (gQv D cy (va_A wc H.size) w1) 0 0 (va_A wc H.size)) (cw : CallB R s args own index y bytes maxL ret wsm rm 0 0 n ∧ (Cond.static y).before args s = true)
    (hn : As.length = n) (hsize : ls.size = nL) {st0 : List Value} (hst : st0 = As.reverse ++ rest) (hW : (rest.map fun v => v.category).sum ≤ 8) (hdg : decode cc pc = .ok (.invokestatic index, 3))
    (hK : va_K D vwCl (TY cy) s) (hP : va_P D vwCl (ws ++ tl) H) (hD : va_D A (ws ++ tl)) (hS : va_S A s.heap H locs) (hA : ∀ q, s.heap.size ≤ q → A q) (isC isR isP : List Nat)
    (hC : isC.map (fun i => ws[i]?) = wc.map some) (hnc : va_nd isC = true) (hR : isR.map (fun i => ws[i]?) = (pick ws isR).map some) (hnr : va_nd isR = true) (hdis : ∀ i ∈ isR, i ∉ isC) (hp : isP.map (fun i => (pick ws isR ++ w1)[i]?) = w2.map some) (hnp : va_nd isP = true)
    (kk : ∀ (H1 : Heap) (locs1 : List Loc), va_P D vwCl (w2 ++ tl) H1 → va_D A (w2 ++ tl) → va_S A s.heap H1 locs1 → W p l e R s m args below meth c H1 locs1 0 0 Q (F0 m (pc + 3) ls rest)) : W p l e R s m args below meth c H locs 0 0 Q (F0 m pc ls st0) := by
  obtain ⟨hPu, hDu, hwc, hFu⟩ := g_subU isC hP hD hS hA hC hnc
  have hPc := (va_P_split hPu).1
  have hDc := (va_D_split hDu).1
  have hFc : ∀ q, va_A wc H.size q → A q := by
    rintro q (⟨k, e, hk⟩ | h)
    · exact hDc.2 k _ hk
    · exact hA q (Nat.le_trans hS.1 h)
  obtain ⟨hp1, hp2⟩ := g_pre (cy := cy) (av := As) hK hPc hDc
  refine va_callv (va_runS (As := As) (rest := rest) S hM cw ⟨hp1, hp2⟩ rfl hn hsize hst (lv_room hW) hdg ⟨Nat.zero_le _, Nat.zero_le _⟩) hS (fun q _ h => hFc q h) hFc (fun u t H1 locs1 ht hvm hw hB hz1 hk1 hS1 => ?_)
  obtain ⟨h1, h2⟩ := g_afterT isC isR isP hP hD hS hA hC hR hnr hdis hp hnp hk1 ht hB
  exact kk H1 locs1 h1 h2 hS1
theorem g_callSvTE (S : CallFix p m c cc nL s args Ts own) (hM : Met l y wsm rm (va_Pc As (gPE D cy adK adV H.size wc)) (gQv D cy (va_A wc H.size) w1) 0 0 (va_A wc H.size)) (cw : CallB R s args own index y bytes maxL ret wsm rm 0 0 n ∧ (Cond.static y).before args s = true)
    (hn : As.length = n) (hsize : ls.size = nL) {st0 : List Value} (hst : st0 = As.reverse ++ rest) (hW : (rest.map fun v => v.category).sum ≤ 8) (hdg : decode cc pc = .ok (.invokestatic index, 3))
    (hE : gE adK adV A s s.heap) (hK : va_K D vwCl (TY cy) s) (hP : va_P D vwCl (ws ++ tl) H) (hD : va_D A (ws ++ tl)) (hS : va_S A s.heap H locs) (hA : ∀ q, s.heap.size ≤ q → A q) (isC isR isP : List Nat)
    (hC : isC.map (fun i => ws[i]?) = wc.map some) (hnc : va_nd isC = true) (hR : isR.map (fun i => ws[i]?) = (pick ws isR).map some) (hnr : va_nd isR = true) (hdis : ∀ i ∈ isR, i ∉ isC) (hp : isP.map (fun i => (pick ws isR ++ w1)[i]?) = w2.map some) (hnp : va_nd isP = true)
    (kk : ∀ (H1 : Heap) (locs1 : List Loc), va_P D vwCl (w2 ++ tl) H1 → va_D A (w2 ++ tl) → va_S A s.heap H1 locs1 → W p l e R s m args below meth c H1 locs1 0 0 Q (F0 m (pc + 3) ls rest)) : W p l e R s m args below meth c H locs 0 0 Q (F0 m pc ls st0) := by
  obtain ⟨hPu, hDu, hwc, hFu⟩ := g_subU isC hP hD hS hA hC hnc
  have hPc := (va_P_split hPu).1
  have hDc := (va_D_split hDu).1
  have hFc : ∀ q, va_A wc H.size q → A q := by
    rintro q (⟨k, e, hk⟩ | h)
    · exact hDc.2 k _ hk
    · exact hA q (Nat.le_trans hS.1 h)
  obtain ⟨hp1, hp2⟩ := g_preE (cy := cy) (av := As) hK hPc hDc hE hS hFc
  refine va_callv (va_runS (As := As) (rest := rest) S hM cw ⟨hp1, hp2⟩ rfl hn hsize hst (lv_room hW) hdg ⟨Nat.zero_le _, Nat.zero_le _⟩) hS (fun q _ h => hFc q h) hFc (fun u t H1 locs1 ht hvm hw hB hz1 hk1 hS1 => ?_)
  obtain ⟨h1, h2⟩ := g_afterT isC isR isP hP hD hS hA hC hR hnr hdis hp hnp hk1 ht hB
  exact kk H1 locs1 h1 h2 hS1
theorem g_callSvU (S : CallFix p m c cc nL s args Ts own) (hM : Met l y wsm rm (va_Pc As (gP D cy H.size (wc ++ tl))) (gQv D cy (va_A (wc ++ tl) H.size) (w1 ++ tl1)) 0 0 (va_A (wc ++ tl) H.size)) (cw : CallB R s args own index y bytes maxL ret wsm rm 0 0 n ∧ (Cond.static y).before args s = true)
    (hn : As.length = n) (hsize : ls.size = nL) {st0 : List Value} (hst : st0 = As.reverse ++ rest) (hW : (rest.map fun v => v.category).sum ≤ 8) (hdg : decode cc pc = .ok (.invokestatic index, 3))
    (hK : va_K D vwCl (TY cy) s) (hP : va_P D vwCl (ws ++ tl) H) (hD : va_D A (ws ++ tl)) (hS : va_S A s.heap H locs) (hA : ∀ q, s.heap.size ≤ q → A q) (isC isR isP : List Nat)
    (hC : isC.map (fun i => ws[i]?) = wc.map some) (hnc : va_nd isC = true) (hR : isR.map (fun i => ws[i]?) = (pick ws isR).map some) (hnr : va_nd isR = true) (hdis : ∀ i ∈ isR, i ∉ isC) (hp : isP.map (fun i => (pick ws isR ++ w1)[i]?) = w2.map some) (hnp : va_nd isP = true)
    (kk : ∀ (H1 : Heap) (locs1 : List Loc), va_P D vwCl (w2 ++ tl1) H1 → va_D A (w2 ++ tl1) → va_S A s.heap H1 locs1 → W p l e R s m args below meth c H1 locs1 0 0 Q (F0 m (pc + 3) ls rest)) : W p l e R s m args below meth c H locs 0 0 Q (F0 m pc ls st0) := by
  obtain ⟨hPu, hDu, hwc, hFu⟩ := g_subU isC hP hD hS hA hC hnc
  have hPc := hPu
  have hDc := hDu
  have hFc := hFu
  obtain ⟨hp1, hp2⟩ := g_pre (cy := cy) (av := As) hK hPc hDc
  refine va_callv (va_runS (As := As) (rest := rest) S hM cw ⟨hp1, hp2⟩ rfl hn hsize hst (lv_room hW) hdg ⟨Nat.zero_le _, Nat.zero_le _⟩) hS (fun q _ h => hFc q h) hFc (fun u t H1 locs1 ht hvm hw hB hz1 hk1 hS1 => ?_)
  obtain ⟨h1, h2⟩ := g_afterU isC isR isP hP hD hS hA hC hnc hR hnr hdis hp hnp hk1 ht hB
  exact kk H1 locs1 h1 h2 hS1
theorem g_callSvUE (S : CallFix p m c cc nL s args Ts own) (hM : Met l y wsm rm (va_Pc As (gPE D cy adK adV H.size (wc ++ tl))) (gQv D cy (va_A (wc ++ tl) H.size) (w1 ++ tl1)) 0 0 (va_A (wc ++ tl) H.size)) (cw : CallB R s args own index y bytes maxL ret wsm rm 0 0 n ∧ (Cond.static y).before args s = true)
    (hn : As.length = n) (hsize : ls.size = nL) {st0 : List Value} (hst : st0 = As.reverse ++ rest) (hW : (rest.map fun v => v.category).sum ≤ 8) (hdg : decode cc pc = .ok (.invokestatic index, 3))
    (hE : gE adK adV A s s.heap) (hK : va_K D vwCl (TY cy) s) (hP : va_P D vwCl (ws ++ tl) H) (hD : va_D A (ws ++ tl)) (hS : va_S A s.heap H locs) (hA : ∀ q, s.heap.size ≤ q → A q) (isC isR isP : List Nat)
    (hC : isC.map (fun i => ws[i]?) = wc.map some) (hnc : va_nd isC = true) (hR : isR.map (fun i => ws[i]?) = (pick ws isR).map some) (hnr : va_nd isR = true) (hdis : ∀ i ∈ isR, i ∉ isC) (hp : isP.map (fun i => (pick ws isR ++ w1)[i]?) = w2.map some) (hnp : va_nd isP = true)
    (kk : ∀ (H1 : Heap) (locs1 : List Loc), va_P D vwCl (w2 ++ tl1) H1 → va_D A (w2 ++ tl1) → va_S A s.heap H1 locs1 → W p l e R s m args below meth c H1 locs1 0 0 Q (F0 m (pc + 3) ls rest)) : W p l e R s m args below meth c H locs 0 0 Q (F0 m pc ls st0) := by
  obtain ⟨hPu, hDu, hwc, hFu⟩ := g_subU isC hP hD hS hA hC hnc
  have hPc := hPu
  have hDc := hDu
  have hFc := hFu
  obtain ⟨hp1, hp2⟩ := g_preE (cy := cy) (av := As) hK hPc hDc hE hS hFc
  refine va_callv (va_runS (As := As) (rest := rest) S hM cw ⟨hp1, hp2⟩ rfl hn hsize hst (lv_room hW) hdg ⟨Nat.zero_le _, Nat.zero_le _⟩) hS (fun q _ h => hFc q h) hFc (fun u t H1 locs1 ht hvm hw hB hz1 hk1 hS1 => ?_)
  obtain ⟨h1, h2⟩ := g_afterU isC isR isP hP hD hS hA hC hnc hR hnr hdis hp hnp hk1 ht hB
  exact kk H1 locs1 h1 h2 hS1
theorem g_callNiT {r0 : Int32} (S : CallFix p m c cc nL s args Ts own) (hM : Met l y wsm rm (va_Pc As (gP D cy H.size wc)) (gQi D cy (va_A wc H.size) r0 w1) 0 0 (va_A wc H.size)) (cw : va_CN R s args own index y host bytes maxL ret wsm rm 0 0 n ∧ (Cond.static y).before args s = true ∧ True)
    (hn : As.length = n) (hsize : ls.size = nL) {st0 : List Value} (hst : st0 = As.reverse ++ rest) (hW : (rest.map fun v => v.category).sum ≤ 8) (hdg : decode cc pc = .ok (.invokestatic index, 3))
    (hK : va_K D vwCl (TY cy) s) (hP : va_P D vwCl (ws ++ tl) H) (hD : va_D A (ws ++ tl)) (hS : va_S A s.heap H locs) (hA : ∀ q, s.heap.size ≤ q → A q) (isC isR isP : List Nat)
    (hC : isC.map (fun i => ws[i]?) = wc.map some) (hnc : va_nd isC = true) (hR : isR.map (fun i => ws[i]?) = (pick ws isR).map some) (hnr : va_nd isR = true) (hdis : ∀ i ∈ isR, i ∉ isC) (hp : isP.map (fun i => (pick ws isR ++ w1)[i]?) = w2.map some) (hnp : va_nd isP = true)
    (kk : ∀ (H1 : Heap) (locs1 : List Loc), va_P D vwCl (w2 ++ tl) H1 → va_D A (w2 ++ tl) → va_S A s.heap H1 locs1 → W p l e R s m args below meth c H1 locs1 0 0 Q (F0 m (pc + 3) ls (.int r0 :: rest))) : W p l e R s m args below meth c H locs 0 0 Q (F0 m pc ls st0) := by
  obtain ⟨hPu, hDu, hwc, hFu⟩ := g_subU isC hP hD hS hA hC hnc
  have hPc := (va_P_split hPu).1
  have hDc := (va_D_split hDu).1
  have hFc : ∀ q, va_A wc H.size q → A q := by
    rintro q (⟨k, e, hk⟩ | h)
    · exact hDc.2 k _ hk
    · exact hA q (Nat.le_trans hS.1 h)
  obtain ⟨hp1, hp2⟩ := g_pre (cy := cy) (av := As) hK hPc hDc
  refine va_calli (va_runSN (As := As) (rest := rest) S hM cw ⟨hp1, hp2⟩ rfl hn hsize hst (lv_room hW) hdg ⟨Nat.zero_le _, Nat.zero_le _⟩) hS (fun q _ h => hFc q h) hFc (fun r u t H1 locs1 ht hvm hw hB hz1 hk1 hS1 => ?_)
  subst hw
  obtain ⟨h1, h2⟩ := g_afterT isC isR isP hP hD hS hA hC hR hnr hdis hp hnp hk1 ht hB
  exact kk H1 locs1 h1 h2 hS1
theorem g_callNiU {r0 : Int32} (S : CallFix p m c cc nL s args Ts own) (hM : Met l y wsm rm (va_Pc As (gP D cy H.size (wc ++ tl))) (gQi D cy (va_A (wc ++ tl) H.size) r0 (w1 ++ tl1)) 0 0 (va_A (wc ++ tl) H.size)) (cw : va_CN R s args own index y host bytes maxL ret wsm rm 0 0 n ∧ (Cond.static y).before args s = true ∧ True)
    (hn : As.length = n) (hsize : ls.size = nL) {st0 : List Value} (hst : st0 = As.reverse ++ rest) (hW : (rest.map fun v => v.category).sum ≤ 8) (hdg : decode cc pc = .ok (.invokestatic index, 3))
    (hK : va_K D vwCl (TY cy) s) (hP : va_P D vwCl (ws ++ tl) H) (hD : va_D A (ws ++ tl)) (hS : va_S A s.heap H locs) (hA : ∀ q, s.heap.size ≤ q → A q) (isC isR isP : List Nat)
    (hC : isC.map (fun i => ws[i]?) = wc.map some) (hnc : va_nd isC = true) (hR : isR.map (fun i => ws[i]?) = (pick ws isR).map some) (hnr : va_nd isR = true) (hdis : ∀ i ∈ isR, i ∉ isC) (hp : isP.map (fun i => (pick ws isR ++ w1)[i]?) = w2.map some) (hnp : va_nd isP = true)
    (kk : ∀ (H1 : Heap) (locs1 : List Loc), va_P D vwCl (w2 ++ tl1) H1 → va_D A (w2 ++ tl1) → va_S A s.heap H1 locs1 → W p l e R s m args below meth c H1 locs1 0 0 Q (F0 m (pc + 3) ls (.int r0 :: rest))) : W p l e R s m args below meth c H locs 0 0 Q (F0 m pc ls st0) := by
  obtain ⟨hPu, hDu, hwc, hFu⟩ := g_subU isC hP hD hS hA hC hnc
  have hPc := hPu
  have hDc := hDu
  have hFc := hFu
  obtain ⟨hp1, hp2⟩ := g_pre (cy := cy) (av := As) hK hPc hDc
  refine va_calli (va_runSN (As := As) (rest := rest) S hM cw ⟨hp1, hp2⟩ rfl hn hsize hst (lv_room hW) hdg ⟨Nat.zero_le _, Nat.zero_le _⟩) hS (fun q _ h => hFc q h) hFc (fun r u t H1 locs1 ht hvm hw hB hz1 hk1 hS1 => ?_)
  subst hw
  obtain ⟨h1, h2⟩ := g_afterU isC isR isP hP hD hS hA hC hnc hR hnr hdis hp hnp hk1 ht hB
  exact kk H1 locs1 h1 h2 hS1
end GWT
