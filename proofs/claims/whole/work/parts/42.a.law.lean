/-! the law: its context, script loads, calls of its helpers, rows of bytes -/
abbrev LTs : List Cond := Cond.initialized RL :: WA
abbrev lawC (p : Program) (l : Launch) (s : State) (m : MethodId) (meth : Method) (c : Code) (b L : Nat) (xs : Nat → Int32) (A : Nat → Prop) (D : va_G) (cy : Nat → ClassId) (cL : ClassId) (adK adV : Nat → Nat) : Prop :=
  (p.tables.exec = Jvm.exec ∧ c.code = cL_law ∧ c.maxLocals = 7 ∧ s.vm.findClass RL = some m.cls ∧ ∀ w ∈ LTs, w.before #[Value.ref b] s = true) ∧ (va_X b L xs s s.heap ∧ b < s.heap.size ∧ ¬ A b ∧ ∀ q : Nat, s.heap.size ≤ q → A q) ∧ gE adK adV A s s.heap ∧ gM s ∧ (gT A s s.heap ∧ va_Nc nNSE nIOB s) ∧ va_K D vwCl (TY cy) s ∧ va_K D vwCl [(cL, .long)] s ∧ l.stackTraces = false
theorem gi_SW {w0 : Cond} {y : MethodName} {c : ByteArray} {idx : Nat} {own : String} (h1 : Cond.methodLink own idx y ∈ WA) (h2 : Cond.static y ∈ WA) (h4 : Cond.initialized y.cls ∈ WA) (h5 : Cond.codeWith y c 5 (some .int) HH ∈ WA) : GoodIn (w0 :: WA) (va_wsS own idx y (WSW y c)) := by
  refine goodIn_sub (fun w h => List.mem_cons_of_mem _ ?_) ?_
  · simp only [va_wsS, List.mem_append, List.mem_cons, List.not_mem_nil, or_false] at h
    rcases h with (rfl | rfl | rfl) | rfl | h <;> assumption
  · refine List.all_eq_true.mpr (fun w h => ?_)
    simp only [va_wsS, List.mem_append, List.mem_cons, List.not_mem_nil, or_false] at h
    rcases h with (rfl | rfl | rfl) | rfl | h <;> first | exact List.all_eq_true.mp WA_good _ h1 | exact List.all_eq_true.mp WA_good _ h2 | exact List.all_eq_true.mp WA_good _ h4 | exact List.all_eq_true.mp WA_good _ h5 | exact List.all_eq_true.mp WA_good _ h
theorem gi_IW {w0 : Cond} {y : MethodName} {c : ByteArray} {n : Nat} {r : Option FieldType} (h5 : Cond.code y c n r ∈ WA) : GoodIn (w0 :: WA) (WS y c n r) := by
  refine goodIn_sub (fun w h => List.mem_cons_of_mem _ ?_) ?_
  · rcases List.mem_cons.mp h with rfl | h <;> assumption
  · refine List.all_eq_true.mpr (fun w h => ?_)
    rcases List.mem_cons.mp h with rfl | h <;> first | exact List.all_eq_true.mp WA_good _ h5 | exact List.all_eq_true.mp WA_good _ h
theorem sm_L_title : Cond.static yL_title ∈ WA := wa_of (k := 910) (by decide +kernel) rfl
theorem cw_L_title : Cond.codeWith yL_title cL_title 5 (some .int) HH ∈ WA := wa_of (k := 911) (by decide +kernel) rfl
theorem sm_L_pages : Cond.static yL_pages ∈ WA := wa_of (k := 1019) (by decide +kernel) rfl
theorem cw_L_pages : Cond.codeWith yL_pages cL_pages 5 (some .int) HH ∈ WA := wa_of (k := 1020) (by decide +kernel) rfl
theorem sm_L_price : Cond.static yL_price ∈ WA := wa_of (k := 1031) (by decide +kernel) rfl
theorem cw_L_price : Cond.codeWith yL_price cL_price 5 (some .int) HH ∈ WA := wa_of (k := 1032) (by decide +kernel) rfl
theorem K_nodup {A : Nat → Prop} {ws : va_W} {cy : Nat → ClassId} {L : List Nat} {c : Nat → Nat × (Nat → Int32)} (hD : va_D A (ws ++ wK cy L c)) : L.Nodup := by
  obtain ⟨-, h, -⟩ := va_D_split hD
  obtain ⟨h1, -⟩ := va_D_pw.mp h
  unfold wK at h1
  have h2 := List.pairwise_map.mp h1
  exact h2.imp (fun h => h)
theorem K_put (cy : Nat → ClassId) {L : List Nat} (c : Nat → Nat × (Nat → Int32)) {x : Nat} (row : Nat → Int32) (hx : x ∈ L) (hn : L.Nodup) : (wB cy x row ++ wK cy (L.erase x) c).Perm (wK cy L (va_up c x (1500, row))) := by
  have h1 := wK_perm cy (va_up c x (1500, row)) hx
  rw [va_up_self] at h1
  have e1 : wK cy (L.erase x) (va_up c x (1500, row)) = wK cy (L.erase x) c := by
    unfold wK
    refine List.map_congr_left (fun z hz => ?_)
    rw [va_up_ne c _ (show z ≠ x from fun e => by subst e; exact hn.not_mem_erase hz)]
  rw [e1] at h1
  exact h1.symm
theorem K_take (cy : Nat → ClassId) {L : List Nat} (c : Nat → Nat × (Nat → Int32)) {x : Nat} (hx : x ∈ L) (h5 : (c x).1 = 1500) : (wK cy L c).Perm (wB cy x (c x).2 ++ wK cy (L.erase x) c) := by
  have h1 := wK_perm cy c hx
  rw [h5] at h1
  exact h1
section GLW
variable {p : Program} {l : Launch} {e : Env} {R : Room} {s : State} {m : MethodId} {args : Array Value} {below : List Frame} {meth : Method} {c : Code} {H : Heap} {locs : List Loc} {Q : State → Prop} {A : Nat → Prop} {D : va_G} {cy : Nat → ClassId} {w : va_W} {cc : ByteArray} {pc : Nat} {ls : Array Slot} {cells slots : Nat}
variable {y : MethodName} {ms mc : List va_W} {wc : va_W} {wsm : List Cond} {rm : Room} {Ts : List Cond} {own C : String} {bytes : ByteArray} {maxL nL n index mcn msn nm nm2 : Nat} {ret : Option FieldType} {As rest : List Value} {b : Nat}
theorem g_sld {b L i k : Nat} {xs : Nat → Int32} (hx : p.tables.exec = Jvm.exec) (hb : c.code = cc) (hX : va_X b L xs s s.heap) (hbl : b < s.heap.size) (hbA : ¬ A b) (hS : va_S A s.heap H locs) (hL : L ≤ 3072) (hik : i + k < L) (hdg : decode cc pc = .ok (.iaload, 1))
    (kk : W p l e R s m args below meth c H locs cells slots Q (F0 m (pc + 1) ls (.int (xs (i + k)) :: rest))) : W p l e R s m args below meth c H locs cells slots Q (F0 m pc ls (.int (nI i + nI k) :: .ref b :: rest)) := by
  refine va_sld hx hb hX hbl hbA hS (i := nI i + nI k) ?_ hdg ?_
  · rw [nI_add]
    exact vp_in_nI hik (by omega)
  · rw [nI_add, nI_clamp (by omega)]
    exact kk
theorem g_sld0 {b L i : Nat} {xs : Nat → Int32} (hx : p.tables.exec = Jvm.exec) (hb : c.code = cc) (hX : va_X b L xs s s.heap) (hbl : b < s.heap.size) (hbA : ¬ A b) (hS : va_S A s.heap H locs) (hL : L ≤ 3072) (hik : i < L) (hdg : decode cc pc = .ok (.iaload, 1))
    (kk : W p l e R s m args below meth c H locs cells slots Q (F0 m (pc + 1) ls (.int (xs i) :: rest))) : W p l e R s m args below meth c H locs cells slots Q (F0 m pc ls (.int (nI i) :: .ref b :: rest)) := by
  refine va_sld hx hb hX hbl hbA hS (i := nI i) (vp_in_nI hik (by omega)) hdg ?_
  rw [nI_clamp (by omega)]
  exact kk
theorem h_callSW {PP : State → Prop} {X : Type} {post : Int32 → X → Prop} {m1 m2 : X → List va_W} {Wf : X → va_W} {hh : List (Nat × Nat × Nat × Nat)} (S : CallFix p m c cc nL s args Ts own) (hM : Met l y wsm rm (va_Pc As PP) (va_Qi post (fun x => gB D cy (va_A wc H.size) (Wf x)) (va_A wc H.size)) mcn msn (va_A wc H.size)) (cw : vx_CSW R s args own index y bytes maxL ret hh wsm rm mcn msn n)
    (hp : va_P D vwCl wc H → va_D A wc → (∀ q, va_A wc H.size q → A q) → PreS s H (va_Pc As PP) As) (hn : As.length = n) (hsize : ls.size = nL) {st0 : List Value} (hst : st0 = As.reverse ++ rest) (hW : (rest.map fun v => v.category).sum ≤ 8) (hdg : decode cc pc = .ok (.invokestatic index, 3))
    (hP : va_P D vwCl ms.flatten H) (hD : va_D A ms.flatten) (hS : va_S A s.heap H locs) (hA : ∀ q, s.heap.size ≤ q → A q) (hcc : cells + mcn ≤ R.cells) (hss : slots + msn ≤ R.slots) (isC isR isP : List Nat)
    (hwc : wc = mc.flatten) (hw1 : ∀ x, Wf x = (m1 x).flatten) (hlen : ms.length = nm) (hC : mpick ms isC = mc) (hperm : (isR ++ isC).Perm (List.range nm)) (hlen2 : ∀ x, (mpick ms isR ++ m1 x).length = nm2) (hm2 : ∀ x, mpick (mpick ms isR ++ m1 x) isP = m2 x) (hpp : isP.Perm (List.range nm2))
    (kk : ∀ (r : Int32) (x : X) (H1 : Heap) (locs1 : List Loc), post r x → va_P D vwCl (m2 x).flatten H1 → va_D A (m2 x).flatten → va_S A s.heap H1 locs1 → W p l e R s m args below meth c H1 locs1 (cells + mcn) (slots + msn) Q (F0 m (pc + 3) ls (.int r :: rest))) : W p l e R s m args below meth c H locs cells slots Q (F0 m pc ls st0) := by
  obtain ⟨hPu, hDu, hPc, hDc, hFc⟩ := h_split hP hD hS hA hwc hlen hC hperm
  obtain ⟨hp1, hp2⟩ := hp hPc hDc hFc
  refine va_calli (vx_runSW (As := As) (rest := rest) S hM cw ⟨hp1, hp2⟩ rfl hn hsize hst (lv_room hW) hdg ⟨hcc, hss⟩) hS (fun q _ h => hFc q h) hFc (fun r u t H1 locs1 ht hvm hw hB hz1 hk1 hS1 => ?_)
  obtain ⟨h1, h2⟩ := h_back u hPu hDu hS hA hw1 hlen2 hm2 hpp hk1 ht hB
  exact kk r u H1 locs1 hw h1 h2 hS1
theorem g_preTN {av : List Value} {wc : va_W} (hK : va_K D vwCl (TY cy) s) (hPc : va_P D vwCl wc H) (hDc : va_D A wc) (hT : gT A s s.heap) (hN : va_Nc nNSE nIOB s) (hS : va_S A s.heap H locs) (hFc : ∀ q, va_A wc H.size q → A q) : PreS s H (va_Pc av (gPTN D cy H.size wc)) av :=
  ⟨fun a U g mk q => by obtain ⟨q0, ⟨⟨q1, qP, qK, qD⟩, qE⟩, qN⟩ := q; exact ⟨q0, ⟨⟨q1, qP, va_K.moved (u := U) (U := U.calling g mk a) (Vm.Alike.refl U.vm) qK, qD⟩, gT.same (u := U) (U := U.calling g mk a) rfl qE⟩, va_Nc.moved (u := U) (U := U.calling g mk a) (Vm.Alike.refl U.vm) qN⟩, fun U hU hW => ⟨rfl, ⟨⟨by rw [hU], by rw [hU]; exact hPc, va_K.moved hW.alike hK, hDc.weaken (fun _ _ _ _ => trivial)⟩, by rw [hU]; exact gT.warm hW ((hT.kept hS.2.1).narrow hFc)⟩, va_Nc.moved hW.alike hN⟩⟩
theorem g_preL {av : List Value} {wc : va_W} {cL : ClassId} {adK adV : Nat → Nat} (hK : va_K D vwCl (TY cy) s) (hKL : va_K D vwCl [(cL, .long)] s) (hPc : va_P D vwCl wc H) (hDc : va_D A wc) (hE : gE adK adV A s s.heap) (hS : va_S A s.heap H locs) (hFc : ∀ q, va_A wc H.size q → A q) : PreS s H (va_Pc av (gPL D cy cL adK adV H.size wc)) av :=
  ⟨fun a U g mk q => by obtain ⟨q0, ⟨⟨q1, qP, qK, qD⟩, qE⟩, qL⟩ := q; exact ⟨q0, ⟨⟨q1, qP, va_K.moved (u := U) (U := U.calling g mk a) (Vm.Alike.refl U.vm) qK, qD⟩, gE.same (u := U) (U := U.calling g mk a) rfl qE⟩, va_K.moved (u := U) (U := U.calling g mk a) (Vm.Alike.refl U.vm) qL⟩, fun U hU hW => ⟨rfl, ⟨⟨by rw [hU], by rw [hU]; exact hPc, va_K.moved hW.alike hK, hDc.weaken (fun _ _ _ _ => trivial)⟩, by rw [hU]; exact gE.warm hW ((hE.kept hS.2.1).narrow hFc)⟩, va_K.moved hW.alike hKL⟩⟩
end GLW
