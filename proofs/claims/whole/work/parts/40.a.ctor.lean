/-! arrays of arrays: what the tables say of them -/
def va_AOA (ty : FieldType) (U : State) : Prop := (Cond.arrayOver (.array ty)).before #[] U = true
theorem va_AOA.use {ty : FieldType} {A : Array Value} {U : State} (h : va_AOA ty U) : (Cond.arrayOver (.array ty)).before A U = true := h
theorem va_AOA.moved {ty : FieldType} {u U : State} (hvm : u.vm.Alike U.vm) (h : va_AOA ty u) : va_AOA ty U := arrayOver_alikeB hvm h
theorem arrV_agree {cI : ClassId} {N : Nat} {f g : Nat → Value} (h : ∀ j, j < N → f j = g j) : arrV cI N f = arrV cI N g := by
  have e : (fun j : Fin N => f j.val) = fun j : Fin N => g j.val := funext fun j => h j.val j.isLt
  unfold arrV
  rw [e]
/-! ===== BEGIN new T[n][m]: the outer array a place, the inner ones among the pooled ===== -/
/-- f, but v at every address of l -/
def vr_up {α : Type} (f : Nat → α) (l : List Nat) (v : α) : Nat → α := fun a => if a ∈ l then v else f a
theorem vr_up_in {α : Type} {f : Nat → α} {l : List Nat} {v : α} {a : Nat} (h : a ∈ l) : vr_up f l v a = v := if_pos h
theorem vr_up_ne {α : Type} {f : Nat → α} {l : List Nat} {v : α} {a : Nat} (h : a ∉ l) : vr_up f l v a = f a := if_neg h
theorem vr_rows {L l : List Nat} {f : Nat → va_E} {e : va_E} (h : ∀ a, a ∈ l → a ∉ L) : va_pl L f ++ l.map (fun a => (a, e)) = va_pl (L ++ l) (vr_up f l e) := by
  unfold va_pl
  rw [List.map_append]
  congr 1
  · apply List.map_congr_left
    intro a ha
    rw [vr_up_ne (fun q => h a q ha)]
  · apply List.map_congr_left
    intro a ha
    rw [vr_up_in ha]
theorem vr_lay {X rows : va_W} {x : Nat × va_E} {pl : va_W} {D : va_G} {cl : List vw_C} {H : Heap} (hP : va_P D cl (((X ++ pl) ++ [x]) ++ rows) H) : va_P D cl ((X ++ [x]) ++ (pl ++ rows)) H := by
  rw [List.append_assoc (X ++ pl)] at hP
  have h := va_P.swap hP
  rw [← List.append_assoc X] at h
  have h2 := va_P.swap h
  rw [List.append_assoc (X ++ [x])] at h2
  exact h2
theorem vr_layD {X rows : va_W} {x : Nat × va_E} {pl : va_W} {A : Nat → Prop} (hD : va_D A (((X ++ pl) ++ [x]) ++ rows)) : va_D A ((X ++ [x]) ++ (pl ++ rows)) := by
  rw [List.append_assoc (X ++ pl)] at hD
  have h := va_D.swap hD
  rw [← List.append_assoc X] at h
  have h2 := va_D.swap h
  rw [List.append_assoc (X ++ [x])] at h2
  exact h2
theorem vr_outer (c : ClassId) (N h0 : Nat) : ∀ i : Nat, Jvm.Free.Multi.outerC c N h0 i = arrV c N (fun j => va_rf (if j < i then some (h0 + 1 + j) else none))
  | 0 => by
    show ({ cls := c, slots := Array.replicate N .null, vm := .none } : Cell) = _
    rw [arrV_new]
    refine congrArg (arrV c N) (funext fun j => ?_)
    simp [va_rf]
  | i + 1 => by
    show (Jvm.Free.Multi.outerC c N h0 i).setSlot i (.ref (h0 + 1 + i)) = _
    rw [vr_outer c N h0 i, arrV_store]
    refine congrArg (arrV c N) (funext fun j => ?_)
    by_cases e : j = i
    · subst e
      simp [updV, va_rf]
    · by_cases h : j < i
      · simp [updV, e, h, Nat.lt_succ_of_lt h]
      · simp [updV, e, h, show ¬ j < i + 1 by omega]
section VGM
variable {p : Program} {l : Launch} {e : Env} {R : Room} {s : State} {m : MethodId} {args : Array Value} {below : List Frame} {meth : Method} {c : Code} {H : Heap} {locs : List Loc} {cells slots : Nat} {Q : State → Prop}
variable {cc : ByteArray} {pc : Nat} {ls : Array Slot} {rest : List Value} {D : va_G} {cl : List vw_C} {A : Nat → Prop} {a : Nat} {tys : List (ClassId × FieldType)} {ws : va_W} {H0 : Heap}
theorem va_mna {X : va_W} {L : List Nat} {f : Nat → va_E} {cc : ByteArray} (hexec : p.tables.exec = Jvm.exec) (hb : c.code = cc) {own : String} {index : Nat} {ty : FieldType} {cy : ClassId} (hown : s.vm.findClass own = some m.cls) (hclink : (Cond.classLink own index ("[" ++ (FieldType.array ty).toString)).before args s = true) (hover : va_AOA ty s) (harr : (Cond.arrayClass ty).before args s = true) (hcy : s.vm.findClass (FieldType.array ty).toString = some cy)
    (hK : va_K D cl tys s) (hP : va_P D cl (X ++ va_pl L f) H) (hD : va_D A (X ++ va_pl L f)) (hS : va_S A H0 H locs) (hA : ∀ q, H0.size ≤ q → A q) {n k : Int32} {N' K' : Nat} {z : vp_A} (hn : ¬ n < 0) (hk : ¬ k < 0) (hN : n.toNatClampNeg = N') (hM : k.toNatClampNeg = K')
    (hb1 : N' * 4 ≤ 536870912) (hb2 : K' * componentBytes ty ≤ 536870912) (hb3 : K' ≤ 536870912) (hdf : fits ty (defaultValue ty) = true) (hdd : (defaultValue ty).isDefault = true) (hcells : cells + (1 + N') ≤ R.cells) (hslots : slots + (N' + N' * K') ≤ R.slots) (hz : ∀ c : ClassId, Jvm.Free.Multi.innerC c K' (defaultValue ty) = vp_cell c z) (hdg : decode cc pc = .ok (.multianewarray index 2, 4))
    (kk : ∀ (q : Nat) (r : Nat → Nat) (cA : ClassId) (H1 : Heap), (∀ i j : Nat, i < N' → j < N' → r i = r j → i = j) → (∀ i : Nat, i < N' → r i ∉ L) → va_K D cl (tys ++ [(cA, .array ty)]) s →
      va_P D cl ((X ++ [(q, .inl (cA, N', .inr (.inr (.inr (.inr (fun i => if i < N' then some (r i) else none))))))]) ++ va_pl (L ++ (List.range N').map r) (vr_up f ((List.range N').map r) (.inl (cy, z)))) H1 → va_D A ((X ++ [(q, .inl (cA, N', .inr (.inr (.inr (.inr (fun i => if i < N' then some (r i) else none))))))]) ++ va_pl (L ++ (List.range N').map r) (vr_up f ((List.range N').map r) (.inl (cy, z)))) → va_S A H0 H1 locs →
      W p l e R s m args below meth c H1 locs (cells + 1 + N') (slots + N' + N' * K') Q (F0 m (pc + 4) ls (.ref q :: rest))) : W p l e R s m args below meth c H locs cells slots Q (F0 m pc ls (.int k :: .int n :: rest)) := by
  subst hN
  subst hM
  intro T hT Xs
  obtain ⟨vm₁, cA, comp, -, fA, fC, hO, -, X', step⟩ := Xs.multianewarray2F hexec hown hclink (va_AOA.use hover) harr (g := F0 m pc ls (.int k :: .int n :: rest)) rfl (by rw [hb]; exact hdg) rfl hn hk hb1 hb2 hb3 hdf hdd hcells hslots
  have ec : some cy = some comp := hcy.symm.trans fC
  cases ec
  generalize hF : Jvm.Free.Multi.fill (T.setVm vm₁) cA cy n.toNatClampNeg k.toNatClampNeg (defaultValue ty) n.toNatClampNeg = F at X' step
  have hTh : (T.setVm vm₁).heap = H := hT
  obtain ⟨f1, f2, -, -⟩ := Jvm.Free.Multi.fill_facts (T.setVm vm₁) cA cy n.toNatClampNeg k.toNatClampNeg (defaultValue ty) n.toNatClampNeg
  rw [hF, hTh] at f1 f2
  have hold : ∀ x : Nat, x < H.size → F.heap[x]? = H[x]? := fun x hx => by
    have := Jvm.Free.Multi.fill_old (T.setVm vm₁) cA cy n.toNatClampNeg k.toNatClampNeg (defaultValue ty) (a := x) (by rw [hTh]; exact hx) n.toNatClampNeg
    rw [hF, hTh] at this
    exact this
  have hrow : ∀ j : Nat, j < n.toNatClampNeg → F.heap[H.size + 1 + j]? = some (vp_cell cy z) := fun j hj => by
    have := Jvm.Free.Multi.fill_inner (T.setVm vm₁) cA cy n.toNatClampNeg k.toNatClampNeg (defaultValue ty) n.toNatClampNeg j hj
    rw [hF, hTh, hz] at this
    exact this
  have hout : Jvm.Free.Multi.outerC cA n.toNatClampNeg H.size n.toNatClampNeg = vp_cell cA (n.toNatClampNeg, .inr (.inr (.inr (.inr (fun i => if i < n.toNatClampNeg then some (H.size + 1 + i) else none))))) := by
    rw [vp_cell_q]
    exact vr_outer cA n.toNatClampNeg H.size n.toNatClampNeg
  rw [hout] at f2
  have hlt : ∀ a, a ∈ L → a < H.size := fun a ha => by
    obtain ⟨k9, hk9⟩ := va_pl_get (X := X) (f := f) ha
    exact (hP k9 _ hk9).lt
  have hnl : ∀ i : Nat, i < n.toNatClampNeg → H.size + 1 + i ∉ L := fun i _ h => by
    have := hlt _ h
    omega
  have hnm : ∀ a, a ∈ (List.range n.toNatClampNeg).map (fun i => H.size + 1 + i) → a ∉ L := fun a ha h => by
    obtain ⟨i, -, rfl⟩ := List.mem_map.mp ha
    have := hlt _ h
    omega
  have hP0 : va_P D cl (X ++ va_pl L f) F.heap := hP.kept (fun k9 x hx => hold x.1 ((hP k9 x hx).lt))
  have hP1 : va_P D cl ((X ++ va_pl L f) ++ [(H.size, .inl (cA, n.toNatClampNeg, .inr (.inr (.inr (.inr (fun i => if i < n.toNatClampNeg then some (H.size + 1 + i) else none))))))]) F.heap := hP0.app (fun k9 x hx => by
    have h0 : k9 < 1 := (List.getElem?_eq_some_iff.mp hx).1
    rw [show k9 = 0 by omega] at hx
    cases hx
    exact f2)
  have hP2 : va_P D cl (((X ++ va_pl L f) ++ [(H.size, .inl (cA, n.toNatClampNeg, .inr (.inr (.inr (.inr (fun i => if i < n.toNatClampNeg then some (H.size + 1 + i) else none))))))]) ++ ((List.range n.toNatClampNeg).map (fun i => H.size + 1 + i)).map (fun a => (a, .inl (cy, z)))) F.heap := hP1.app (fun k9 x hx => by
    obtain ⟨a, ha, rfl⟩ := List.mem_map.mp (List.mem_of_getElem? hx)
    obtain ⟨i, hi, rfl⟩ := List.mem_map.mp ha
    exact hrow i (List.mem_range.mp hi))
  have hD2 : va_D A (((X ++ va_pl L f) ++ [(H.size, .inl (cA, n.toNatClampNeg, .inr (.inr (.inr (.inr (fun i => if i < n.toNatClampNeg then some (H.size + 1 + i) else none))))))]) ++ ((List.range n.toNatClampNeg).map (fun i => H.size + 1 + i)).map (fun a => (a, .inl (cy, z)))) := by
    have hD1 := hD.push (e := .inl (cA, n.toNatClampNeg, .inr (.inr (.inr (.inr (fun i => if i < n.toNatClampNeg then some (H.size + 1 + i) else none)))))) hP rfl (hA _ hS.1)
    generalize hW1 : (X ++ va_pl L f) ++ [(H.size, .inl (cA, n.toNatClampNeg, .inr (.inr (.inr (.inr (fun i => if i < n.toNatClampNeg then some (H.size + 1 + i) else none))))))] = W1 at hD1 hP1 ⊢
    have hle : ∀ (k9 : Nat) (x : Nat × va_E), W1[k9]? = some x → x.1 ≤ H.size := fun k9 x hx => by
      rw [← hW1] at hx
      by_cases hl : k9 < (X ++ va_pl L f).length
      · rw [List.getElem?_append_left hl] at hx
        exact Nat.le_of_lt ((hP k9 x hx).lt)
      · rw [List.getElem?_append_right (by omega)] at hx
        have h0 : k9 - (X ++ va_pl L f).length < 1 := (List.getElem?_eq_some_iff.mp hx).1
        rw [show k9 - (X ++ va_pl L f).length = 0 by omega] at hx
        cases hx
        exact Nat.le_refl _
    have hr : ∀ (k9 : Nat) (x : Nat × va_E), (((List.range n.toNatClampNeg).map (fun i => H.size + 1 + i)).map (fun a => ((a, .inl (cy, z)) : Nat × va_E)))[k9]? = some x → x.1 = H.size + 1 + k9 := fun k9 x hx => by
      rw [List.getElem?_map, List.getElem?_map] at hx
      by_cases h9 : k9 < n.toNatClampNeg
      · rw [List.getElem?_range h9] at hx
        cases hx
        rfl
      · have hn0 : (List.range n.toNatClampNeg)[k9]? = none := List.getElem?_eq_none (by rw [List.length_range]; omega)
        rw [hn0] at hx
        cases hx
    refine ⟨fun i j x y hi hj hxy => ?_, fun k9 x hx => ?_⟩
    · by_cases h1 : i < W1.length <;> by_cases h2 : j < W1.length
      · rw [List.getElem?_append_left h1] at hi
        rw [List.getElem?_append_left h2] at hj
        exact hD1.1 i j x y hi hj hxy
      · rw [List.getElem?_append_left h1] at hi
        rw [List.getElem?_append_right (by omega)] at hj
        have := hle _ _ hi
        have := hr _ _ hj
        omega
      · rw [List.getElem?_append_right (by omega)] at hi
        rw [List.getElem?_append_left h2] at hj
        have := hle _ _ hj
        have := hr _ _ hi
        omega
      · rw [List.getElem?_append_right (by omega)] at hi hj
        have := hr _ _ hi
        have := hr _ _ hj
        omega
    · by_cases h1 : k9 < W1.length
      · rw [List.getElem?_append_left h1] at hx
        exact hD1.2 k9 x hx
      · rw [List.getElem?_append_right (by omega)] at hx
        have := hr _ _ hx
        exact hA _ (by have := hS.1; omega)
  have hAr : ArrOfT s cA (.array ty) := fun N9 z9 => by
    obtain ⟨-, k9, hk9, cm9, hkk9⟩ := (hO 0 0 0).1
    exact ⟨(fun q hq => by cases hq), k9, hk9, cm9, hkk9⟩
  have hK2 : va_K D cl (tys ++ [(cA, .array ty)]) s := ⟨hK.1, fun k9 x hx => by
    by_cases hl : k9 < tys.length
    · rw [List.getElem?_append_left hl] at hx
      exact hK.2 k9 x hx
    · rw [List.getElem?_append_right (by omega)] at hx
      have h0 : k9 - tys.length < 1 := (List.getElem?_eq_some_iff.mp hx).1
      rw [show k9 - tys.length = 0 by omega] at hx
      cases hx
      exact ⟨hAr, fA⟩⟩
  obtain ⟨t, a1, b1⟩ := kk H.size (fun i => H.size + 1 + i) cA F.heap (fun i j _ _ h => by have h9 : H.size + 1 + i = H.size + 1 + j := h; omega) hnl hK2 (by rw [← vr_rows hnm]; exact vr_lay hP2) (by rw [← vr_rows hnm]; exact vr_layD hD2) ⟨by rw [f1]; have := hS.1; omega, fun x h1 h2 => (hold x (Nat.lt_of_lt_of_le h1 hS.1)).trans (hS.2.1 x h1 h2), hS.2.2⟩ F rfl X'
  refine ⟨t, step t ?_, b1⟩
  have e : T.heap.size = H.size := by rw [hT]
  rw [e]
  exact a1
end VGM
/-! ===== END ===== -/

/-! words for constructors -/
theorem oi_RX9 : Cond.methodLink RX9 3 objectInit ∈ WA := wa_of (k := 104) (by decide +kernel) rfl
theorem oi_RX6 : Cond.methodLink RX6 3 objectInit ∈ WA := wa_of (k := 112) (by decide +kernel) rfl
theorem oi_RX5 : Cond.methodLink RX5 3 objectInit ∈ WA := wa_of (k := 128) (by decide +kernel) rfl
theorem oi_RX3 : Cond.methodLink RX3 3 objectInit ∈ WA := wa_of (k := 184) (by decide +kernel) rfl
theorem oi_RX4 : Cond.methodLink RX4 3 objectInit ∈ WA := wa_of (k := 190) (by decide +kernel) rfl
theorem oi_RX0 : Cond.methodLink RX0 3 objectInit ∈ WA := wa_of (k := 240) (by decide +kernel) rfl
theorem oi_RX1 : Cond.methodLink RX1 3 objectInit ∈ WA := wa_of (k := 248) (by decide +kernel) rfl
theorem oi_RX7 : Cond.methodLink RX7 3 objectInit ∈ WA := wa_of (k := 283) (by decide +kernel) rfl
theorem oi_RX2 : Cond.methodLink RX2 3 objectInit ∈ WA := wa_of (k := 335) (by decide +kernel) rfl
theorem oi_RX10 : Cond.methodLink RX10 1 objectInit ∈ WA := wa_of (k := 1042) (by decide +kernel) rfl
theorem im_oi : Cond.instanceMethod objectInit ∈ WA := wa_of (k := 105) (by decide +kernel) rfl
theorem cd_oi : Cond.code objectInit ⟨#[0xb1]⟩ 1 none ∈ WA := wa_of (k := 106) (by decide +kernel) rfl
theorem ac_byte : Cond.arrayClass .byte ∈ WA := wa_of (k := 122) (by decide +kernel) rfl
theorem ac_int : Cond.arrayClass .int ∈ WA := wa_of (k := 178) (by decide +kernel) rfl
theorem ac_boolean : Cond.arrayClass .boolean ∈ WA := wa_of (k := 358) (by decide +kernel) rfl
theorem ac_long : Cond.arrayClass .long ∈ WA := wa_of (k := 1427) (by decide +kernel) rfl
theorem cl_RL_8 : Cond.classLink RL 8 RX9 ∈ WA := wa_of (k := 99) (by decide +kernel) rfl
theorem it_RX9 : Cond.instantiable RX9 7 ∈ WA := wa_of (k := 100) (by decide +kernel) rfl
theorem cl_RX9_9 : Cond.classLink RX9 9 RX6 ∈ WA := wa_of (k := 107) (by decide +kernel) rfl
theorem it_RX6 : Cond.instantiable RX6 2 ∈ WA := wa_of (k := 108) (by decide +kernel) rfl
theorem cl_RX9_19 : Cond.classLink RX9 19 RX5 ∈ WA := wa_of (k := 123) (by decide +kernel) rfl
theorem it_RX5 : Cond.instantiable RX5 13 ∈ WA := wa_of (k := 124) (by decide +kernel) rfl
theorem cl_RX9_29 : Cond.classLink RX9 29 RX3 ∈ WA := wa_of (k := 179) (by decide +kernel) rfl
theorem it_RX3 : Cond.instantiable RX3 6 ∈ WA := wa_of (k := 180) (by decide +kernel) rfl
theorem cl_RX3_19 : Cond.classLink RX3 19 RX4 ∈ WA := wa_of (k := 185) (by decide +kernel) rfl
theorem it_RX4 : Cond.instantiable RX4 6 ∈ WA := wa_of (k := 186) (by decide +kernel) rfl
theorem cl_RX9_42 : Cond.classLink RX9 42 RX0 ∈ WA := wa_of (k := 235) (by decide +kernel) rfl
theorem it_RX0 : Cond.instantiable RX0 5 ∈ WA := wa_of (k := 236) (by decide +kernel) rfl
theorem cl_RX0_9 : Cond.classLink RX0 9 RX7 ∈ WA := wa_of (k := 241) (by decide +kernel) rfl
theorem cl_RX0_17 : Cond.classLink RX0 17 RX1 ∈ WA := wa_of (k := 243) (by decide +kernel) rfl
theorem it_RX1 : Cond.instantiable RX1 9 ∈ WA := wa_of (k := 244) (by decide +kernel) rfl
theorem cl_RX1_27 : Cond.classLink RX1 27 "[[I" ∈ WA := wa_of (k := 249) (by decide +kernel) rfl
theorem it_RX7 : Cond.instantiable RX7 7 ∈ WA := wa_of (k := 279) (by decide +kernel) rfl
theorem cl_RX9_49 : Cond.classLink RX9 49 RX2 ∈ WA := wa_of (k := 330) (by decide +kernel) rfl
theorem it_RX2 : Cond.instantiable RX2 6 ∈ WA := wa_of (k := 331) (by decide +kernel) rfl
theorem cl_RJ7_311 : Cond.classLink RJ7 311 "[B" ∈ WA := wa_of (k := 785) (by decide +kernel) rfl
theorem cl_RL_13 : Cond.classLink RL 13 "java/lang/IndexOutOfBoundsException" ∈ WA := wa_of (k := 912) (by decide +kernel) rfl
theorem cl_RL_15 : Cond.classLink RL 15 "java/util/NoSuchElementException" ∈ WA := wa_of (k := 913) (by decide +kernel) rfl
theorem cl_RX9_156 : Cond.classLink RX9 156 "java/lang/IndexOutOfBoundsException" ∈ WA := wa_of (k := 918) (by decide +kernel) rfl
theorem cl_RX9_179 : Cond.classLink RX9 179 "java/util/NoSuchElementException" ∈ WA := wa_of (k := 1002) (by decide +kernel) rfl
theorem cl_RL_24 : Cond.classLink RL 24 RX10 ∈ WA := wa_of (k := 1037) (by decide +kernel) rfl
theorem it_RX10 : Cond.instantiable RX10 56 ∈ WA := wa_of (k := 1038) (by decide +kernel) rfl
/-! rules for constructors and for calls that make cells -/
def gM (U : State) : Prop := gN U ∧ va_AO "TitleDesk$Wording" U ∧ va_AOA .int U
theorem gM.warm {s U : State} (hW : s.WarmedH U.vm) (h : gM s) : gM U := ⟨gN.warm hW h.1, va_AO.moved hW.alike h.2.1, va_AOA.moved hW.alike h.2.2⟩
theorem gM.same {u U : State} (hv : U.vm = u.vm) (h : gM u) : gM U := ⟨gN.same hv h.1, va_AO.moved (hv ▸ Vm.Alike.refl u.vm) h.2.1, va_AOA.moved (hv ▸ Vm.Alike.refl u.vm) h.2.2⟩
abbrev gPM (D : va_G) (cy : Nat → ClassId) (sz : Nat) (ws : va_W) (U : State) : Prop := gP D cy sz ws U ∧ gM U
abbrev gQx {X : Type} (D : va_G) (cy : Nat → ClassId) (A : Nat → Prop) (Wf : X → va_W) : Array Value → State → Outcome → State → Prop := va_Qv (fun (_ : X) => True) (fun u => gB D cy A (Wf u)) A
theorem g_metM {l : Launch} {y : MethodName} {ws ws' : List Cond} {rm : Room} {cc : ByteArray} {maxL mc ms : Nat} {D : va_G} {cy : Nat → ClassId} {av : List Value} {wsx : va_W} {sz : Nat} (Qp : (Nat → Prop) → Array Value → State → Outcome → State → Prop)
    (hy : plainName y.cls = true) (hw : ws = Cond.code y cc maxL none :: ws') (hlen : (lg_sl av).length ≤ maxL)
    (body : ∀ (p : Program) (e : Env) (s : State) (m : MethodId) (below : List Frame) (meth : Method) (c : Code) (A : Nat → Prop), gC p s m av.toArray meth c ws cc maxL none y.cls → meth.name = y.name → (∀ q : Nat, s.heap.size ≤ q → A q) → gM s → va_K D vwCl (TY cy) s → va_P D vwCl wsx s.heap → va_D A wsx → ∀ ls : Array Slot, lv_has ls maxL (lv_args 0 av) →
      W p l e rm s m av.toArray below meth c s.heap [] 0 0 (MQ below (Qp A) av.toArray s mc ms A) (F0 m 0 ls [])) :
    Met l y ws rm (va_Pc av (gPM D cy sz wsx)) (Qp (va_A wsx sz)) mc ms (va_A wsx sz) := by
  refine Met.ofW (cc := cc) (maxL := maxL) (ret := none) hy hw ?_
  intro p e s m args below meth c s₁ B hml hv
  obtain ⟨rfl, ⟨hsz, hP, hK, hD0⟩, hM⟩ := hv
  have hts := atoms_spec (ws := ws) B.pre
  have hown : s.vm.findClass y.cls = some m.cls := findClass_of_methodNamed B.named
  have hin : meth.name = y.name := (name_of_methodNamed B.named B.method).1
  subst hsz
  have hD := hD0.self (sz := s.heap.size)
  have hl := lv_entry av (n := maxL) hlen
  rw [lg_entry_eq]
  exact body p e s m below meth c _ ⟨B.exec, B.bytes, B.returns, hml, hown, hts, B.notSynchronized⟩ hin (fun q h => Or.inr h) hM hK hP hD _ hl
section GWM
variable {p : Program} {l : Launch} {e : Env} {R : Room} {s : State} {m : MethodId} {args : Array Value} {below : List Frame} {meth : Method} {c : Code} {H : Heap} {locs : List Loc} {Q : State → Prop} {A : Nat → Prop} {D : va_G} {cy : Nat → ClassId} {w : va_W} {cc : ByteArray} {pc : Nat} {ls : Array Slot} {cells slots : Nat}
theorem g_xret {X : Type} {Wf : X → va_W} {mc ms : Nat} (x : X) (hx : p.tables.exec = Jvm.exec) (hb : c.code = cc) (hr : meth.sig.returnType = none) (hlk : meth.locks = false) (hK : va_K D vwCl (TY cy) s) (hP : va_P D vwCl (Wf x) H) (hD : va_D A (Wf x)) (hS : va_S A s.heap H locs) (h1 : cells ≤ mc) (h2 : slots ≤ ms) (hdg : decode cc pc = .ok (.return_, 1)) : W p l e R s m args below meth c H locs cells slots (MQ below (gQx D cy A Wf) args s mc ms A) (F0 m pc ls []) := by
  refine W.widen (k := mc) (n := ms) h1 h2 ?_
  exact W.vret hx hb hr (fun t ht hW => ⟨⟨x, rfl, trivial, by rw [ht]; exact hP, va_K.moved hW.alike hK, hD⟩, hS.F ht⟩) hS.2.2 hdg hlk
theorem g_newI {ws : va_W} (hx : p.tables.exec = Jvm.exec) (hb : c.code = cc) (harr : (Cond.arrayClass .int).before args s = true) (hK : va_K D vwCl (TY cy) s) (hP : va_P D vwCl ws H) (hD : va_D A ws) (hS : va_S A s.heap H locs) (hA : ∀ q, s.heap.size ≤ q → A q)
    {n : Int32} {N : Nat} (hn : ¬ n < 0) (hN : n.toNatClampNeg = N) (hbytes : N * 4 ≤ 536870912) (hcells : cells + 1 ≤ R.cells) (hslots : slots + N ≤ R.slots) {rest : List Value} (hdg : decode cc pc = .ok (.newarray .int, 2))
    (kk : ∀ (q : Nat) (H1 : Heap), va_P D vwCl (ws ++ [(q, .inl (cy 0, N, .inl (fun _ => 0)))]) H1 → va_D A (ws ++ [(q, .inl (cy 0, N, .inl (fun _ => 0)))]) → va_S A s.heap H1 locs → W p l e R s m args below meth c H1 locs (cells + 1) (slots + N) Q (F0 m (pc + 2) ls (.ref q :: rest))) : W p l e R s m args below meth c H locs cells slots Q (F0 m pc ls (.int n :: rest)) := by
  refine va_newa (atype := .int) (ty := .int) hx hb harr rfl hK hP hD hS hA (a0 := (N, .inl (fun _ => 0))) (fun cA => rfl) hn hN hbytes hcells hslots hdg (fun q cA H1 hK1 hP1 hD1 hS1 => ?_)
  have h1 : s.vm.findClass ("[" ++ FieldType.int.toString) = some cA := (hK1.2 5 _ rfl).2
  have h2 : s.vm.findClass ("[" ++ FieldType.int.toString) = some (cy 0) := (hK.2 0 _ rfl).2
  have h3 : cA = cy 0 := Option.some.inj (h1.symm.trans h2)
  rw [h3] at hP1 hD1
  exact kk q H1 hP1 hD1 hS1
theorem g_newB {ws : va_W} (hx : p.tables.exec = Jvm.exec) (hb : c.code = cc) (harr : (Cond.arrayClass .byte).before args s = true) (hK : va_K D vwCl (TY cy) s) (hP : va_P D vwCl ws H) (hD : va_D A ws) (hS : va_S A s.heap H locs) (hA : ∀ q, s.heap.size ≤ q → A q)
    {n : Int32} {N : Nat} (hn : ¬ n < 0) (hN : n.toNatClampNeg = N) (hbytes : N * 1 ≤ 536870912) (hcells : cells + 1 ≤ R.cells) (hslots : slots + N ≤ R.slots) {rest : List Value} (hdg : decode cc pc = .ok (.newarray .byte, 2))
    (kk : ∀ (q : Nat) (H1 : Heap), va_P D vwCl (ws ++ [(q, .inl (cy 1, N, .inl (fun _ => 0)))]) H1 → va_D A (ws ++ [(q, .inl (cy 1, N, .inl (fun _ => 0)))]) → va_S A s.heap H1 locs → W p l e R s m args below meth c H1 locs (cells + 1) (slots + N) Q (F0 m (pc + 2) ls (.ref q :: rest))) : W p l e R s m args below meth c H locs cells slots Q (F0 m pc ls (.int n :: rest)) := by
  refine va_newa (atype := .byte) (ty := .byte) hx hb harr rfl hK hP hD hS hA (a0 := (N, .inl (fun _ => 0))) (fun cA => rfl) hn hN hbytes hcells hslots hdg (fun q cA H1 hK1 hP1 hD1 hS1 => ?_)
  have h1 : s.vm.findClass ("[" ++ FieldType.byte.toString) = some cA := (hK1.2 5 _ rfl).2
  have h2 : s.vm.findClass ("[" ++ FieldType.byte.toString) = some (cy 1) := (hK.2 1 _ rfl).2
  have h3 : cA = cy 1 := Option.some.inj (h1.symm.trans h2)
  rw [h3] at hP1 hD1
  exact kk q H1 hP1 hD1 hS1
theorem g_newZ {ws : va_W} (hx : p.tables.exec = Jvm.exec) (hb : c.code = cc) (harr : (Cond.arrayClass .boolean).before args s = true) (hK : va_K D vwCl (TY cy) s) (hP : va_P D vwCl ws H) (hD : va_D A ws) (hS : va_S A s.heap H locs) (hA : ∀ q, s.heap.size ≤ q → A q)
    {n : Int32} {N : Nat} (hn : ¬ n < 0) (hN : n.toNatClampNeg = N) (hbytes : N * 1 ≤ 536870912) (hcells : cells + 1 ≤ R.cells) (hslots : slots + N ≤ R.slots) {rest : List Value} (hdg : decode cc pc = .ok (.newarray .boolean, 2))
    (kk : ∀ (q : Nat) (H1 : Heap), va_P D vwCl (ws ++ [(q, .inl (cy 2, N, .inl (fun _ => 0)))]) H1 → va_D A (ws ++ [(q, .inl (cy 2, N, .inl (fun _ => 0)))]) → va_S A s.heap H1 locs → W p l e R s m args below meth c H1 locs (cells + 1) (slots + N) Q (F0 m (pc + 2) ls (.ref q :: rest))) : W p l e R s m args below meth c H locs cells slots Q (F0 m pc ls (.int n :: rest)) := by
  refine va_newa (atype := .boolean) (ty := .boolean) hx hb harr rfl hK hP hD hS hA (a0 := (N, .inl (fun _ => 0))) (fun cA => rfl) hn hN hbytes hcells hslots hdg (fun q cA H1 hK1 hP1 hD1 hS1 => ?_)
  have h1 : s.vm.findClass ("[" ++ FieldType.boolean.toString) = some cA := (hK1.2 5 _ rfl).2
  have h2 : s.vm.findClass ("[" ++ FieldType.boolean.toString) = some (cy 2) := (hK.2 2 _ rfl).2
  have h3 : cA = cy 2 := Option.some.inj (h1.symm.trans h2)
  rw [h3] at hP1 hD1
  exact kk q H1 hP1 hD1 hS1
/-- behind a call whose cells stand last: the rest is unchanged -/
theorem g_join {ws wc w1 : va_W} {H1 : Heap} {t : State} (hP : va_P D vwCl (ws ++ wc) H) (hD : va_D A (ws ++ wc)) (hS : va_S A s.heap H locs) (hA : ∀ q, s.heap.size ≤ q → A q)
    (hk1 : ∀ q : Nat, q < H.size → ¬ va_A wc H.size q → H1[q]? = H[q]?) (ht : t.heap = H1) (hB : gB D cy (va_A wc H.size) w1 t) : va_P D vwCl (ws ++ w1) H1 ∧ va_D A (ws ++ w1) := by
  obtain ⟨hPx, hPt⟩ := va_P_split hP
  obtain ⟨hDx, hDt, hdj⟩ := va_D_split hD
  obtain ⟨hB1, -, hB3⟩ := hB
  rw [ht] at hB1
  have hno : ∀ q ∈ ws, q.1 < H.size ∧ ¬ va_A wc H.size q.1 := by
    intro q hq
    have hlt := (va_P_mem.mp hPx q hq).lt
    refine ⟨hlt, ?_⟩
    rintro (⟨k, e, hk⟩ | h3)
    · exact hdj q hq _ (List.mem_of_getElem? hk) rfl
    · omega
  have hA1 : ∀ q, va_A wc H.size q → A q := by
    rintro q (⟨k, e, hk⟩ | h3)
    · exact hDt.2 k _ hk
    · exact hA q (Nat.le_trans hS.1 h3)
  refine ⟨va_P.app (va_P_mem.mpr (fun q hq => (va_P_mem.mp hPx q hq).kept (hk1 _ (hno q hq).1 (hno q hq).2))) hB1, va_D_glue hDx (hB3.weaken (fun k q hk h => hA1 _ h)) ?_⟩
  intro a ha b hb e
  obtain ⟨k, hk⟩ := List.getElem?_of_mem hb
  have h5 := hB3.2 k b hk
  rw [← e] at h5
  exact (hno a ha).2 h5
theorem g_freeL {ws wc : va_W} (hD : va_D A (ws ++ wc)) (hS : va_S A s.heap H locs) (hA : ∀ q, s.heap.size ≤ q → A q) : ∀ q, va_A wc H.size q → A q := by
  obtain ⟨hDx, hDt, hdj⟩ := va_D_split hD
  rintro q (⟨k, e, hk⟩ | h3)
  · exact hDt.2 k _ hk
  · exact hA q (Nat.le_trans hS.1 h3)
theorem g_preM {av : List Value} {wc : va_W} (hK : va_K D vwCl (TY cy) s) (hPc : va_P D vwCl wc H) (hDc : va_D A wc) (hM : gM s) : PreS s H (va_Pc av (gPM D cy H.size wc)) av :=
  ⟨fun a U g mk q => by obtain ⟨q0, ⟨q1, qP, qK, qD⟩, qM⟩ := q; exact ⟨q0, ⟨q1, qP, va_K.moved (u := U) (U := U.calling g mk a) (Vm.Alike.refl U.vm) qK, qD⟩, gM.same (u := U) (U := U.calling g mk a) rfl qM⟩, fun U hU hW => ⟨rfl, ⟨by rw [hU], by rw [hU]; exact hPc, va_K.moved hW.alike hK, hDc.weaken (fun _ _ _ _ => trivial)⟩, gM.warm hW hM⟩⟩
variable {y : MethodName} {ws wc : va_W} {wsm : List Cond} {rm : Room} {Ts : List Cond} {own : String} {bytes : ByteArray} {maxL nL n index mc ms : Nat} {As rest : List Value} {b : Nat}
theorem g_init {X : Type} {Wf : X → va_W} (S : CallFix p m c cc nL s args Ts own) (hC : Met l y wsm rm (va_Pc (.ref b :: As) (gPM D cy H.size wc)) (gQx D cy (va_A wc H.size) Wf) mc ms (va_A wc H.size)) (cw : CallB R s args own index y bytes maxL none wsm rm mc ms n ∧ y.name = "<init>" ∧ (Cond.instanceMethod y).before args s = true)
    (hn : As.length = n) (hsize : ls.size = nL) {st0 : List Value} (hst : st0 = As.reverse ++ .ref b :: rest) (hW : (rest.map fun v => v.category).sum ≤ 8) (hdg : decode cc pc = .ok (.invokespecial index, 3))
    (hM : gM s) (hK : va_K D vwCl (TY cy) s) (hP : va_P D vwCl (ws ++ wc) H) (hD : va_D A (ws ++ wc)) (hS : va_S A s.heap H locs) (hA : ∀ q, s.heap.size ≤ q → A q) (hc : cells + mc ≤ R.cells) (hs : slots + ms ≤ R.slots)
    (kk : ∀ (x : X) (H1 : Heap) (locs1 : List Loc), va_P D vwCl (ws ++ Wf x) H1 → va_D A (ws ++ Wf x) → va_S A s.heap H1 locs1 → W p l e R s m args below meth c H1 locs1 (cells + mc) (slots + ms) Q (F0 m (pc + 3) ls rest)) : W p l e R s m args below meth c H locs cells slots Q (F0 m pc ls st0) := by
  have hPc := (va_P_split hP).2
  have hDc := (va_D_split hD).2.1
  have hFc := g_freeL hD hS hA
  have hp := g_preM (av := .ref b :: As) hK hPc hDc hM
  refine va_callv (va_runI (As := As) (rest := rest) S hC cw hp rfl hn hsize hst (lv_room hW) hdg ⟨hc, hs⟩) hS (fun q _ h => hFc q h) hFc (fun u t H1 locs1 ht hvm hw hB hz1 hk1 hS1 => ?_)
  obtain ⟨h1, h2⟩ := g_join hP hD hS hA hk1 ht hB
  exact kk u H1 locs1 h1 h2 hS1
theorem g_initN {X : Type} {Wf : X → va_W} {host : String} (S : CallFix p m c cc nL s args Ts own) (hC : Met l y wsm rm (va_Pc (.ref b :: As) (gPM D cy H.size wc)) (gQx D cy (va_A wc H.size) Wf) mc ms (va_A wc H.size)) (cw : va_CN R s args own index y host bytes maxL none wsm rm mc ms n ∧ y.name = "<init>" ∧ (Cond.instanceMethod y).before args s = true)
    (hn : As.length = n) (hsize : ls.size = nL) {st0 : List Value} (hst : st0 = As.reverse ++ .ref b :: rest) (hW : (rest.map fun v => v.category).sum ≤ 8) (hdg : decode cc pc = .ok (.invokespecial index, 3))
    (hM : gM s) (hK : va_K D vwCl (TY cy) s) (hP : va_P D vwCl (ws ++ wc) H) (hD : va_D A (ws ++ wc)) (hS : va_S A s.heap H locs) (hA : ∀ q, s.heap.size ≤ q → A q) (hc : cells + mc ≤ R.cells) (hs : slots + ms ≤ R.slots)
    (kk : ∀ (x : X) (H1 : Heap) (locs1 : List Loc), va_P D vwCl (ws ++ Wf x) H1 → va_D A (ws ++ Wf x) → va_S A s.heap H1 locs1 → W p l e R s m args below meth c H1 locs1 (cells + mc) (slots + ms) Q (F0 m (pc + 3) ls rest)) : W p l e R s m args below meth c H locs cells slots Q (F0 m pc ls st0) := by
  have hPc := (va_P_split hP).2
  have hDc := (va_D_split hD).2.1
  have hFc := g_freeL hD hS hA
  have hp := g_preM (av := .ref b :: As) hK hPc hDc hM
  refine va_callv (va_runIN (As := As) (rest := rest) S hC cw hp rfl hn hsize hst (lv_room hW) hdg ⟨hc, hs⟩) hS (fun q _ h => hFc q h) hFc (fun u t H1 locs1 ht hvm hw hB hz1 hk1 hS1 => ?_)
  obtain ⟨h1, h2⟩ := g_join hP hD hS hA hk1 ht hB
  exact kk u H1 locs1 h1 h2 hS1
theorem g_newW (hx : p.tables.exec = Jvm.exec) (hb : c.code = cc) (hown : s.vm.findClass own = some m.cls) (hclink : (Cond.classLink own index "TitleDesk$Wording").before args s = true) (hM : gM s) (hK : va_K D vwCl (TY cy) s) (hP : va_P D vwCl ws H) (hD : va_D A ws) (hS : va_S A s.heap H locs) (hA : ∀ q, s.heap.size ≤ q → A q)
    {n : Int32} {N : Nat} (hn : ¬ n < 0) (hN : n.toNatClampNeg = N) (hbytes : N * 4 ≤ 536870912) (hcells : cells + 1 ≤ R.cells) (hslots : slots + N ≤ R.slots) (hdg : decode cc pc = .ok (.anewarray index, 3))
    (kk : ∀ (q : Nat) (H1 : Heap), va_P D vwCl (ws ++ [(q, .inl (cy 4, N, .inr (.inr (.inr (.inr (fun _ => none))))))]) H1 → va_D A (ws ++ [(q, .inl (cy 4, N, .inr (.inr (.inr (.inr (fun _ => none))))))]) → va_S A s.heap H1 locs → W p l e R s m args below meth c H1 locs (cells + 1) (slots + N) Q (F0 m (pc + 3) ls (.ref q :: rest))) : W p l e R s m args below meth c H locs cells slots Q (F0 m pc ls (.int n :: rest)) := by
  refine va_newq hx hb hown hclink hM.2.1 hK hP hD hS hA hn hN hbytes hcells hslots hdg (fun q cA H1 hK1 hP1 hD1 hS1 => ?_)
  obtain ⟨-, -, -, -, -, h1⟩ := (hK1.2 5 _ rfl).2
  obtain ⟨-, -, -, -, -, h2⟩ := (hK.2 4 _ rfl).2
  have h3 : cA = cy 4 := Option.some.inj (h1.symm.trans h2)
  rw [h3] at hP1 hD1
  exact kk q H1 hP1 hD1 hS1
/-- new int[13][241] -/
theorem g_mna (hx : p.tables.exec = Jvm.exec) (hb : c.code = cc) (hown : s.vm.findClass own = some m.cls) (hclink : (Cond.classLink own index "[[I").before args s = true) (harr : (Cond.arrayClass .int).before args s = true) (hM : gM s) (hK : va_K D vwCl (TY cy) s) (hP : va_P D vwCl ws H) (hD : va_D A ws) (hS : va_S A s.heap H locs) (hA : ∀ q, s.heap.size ≤ q → A q)
    (hcells : cells + (1 + 13) ≤ R.cells) (hslots : slots + (13 + 13 * 241) ≤ R.slots) (hdg : decode cc pc = .ok (.multianewarray index 2, 4))
    (kk : ∀ (q : Nat) (r : Nat → Nat) (H1 : Heap), va_P D vwCl (ws ++ wP cy q r (fun _ => 0, fun _ _ => 0)) H1 → va_D A (ws ++ wP cy q r (fun _ => 0, fun _ _ => 0)) → va_S A s.heap H1 locs → W p l e R s m args below meth c H1 locs (cells + 1 + 13) (slots + 13 + 13 * 241) Q (F0 m (pc + 4) ls (.ref q :: rest))) : W p l e R s m args below meth c H locs cells slots Q (F0 m pc ls (.int 241 :: .int 13 :: rest)) := by
  have hcy : s.vm.findClass (FieldType.array FieldType.int).toString = some (cy 0) := (hK.2 0 _ rfl).2
  refine va_mna (X := ws) (L := []) (f := fun _ => .inl (cy 0, 0, .inl (fun _ => 0))) (z := (241, .inl (fun _ => 0))) (N' := 13) (K' := 241) hx hb hown hclink hM.2.2 harr hcy hK (by rw [show ws ++ va_pl [] _ = ws from List.append_nil ws]; exact hP) (by rw [show ws ++ va_pl [] _ = ws from List.append_nil ws]; exact hD) hS hA (by decide) (by decide) (by decide) (by decide) (by decide) (by decide) (by decide) rfl rfl hcells hslots (fun cA => ?_) hdg (fun q r cA H1 hinj _ hK1 hP1 hD1 hS1 => ?_)
  · show ({ cls := cA, slots := Array.replicate 241 (.int 0), vm := .none } : Cell) = _
    rw [arrV_new]
    rfl
  have h1 : s.vm.findClass ("[" ++ (FieldType.array .int).toString) = some cA := (hK1.2 5 _ rfl).2
  have h2 : s.vm.findClass ("[" ++ (FieldType.array .int).toString) = some (cy 3) := (hK.2 3 _ rfl).2
  have h3 : cA = cy 3 := Option.some.inj (h1.symm.trans h2)
  rw [h3] at hP1 hD1
  have e1 : ∀ j : Nat, j < 13 → vr_up (fun _ => (.inl (cy 0, 0, .inl (fun _ => 0)) : va_E)) ((List.range 13).map r) (.inl (cy 0, 241, .inl (fun _ => 0))) (r j) = .inl (cy 0, 241, .inl (fun _ => 0)) := fun j hj => vr_up_in (List.mem_map.mpr ⟨j, List.mem_range.mpr hj, rfl⟩)
  have e2 : va_pl ([] ++ (List.range 13).map r) (vr_up (fun _ => (.inl (cy 0, 0, .inl (fun _ => 0)) : va_E)) ((List.range 13).map r) (.inl (cy 0, 241, .inl (fun _ => 0)))) = (List.range 13).map (fun j => (r j, (.inl (cy 0, 241, .inl (fun _ => 0)) : va_E))) := by
    unfold va_pl
    rw [List.nil_append, List.map_map]
    refine List.map_congr_left (fun j hj => ?_)
    show (r j, _) = (r j, _)
    rw [e1 j (List.mem_range.mp hj)]
  rw [e2, List.append_assoc] at hP1 hD1
  have e3 : va_at D vwCl (q, (.inl (cy 3, 13, .inr (.inr (.inr (.inr (fun i => if i < 13 then some (r i) else none))))) : va_E)) H1 → va_at D vwCl (q, (.inl (cy 3, 13, .inr (.inr (.inr (.inr (fun j => some (r j)))))) : va_E)) H1 := by
    intro h
    refine Eq.trans h (congrArg some ?_)
    show vp_cell (cy 3) (13, .inr (.inr (.inr (.inr (fun i => if i < 13 then some (r i) else none))))) = vp_cell (cy 3) (13, .inr (.inr (.inr (.inr (fun j => some (r j))))))
    rw [vp_cell_q, vp_cell_q]
    refine arrV_agree (fun j hj => ?_)
    show va_rf (if j < 13 then some (r j) else none) = va_rf (some (r j))
    rw [if_pos hj]
  refine kk q r H1 ?_ ?_ hS1
  · refine va_P_mem.mpr (fun x hx => ?_)
    have hm := va_P_mem.mp hP1
    rcases List.mem_append.mp hx with h | h
    · exact hm x (List.mem_append_left _ h)
    · rcases List.mem_cons.mp h with h | h
      · subst h
        exact e3 (hm _ (List.mem_append_right _ List.mem_cons_self))
      · exact hm x (List.mem_append_right _ (List.mem_cons_of_mem _ h))
  · refine va_D_pw.mpr ?_
    obtain ⟨g1, g2⟩ := va_D_pw.mp hD1
    have hk : ∀ (a b : va_W), a.map Prod.fst = b.map Prod.fst → a.Pairwise (fun p q => p.1 ≠ q.1) ∧ (∀ q ∈ a, A q.1) → b.Pairwise (fun p q => p.1 ≠ q.1) ∧ ∀ q ∈ b, A q.1 := by
      intro a b hab ⟨u1, u2⟩
      have t1 : (a.map Prod.fst).Pairwise (fun x y => x ≠ y) := List.pairwise_map.mpr u1
      rw [hab] at t1
      refine ⟨List.pairwise_map.mp t1, fun q hq => ?_⟩
      have t2 : q.1 ∈ a.map Prod.fst := by rw [hab]; exact List.mem_map.mpr ⟨q, hq, rfl⟩
      obtain ⟨z, hz, e⟩ := List.mem_map.mp t2
      rw [← e]
      exact u2 z hz
    exact hk _ _ (by rw [List.map_append, List.map_append, List.map_append]; rfl) ⟨g1, g2⟩
end GWM
