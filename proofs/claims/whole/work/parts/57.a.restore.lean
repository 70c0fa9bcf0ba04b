/-! restore: a slot laid from the text; useScript, restoreAll; T_begin -/
/-- a slot's clause of RW -/
def RWs (r1 : Nat) (F : FSt) (Lk : List Nat) (ck : Nat → Nat × (Nat → Int32)) (M : St) (w ns : Nat → Nat) (hs : Nat → Nat → Nat) (ch : Nat → Bool) (t g : Nat) : Prop :=
  ∃ (f n : Nat) (h : Nat → Nat), (F.2 (4 * t + g) ∈ Lk ∧ F.2 (4 * t + g) ≠ r1) ∧ ((F.1 (4 * t + g)).1 1 = nI f ∧ (F.1 (4 * t + g)).1 2 = nI n ∧ (F.1 (4 * t + g)).1 3 = nI (b1 (ch (4 * t + g)))) ∧
    (f + n ≤ (ck (F.2 (4 * t + g))).1 ∧ (ck (F.2 (4 * t + g))).1 ≤ 1500 ∧ PrpA h n ∧ ∀ i, i < n → (ck (F.2 (4 * t + g))).2 (f + i) = nI (h i)) ∧
    (∃ (W : Nat) (wb we : Nat → Nat), Wds h n W wb we ∧ fitP W (wdt w g) wb we ∧ Lw (F.1 (4 * t + g)) W (wdt w g) wb we) ∧
    ((ch (4 * t + g) = false ∧ n = ns (4 * t + g) ∧ ∀ i, i < n → h i = hs (4 * t + g) i) ∨ (ch (4 * t + g) = true ∧ M.2 21 (4 * t + g) = nI n ∧ ∀ i, i < n → M.2 20 (500 * (4 * t + g) + i) = nI (h i)))
theorem RWs.c {r1 : Nat} {F F' : FSt} {Lk : List Nat} {ck : Nat → Nat × (Nat → Int32)} {M M' : St} {w ns : Nat → Nat} {hs : Nat → Nat → Nat} {ch ch' : Nat → Bool} {t g : Nat} (e1 : F'.1 (4 * t + g) = F.1 (4 * t + g)) (e2 : F'.2 (4 * t + g) = F.2 (4 * t + g)) (e3 : ch' (4 * t + g) = ch (4 * t + g)) (e4 : ch (4 * t + g) = true → M'.2 21 (4 * t + g) = M.2 21 (4 * t + g) ∧ ∀ i, i < 500 → M'.2 20 (500 * (4 * t + g) + i) = M.2 20 (500 * (4 * t + g) + i)) (hw : wdt w g ≤ 40) (h : RWs r1 F Lk ck M w ns hs ch t g) : RWs r1 F' Lk ck M' w ns hs ch' t g := by
  obtain ⟨f, n, h, h1, h2, h3, ⟨W, wb, we, H, hf, hl⟩, h5⟩ := h
  have hn := n_500 H hw hf
  refine ⟨f, n, h, by rw [e2]; exact h1, by rw [e1, e3]; exact h2, by rw [e2]; exact h3, ⟨W, wb, we, H, hf, by rw [e1]; exact hl⟩, ?_⟩
  rw [e3]
  rcases h5 with q | ⟨q1, q2, q3⟩
  · exact Or.inl q
  · exact Or.inr ⟨q1, by rw [(e4 q1).1]; exact q2, fun i hi => by rw [(e4 q1).2 i (by omega)]; exact q3 i hi⟩
theorem wdt_40 {s M : St} {tg tt im bt cn : Nat} {w v bar tm : Nat → Nat} (R : RS s M tg tt im bt cn w v bar tm) {g : Nat} (hg : g < 4) : wdt w g ≤ 40 := by
  have := (R.2.2.2.2.2.1 g hg).2.2
  unfold wdt
  split <;> omega
theorem slotOf_e (fu : Nat) {t g : Nat} (ht : t < 40) (hg : g < 4) : f_X5_slotOf fu (nI t) (nI g) = some (nI (4 * t + g)) := by
  unfold f_X5_slotOf
  rw [if_neg (nI_pos (by omega)), if_neg (show ¬ (40 : Int32) ≤ nI t from nI_ge (a := t) (b := 40) ht (by decide)), if_neg (nI_pos (by omega)), if_pos (show nI g < 4 from nI_lt (b := 4) hg (by decide)), show (nI t * 4 : Int32) = nI (t * 4) from pk_mul t 4, nI_add, Nat.mul_comm]
theorem strFrom_e (fu : Nat) (s : St) {t g : Nat} (ht : t < 40) (hg : g < 4) : f_X5_stringFrom fu s (nI t) (nI g) = some (s.2 11 (4 * t + g)) := by
  unfold f_X5_stringFrom
  refine bd (slotOf_e fu ht hg) (iN (nI_ne_m1 (by omega)) ?_)
  rw [if_pos (inb_nI (show 4 * t + g < 160 by omega) (by decide)), cl_nI (by omega)]
theorem strLen_e (fu : Nat) (s : St) {t g : Nat} (ht : t < 40) (hg : g < 4) : f_X5_stringLength fu s (nI t) (nI g) = some (s.2 12 (4 * t + g)) := by
  unfold f_X5_stringLength
  refine bd (slotOf_e fu ht hg) (iN (nI_ne_m1 (by omega)) ?_)
  rw [if_pos (inb_nI (show 4 * t + g < 160 by omega) (by decide)), cl_nI (by omega)]
section RST
variable {r1 r2 : Nat} {b2 : Nat → Int32} {s3 M : St} {Lk : List Nat} {ck : Nat → Nat × (Nat → Int32)} {tg tt im bt cn : Nat} {w v bar tm fr ns : Nat → Nat} {hs : Nat → Nat → Nat}
/-- a wording laid anew -/
theorem relay_e (R : RS s3 M tg tt im bt cn w v bar tm) {fu : Nat} (hfu : 2000 ≤ fu) {n2 : Nat} {t g f n : Nat} (ht : t < tt) (hg : g < tg) {h : Nat → Nat} {W : Nat} {wb we : Nat → Nat} (hP : PrpA h n) (H : Wds h n W wb we) (hf : fitP W (wdt w g) wb we) (hfn : f + n ≤ n2) (hn2 : n2 ≤ 1500) (hb : ∀ i, i < n → b2 (f + i) = nI (h i)) (s9 s10 V : St) (c : Bool) :
    ∃ t9 t10 v' : St, f_X1_layOut fu n2 b2 s9 s10 (sF (sF (sF V 1 (nI f)) 2 (nI n)) 3 (nI (b1 c))) (nI (wdt w g)) = some (t9, t10, v') ∧ Lw v' W (wdt w g) wb we ∧ v'.1 1 = nI f ∧ v'.1 2 = nI n ∧ v'.1 3 = nI (b1 c) := by
  have hg4 : tg ≤ 4 := R.1.2.2.2
  have hw := wdt_40 R (show g < 4 by omega)
  have hW := gr_240 H.m hw hf.1 W 0 rfl (Nat.zero_le _)
  obtain ⟨t9, t10, v', e1, e2, e3⟩ := layOut_e (v := sF (sF (sF V 1 (nI f)) 2 (nI n)) 3 (nI (b1 c))) H (by have := hf.2; omega) rfl rfl hb hfn hn2 (fun i hi => by have := hP.lt i hi; omega) (by omega) hf.1 hf.2 hfu s9 s10
  exact ⟨t9, t10, v', e1, e2, by rw [e3 1 (by decide) (by decide)]; rfl, by rw [e3 2 (by decide) (by decide)]; rfl, by rw [e3 3 (by decide) (by decide)]; rfl⟩
theorem restore_e (R : RS s3 M tg tt im bt cn w v bar tm) (X : RX b2 s3 M tg tt w fr ns hs) {fu : Nat} (hfu : 2000 ≤ fu) (hr : r2 ≠ r1) (hL : r2 ∈ Lk) (hck : ck r2 = (1500, b2)) {t g : Nat} (ht : t < tt) (hg : g < tg) (s9 s10 : St) (F : FSt) :
    ∃ (t9 t10 : St) (F' : FSt), f_X0_restore fu r2 s0i s3 Lk ck s9 s10 F (nI t) (nI g) = some (t9, t10, F') ∧ (∀ κ, κ ≠ 4 * t + g → F'.1 κ = F.1 κ ∧ F'.2 κ = F.2 κ) ∧ ∀ (ch : Nat → Bool) (M' : St), ch (4 * t + g) = false → RWs r1 F' Lk ck M' w ns hs ch t g := by
  have hg4 : tg ≤ 4 := R.1.2.2.2
  have ht4 : tt ≤ 40 := R.2.1.2.2
  obtain ⟨⟨x1, x2, x3⟩, xP, xb, ⟨W, wb, we, H, hf⟩, -⟩ := X t g ht hg
  obtain ⟨t9, t10, v', e1, e2, e3, e4, e5⟩ := relay_e R hfu (n2 := 1500) (b2 := b2) ht hg xP H hf x3 (Nat.le_refl _) xb s9 s10 (F.1 (4 * t + g)) false
  refine ⟨t9, t10, fU (fG F (4 * t + g) (sF (sF (sF (F.1 (4 * t + g)) 1 (nI (fr (4 * t + g)))) 2 (nI (ns (4 * t + g)))) 3 (nI (b1 false))) r2) (4 * t + g) v', ?_, ?_, ?_⟩
  · unfold f_X0_restore
    refine bd (isThere_1 R fu s0i ht hg) (iN (by decide) (bd (wordingOf_1 R fu s0i ht hg) (bd (strFrom_e fu s3 (by omega) (by omega)) (bd (strLen_e fu s3 (by omega) (by omega)) ?_))))
    have hlt : ltb (4 * t + g) 161 = true := decide_eq_true (by omega)
    rw [if_pos hlt, x1, x2]
    refine bd (r := sF (sF (sF (F.1 (4 * t + g)) 1 (nI (fr (4 * t + g)))) 2 (nI (ns (4 * t + g)))) 3 (nI (b1 false))) (by unfold f_X7_setString; exact if_pos isB_0) (bd (widthOf_e R fu hg) ?_)
    have g1 : ∀ y : St, (fG F (4 * t + g) y r2).2 (4 * t + g) = r2 := fun y => va_up_self _ _ _
    have g2 : ∀ y : St, (fG F (4 * t + g) y r2).1 (4 * t + g) = y := fun y => va_up_self _ _ _
    rw [if_pos hlt, g1, g2, if_pos (show memb r2 Lk = true from decide_eq_true hL), hck]
    exact bd e1 rfl
  · intro κ hκ
    have := fG_ne F (4 * t + g) (sF (sF (sF (F.1 (4 * t + g)) 1 (nI (fr (4 * t + g)))) 2 (nI (ns (4 * t + g)))) 3 (nI (b1 false))) r2 κ hκ
    have h2 := fU_ne (fG F (4 * t + g) (sF (sF (sF (F.1 (4 * t + g)) 1 (nI (fr (4 * t + g)))) 2 (nI (ns (4 * t + g)))) 3 (nI (b1 false))) r2) (4 * t + g) v' κ hκ
    exact ⟨h2.1.trans this.1, h2.2.trans this.2⟩
  · intro ch M' hc
    refine ⟨fr (4 * t + g), ns (4 * t + g), hs (4 * t + g), ?_, ?_, ?_, ⟨W, wb, we, H, hf, ?_⟩, Or.inl ⟨hc, rfl, fun _ _ => rfl⟩⟩
    · have g1 : (fU (fG F (4 * t + g) (sF (sF (sF (F.1 (4 * t + g)) 1 (nI (fr (4 * t + g)))) 2 (nI (ns (4 * t + g)))) 3 (nI (b1 false))) r2) (4 * t + g) v').2 (4 * t + g) = r2 := va_up_self _ _ _
      rw [g1]
      exact ⟨hL, hr⟩
    · have g1 : (fU (fG F (4 * t + g) (sF (sF (sF (F.1 (4 * t + g)) 1 (nI (fr (4 * t + g)))) 2 (nI (ns (4 * t + g)))) 3 (nI (b1 false))) r2) (4 * t + g) v').1 (4 * t + g) = v' := va_up_self _ _ _
      rw [g1, hc]
      exact ⟨e3, e4, e5⟩
    · have g1 : (fU (fG F (4 * t + g) (sF (sF (sF (F.1 (4 * t + g)) 1 (nI (fr (4 * t + g)))) 2 (nI (ns (4 * t + g)))) 3 (nI (b1 false))) r2) (4 * t + g) v').2 (4 * t + g) = r2 := va_up_self _ _ _
      rw [g1, hck]
      exact ⟨x3, Nat.le_refl _, xP, xb⟩
    · have g1 : (fU (fG F (4 * t + g) (sF (sF (sF (F.1 (4 * t + g)) 1 (nI (fr (4 * t + g)))) 2 (nI (ns (4 * t + g)))) 3 (nI (b1 false))) r2) (4 * t + g) v').1 (4 * t + g) = v' := va_up_self _ _ _
      rw [g1]
      exact e2
/-- slots ahead of (t, g) are laid from the text, the others as they were -/
def LdI (r1 : Nat) (Lk : List Nat) (ck : Nat → Nat × (Nat → Int32)) (w ns : Nat → Nat) (hs : Nat → Nat → Nat) (tg tt : Nat) (F0 : FSt) (t g : Nat) (F : FSt) : Prop :=
  (F.1 160 = F0.1 160 ∧ F.2 160 = F0.2 160) ∧ ∀ t' g', t' < tt → g' < tg → ((t' < t ∨ (t' = t ∧ g' < g)) → ∀ (ch : Nat → Bool) (M' : St), ch (4 * t' + g') = false → RWs r1 F Lk ck M' w ns hs ch t' g') ∧ (¬ (t' < t ∨ (t' = t ∧ g' < g)) → F.1 (4 * t' + g') = F0.1 (4 * t' + g') ∧ F.2 (4 * t' + g') = F0.2 (4 * t' + g'))
theorem LdI.step (R : RS s3 M tg tt im bt cn w v bar tm) {F0 F F' : FSt} {t g : Nat} (ht : t < tt) (hg : g < tg) (h : LdI r1 Lk ck w ns hs tg tt F0 t g F) (h1 : ∀ κ, κ ≠ 4 * t + g → F'.1 κ = F.1 κ ∧ F'.2 κ = F.2 κ) (h2 : ∀ (ch : Nat → Bool) (M' : St), ch (4 * t + g) = false → RWs r1 F' Lk ck M' w ns hs ch t g) : LdI r1 Lk ck w ns hs tg tt F0 t (g + 1) F' := by
  have hg4 : tg ≤ 4 := R.1.2.2.2
  have ht4 : tt ≤ 40 := R.2.1.2.2
  obtain ⟨⟨k1, k2⟩, k3⟩ := h
  have e0 := h1 160 (by omega)
  refine ⟨⟨e0.1.trans k1, e0.2.trans k2⟩, fun t' g' ht' hg' => ⟨fun hd ch M' hc => ?_, fun hd => ?_⟩⟩
  · by_cases c : t' = t ∧ g' = g
    · obtain ⟨rfl, rfl⟩ := c
      exact h2 ch M' hc
    · have e1 := h1 (4 * t' + g') (by omega)
      have hd' : t' < t ∨ (t' = t ∧ g' < g) := by omega
      exact RWs.c (M := M') e1.1 e1.2 rfl (fun q => by rw [hc] at q; exact absurd q (by decide)) (wdt_40 R (show g' < 4 by omega)) ((k3 t' g' ht' hg').1 hd' ch M' hc)
  · have e1 := h1 (4 * t' + g') (by omega)
    have := (k3 t' g' ht' hg').2 (by omega)
    exact ⟨e1.1.trans this.1, e1.2.trans this.2⟩
theorem LdI.next {F0 F : FSt} {t : Nat} (h : LdI r1 Lk ck w ns hs tg tt F0 t tg F) : LdI r1 Lk ck w ns hs tg tt F0 (t + 1) 0 F := by
  refine ⟨h.1, fun t' g' ht' hg' => ⟨fun hd => (h.2 t' g' ht' hg').1 (by omega), fun hd => (h.2 t' g' ht' hg').2 (by omega)⟩⟩
theorem us26 (R : RS s3 M tg tt im bt cn w v bar tm) (X : RX b2 s3 M tg tt w fr ns hs) {fu : Nat} (hfu : 2000 ≤ fu) (hr : r2 ≠ r1) (hL : r2 ∈ Lk) (hck : ck r2 = (1500, b2)) (F0 : FSt) {t : Nat} (ht : t < tt) (K : St → St → FSt → Int32 → Option (St × St × FSt)) :
    ∀ (m q g : Nat) (u3 u4 : St) (F : FSt), g + m = tg → m < q → LdI r1 Lk ck w ns hs tg tt F0 t g F → ∃ (u3' u4' : St) (F' : FSt), f_X0_useScript_L26 K fu r2 s0i s3 Lk ck q u3 u4 F (nI t) (nI g) = K u3' u4' F' (nI (t + 1)) ∧ LdI r1 Lk ck w ns hs tg tt F0 (t + 1) 0 F' := by
  have hg4 : tg ≤ 4 := R.1.2.2.2
  have h0 := R.1.1
  intro m
  induction m with
  | zero =>
    intro q g u3 u4 F hm hq hI
    obtain ⟨q, rfl⟩ : ∃ q', q = q' + 1 := ⟨q - 1, by omega⟩
    have : g = tg := by omega
    subst this
    refine ⟨u3, u4, F, ?_, hI.next⟩
    rw [f_X0_useScript_L26, h0, nI_1]
    exact if_pos (nI_le (Nat.le_refl _) (by omega))
  | succ m ih =>
    intro q g u3 u4 F hm hq hI
    obtain ⟨q, rfl⟩ : ∃ q', q = q' + 1 := ⟨q - 1, by omega⟩
    obtain ⟨t9, t10, F', e1, e2, e3⟩ := restore_e R X hfu hr hL hck ht (show g < tg by omega) u3 u4 F
    obtain ⟨a, b, F2, k1, k2⟩ := ih q (g + 1) t9 t10 F' (by omega) (by omega) (LdI.step R ht (by omega) hI e2 e3)
    refine ⟨a, b, F2, ?_, k2⟩
    rw [f_X0_useScript_L26, h0, if_neg (nI_ge (show g < tg by omega) (by omega)), nI_1]
    exact bd e1 k1
theorem us12 (R : RS s3 M tg tt im bt cn w v bar tm) (X : RX b2 s3 M tg tt w fr ns hs) {fu : Nat} (hfu : 2000 ≤ fu) (hr : r2 ≠ r1) (hL : r2 ∈ Lk) (hck : ck r2 = (1500, b2)) (F0 : FSt) :
    ∀ (m q t : Nat) (u3 u4 : St) (F : FSt), t + m = tt → m < q → LdI r1 Lk ck w ns hs tg tt F0 t 0 F → ∃ (u3' u4' : St) (F' : FSt), f_X0_useScript_L12 fu r2 s0i s3 Lk ck q u3 u4 F (nI t) = some (u3', u4', F') ∧ LdI r1 Lk ck w ns hs tg tt F0 tt 0 F' := by
  have hg4 : tg ≤ 4 := R.1.2.2.2
  have ht4 : tt ≤ 40 := R.2.1.2.2
  have h0 := R.2.1.1
  intro m
  induction m with
  | zero =>
    intro q t u3 u4 F hm hq hI
    obtain ⟨q, rfl⟩ : ∃ q', q = q' + 1 := ⟨q - 1, by omega⟩
    have : t = tt := by omega
    subst this
    refine ⟨u3, u4, F, ?_, hI⟩
    rw [f_X0_useScript_L12, h0]
    exact if_pos (nI_le (Nat.le_refl _) (by omega))
  | succ m ih =>
    intro q t u3 u4 F hm hq hI
    obtain ⟨q, rfl⟩ : ∃ q', q = q' + 1 := ⟨q - 1, by omega⟩
    obtain ⟨a, b, F', e1, e2⟩ := us26 R X hfu hr hL hck F0 (show t < tt by omega) (f_X0_useScript_L12 fu r2 s0i s3 Lk ck q) tg fu 0 u3 u4 F (by omega) (by omega) hI
    obtain ⟨a', b', F2, k1, k2⟩ := ih q (t + 1) a b F' (by omega) (by omega) e2
    refine ⟨a', b', F2, ?_, k2⟩
    rw [f_X0_useScript_L12, h0, if_neg (nI_ge (show t < tt by omega) (by omega))]
    exact e1.trans k1
theorem useScript_e (R : RS s3 M tg tt im bt cn w v bar tm) (X : RX b2 s3 M tg tt w fr ns hs) {fu : Nat} (hfu : 2000 ≤ fu) (hr : r2 ≠ r1) (hL : r2 ∈ Lk) (hck : ck r2 = (1500, b2)) (u3 u4 : St) (F : FSt) :
    ∃ (u3' u4' : St) (F' : FSt), f_X0_useScript fu r2 s0i s3 Lk ck u3 u4 F = some (u3', u4', F') ∧ LdI r1 Lk ck w ns hs tg tt F tt 0 F' := by
  have ht4 : tt ≤ 40 := R.2.1.2.2
  exact us12 R X hfu hr hL hck F tt fu 0 u3 u4 F (by omega) (by omega) ⟨⟨rfl, rfl⟩, fun t' g' ht' hg' => ⟨fun hd => absurd hd (by omega), fun _ => ⟨rfl, rfl⟩⟩⟩
theorem ra15 (R : RS s3 M tg tt im bt cn w v bar tm) (X : RX b2 s3 M tg tt w fr ns hs) {fu : Nat} (hfu : 2000 ≤ fu) (hr : r2 ≠ r1) (hL : r2 ∈ Lk) (hck : ck r2 = (1500, b2)) {F0 : FSt} {ch : Nat → Bool} (hW : ∀ t g, t < tt → g < tg → RWs r1 F0 Lk ck M w ns hs ch t g) {t : Nat} (ht : t < tt) (K : St → St → FSt → Int32 → Option (St × St × FSt)) :
    ∀ (m q g : Nat) (u3 u4 : St) (F : FSt), g + m = tg → m < q → LdI r1 Lk ck w ns hs tg tt F0 t g F → ∃ (u3' u4' : St) (F' : FSt), f_X0_restoreAll_L15 K fu r2 s0i s3 Lk ck q u3 u4 F (nI t) (nI g) = K u3' u4' F' (nI (t + 1)) ∧ LdI r1 Lk ck w ns hs tg tt F0 (t + 1) 0 F' := by
  have hg4 : tg ≤ 4 := R.1.2.2.2
  have ht4 : tt ≤ 40 := R.2.1.2.2
  have h0 := R.1.1
  intro m
  induction m with
  | zero =>
    intro q g u3 u4 F hm hq hI
    obtain ⟨q, rfl⟩ : ∃ q', q = q' + 1 := ⟨q - 1, by omega⟩
    have : g = tg := by omega
    subst this
    refine ⟨u3, u4, F, ?_, hI.next⟩
    rw [f_X0_restoreAll_L15, h0, nI_1]
    exact if_pos (nI_le (Nat.le_refl _) (by omega))
  | succ m ih =>
    intro q g u3 u4 F hm hq hI
    obtain ⟨q, rfl⟩ : ∃ q', q = q' + 1 := ⟨q - 1, by omega⟩
    have hgg : g < tg := by omega
    have hF := (hI.2 t g ht hgg).2 (by omega)
    have hS := hW t g ht hgg
    have h3 : (F.1 (4 * t + g)).1 3 = nI (b1 (ch (4 * t + g))) := by
      obtain ⟨f, n, h, -, ⟨-, -, h3⟩, -⟩ := id hS
      rw [hF.1]; exact h3
    have hlt : ltb (4 * t + g) 161 = true := decide_eq_true (by omega)
    rw [f_X0_restoreAll_L15, h0, if_neg (nI_ge hgg (by omega)), nI_1]
    by_cases c : ch (4 * t + g) = true
    · obtain ⟨t9, t10, F', e1, e2, e3⟩ := restore_e R X hfu hr hL hck ht hgg u3 u4 F
      obtain ⟨a, b, F2, k1, k2⟩ := ih q (g + 1) t9 t10 F' (by omega) (by omega) (LdI.step R ht hgg hI e2 e3)
      refine ⟨a, b, F2, ?_, k2⟩
      refine bd (wordingOf_1 R fu s0i ht hgg) ?_
      rw [if_pos hlt, h3, c, if_neg (show ¬ nI (b1 true) = 0 by decide)]
      exact bd e1 k1
    · have c' : ch (4 * t + g) = false := by
        cases hq : ch (4 * t + g) with
        | true => exact absurd hq c
        | false => rfl
      obtain ⟨a, b, F2, k1, k2⟩ := ih q (g + 1) u3 u4 F (by omega) (by omega) (LdI.step R ht hgg hI (fun _ _ => ⟨rfl, rfl⟩) (fun ch2 M' hc => RWs.c (M := M) (ch := ch) hF.1 hF.2 (hc.trans c'.symm) (fun q => absurd q c) (wdt_40 R (show g < 4 by omega)) hS))
      refine ⟨a, b, F2, ?_, k2⟩
      refine bd (wordingOf_1 R fu s0i ht hgg) ?_
      rw [if_pos hlt, h3, c', if_pos (show nI (b1 false) = 0 from rfl)]
      exact k1
theorem ra2 (R : RS s3 M tg tt im bt cn w v bar tm) (X : RX b2 s3 M tg tt w fr ns hs) {fu : Nat} (hfu : 2000 ≤ fu) (hr : r2 ≠ r1) (hL : r2 ∈ Lk) (hck : ck r2 = (1500, b2)) {F0 : FSt} {ch : Nat → Bool} (hW : ∀ t g, t < tt → g < tg → RWs r1 F0 Lk ck M w ns hs ch t g) :
    ∀ (m q t : Nat) (u3 u4 : St) (F : FSt), t + m = tt → m < q → LdI r1 Lk ck w ns hs tg tt F0 t 0 F → ∃ (u3' u4' : St) (F' : FSt), f_X0_restoreAll_L2 fu r2 s0i s3 Lk ck q u3 u4 F (nI t) = some (u3', u4', F') ∧ LdI r1 Lk ck w ns hs tg tt F0 tt 0 F' := by
  have hg4 : tg ≤ 4 := R.1.2.2.2
  have ht4 : tt ≤ 40 := R.2.1.2.2
  have h0 := R.2.1.1
  intro m
  induction m with
  | zero =>
    intro q t u3 u4 F hm hq hI
    obtain ⟨q, rfl⟩ : ∃ q', q = q' + 1 := ⟨q - 1, by omega⟩
    have : t = tt := by omega
    subst this
    refine ⟨u3, u4, F, ?_, hI⟩
    rw [f_X0_restoreAll_L2, h0]
    exact if_pos (nI_le (Nat.le_refl _) (by omega))
  | succ m ih =>
    intro q t u3 u4 F hm hq hI
    obtain ⟨q, rfl⟩ : ∃ q', q = q' + 1 := ⟨q - 1, by omega⟩
    obtain ⟨a, b, F', e1, e2⟩ := ra15 R X hfu hr hL hck hW (show t < tt by omega) (f_X0_restoreAll_L2 fu r2 s0i s3 Lk ck q) tg fu 0 u3 u4 F (by omega) (by omega) hI
    obtain ⟨a', b', F2, k1, k2⟩ := ih q (t + 1) a b F' (by omega) (by omega) e2
    refine ⟨a', b', F2, ?_, k2⟩
    rw [f_X0_restoreAll_L2, h0, if_neg (nI_ge (show t < tt by omega) (by omega))]
    exact e1.trans k1
theorem restoreAll_e (R : RS s3 M tg tt im bt cn w v bar tm) (X : RX b2 s3 M tg tt w fr ns hs) {fu : Nat} (hfu : 2000 ≤ fu) (hr : r2 ≠ r1) (hL : r2 ∈ Lk) (hck : ck r2 = (1500, b2)) {F : FSt} {ch : Nat → Bool} (hW : ∀ t g, t < tt → g < tg → RWs r1 F Lk ck M w ns hs ch t g) (u3 u4 : St) :
    ∃ (u3' u4' : St) (F' : FSt), f_X0_restoreAll fu r2 s0i s3 Lk ck u3 u4 F = some (u3', u4', F') ∧ LdI r1 Lk ck w ns hs tg tt F tt 0 F' := by
  have ht4 : tt ≤ 40 := R.2.1.2.2
  exact ra2 R X hfu hr hL hck hW tt fu 0 u3 u4 F (by omega) (by omega) ⟨⟨rfl, rfl⟩, fun t' g' ht' hg' => ⟨fun hd => absurd hd (by omega), fun _ => ⟨rfl, rfl⟩⟩⟩
end RST
/-! the reference's opens -/
theorem opL23 (fu : Nat) : ∀ (m q k : Nat) (u : St), k + m = 160 → m < q → (∀ j, j < k → u.2 19 j = 0) → ∃ u' : St, f_X10_opens_L23 fu q u (nI k) = some u' ∧ (∀ j, j < 160 → u'.2 19 j = 0) ∧ u'.1 22 = 0 ∧ u'.1 23 = 1 ∧ u'.1 24 = 0 ∧ (∀ x, x ≠ 22 → x ≠ 23 → x ≠ 24 → u'.1 x = u.1 x) ∧ ∀ x, x ≠ 19 → u'.2 x = u.2 x := by
  intro m
  induction m with
  | zero =>
    intro q k u hk hq hj
    obtain ⟨q, rfl⟩ : ∃ q', q = q' + 1 := ⟨q - 1, by omega⟩
    refine ⟨sF (sF (sF u 22 0) 23 1) 24 0, ?_, fun j h => hj j (by omega), rfl, rfl, rfl, fun x h1 h2 h3 => by rw [sF_1, if_neg h3, sF_1, if_neg h2, sF_1, if_neg h1], fun _ _ => rfl⟩
    rw [f_X10_opens_L23]
    exact if_pos (nI_le (a := 160) (by omega) (by omega))
  | succ m ih =>
    intro q k u hk hq hj
    obtain ⟨q, rfl⟩ : ∃ q', q = q' + 1 := ⟨q - 1, by omega⟩
    rw [f_X10_opens_L23, if_neg (show ¬ (160 : Int32) ≤ nI k from nI_ge (a := k) (b := 160) (by omega) (by decide)), if_pos (inb_nI (show k < 160 by omega) (by decide)), cl_nI (show k < 2 ^ 31 by omega), nI_1]
    obtain ⟨u', e1, e2, e3, e4, e5, e6, e7⟩ := ih q (k + 1) (sA u 19 k 0) (by omega) (by omega) (by
      intro j hjk
      rw [sA_2i, if_pos rfl]
      by_cases e : j = k
      · rw [if_pos e]
      · rw [if_neg e]; exact hj j (by omega))
    exact ⟨u', e1, e2, e3, e4, e5, e6, fun x hx => by rw [e7 x hx, sA_2, if_neg hx]⟩
theorem opL2 {fu : Nat} (hfu : 200 ≤ fu) : ∀ (m q k : Nat) (u : St), k + m = 8 → m < q → (∀ j, j < k → u.2 18 j = 0) → ∃ u' : St, f_X10_opens_L2 fu q u (nI k) = some u' ∧ (∀ j, j < 8 → u'.2 18 j = 0) ∧ (∀ j, j < 160 → u'.2 19 j = 0) ∧ u'.1 22 = 0 ∧ u'.1 23 = 1 ∧ u'.1 24 = 0 ∧ (∀ x, x ≠ 22 → x ≠ 23 → x ≠ 24 → u'.1 x = u.1 x) ∧ ∀ x, x ≠ 18 → x ≠ 19 → u'.2 x = u.2 x := by
  intro m
  induction m with
  | zero =>
    intro q k u hk hq hj
    obtain ⟨q, rfl⟩ : ∃ q', q = q' + 1 := ⟨q - 1, by omega⟩
    obtain ⟨u', e1, e2, e3, e4, e5, e6, e7⟩ := opL23 fu 160 fu 0 u rfl (by omega) (fun j hj => absurd hj (Nat.not_lt_zero _))
    refine ⟨u', ?_, fun j h => by rw [e7 18 (by decide)]; exact hj j (by omega), e2, e3, e4, e5, e6, fun x _ h => e7 x h⟩
    rw [f_X10_opens_L2]
    exact (if_pos (nI_le (a := 8) (by omega) (by omega))).trans e1
  | succ m ih =>
    intro q k u hk hq hj
    obtain ⟨q, rfl⟩ : ∃ q', q = q' + 1 := ⟨q - 1, by omega⟩
    rw [f_X10_opens_L2, if_neg (show ¬ (8 : Int32) ≤ nI k from nI_ge (a := k) (b := 8) (by omega) (by decide)), if_pos (inb_nI (show k < 8 by omega) (by decide)), cl_nI (show k < 2 ^ 31 by omega), nI_1]
    obtain ⟨u', e1, e2, e3, e4, e5, e6, e7, e8⟩ := ih q (k + 1) (sA u 18 k 0) (by omega) (by omega) (by
      intro j hjk
      rw [sA_2i, if_pos rfl]
      by_cases e : j = k
      · rw [if_pos e]
      · rw [if_neg e]; exact hj j (by omega))
    exact ⟨u', e1, e2, e3, e4, e5, e6, e7, fun x hx h9 => by rw [e8 x hx h9, sA_2, if_neg hx]⟩
theorem opens_e {fu : Nat} (hfu : 200 ≤ fu) (u : St) : ∃ u' : St, f_X10_opens fu u = some u' ∧ (∀ j, j < 8 → u'.2 18 j = 0) ∧ (∀ j, j < 160 → u'.2 19 j = 0) ∧ u'.1 22 = 0 ∧ u'.1 23 = 1 ∧ u'.1 24 = 0 ∧ (∀ x, x ≠ 22 → x ≠ 23 → x ≠ 24 → u'.1 x = u.1 x) ∧ ∀ x, x ≠ 18 → x ≠ 19 → u'.2 x = u.2 x :=
  opL2 hfu 8 fu 0 u rfl (by omega) (fun j hj => absurd hj (Nat.not_lt_zero _))
/-- the evening's relation at its start -/
theorem RE_start {e' s3 M' : St} {on : Nat → Bool} {cf ct : Nat → Nat} (hc : Ev (fun _ => 0) (fun k => nI (b1 (on k))) (s3.2 8) (s3.2 7) on cf ct) (hm : Ev (fun _ => 0) (fun k => nI (b1 (on k))) (M'.2 13) (M'.2 12) on cf ct) (a1 : ∀ j, j < 8 → e'.2 4 j = 0) (a2 : e'.1 0 = 0) (a3 : e'.1 1 = 1) (a4 : e'.1 2 = 0) (m1 : ∀ j, j < 8 → M'.2 18 j = 0) (m2 : M'.1 22 = 0) (m3 : M'.1 23 = 1) (m4 : M'.1 24 = 0) : RE e' s3 M' (fun _ => false) cf ct := by
  refine ⟨fun k hk => ⟨a1 k hk, (hc k hk).2⟩, fun k hk => ⟨m1 k hk, (hm k hk).2⟩, ⟨0, a2, m2, by omega, fun q => ?_⟩, true, 0, a3, m3, a4, m4, by omega, fun _ => by omega, fun q => absurd q (by omega)⟩
  obtain ⟨k, -, h, -⟩ := q
  exact absurd h Bool.false_ne_true
theorem RW_fresh {r1 : Nat} {F F' : FSt} {Lk : List Nat} {ck : Nat → Nat × (Nat → Int32)} {M' : St} {tg tt : Nat} {w ns : Nat → Nat} {hs : Nat → Nat → Nat} (h0 : F.2 160 ∈ Lk ∧ (F.1 160).1 4 = 0) (h : LdI r1 Lk ck w ns hs tg tt F tt 0 F') (m : ∀ j, j < 160 → M'.2 19 j = 0) : RW r1 F' Lk ck M' tg tt w ns hs (fun _ => false) :=
  ⟨by rw [h.1.1, h.1.2]; exact h0, fun κ hκ => ⟨m κ hκ, fun q => absurd q Bool.false_ne_true⟩, fun t g ht hg => (h.2 t g ht hg).1 (Or.inl ht) (fun _ => false) M' rfl⟩
theorem t_begin {fu : Nat} (hfu : 2000 ≤ fu) : T_begin Rel fu := by
  intro r1 r2 s1 s2 s3 s4 s5 s6 s9 s10 s11 s12 Lk ck M hR
  obtain ⟨tg, tt, im, bt, cn, w, v, bar, tm, fr, ns, hs, on, ch, cf, ct, h1, h2, h3, ⟨hc, hm, -⟩, h5, h6, h7⟩ := id hR
  obtain ⟨q1, q2, q3, q4, q5, q6⟩ := id h7
  have hck : ck r2 = (1500, (ck r2).2) := by rw [← q5]
  obtain ⟨u3, u4, F', e1, e2⟩ := restoreAll_e h2 h3 hfu (r1 := r1) (Ne.symm q1) q3 hck h5.2.2 s9 s10
  obtain ⟨e', a0, a1, a2, a3, a4⟩ := start_e (show 100 ≤ fu by omega) s3 s11
  obtain ⟨M', m0, m1, m2, m3, m4, m5, m6, m7⟩ := opens_e (show 200 ≤ fu by omega) (sF M 2 0)
  have mS : ∀ x, x ≠ 22 → x ≠ 23 → x ≠ 24 → x ≠ 2 → M'.1 x = M.1 x := fun x g1 g2 g3 g4 => by rw [m6 x g1 g2 g3, sF_1, if_neg g4]
  have mA : ∀ x, x ≠ 18 → x ≠ 19 → M'.2 x = M.2 x := fun x g1 g2 => by rw [m7 x g1 g2, sF_2]
  refine ⟨(e', u3, u4, F'), M', bd e1 (bd a0 rfl), bd m0 rfl, tg, tt, im, bt, cn, w, v, bar, tm, fr, ns, hs, (fun _ => false), (fun _ => false), cf, ct, ?_, ?_, ?_, ?_, ?_, ?_, ?_⟩
  · exact RT.c (mS 1 (by decide) (by decide) (by decide) (by decide)) (mA 0 (by decide) (by decide)) h1
  · exact RS.c (mS _ (by decide) (by decide) (by decide) (by decide)) (mS _ (by decide) (by decide) (by decide) (by decide)) (mS _ (by decide) (by decide) (by decide) (by decide)) (mS _ (by decide) (by decide) (by decide) (by decide)) (mS _ (by decide) (by decide) (by decide) (by decide)) (mA _ (by decide) (by decide)) (mA _ (by decide) (by decide)) (mA _ (by decide) (by decide)) (mA _ (by decide) (by decide)) (mA _ (by decide) (by decide)) h2
  · exact RX.c (mA _ (by decide) (by decide)) (mA _ (by decide) (by decide)) (mA _ (by decide) (by decide)) h3
  · refine RE_start (on := fun _ => false) (fun k hk => ⟨rfl, (hc k hk).2⟩) (fun k hk => ⟨rfl, ?_⟩) a1 a2 a3 a4 m1 m3 m4 m5
    rw [mA 13 (by decide) (by decide), mA 12 (by decide) (by decide)]
    exact (hm k hk).2
  · exact RW_fresh h5.1 e2 m2
  · exact RF.c (mS _ (by decide) (by decide) (by decide) (by decide)) (mS _ (by decide) (by decide) (by decide) (by decide)) h6
  · exact RR.c (mA _ (by decide) (by decide)) h7
