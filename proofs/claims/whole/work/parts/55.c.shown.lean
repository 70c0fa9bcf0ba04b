/-! steps, what stands, what is shown -/
def mxs (F : FSt) (t : Nat) : Nat → Nat
  | 0 => 0
  | g + 1 => max (mxs F t g) (pgs F (4 * t + g))
/-- the step that has begun, from step j down -/
def sAt (ah all S : Nat) : Nat → Nat
  | 0 => 0
  | j + 1 => if ah < (j + 1) * all / S then sAt ah all S j else j + 1
theorem sAt_le (ah all S j : Nat) : sAt ah all S j ≤ j := by
  induction j with
  | zero => exact Nat.le_refl _
  | succ j ih => unfold sAt; split <;> omega
theorem share_e (fu : Nat) {a b c : Nat} (hc : 0 < c) (hc2 : c < 2 ^ 31) (hab : a * b < 2 ^ 31) : f_X9_share fu (nI a) (nI b) (nI c) = some (nI (a * b / c)) := by
  unfold f_X9_share
  have h1 : ¬ nI c = 0 := nI_neq (b := 0) hc2 (by decide) (by omega)
  rw [if_pos (show (1 : Int32) ≤ nI c from nI_le (a := 1) (by omega) hc2), if_pos (show nz (nI c) = true by unfold nz; simp [h1]), pk_mul, pk_div hab hc hc2]
section ST
variable {r1 : Nat} {b2 : Nat → Int32} {s3 : St} {F : FSt} {Lk : List Nat} {ck : Nat → Nat × (Nat → Int32)} {M : St} {tg tt im bt cn : Nat} {w v bar tm fr ns : Nat → Nat} {hs : Nat → Nat → Nat} {ch : Nat → Bool}
theorem mxs_le (R : Rw r1 b2 s3 F Lk ck M tg tt im bt cn w v bar tm fr ns hs ch) {t : Nat} (ht : t < tt) : ∀ g, g ≤ tg → mxs F t g ≤ 6 ∧ (0 < g → 1 ≤ mxs F t g) ∧ ∀ g', g' < g → pgs F (4 * t + g') ≤ mxs F t g := by
  intro g
  induction g with
  | zero => intro _; exact ⟨by unfold mxs; omega, fun h => absurd h (by decide), fun g' h => absurd h (Nat.not_lt_zero _)⟩
  | succ g ih =>
    intro hg
    have h1 := ih (by omega)
    obtain ⟨-, h2, h3, -⟩ := slot_pp R (fu := 2000) (Nat.le_refl _) ht (show g < tg by omega)
    unfold mxs
    refine ⟨by omega, fun _ => by omega, fun g' hg' => ?_⟩
    by_cases e : g' = g
    · rw [e]; omega
    · have := h1.2.2 g' (by omega); omega
theorem ltb161 (R : RS s3 M tg tt im bt cn w v bar tm) {t g : Nat} (ht : t < tt) (hg : g < tg) : ltb (4 * t + g) 161 = true := by
  have := R.1.2.2.2
  have := R.2.1.2.2
  exact decide_eq_true (by omega)
theorem stL4 (R : Rw r1 b2 s3 F Lk ck M tg tt im bt cn w v bar tm fr ns hs ch) (fu : Nat) (s0 : St) {t : Nat} (ht : t < tt) : ∀ (m q g : Nat), g + m = tg → m < q → f_X0_stepsOf_L4 fu s0 s3 F Lk ck q (nI t) (nI (mxs F t g)) (nI g) = some (nI (mxs F t tg)) := by
  have hg4 := R.1.1.2.2.2
  intro m
  induction m with
  | zero =>
    intro q g hg hq
    obtain ⟨q, rfl⟩ : ∃ q', q = q' + 1 := ⟨q - 1, by omega⟩
    rw [f_X0_stepsOf_L4, R.1.1.1, show g = tg by omega]
    exact ip (nI_le (Nat.le_refl _) (by omega)) rfl
  | succ m ih =>
    intro q g hg hq
    obtain ⟨q, rfl⟩ : ∃ q', q = q' + 1 := ⟨q - 1, by omega⟩
    obtain ⟨p1, p2, p3, -⟩ := slot_pp R (fu := 2000) (Nat.le_refl _) ht (show g < tg by omega)
    have h6 := (mxs_le R ht g (by omega)).1
    rw [f_X0_stepsOf_L4, R.1.1.1, if_neg (nI_ge (show g < tg by omega) (by omega))]
    refine bd (wordingOf_1 R.1 fu s0 ht (show g < tg by omega)) (ip (ltb161 R.1 ht (by omega)) ?_)
    rw [p1, imax (by omega) (by omega), nI_1]
    exact ih q (g + 1) (by omega) (by omega)
theorem stepsOf_e (R : Rw r1 b2 s3 F Lk ck M tg tt im bt cn w v bar tm fr ns hs ch) {fu : Nat} (hfu : 2000 ≤ fu) (s0 : St) {t : Nat} (ht : t < tt) : f_X0_stepsOf fu s0 s3 F Lk ck (nI t) = some (nI (mxs F t tg)) := by
  have hg4 := R.1.1.2.2.2
  exact stL4 R fu s0 ht tg fu 0 (by omega) (by omega)
theorem stM4 {fu : Nat} (hfu : 2000 ≤ fu) {t : Nat} (ht : t < tt) : ∀ (m q g : Nat) (M : St), Rw r1 b2 s3 F Lk ck M tg tt im bt cn w v bar tm fr ns hs ch → g + m = tg → m < q → ∃ M' : St, f_X10_steps_L4 fu q M (nI t) (nI (mxs F t g)) (nI g) = some (nI (mxs F t tg), M') ∧ FrL M M' := by
  intro m
  induction m with
  | zero =>
    intro q g M R hg hq
    obtain ⟨q, rfl⟩ : ∃ q', q = q' + 1 := ⟨q - 1, by omega⟩
    have hg4 := R.1.1.2.2.2
    refine ⟨M, ?_, FrL.refl M⟩
    rw [f_X10_steps_L4, R.1.1.2.1, show g = tg by omega]
    exact ip (nI_le (Nat.le_refl _) (by omega)) rfl
  | succ m ih =>
    intro q g M R hg hq
    obtain ⟨q, rfl⟩ : ∃ q', q = q' + 1 := ⟨q - 1, by omega⟩
    have hg4 := R.1.1.2.2.2
    obtain ⟨p1, p2, p3, M1, e1, e2, e3, e4⟩ := slot_pp R hfu ht (show g < tg by omega)
    have h6 := (mxs_le R ht g (by omega)).1
    obtain ⟨M2, k1, k2⟩ := ih q (g + 1) M1 (Rw.mc e4.mc R) (by omega) (by omega)
    refine ⟨M2, ?_, e4.trans k2⟩
    rw [f_X10_steps_L4, R.1.1.2.1, if_neg (nI_ge (show g < tg by omega) (by omega))]
    refine bd e1 ?_
    rw [e2, nI_1]
    have em : mxs F t (g + 1) = max (mxs F t g) (pgs F (4 * t + g)) := rfl
    rw [em] at k1
    by_cases c : pgs F (4 * t + g) ≤ mxs F t g
    · rw [if_pos (nI_le c (by omega))]
      rw [Nat.max_eq_left c] at k1
      exact k1
    · rw [if_neg (show ¬ nI (pgs F (4 * t + g)) ≤ nI (mxs F t g) from nI_ge (by omega) (by omega))]
      rw [Nat.max_eq_right (by omega)] at k1
      exact k1
theorem steps_e (R : Rw r1 b2 s3 F Lk ck M tg tt im bt cn w v bar tm fr ns hs ch) {fu : Nat} (hfu : 2000 ≤ fu) {t : Nat} (ht : t < tt) : ∃ M' : St, f_X10_steps fu M (nI t) = some (nI (mxs F t tg), M') ∧ FrL M M' := by
  have hg4 := R.1.1.2.2.2
  exact stM4 hfu ht tg fu 0 M R (by omega) (by omega)
theorem sbL13 (fu : Nat) (s0 : St) {ah all S : Nat} (hS : 0 < S) (hS2 : S ≤ 6) (hall : all ≤ 1000) (hah : ah < 2 ^ 31) : ∀ (j q : Nat), j < q → j ≤ 6 → f_X0_stepBehind_L13 fu s0 s3 F Lk ck q (nI ah) (nI all) (nI S) (nI j) = some (nI (sAt ah all S j)) := by
  intro j
  induction j with
  | zero =>
    intro q hq hj
    obtain ⟨q, rfl⟩ : ∃ q', q = q' + 1 := ⟨q - 1, by omega⟩
    rw [f_X0_stepBehind_L13]
    exact ip (by decide) rfl
  | succ j ih =>
    intro q hq hj
    obtain ⟨q, rfl⟩ : ∃ q', q = q' + 1 := ⟨q - 1, by omega⟩
    have hm : (j + 1) * all ≤ 6 * 1000 := Nat.mul_le_mul hj hall
    have hd : (j + 1) * all / S ≤ 6000 := Nat.le_trans (Nat.div_le_self _ _) (by omega)
    rw [f_X0_stepBehind_L13, if_neg (nI_nle (show 0 < j + 1 by omega) (by omega))]
    refine bd (share_e fu hS (by omega) (by omega)) ?_
    unfold sAt
    by_cases c : ah < (j + 1) * all / S
    · rw [if_pos (nI_lt c (by omega)), if_pos c, m1_nI]
      exact ih q (by omega) (by omega)
    · rw [if_neg (show ¬ nI ah < nI ((j + 1) * all / S) from nI_nlt (by omega) (by omega)), if_neg c]
theorem stepBehind_e (R : Rw r1 b2 s3 F Lk ck M tg tt im bt cn w v bar tm fr ns hs ch) {fu : Nat} (hfu : 2000 ≤ fu) (s0 : St) {t ah all : Nat} (ht : t < tt) (hall : all ≤ 1000) (hah : ah < 2 ^ 31) : f_X0_stepBehind fu s0 s3 F Lk ck (nI t) (nI ah) (nI all) = some (nI (sAt ah all (mxs F t tg) (mxs F t tg - 1))) := by
  obtain ⟨h6, h1, -⟩ := mxs_le R ht tg (Nat.le_refl _)
  have h1 := h1 R.1.1.2.2.1
  unfold f_X0_stepBehind
  refine bd (stepsOf_e R hfu s0 ht) ?_
  rw [show (nI (mxs F t tg) - 1 : Int32) = nI (mxs F t tg - 1) from pk_sub h1]
  exact sbL13 fu s0 h1 h6 hall hah _ fu (by omega) (by omega)
theorem saL5 (fu : Nat) (M : St) {ah all S : Nat} (hS : 0 < S) (hS2 : S ≤ 6) (hall : all ≤ 1000) (hah : ah < 2 ^ 31) : ∀ (j q : Nat), j < q → j ≤ 6 → f_X10_stepAt_L5 fu M q (nI ah) (nI all) (nI S) (nI j) = some (nI (sAt ah all S j)) := by
  intro j
  induction j with
  | zero =>
    intro q hq hj
    obtain ⟨q, rfl⟩ : ∃ q', q = q' + 1 := ⟨q - 1, by omega⟩
    rw [f_X10_stepAt_L5]
    exact ip (by decide) rfl
  | succ j ih =>
    intro q hq hj
    obtain ⟨q, rfl⟩ : ∃ q', q = q' + 1 := ⟨q - 1, by omega⟩
    have hm : (j + 1) * all ≤ 6 * 1000 := Nat.mul_le_mul hj hall
    have hd : (j + 1) * all / S ≤ 6000 := Nat.le_trans (Nat.div_le_self _ _) (by omega)
    have h1 : ¬ nI S = 0 := nI_neq (b := 0) (by omega) (by decide) (by omega)
    rw [f_X10_stepAt_L5, if_neg (nI_nle (show 0 < j + 1 by omega) (by omega)), if_pos (show nz (nI S) = true by unfold nz; simp [h1]), pk_mul, pk_div (by omega) hS (by omega)]
    unfold sAt
    by_cases c : ah < (j + 1) * all / S
    · rw [if_neg (show ¬ nI ((j + 1) * all / S) ≤ nI ah from nI_ge c (by omega)), if_pos c, m1_nI]
      exact ih q (by omega) (by omega)
    · rw [if_pos (show nI ((j + 1) * all / S) ≤ nI ah from nI_le (by omega) (by omega)), if_neg c]
theorem stepAt_e (fu : Nat) (hfu : 2000 ≤ fu) (M : St) {ah all S : Nat} (hS : 0 < S) (hS2 : S ≤ 6) (hall : all ≤ 1000) (hah : ah < 2 ^ 31) : f_X10_stepAt fu M (nI ah) (nI all) (nI S) = some (nI (sAt ah all S (S - 1))) := by
  unfold f_X10_stepAt
  rw [show (nI S - 1 : Int32) = nI (S - 1) from pk_sub hS]
  exact saL5 fu M hS hS2 hall hah _ fu (by omega) (by omega)
/-- the bars of a title -/
theorem barsOf_e {e : St} {on : Nat → Bool} {cf ct : Nat → Nat} (R : RS s3 M tg tt im bt cn w v bar tm) (hc : EvC e s3 on cf ct) (hm : EvM M on cf ct) {fu : Nat} (hfu : 2000 ≤ fu) {t to : Nat} (ht : t < tt) (hto : to ≤ 1000) : f_X2_countedBars fu e s3 (nI (bar (tm t))) (nI to) = some (nI (cN on cf ct (to - bar (tm t)) (bar (tm t)))) ∧ f_X10_bars fu M (nI t) (nI to) = some (nI (cN on cf ct (to - bar (tm t)) (bar (tm t)))) := by
  have ht4 := R.2.1.2.2
  have him := R.2.2.2.1.2.2
  obtain ⟨-, -, -, -, -, -, -, hb, -, htm, -⟩ := id R
  have g1 := htm t ht
  have g2 := hb (tm t) g1.2.2.1
  exact ⟨counted_e hc (by omega) hto (by omega), bars_e hm (by omega) (by omega) (by omega) g1.2.1 g2.2.1 hto (by omega)⟩
/-- what stands -/
theorem bar_mono (R : RS s3 M tg tt im bt cn w v bar tm) {i j : Nat} (hij : i < j) (hj : j < im) : bar i < bar j := by
  obtain ⟨-, -, -, -, -, -, -, -, hb, -⟩ := R
  induction j with
  | zero => omega
  | succ j ih =>
    have h1 := hb j hj
    by_cases e : i = j
    · rw [e]; exact h1
    · have := ih (by omega) (by omega); omega
theorem sdL4 (R : RS s3 M tg tt im bt cn w v bar tm) (fu : Nat) {p : Nat} (hp : p ≤ 999) (h22 : M.1 22 = nI p) : ∀ (m q k : Nat) (x : Int32), k + m = im → m < q → ((x = -1 ∧ ∀ j, j < k → p < bar j) ∨ ∃ j, j < k ∧ bar j ≤ p ∧ x = M.2 10 j ∧ ∀ i, j < i → i < k → p < bar i) → ∃ o, f_X10_standing_L4 fu M q x (nI k) = some o ∧ ((o = -1 ∧ ∀ j, j < im → p < bar j) ∨ ∃ j, j < im ∧ bar j ≤ p ∧ p < eN im bar j ∧ o = M.2 10 j) := by
  obtain ⟨-, -, -, ⟨-, h7, him⟩, -, -, -, hb, -, -⟩ := id R
  intro m
  induction m with
  | zero =>
    intro q k x hk hq hx
    obtain ⟨q, rfl⟩ : ∃ q', q = q' + 1 := ⟨q - 1, by omega⟩
    have : k = im := by omega
    subst this
    refine ⟨x, ?_, ?_⟩
    · rw [f_X10_standing_L4, h7]
      exact ip (nI_le (Nat.le_refl _) (by omega)) rfl
    · rcases hx with h | ⟨j, j1, j2, j3, j4⟩
      · exact Or.inl h
      · refine Or.inr ⟨j, j1, j2, ?_, j3⟩
        unfold eN
        by_cases c : j + 1 < k
        · rw [if_pos c]; exact j4 (j + 1) (by omega) c
        · rw [if_neg c]; omega
  | succ m ih =>
    intro q k x hk hq hx
    obtain ⟨q, rfl⟩ : ∃ q', q = q' + 1 := ⟨q - 1, by omega⟩
    have hbk := hb k (by omega)
    rw [f_X10_standing_L4, h7, if_neg (nI_ge (show k < im by omega) (by omega)), if_pos (inb_nI (show k < 40 by omega) (by decide)), cl_nI (show k < 2 ^ 31 by omega), h22, hbk.2.1, nI_1]
    by_cases c : p < bar k
    · rw [if_pos (nI_lt c (by omega))]
      refine ih q (k + 1) x (by omega) (by omega) ?_
      rcases hx with ⟨h1, h2⟩ | ⟨j, j1, j2, j3, j4⟩
      · refine Or.inl ⟨h1, fun j hj => ?_⟩
        by_cases e : j = k
        · rw [e]; exact c
        · exact h2 j (by omega)
      · refine Or.inr ⟨j, by omega, j2, j3, fun i hi1 hi2 => ?_⟩
        by_cases e : i = k
        · rw [e]; exact c
        · exact j4 i hi1 (by omega)
    · rw [if_neg (show ¬ nI p < nI (bar k) from nI_nlt (by omega) (by omega)), if_pos (inb_nI (show k < 40 by omega) (by decide))]
      exact ih q (k + 1) _ (by omega) (by omega) (Or.inr ⟨k, by omega, by omega, rfl, fun i h1 h2 => by omega⟩)
theorem taL2 (R : RS s3 M tg tt im bt cn w v bar tm) (fu : Nat) {p : Nat} (hp : p ≤ 999) : ∀ (m q t : Nat), t + m = tt → m < q → (∃ t', t' < tt ∧ bar (tm t') ≤ p ∧ p < eN im bar (tm t') ∧ f_X5_titleAt_L2 fu s3 q (nI p) (nI t) = some (nI t')) ∨ ((∀ t', t ≤ t' → t' < tt → ¬ (bar (tm t') ≤ p ∧ p < eN im bar (tm t'))) ∧ f_X5_titleAt_L2 fu s3 q (nI p) (nI t) = some (-1)) := by
  have ht4 := R.2.1.2.2
  have him := R.2.2.2.1.2.2
  intro m
  induction m with
  | zero =>
    intro q t ht hq
    obtain ⟨q, rfl⟩ : ∃ q', q = q' + 1 := ⟨q - 1, by omega⟩
    refine Or.inr ⟨fun t' h1 h2 => by omega, ?_⟩
    rw [f_X5_titleAt_L2, R.2.1.1]
    exact ip (nI_le (by omega) (by omega)) rfl
  | succ m ih =>
    intro q t ht hq
    obtain ⟨q, rfl⟩ : ∃ q', q = q' + 1 := ⟨q - 1, by omega⟩
    have hlt : t < tt := by omega
    have htm := R.2.2.2.2.2.2.2.2.2.1 t hlt
    have hbk := R.2.2.2.2.2.2.2.1 (tm t) htm.2.2.1
    have heN := eN_le R (tm t)
    have next : ¬ (bar (tm t) ≤ p ∧ p < eN im bar (tm t)) → f_X5_titleAt_L2 fu s3 (q + 1) (nI p) (nI t) = f_X5_titleAt_L2 fu s3 q (nI p) (nI (t + 1)) → (∃ t', t' < tt ∧ bar (tm t') ≤ p ∧ p < eN im bar (tm t') ∧ f_X5_titleAt_L2 fu s3 (q + 1) (nI p) (nI t) = some (nI t')) ∨ ((∀ t', t ≤ t' → t' < tt → ¬ (bar (tm t') ≤ p ∧ p < eN im bar (tm t'))) ∧ f_X5_titleAt_L2 fu s3 (q + 1) (nI p) (nI t) = some (-1)) := by
      intro hno he
      rw [he]
      rcases ih q (t + 1) (by omega) (by omega) with h | ⟨h1, h2⟩
      · exact Or.inl h
      · refine Or.inr ⟨fun t' k1 k2 => ?_, h2⟩
        by_cases e : t' = t
        · rw [e]; exact hno
        · exact h1 t' (by omega) k2
    have start : ∀ r, (if nI p < nI (bar (tm t)) then (f_X5_titleAt_L2 fu s3 q (nI p) (nI (t + 1))) else (if nI (eN im bar (tm t)) ≤ nI p then (f_X5_titleAt_L2 fu s3 q (nI p) (nI (t + 1))) else (some (nI t)))) = r → f_X5_titleAt_L2 fu s3 (q + 1) (nI p) (nI t) = r := by
      intro r hr
      rw [f_X5_titleAt_L2, R.2.1.1, if_neg (nI_ge hlt (by omega)), nI_1]
      refine bd (barOf_e R fu hlt) ?_
      by_cases c : nI p < nI (bar (tm t))
      · rw [if_pos c] at hr; rw [if_pos c]; exact hr
      · rw [if_neg c] at hr; rw [if_neg c]; exact bd (endOf_e R fu hlt) hr
    by_cases c1 : p < bar (tm t)
    · exact next (by omega) (start _ (ip (nI_lt c1 (by omega)) rfl))
    · by_cases c2 : eN im bar (tm t) ≤ p
      · exact next (by omega) (start _ (iN (nI_nlt (by omega) (by omega)) (ip (nI_le c2 (by omega)) rfl)))
      · exact Or.inl ⟨t, hlt, by omega, by omega, start _ (iN (nI_nlt (by omega) (by omega)) (iN (nI_ge (by omega) (by omega)) rfl))⟩
theorem stands_e (R : RS s3 M tg tt im bt cn w v bar tm) {fu : Nat} (hfu : 2000 ≤ fu) {p : Nat} (hp : p ≤ 999) (h22 : M.1 22 = nI p) : (f_X5_titleAt fu s3 (nI p) = some (-1) ∧ f_X10_standing fu M = some (-1)) ∨ ∃ t, t < tt ∧ f_X5_titleAt fu s3 (nI p) = some (nI t) ∧ f_X10_standing fu M = some (nI t) := by
  have ht4 := R.2.1.2.2
  have him := R.2.2.2.1.2.2
  obtain ⟨o, e1, e2⟩ := sdL4 R fu hp h22 im fu 0 (-1) (by omega) (by omega) (Or.inl ⟨rfl, fun j hj => absurd hj (Nat.not_lt_zero _)⟩)
  have e1' : f_X10_standing fu M = some o := e1
  have ta := taL2 R fu hp tt fu 0 (by omega) (by omega)
  have htmm := R.2.2.2.2.2.2.2.2.2.1
  -- a title that stands belongs to the latest mark
  have same : ∀ j, j < im → bar j ≤ p → p < eN im bar j → ∀ t', t' < tt → bar (tm t') ≤ p → p < eN im bar (tm t') → tm t' = j := by
    intro j j1 j2 j3 t' t1 t2 t3
    have k1 := (htmm t' t1).2.2.1
    rcases Nat.lt_trichotomy (tm t') j with q | q | q
    · exfalso
      unfold eN at t3
      rw [if_pos (by omega)] at t3
      by_cases e : tm t' + 1 = j
      · rw [e] at t3; omega
      · have := bar_mono R (show tm t' + 1 < j by omega) j1; omega
    · exact q
    · exfalso
      unfold eN at j3
      rw [if_pos (by omega)] at j3
      by_cases e : j + 1 = tm t'
      · rw [e] at j3; omega
      · have := bar_mono R (show j + 1 < tm t' by omega) k1; omega
  rcases e2 with ⟨o1, o2⟩ | ⟨j, j1, j2, j3, j4⟩
  · rcases ta with ⟨t', t1, t2, t3, t4⟩ | ⟨t1, t2⟩
    · exfalso
      have := o2 (tm t') (htmm t' t1).2.2.1
      omega
    · exact Or.inl ⟨t2, by rw [e1', o1]⟩
  · rcases ta with ⟨t', t1, t2, t3, t4⟩ | ⟨t1, t2⟩
    · have e := same j j1 j2 j3 t' t1 t2 t3
      refine Or.inr ⟨t', t1, t4, ?_⟩
      rw [e1', j4, ← e, (htmm t' t1).2.2.2]
    · refine Or.inl ⟨t2, ?_⟩
      rcases R.2.2.2.2.2.2.2.2.2.2 j j1 with ⟨t', k1, k2⟩ | k
      · exfalso
        exact t1 t' (Nat.zero_le _) k1 (by rw [k2]; exact ⟨j2, j3⟩)
      · rw [e1', j4, k]
/-- the step now, the page now -/
theorem step_now {e : St} {on : Nat → Bool} {cf ct : Nat → Nat} (R : Rw r1 b2 s3 F Lk ck M tg tt im bt cn w v bar tm fr ns hs ch) (hc : EvC e s3 on cf ct) (hm : EvM M on cf ct) {fu : Nat} (hfu : 2000 ≤ fu) {p : Nat} (hp : p ≤ 999) (he : e.1 0 = nI p) (h22 : M.1 22 = nI p) (s0 s0' : St) {t : Nat} (ht : t < tt) : ∃ (k : Nat) (M' : St), k ≤ 5 ∧ f_X9_shownStep fu s0 s3 e s0' F Lk ck (nI t) = some (nI k) ∧ f_X10_stepNow fu M (nI t) = some (nI k, M') ∧ FrL M M' := by
  have hend := eN_le R.1 (tm t)
  have ht4 := R.1.2.1.2.2
  have htmm := R.1.2.2.2.2.2.2.2.2.2.1 t ht
  obtain ⟨a1, a2⟩ := barsOf_e R.1 hc hm hfu ht (show p ≤ 1000 by omega)
  obtain ⟨b1', b2'⟩ := barsOf_e R.1 hc hm hfu ht hend
  obtain ⟨M1, s1', s2⟩ := steps_e R hfu ht
  obtain ⟨h6, h1, -⟩ := mxs_le R ht tg (Nat.le_refl _)
  have h1 := h1 R.1.1.2.2.1
  obtain ⟨ah, hah⟩ : ∃ ah, ah = cN on cf ct (p - bar (tm t)) (bar (tm t)) := ⟨_, rfl⟩
  obtain ⟨al, hal⟩ : ∃ al, al = cN on cf ct (eN im bar (tm t) - bar (tm t)) (bar (tm t)) := ⟨_, rfl⟩
  have hah2 : ah ≤ 1000 := by rw [hah]; exact Nat.le_trans (cN_le _ _) (by omega)
  have hal2 : al ≤ 1000 := by rw [hal]; exact Nat.le_trans (cN_le _ _) (by omega)
  rw [← hah] at a1 a2
  rw [← hal] at b1' b2'
  refine ⟨sAt ah al (mxs F t tg) (mxs F t tg - 1), M1, ?_, ?_, ?_, s2⟩
  · have := sAt_le ah al (mxs F t tg) (mxs F t tg - 1); omega
  · unfold f_X9_shownStep
    rw [he]
    refine bd (barOf_e R.1 fu ht) (bd a1 (bd (show f_X9_countedBarsOf fu s0 s3 e (nI t) = some (nI al) from bd (barOf_e R.1 fu ht) (bd (endOf_e R.1 fu ht) (bd b1' rfl))) (bd (stepBehind_e R hfu s0' ht hal2 (by omega)) rfl)))
  · unfold f_X10_stepNow
    rw [h22, cl_nI (show t < 2 ^ 31 by omega), htmm.2.1]
    refine bd a2 (ip (inb_nI (show t < 40 by omega) (by decide)) (bd (endOfM_e R.1 fu ht) (bd b2' (bd s1' (bd (stepAt_e fu hfu M1 h1 h6 hal2 (by omega)) rfl)))))
theorem page_now {e : St} {on : Nat → Bool} {cf ct : Nat → Nat} (R : Rw r1 b2 s3 F Lk ck M tg tt im bt cn w v bar tm fr ns hs ch) (hc : EvC e s3 on cf ct) (hm : EvM M on cf ct) {fu : Nat} (hfu : 2000 ≤ fu) {p : Nat} (hp : p ≤ 999) (he : e.1 0 = nI p) (h22 : M.1 22 = nI p) (s0 s0' : St) {t g : Nat} (ht : t < tt) (hg : g < tg) : ∃ (k o : Nat) (M' : St), f_X9_shownStep fu s0 s3 e s0' F Lk ck (nI t) = some (nI k) ∧ f_X9_shownPage fu s0 s3 e s0' F Lk ck (nI t) (nI g) (nI k) = some (nI o) ∧ f_X10_pageNow fu M (nI t) (nI g) = some (nI o, M') ∧ FrL M M' := by
  obtain ⟨h6, h1, -⟩ := mxs_le R ht tg (Nat.le_refl _)
  have h1 := h1 R.1.1.2.2.1
  obtain ⟨M1, s1', s2⟩ := steps_e R hfu ht
  have R1 := Rw.mc s2.mc R
  have hm1 : EvM M1 on cf ct := by
    unfold EvM
    rw [s2.mc.2 18 (by decide), s2.mc.2 13 (by decide), s2.mc.2 12 (by decide)]
    exact hm
  obtain ⟨k, M2, k5, k1, k2, k3⟩ := step_now R1 hc hm1 hfu hp he (by rw [s2.mc.1 22 (by decide)]; exact h22) s0 s0' ht
  obtain ⟨p1, p2, p3, M3, e1, e2, -, e4⟩ := slot_pp (Rw.mc k3.mc R1) hfu ht hg
  have hmul : k * pgs F (4 * t + g) ≤ 5 * 6 := Nat.mul_le_mul k5 p3
  have hz : ¬ nI (mxs F t tg) = 0 := nI_neq (b := 0) (by omega) (by decide) (by omega)
  refine ⟨k, k * pgs F (4 * t + g) / mxs F t tg, M3, k1, ?_, ?_, s2.trans (k3.trans e4)⟩
  · unfold f_X9_shownPage f_X0_pageInStep
    refine bd (hasTongue_1 R.1 fu hg) (iN (by decide) (bd (bd (wordingOf_1 R.1 fu s0' ht hg) (ip (ltb161 R.1 ht hg) (bd (stepsOf_e R hfu s0' ht) ?_))) rfl))
    rw [p1]
    exact bd (share_e fu h1 (by omega) (by omega)) rfl
  · unfold f_X10_pageNow
    refine bd s1' (bd k2 (bd e1 (ip (show nz (nI (mxs F t tg)) = true by unfold nz; simp [hz]) ?_)))
    rw [e2, pk_mul, pk_div (by omega) h1 (by omega)]
end ST
