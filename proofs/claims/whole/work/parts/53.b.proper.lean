/-! bytes of the class, signs of the reference -/
def sb (h : Nat) : Int32 := (nI h).toInt8.toInt32
theorem sb_lo {h : Nat} (hh : h < 128) : sb h = nI h := by
  have key : ∀ i : Fin 128, sb i.val = nI i.val := by decide +kernel
  exact key ⟨h, hh⟩
theorem sb_hi {h : Nat} (h1 : 128 ≤ h) (h2 : h < 256) : sb h < 0 := by
  have key : ∀ i : Fin 256, 128 ≤ i.val → sb i.val < 0 := by decide +kernel
  exact key ⟨h, h2⟩ h1
theorem i0_le {x : Int32} (h : x < 0) {k : Nat} (hk : k < 2 ^ 31) : x < nI k := by
  have h1 : ¬ nI k < 0 := nI_pos hk
  rw [Int32.lt_iff_toInt_lt] at h h1 ⊢
  omega
theorem sb_eq {h k : Nat} (hh : h < 256) (hk : k < 128) : sb h = nI k ↔ h = k := by
  rcases Nat.lt_or_ge h 128 with q | q
  · rw [sb_lo q]; exact nI_eq (by omega) (by omega)
  · refine ⟨fun e => ?_, fun e => by omega⟩
    have := sb_hi q hh
    rw [e] at this
    exact absurd this (nI_pos (by omega))
theorem sb_lt {h k : Nat} (hh : h < 256) (hk : k < 2 ^ 31) : sb h < nI k ↔ h < k ∨ 128 ≤ h := by
  rcases Nat.lt_or_ge h 128 with q | q
  · rw [sb_lo q]
    refine ⟨fun e => Or.inl ?_, fun e => nI_lt (by omega) hk⟩
    rcases Nat.lt_or_ge h k with q1 | q1
    · exact q1
    · exact absurd e (nI_nlt q1 (by omega))
  · exact ⟨fun _ => Or.inr q, fun _ => i0_le (sb_hi q hh) hk⟩
theorem sb_gt {h k : Nat} (hh : h < 256) (hk : k < 2 ^ 31) : nI k < sb h ↔ k < h ∧ h < 128 := by
  rcases Nat.lt_or_ge h 128 with q | q
  · rw [sb_lo q]
    refine ⟨fun e => ⟨?_, q⟩, fun e => nI_lt e.1 (by omega)⟩
    rcases Nat.lt_or_ge k h with q1 | q1
    · exact q1
    · exact absurd e (nI_nlt q1 (by omega))
  · refine ⟨fun e => ?_, fun e => by omega⟩
    have h1 := i0_le (sb_hi q hh) hk
    rw [Int32.lt_iff_toInt_lt] at e h1
    omega
/-- a proper string, sign by sign -/
def Qp (h : Nat → Nat) (i : Nat) : Prop := ∀ j, j < i → 32 ≤ h j ∧ h j ≤ 126 ∧ h j ≠ 34 ∧ (h j = 32 → j ≠ 0 ∧ h (j - 1) ≠ 32)
def PrpA (h : Nat → Nat) (n : Nat) : Prop := Qp h n ∧ 0 < n ∧ h (n - 1) ≠ 32
theorem PrpA.p {h : Nat → Nat} {n : Nat} (H : PrpA h n) : Prp h n := ⟨H.2.1, fun e => ((H.1 0 H.2.1).2.2.2 e).1 rfl, H.2.2, fun i hi e => fun e2 => by
  have := ((H.1 (i + 1) hi).2.2.2 e2).2
  exact this e⟩
theorem PrpA.lt {h : Nat → Nat} {n : Nat} (H : PrpA h n) : ∀ i, i < n → h i < 128 := fun i hi => by have := (H.1 i hi).2.1; omega
section PP
variable {h : Nat → Nat} {n fr : Nat} {b : Nat → Int32}
theorem apL17 (hfr : fr + n ≤ 1500) (hh : ∀ i, i < n → h i < 256) (hb : ∀ i, i < n → b (fr + i) = sb (h i)) (fu : Nat) :
    ∀ (m q i : Nat), i + m = n → m < q → Qp h i → ((PrpA h n → f_X8_areProper_L17 fu b q (nI fr) (nI n) (nI (if i = 0 then 32 else h (i - 1))) (nI (fr + i)) = some 1) ∧ (¬ PrpA h n → f_X8_areProper_L17 fu b q (nI fr) (nI n) (nI (if i = 0 then 32 else h (i - 1))) (nI (fr + i)) = some 0)) := by
  intro m
  induction m with
  | zero =>
    intro q i hi hq hQ
    obtain ⟨q, rfl⟩ : ∃ q', q = q' + 1 := ⟨q - 1, by omega⟩
    have : i = n := by omega
    subst this
    rw [f_X8_areProper_L17, nI_add, if_pos (show nI (fr + i) ≤ nI (fr + i) from nI_le (Nat.le_refl _) (by omega))]
    by_cases c : i = 0
    · rw [if_pos c]
      exact ⟨fun g => by have := g.2.1; omega, fun _ => ip rfl rfl⟩
    · rw [if_neg c]
      have hl := hQ (i - 1) (by omega)
      by_cases c2 : h (i - 1) = 32
      · exact ⟨fun g => absurd c2 g.2.2, fun _ => by rw [c2]; exact ip rfl rfl⟩
      · exact ⟨fun _ => iN (nI_neq (b := 32) (by omega) (by decide) c2) rfl, fun g => absurd ⟨hQ, by omega, c2⟩ g⟩
  | succ m ih =>
    intro q i hi hq hQ
    obtain ⟨q, rfl⟩ : ∃ q', q = q' + 1 := ⟨q - 1, by omega⟩
    have hi2 := hh i (by omega)
    rw [f_X8_areProper_L17, nI_add, if_neg (show ¬ nI (fr + n) ≤ nI (fr + i) from nI_ge (by omega) (by omega)), if_pos (inb_nI (show fr + i < 1500 by omega) (by decide)), cl_nI (show fr + i < 2 ^ 31 by omega), hb i (by omega)]
    have no : ¬ (32 ≤ h i ∧ h i ≤ 126 ∧ h i ≠ 34 ∧ (h i = 32 → i ≠ 0 ∧ h (i - 1) ≠ 32)) → ¬ PrpA h n := fun g p => g (p.1 i (by omega))
    by_cases c1 : sb (h i) < 32
    · rw [if_pos c1]
      have := (sb_lt (k := 32) hi2 (by decide)).mp c1
      exact ⟨fun g => absurd g (no (by omega)), fun _ => rfl⟩
    · rw [if_neg c1]
      have d1 : ¬ (h i < 32 ∨ 128 ≤ h i) := fun q1 => c1 ((sb_lt (k := 32) hi2 (by decide)).mpr q1)
      by_cases c2 : 126 < sb (h i)
      · rw [if_pos c2]
        have := (sb_gt (k := 126) hi2 (by decide)).mp c2
        exact ⟨fun g => absurd g (no (by omega)), fun _ => rfl⟩
      · rw [if_neg c2]
        have d2 : ¬ (126 < h i ∧ h i < 128) := fun q1 => c2 ((sb_gt (k := 126) hi2 (by decide)).mpr q1)
        by_cases c3 : sb (h i) = 34
        · rw [if_pos c3]
          have := (sb_eq (k := 34) hi2 (by decide)).mp c3
          exact ⟨fun g => absurd g (no (by omega)), fun _ => rfl⟩
        · rw [if_neg c3]
          have d3 : ¬ h i = 34 := fun q1 => c3 ((sb_eq (k := 34) hi2 (by decide)).mpr q1)
          have goOn : (h i = 32 → i ≠ 0 ∧ h (i - 1) ≠ 32) → ((PrpA h n → f_X8_areProper_L67 (f_X8_areProper_L17 fu b q) fu b (nI fr) (nI n) (nI (fr + i)) (sb (h i)) = some 1) ∧ (¬ PrpA h n → f_X8_areProper_L67 (f_X8_areProper_L17 fu b q) fu b (nI fr) (nI n) (nI (fr + i)) (sb (h i)) = some 0)) := by
            intro g
            have := ih q (i + 1) (by omega) (by omega) (by
              intro j hj
              by_cases e : j = i
              · rw [e]; exact ⟨by omega, by omega, d3, g⟩
              · exact hQ j (by omega))
            rw [if_neg (show ¬ i + 1 = 0 by omega), show i + 1 - 1 = i by omega, ← sb_lo (show h i < 128 by omega)] at this
            unfold f_X8_areProper_L67
            rw [nI_1]
            exact this
          by_cases c4 : sb (h i) = 32
          · rw [if_pos c4]
            have e4 := (sb_eq (k := 32) hi2 (by decide)).mp c4
            by_cases c : i = 0
            · rw [if_pos c, if_pos (show nI 32 = 32 from rfl)]
              exact ⟨fun g => absurd g (no (fun q1 => (q1.2.2.2 e4).1 c)), fun _ => rfl⟩
            · rw [if_neg c]
              have hl := hQ (i - 1) (by omega)
              by_cases c5 : h (i - 1) = 32
              · rw [c5, if_pos (show nI 32 = 32 from rfl)]
                exact ⟨fun g => absurd g (no (fun q1 => (q1.2.2.2 e4).2 c5)), fun _ => rfl⟩
              · rw [if_neg (show ¬ nI (h (i - 1)) = 32 from nI_neq (b := 32) (by omega) (by decide) c5)]
                exact goOn (fun _ => ⟨c, c5⟩)
          · rw [if_neg c4]
            exact goOn (fun e => absurd ((sb_eq (k := 32) hi2 (by decide)).mpr e) c4)
theorem areProper_e (hfr : fr + n ≤ 1500) (hh : ∀ i, i < n → h i < 256) (hb : ∀ i, i < n → b (fr + i) = sb (h i)) {fu : Nat} (hfu : 2000 ≤ fu) : (PrpA h n → f_X8_areProper fu b (nI fr) (nI n) = some 1) ∧ (¬ PrpA h n → f_X8_areProper fu b (nI fr) (nI n) = some 0) := by
  have := apL17 hfr hh hb fu n fu 0 (by omega) (by omega) (fun j hj => absurd hj (Nat.not_lt_zero _))
  have e0 : f_X8_areProper fu b (nI fr) (nI n) = f_X8_areProper_L17 fu b fu (nI fr) (nI n) 32 (nI fr) := by
    unfold f_X8_areProper
    exact bd (within_e fu b hfr) (iN (by decide) rfl)
  rw [e0]
  exact this
/-- the reference's look at a string -/
def AW (h : Nat → Nat) (n : Nat) : Prop := ∀ i, i < n → h i = 32 → i ≠ 0 ∧ i ≠ n - 1 ∧ h (i + 1) ≠ 32
theorem AW_P (h : Nat → Nat) (n : Nat) (h0 : 0 < n) (hc : ∀ i, i < n → 32 ≤ h i ∧ h i ≤ 126 ∧ h i ≠ 34) : AW h n ↔ PrpA h n := by
  refine ⟨fun g => ⟨fun j hj => ⟨(hc j hj).1, (hc j hj).2.1, (hc j hj).2.2, fun e => ⟨(g j hj e).1, fun e2 => ?_⟩⟩, h0, fun e => (g (n - 1) (by omega) e).2.1 rfl⟩, fun g i hi e => ⟨((g.1 i hi).2.2.2 e).1, fun e2 => g.2.2 (by rw [← e2]; exact e), fun e2 => ?_⟩⟩
  · have h1 := (g j hj e).1
    have := (g (j - 1) (by omega) e2).2.2
    rw [show j - 1 + 1 = j by omega] at this
    exact this e
  · by_cases c : i + 1 < n
    · have := ((g.1 (i + 1) c).2.2.2 e2).2
      exact this e
    · have h9 : i = n - 1 := by omega
      rw [h9] at e
      exact g.2.2 e
theorem awL2 {M : St} (hfr : fr + n ≤ 1500) (hh : ∀ i, i < n → h i < 256) (hb : ∀ i, i < n → M.2 0 (fr + i) = nI (h i)) (fu : Nat) :
    ∀ (m q i : Nat), i + m = n → m < q → (∀ j, j < i → h j = 32 → j ≠ 0 ∧ j ≠ n - 1 ∧ h (j + 1) ≠ 32) → ((AW h n → f_X10_areWords_L2 fu M q (nI fr) (nI n) (nI (fr + i)) = some 1) ∧ (¬ AW h n → f_X10_areWords_L2 fu M q (nI fr) (nI n) (nI (fr + i)) = some 0)) := by
  intro m
  induction m with
  | zero =>
    intro q i hi hq hQ
    obtain ⟨q, rfl⟩ : ∃ q', q = q' + 1 := ⟨q - 1, by omega⟩
    have : i = n := by omega
    subst this
    rw [f_X10_areWords_L2, nI_add, if_pos (show nI (fr + i) ≤ nI (fr + i) from nI_le (Nat.le_refl _) (by omega))]
    exact ⟨fun _ => rfl, fun g => absurd hQ g⟩
  | succ m ih =>
    intro q i hi hq hQ
    obtain ⟨q, rfl⟩ : ∃ q', q = q' + 1 := ⟨q - 1, by omega⟩
    have hi2 := hh i (by omega)
    have goOn : (h i = 32 → i ≠ 0 ∧ i ≠ n - 1 ∧ h (i + 1) ≠ 32) → _ := fun g => ih q (i + 1) (by omega) (by omega) (by
      intro j hj
      by_cases e : j = i
      · rw [e]; exact g
      · exact hQ j (by omega))
    rw [f_X10_areWords_L2, nI_add, if_neg (show ¬ nI (fr + n) ≤ nI (fr + i) from nI_ge (by omega) (by omega)), if_pos (inb_nI (show fr + i < 1500 by omega) (by decide)), cl_nI (show fr + i < 2 ^ 31 by omega), hb i (by omega), nI_1, show fr + i + 1 = fr + (i + 1) by omega]
    by_cases c : h i = 32
    · rw [c, if_pos (show nI 32 = 32 from rfl)]
      by_cases c1 : i = 0
      · rw [if_pos (show nI (fr + i) = nI fr by rw [c1]; rfl)]
        exact ⟨fun g => absurd c1 (g i (by omega) c).1, fun _ => rfl⟩
      · rw [if_neg (nI_neq (show fr + i < 2 ^ 31 by omega) (by omega) (by omega)), show (nI (fr + n) - 1 : Int32) = nI (fr + n - 1) from pk_sub (show 1 ≤ fr + n by omega)]
        by_cases c2 : i = n - 1
        · rw [if_pos (show nI (fr + i) = nI (fr + n - 1) by congr 1; omega)]
          exact ⟨fun g => absurd c2 (g i (by omega) c).2.1, fun _ => rfl⟩
        · have hi3 := hh (i + 1) (by omega)
          rw [if_neg (nI_neq (show fr + i < 2 ^ 31 by omega) (show fr + n - 1 < 2 ^ 31 by omega) (by omega)), if_pos (inb_nI (show fr + (i + 1) < 1500 by omega) (by decide)), cl_nI (show fr + (i + 1) < 2 ^ 31 by omega), hb (i + 1) (by omega)]
          by_cases c3 : h (i + 1) = 32
          · rw [c3, if_pos (show nI 32 = 32 from rfl)]
            exact ⟨fun g => absurd c3 (g i (by omega) c).2.2, fun _ => rfl⟩
          · rw [if_neg (show ¬ nI (h (i + 1)) = 32 from nI_neq (b := 32) (by omega) (by decide) c3)]
            exact goOn (fun _ => ⟨c1, c2, c3⟩)
    · rw [if_neg (show ¬ nI (h i) = 32 from nI_neq (b := 32) (by omega) (by decide) c)]
      exact goOn (fun e => absurd e c)
theorem areWords_e {M : St} (hfr : fr + n ≤ 1500) (hh : ∀ i, i < n → h i < 256) (hb : ∀ i, i < n → M.2 0 (fr + i) = nI (h i)) {fu : Nat} (hfu : 2000 ≤ fu) : (AW h n → f_X10_areWords fu M (nI fr) (nI n) = some 1) ∧ (¬ AW h n → f_X10_areWords fu M (nI fr) (nI n) = some 0) :=
  awL2 hfr hh hb fu n fu 0 (by omega) (by omega) (fun j hj => absurd hj (Nat.not_lt_zero _))
end PP
/-- a string that fits is not longer than twelve rows -/
theorem n_492 {h : Nat → Nat} {n W wd : Nat} {wb we : Nat → Nat} (H : Wds h n W wb we) (hfit : ∀ k, k < W → we k - wb k ≤ wd) : ∀ (d i : Nat), W - i = d → i < W → n ≤ wb i + grW W wd wb we i * (wd + 1) := by
  intro d
  induction d using Nat.strongRecOn with
  | _ d ih =>
    intro i hd hi
    have h1 := sp_gt (W := W) (wd := wd) (wb := wb) (we := we) hi
    have h2 := sp_le (W := W) (wd := wd) (wb := wb) (we := we) (show i ≤ W by omega)
    have h3 := (sp_in hfit hi (sp W wd wb we i - 1) (by omega) (by omega)).2
    rw [grW_step hi, Nat.add_mul, Nat.one_mul]
    by_cases c : sp W wd wb we i < W
    · have h4 := ih (W - sp W wd wb we i) (by omega) _ rfl c
      have h5 := (H.2.2.2.2 (sp W wd wb we i - 1) (by omega)).2
      rw [show sp W wd wb we i - 1 + 1 = sp W wd wb we i by omega] at h5
      omega
    · have h5 := H.2.2.1
      rw [show sp W wd wb we i - 1 = W - 1 by omega, h5] at h3
      have := Nat.zero_le (grW W wd wb we (sp W wd wb we i) * (wd + 1))
      omega
theorem n_500 {h : Nat → Nat} {n W wd : Nat} {wb we : Nat → Nat} (H : Wds h n W wb we) (hwd : wd ≤ 40) (hf : fitP W wd wb we) : n ≤ 492 := by
  have h1 := n_492 H hf.1 W 0 rfl H.1
  rw [H.2.1] at h1
  have h2 : grW W wd wb we 0 * (wd + 1) ≤ 12 * 41 := Nat.mul_le_mul hf.2 (by omega)
  omega
