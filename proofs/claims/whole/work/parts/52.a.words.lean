/-! a proper string has words -/
def Prp (h : Nat → Nat) (n : Nat) : Prop := 0 < n ∧ h 0 ≠ 32 ∧ h (n - 1) ≠ 32 ∧ ∀ i, i + 1 < n → h i = 32 → h (i + 1) ≠ 32
theorem lastSp (h : Nat → Nat) (n : Nat) : (∀ i, i < n → h i ≠ 32) ∨ ∃ j, j < n ∧ h j = 32 ∧ ∀ i, j < i → i < n → h i ≠ 32 := by
  induction n with
  | zero => exact Or.inl (fun i hi => absurd hi (Nat.not_lt_zero _))
  | succ n ih =>
    by_cases e : h n = 32
    · exact Or.inr ⟨n, Nat.lt_succ_self _, e, fun i h1 h2 => by omega⟩
    · rcases ih with g | ⟨j, g1, g2, g3⟩
      · refine Or.inl (fun i hi => ?_)
        by_cases q : i = n
        · rw [q]; exact e
        · exact g i (by omega)
      · refine Or.inr ⟨j, by omega, g2, fun i h1 h2 => ?_⟩
        by_cases q : i = n
        · rw [q]; exact e
        · exact g3 i h1 (by omega)
theorem Wds_ex (h : Nat → Nat) (n : Nat) (hp : Prp h n) : ∃ (W : Nat) (wb we : Nat → Nat), Wds h n W wb we := by
  induction n using Nat.strongRecOn with
  | _ n ih =>
    obtain ⟨h0, h1, h2, h3⟩ := hp
    rcases lastSp h n with g | ⟨j, g1, g2, g3⟩
    · refine ⟨1, fun _ => 0, fun _ => n, by decide, rfl, rfl, fun k hk => ⟨h0, Nat.le_refl _, fun i _ hi => g i hi⟩, fun k hk => by omega⟩
    · have hj0 : j ≠ 0 := fun e => by subst e; exact h1 g2
      have hjn : j ≠ n - 1 := fun e => by rw [e] at g2; exact h2 g2
      obtain ⟨W, wb, we, H⟩ := ih j g1 ⟨by omega, h1, fun e => h3 (j - 1) (by omega) e (by rw [show j - 1 + 1 = j by omega]; exact g2), fun i hi => h3 i (by omega)⟩
      obtain ⟨k0, k1, k2, k3, k4⟩ := H
      refine ⟨W + 1, fun k => if k < W then wb k else j + 1, fun k => if k < W then we k else n, by omega, by simp only; rw [if_pos k0]; exact k1, by simp only; rw [if_neg (by omega)], fun k hk => ?_, fun k hk => ?_⟩
      · simp only
        by_cases c : k < W
        · rw [if_pos c, if_pos c]; exact ⟨(k3 k c).1, by have := (k3 k c).2.1; omega, (k3 k c).2.2⟩
        · rw [if_neg c, if_neg c]; exact ⟨by omega, Nat.le_refl _, fun i hi1 hi2 => g3 i (by omega) hi2⟩
      · simp only
        rw [if_pos (show k < W by omega)]
        by_cases c : k + 1 < W
        · rw [if_pos c]; exact k4 k c
        · rw [if_neg c, show k = W - 1 by omega, k2]; exact ⟨g2, rfl⟩
section WD
variable {W wd n : Nat} {wb we h : Nat → Nat}
theorem Wm.far (hm : Wm W wb we) (i d : Nat) (hd : i + d < W) : wb i + 2 * d + 1 ≤ we (i + d) := by
  induction d with
  | zero => have := hm.1 i hd; show wb i + 2 * 0 + 1 ≤ we i; omega
  | succ d ih =>
    have h1 := ih (by omega)
    have h2 := hm.2 (i + d) (by omega)
    have h3 := hm.1 (i + d + 1) (by omega)
    rw [show i + (d + 1) = i + d + 1 by omega]
    omega
theorem sp_20 (hm : Wm W wb we) (hwd : wd ≤ 40) (hfit : ∀ k, k < W → we k - wb k ≤ wd) {i : Nat} (hi : i < W) : sp W wd wb we i ≤ i + 20 := by
  have h1 := sp_gt (W := W) (wd := wd) (wb := wb) (we := we) hi
  have h2 := sp_in hfit hi (sp W wd wb we i - 1) (by omega) (by omega)
  have h3 := hm.far i (sp W wd wb we i - 1 - i) (by omega)
  rw [show i + (sp W wd wb we i - 1 - i) = sp W wd wb we i - 1 by omega] at h3
  omega
theorem gr_240 (hm : Wm W wb we) (hwd : wd ≤ 40) (hfit : ∀ k, k < W → we k - wb k ≤ wd) : ∀ (d i : Nat), W - i = d → i ≤ W → W ≤ i + 20 * grW W wd wb we i := by
  intro d
  induction d using Nat.strongRecOn with
  | _ d ih =>
    intro i hd hi
    by_cases c : i < W
    · have h1 := sp_gt (W := W) (wd := wd) (wb := wb) (we := we) c
      have h2 := sp_20 hm hwd hfit c
      have h3 := sp_le (W := W) (wd := wd) (wb := wb) (we := we) hi
      have := ih (W - sp W wd wb we i) (by omega) _ rfl h3
      rw [grW_step c]
      omega
    · omega
theorem W_750 (H : Wds h n W wb we) : 2 * W ≤ n + 1 := by
  have h1 := H.m.far 0 (W - 1) (by have := H.1; omega)
  have h2 := H.2.2.1
  have h3 := H.1
  rw [show 0 + (W - 1) = W - 1 by omega, h2] at h1
  omega
/-- the reference's words -/
def Wr (M : St) (W : Nat) (wb we : Nat → Nat) : Prop := M.1 29 = nI W ∧ ∀ j, j < W → M.2 27 j = nI (wb j) ∧ M.2 28 j = nI (we j)
theorem cwL55 (H : Wds h n W wb we) (hn : n ≤ 1500) (hh : ∀ i, i < n → h i < 256) (K : St → Int32 → Int32 → Option St) (fu : Nat) (u : St) (hu : ∀ i, i < n → u.2 26 i = nI (h i)) {k : Nat} (hk : k < W) (x2 : Int32) :
    ∀ (m q i : Nat), i + m = we k → m < q → wb k ≤ i → f_X10_cutWords_L55 K fu q u (nI n) x2 (nI i) = f_X10_cutWords_L77 K fu u (nI n) x2 (nI (we k)) := by
  obtain ⟨hW0, hb0, heW, hwd, hsp⟩ := id H
  have hwk := hwd k hk
  intro m
  induction m with
  | zero =>
    intro q i hi hq h1
    obtain ⟨q, rfl⟩ : ∃ q', q = q' + 1 := ⟨q - 1, by omega⟩
    have hi : i = we k := by omega
    subst hi
    rw [f_X10_cutWords_L55]
    by_cases c : n ≤ we k
    · exact ip (nI_le c (by omega)) rfl
    · rw [if_neg (show ¬ nI n ≤ nI (we k) from nI_ge (by omega) (by omega)), if_pos (inb_nI (show we k < 1500 by omega) (by decide)), cl_nI (show we k < 2 ^ 31 by omega), hu _ (by omega)]
      have hkW : k + 1 < W := by
        rcases Nat.lt_or_ge (k + 1) W with q1 | q1
        · exact q1
        · exfalso; have : k = W - 1 := by omega
          rw [this, heW] at c; exact c (Nat.le_refl _)
      rw [(hsp k hkW).1]
      exact ip rfl rfl
  | succ m ih =>
    intro q i hi hq h1
    obtain ⟨q, rfl⟩ : ∃ q', q = q' + 1 := ⟨q - 1, by omega⟩
    rw [f_X10_cutWords_L55, if_neg (show ¬ nI n ≤ nI i from nI_ge (by omega) (by omega)), if_pos (inb_nI (show i < 1500 by omega) (by decide)), cl_nI (show i < 2 ^ 31 by omega), hu _ (by omega), if_neg (show ¬ nI (h i) = 32 from nI_neq (b := 32) (by have := hh i (by omega); omega) (by decide) (hwk.2.2 i h1 (by omega))), nI_1]
    exact ih q (i + 1) (by omega) (by omega) (by omega)
theorem cwL7 (H : Wds h n W wb we) (hn : n ≤ 1500) (hh : ∀ i, i < n → h i < 256) {fu : Nat} (hfu : 2000 ≤ fu) :
    ∀ (m q i c : Nat) (u : St), i + m = n → m < q → c ≤ W → (∀ k, k < c → wb k < i) → (c < W → i ≤ wb c) → (∀ i, i < n → u.2 26 i = nI (h i)) → u.1 29 = nI c → (∀ j, j < c → u.2 27 j = nI (wb j) ∧ u.2 28 j = nI (we j)) →
      ∃ u' : St, f_X10_cutWords_L7 fu q u (nI n) (nI i) = some u' ∧ Wr u' W wb we ∧ (∀ x, x ≠ 29 → u'.1 x = u.1 x) ∧ ∀ x, x ≠ 27 → x ≠ 28 → u'.2 x = u.2 x := by
  obtain ⟨hW0, hb0, heW, hwd, hsp⟩ := id H
  have hW7 := W_750 H
  intro m
  induction m with
  | zero =>
    intro q i c u hi hq hc h1 h2 hu h29 hj
    obtain ⟨q, rfl⟩ : ∃ q', q = q' + 1 := ⟨q - 1, by omega⟩
    have : c = W := by
      rcases Nat.lt_or_ge c W with q1 | q1
      · have := h2 q1
        have g := hwd c q1
        omega
      · omega
    subst this
    refine ⟨u, ?_, ⟨h29, hj⟩, fun x _ => rfl, fun x _ _ => rfl⟩
    rw [f_X10_cutWords_L7]
    exact ip (nI_le (by omega) (by omega)) rfl
  | succ m ih =>
    intro q i c u hi hq hc h1 h2 hu h29 hj
    obtain ⟨q, rfl⟩ : ∃ q', q = q' + 1 := ⟨q - 1, by omega⟩
    have hii := hh i (by omega)
    rw [f_X10_cutWords_L7, if_neg (show ¬ nI n ≤ nI i from nI_ge (by omega) (by omega)), if_pos (inb_nI (show i < 1500 by omega) (by decide)), cl_nI (show i < 2 ^ 31 by omega), hu _ (by omega)]
    by_cases hbeg : c < W ∧ i = wb c
    · obtain ⟨hcW, hic⟩ := hbeg
      have hwc := hwd c hcW
      have hne : h i ≠ 32 := hwc.2.2 i (by omega) (by omega)
      rw [if_neg (show ¬ nI (h i) = 32 from nI_neq (b := 32) (by omega) (by decide) hne)]
      have push : ∃ u' : St, f_X10_cutWords_L43 (f_X10_cutWords_L7 fu q) fu u (nI n) (nI i) = some u' ∧ Wr u' W wb we ∧ (∀ x, x ≠ 29 → u'.1 x = u.1 x) ∧ ∀ x, x ≠ 27 → x ≠ 28 → u'.2 x = u.2 x := by
        unfold f_X10_cutWords_L43
        rw [h29, if_pos (inb_nI (show c < 760 by omega) (by decide)), cl_nI (show c < 2 ^ 31 by omega), cwL55 H hn hh (f_X10_cutWords_L7 fu q) fu (sA u 27 c (nI i)) (fun i hi => by simpa [sA_2i] using hu i hi) hcW (nI i) (we c - i) fu i (by omega) (by omega) (by omega)]
        unfold f_X10_cutWords_L77
        rw [sA_1, h29, if_pos (inb_nI (show c < 760 by omega) (by decide)), cl_nI (show c < 2 ^ 31 by omega), nI_1, nI_1]
        obtain ⟨u', e1, e2, e3, e4⟩ := ih q (i + 1) (c + 1) (sF (sA (sA u 27 c (nI i)) 28 c (nI (we c))) 29 (nI (c + 1))) (by omega) (by omega) (by omega) (by
          intro k hk
          by_cases e : k = c
          · subst e; omega
          · have := h1 k (by omega); omega) (by
          intro hc2
          have := (hsp c hc2).2
          omega) (fun i hi => by simpa [sF_2, sA_2i] using hu i hi) (by rw [sF_1, if_pos rfl]) (by
          intro j hjc
          by_cases e : j = c
          · subst e; rw [hic]; simp [sF_2, sA_2i]
          · have := hj j (by omega)
            simp [sF_2, sA_2i, e, this])
        exact ⟨u', e1, e2, fun x hx => by rw [e3 x hx, sF_1, if_neg hx]; rfl, fun x h1 h2 => by rw [e4 x h1 h2, sF_2, sA_2, if_neg h2, sA_2, if_neg h1]⟩
      by_cases hi0 : i = 0
      · rw [if_pos (show nI i ≤ 0 by rw [hi0]; decide)]
        exact push
      · obtain ⟨c', rfl⟩ : ∃ c', c = c' + 1 := ⟨c - 1, by
          rcases Nat.eq_zero_or_pos c with e | e
          · subst e; omega
          · omega⟩
        have hs := hsp c' hcW
        rw [if_neg (nI_nle (show 0 < i by omega) (by omega)), show (nI i - 1 : Int32) = nI (i - 1) from pk_sub (show 1 ≤ i by omega), if_pos (inb_nI (show i - 1 < 1500 by omega) (by decide)), cl_nI (show i - 1 < 2 ^ 31 by omega), hu _ (by omega), show i - 1 = we c' by omega, hs.1]
        rw [if_pos (show nI 32 = 32 from rfl)]
        exact push
    · -- no word begins here
      obtain ⟨d, rfl⟩ : ∃ d, c = d + 1 := ⟨c - 1, by
        rcases Nat.eq_zero_or_pos c with e | e
        · exfalso; subst e; exact hbeg ⟨hW0, by have := h2 hW0; omega⟩
        · omega⟩
      have hd := h1 d (by omega)
      have hwdd := hwd d (by omega)
      have hnext : i + 1 ≤ n ∧ ((d + 1) < W → i + 1 ≤ wb (d + 1)) := ⟨by omega, fun q1 => by
        have := h2 q1
        have : ¬ i = wb (d + 1) := fun e => hbeg ⟨q1, e⟩
        omega⟩
      have hie : i ≤ we d := by
        by_cases q1 : d + 1 < W
        · have := hnext.2 q1; have := (hsp d q1).2; omega
        · have : d = W - 1 := by omega
          rw [this, heW]; omega
      obtain ⟨u', e⟩ := ih q (i + 1) (d + 1) u (by omega) (by omega) hc (fun k hk => by have := h1 k hk; omega) hnext.2 hu h29 hj
      refine ⟨u', ?_, e.2⟩
      by_cases h32 : h i = 32
      · rw [h32, if_pos (show nI 32 = 32 from rfl), nI_1]; exact e.1
      · have hlt : i < we d := by
          rcases Nat.lt_or_ge i (we d) with q1 | q1
          · exact q1
          · exfalso
            have e9 : i = we d := by omega
            by_cases q2 : d + 1 < W
            · rw [e9] at h32; exact h32 (hsp d q2).1
            · have : d = W - 1 := by omega
              rw [this, heW] at e9; omega
        have hpr : h (i - 1) ≠ 32 := hwdd.2.2 (i - 1) (by omega) (by omega)
        have hp2 := hh (i - 1) (by omega)
        rw [if_neg (show ¬ nI (h i) = 32 from nI_neq (b := 32) (by omega) (by decide) h32), if_neg (nI_nle (show 0 < i by omega) (by omega)), show (nI i - 1 : Int32) = nI (i - 1) from pk_sub (show 1 ≤ i by omega), if_pos (inb_nI (show i - 1 < 1500 by omega) (by decide)), cl_nI (show i - 1 < 2 ^ 31 by omega), hu _ (by omega), if_neg (show ¬ nI (h (i - 1)) = 32 from nI_neq (b := 32) (by omega) (by decide) hpr), nI_1]
        exact e.1
theorem cutWords_e (H : Wds h n W wb we) (hn : n ≤ 1500) (hh : ∀ i, i < n → h i < 256) {fu : Nat} (hfu : 2000 ≤ fu) {M : St} (hM : ∀ i, i < n → M.2 26 i = nI (h i)) :
    ∃ M' : St, f_X10_cutWords fu M (nI n) = some M' ∧ Wr M' W wb we ∧ (∀ x, x ≠ 29 → M'.1 x = M.1 x) ∧ ∀ x, x ≠ 27 → x ≠ 28 → M'.2 x = M.2 x := by
  obtain ⟨u', e1, e2, e3, e4⟩ := cwL7 H hn hh hfu n fu 0 0 (sF M 29 0) (by omega) (by omega) (Nat.zero_le _) (fun k hk => absurd hk (Nat.not_lt_zero _)) (fun _ => Nat.zero_le _) hM (by rw [sF_1, if_pos rfl]; rfl) (fun k hk => absurd hk (Nat.not_lt_zero _))
  exact ⟨u', e1, e2, fun x hx => by rw [e3 x hx, sF_1, if_neg hx], e4⟩
end WD
