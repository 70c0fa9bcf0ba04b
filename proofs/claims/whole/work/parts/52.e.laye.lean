/-! lay as a whole -/
def fitP (W wd : Nat) (wb we : Nat → Nat) : Prop := (∀ k, k < W → we k - wb k ≤ wd) ∧ grW W wd wb we 0 ≤ 12
/-- what lay leaves -/
def Ld (M : St) (W wd : Nat) (wb we : Nat → Nat) : Prop := M.1 32 = nI (slt W wd wb we / 2) ∧ M.1 33 = nI (Rp W wd wb we (slt W wd wb we) 0) ∧ (∀ a, a < slt W wd wb we → M.2 31 a = nI (pw W wd wb we (slt W wd wb we) (a + 1) - pw W wd wb we (slt W wd wb we) a)) ∧ Wr M W wb we
/-- what lay touches, and the hand -/
def FrL (M M' : St) : Prop := (∀ x, x ≠ 29 → x ≠ 32 → x ≠ 33 → M'.1 x = M.1 x) ∧ (∀ x, x ≠ 26 → x ≠ 27 → x ≠ 28 → x ≠ 30 → x ≠ 31 → M'.2 x = M.2 x)
theorem FrL.trans {A B C : St} (h : FrL A B) (g : FrL B C) : FrL A C := ⟨fun x h1 h2 h3 => (g.1 x h1 h2 h3).trans (h.1 x h1 h2 h3), fun x h1 h2 h3 h4 h5 => (g.2 x h1 h2 h3 h4 h5).trans (h.2 x h1 h2 h3 h4 h5)⟩
theorem FrL.refl (A : St) : FrL A A := ⟨fun _ _ _ _ => rfl, fun _ _ _ _ _ _ => rfl⟩
section LE
variable {W wd n : Nat} {wb we h : Nat → Nat} {u : St}
theorem l58 (hw : Wr u W wb we) (hm : Wm W wb we) (hW7 : W ≤ 755) (hwd : wd < 2 ^ 20) (hn : ∀ k, k < W → we k < 2 ^ 20) (fu : Nat) {r : Nat} (hr : r < 20) :
    ∀ (m q k : Nat), k + m = W → m < q → (∀ j, j < k → we j - wb j ≤ wd) → (((∀ j, j < W → we j - wb j ≤ wd) ∧ r ≤ 12 → f_X10_lay_L58 fu q u (nI wd) (nI r) (nI k) = f_X10_lay_L106 fu fu (sF u 32 (nI ((r + 1) / 2))) (nI wd) 0) ∧ (¬ ((∀ j, j < W → we j - wb j ≤ wd) ∧ r ≤ 12) → f_X10_lay_L58 fu q u (nI wd) (nI r) (nI k) = some (0, u))) := by
  intro m
  induction m with
  | zero =>
    intro q k hk hq hj
    obtain ⟨q, rfl⟩ : ∃ q', q = q' + 1 := ⟨q - 1, by omega⟩
    have : k = W := by omega
    subst this
    rw [f_X10_lay_L58, hw.1, if_pos (show nI k ≤ nI k from nI_le (Nat.le_refl _) (by omega))]
    refine ⟨fun g => ?_, fun g => ?_⟩
    · rw [if_pos (show nI r ≤ 12 from nI_le (b := 12) g.2 (by decide)), if_pos (show nz 2 = true by decide), nI_1, show (nI (r + 1) / 2 : Int32) = nI ((r + 1) / 2) from pk_div (by omega) (by decide) (by decide)]
    · rw [if_neg (show ¬ nI r ≤ 12 from nI_ge (a := 12) (Nat.lt_of_not_le (fun q1 => g ⟨hj, q1⟩)) (by omega))]
  | succ m ih =>
    intro q k hk hq hj
    obtain ⟨q, rfl⟩ : ∃ q', q = q' + 1 := ⟨q - 1, by omega⟩
    have h2 := hn k (by omega)
    have hrl := rowLength_e hw hm hW7 fu (i := k) (k := 1) (by omega) (by omega)
    rw [show k + 1 - 1 = k by omega] at hrl
    rw [f_X10_lay_L58, hw.1, if_neg (show ¬ nI W ≤ nI k from nI_ge (by omega) (by omega)), show f_X10_rowLength fu u (nI k) 1 = _ from hrl, nI_1]
    by_cases c : we k - wb k ≤ wd
    · have := ih q (k + 1) (by omega) (by omega) (fun j hj2 => by
        by_cases e : j = k
        · rw [e]; exact c
        · exact hj j (by omega))
      refine ⟨fun g => ?_, fun g => ?_⟩
      · show (if nI (we k - wb k) ≤ nI wd then _ else _) = _
        rw [if_pos (nI_le c (by omega))]; exact this.1 g
      · show (if nI (we k - wb k) ≤ nI wd then _ else _) = _
        rw [if_pos (nI_le c (by omega))]; exact this.2 g
    · refine ⟨fun g => absurd (g.1 k (by omega)) c, fun g => ?_⟩
      show (if nI (we k - wb k) ≤ nI wd then _ else _) = _
      rw [if_neg (nI_ge (by omega) (by omega))]
theorem l10 (hw : Wr u W wb we) (hm : Wm W wb we) (hW7 : W ≤ 755) (hwd : wd < 2 ^ 20) (hn : ∀ k, k < W → we k < 2 ^ 20) {fu : Nat} (hfu : 2000 ≤ fu) :
    ∀ (m q i r : Nat), r + m = 13 → m < q → i ≤ W → (∀ j, j < i → we j - wb j ≤ wd) → grW W wd wb we 0 = r + grW W wd wb we i → ((fitP W wd wb we → f_X10_lay_L10 fu q u (nI wd) (nI r) (nI i) = f_X10_lay_L106 fu fu (sF u 32 (nI ((grW W wd wb we 0 + 1) / 2))) (nI wd) 0) ∧ (¬ fitP W wd wb we → f_X10_lay_L10 fu q u (nI wd) (nI r) (nI i) = some (0, u))) := by
  intro m
  induction m with
  | zero =>
    intro q i r hr hq hi hj hg
    obtain ⟨q, rfl⟩ : ∃ q', q = q' + 1 := ⟨q - 1, by omega⟩
    have := l58 hw hm hW7 hwd hn fu (show r < 20 by omega) (W - i) fu i (by omega) (by omega) hj
    refine ⟨fun g => by have := g.2; omega, fun _ => ?_⟩
    rw [f_X10_lay_L10, if_pos (show (13 : Int32) ≤ nI r from nI_le (a := 13) (by omega) (by omega))]
    have e := this.2 (fun g => by have := g.2; omega)
    by_cases c : u.1 29 ≤ nI i
    · rw [if_pos c]; exact e
    · rw [if_neg c]; exact e
  | succ m ih =>
    intro q i r hr hq hi hj hg
    obtain ⟨q, rfl⟩ : ∃ q', q = q' + 1 := ⟨q - 1, by omega⟩
    rw [f_X10_lay_L10, hw.1]
    by_cases c : W ≤ i
    · have := l58 hw hm hW7 hwd hn fu (show r < 20 by omega) (W - i) fu i (by omega) (by omega) hj
      rw [if_pos (show nI W ≤ nI i from nI_le c (by omega))]
      have e0 : grW W wd wb we i = 0 := grW_end c
      have er : grW W wd wb we 0 = r := by omega
      rw [er]
      refine ⟨fun g => this.1 ⟨g.1, by have := g.2; omega⟩, fun g => this.2 (fun q1 => g ⟨q1.1, by rw [er]; exact q1.2⟩)⟩
    · rw [if_neg (show ¬ nI W ≤ nI i from nI_ge (by omega) (by omega)), if_neg (show ¬ (13 : Int32) ≤ nI r from nI_ge (a := r) (b := 13) (by omega) (by decide)), fits_e hw hm hW7 hwd hn hfu hi]
      have hiW : i < W := by omega
      have g1 := sp_gt (W := W) (wd := wd) (wb := wb) (we := we) hiW
      have g2 := sp_le (W := W) (wd := wd) (wb := wb) (we := we) hi
      by_cases c2 : wd < we i - wb i
      · have e0 : ft W wd wb we i = 0 := by unfold ft; rw [if_pos ⟨hiW, c2⟩]
        rw [e0]
        exact ⟨fun g => by have := g.1 i hiW; omega, fun _ => bd rfl (ip rfl rfl)⟩
      · have e0 : ft W wd wb we i = sp W wd wb we i - i := by unfold ft; rw [if_neg (fun g => c2 g.2)]
        have := ih q (sp W wd wb we i) (r + 1) (by omega) (by omega) g2 (fun j hj2 => by
          rcases Nat.lt_or_ge j i with q1 | q1
          · exact hj j q1
          · by_cases e : j = i
            · rw [e]; omega
            · have e1 : sp W wd wb we i = spx W wd wb we i := by unfold sp; rw [if_pos hiW]
              rw [e1] at hj2
              have h1 := spx_in j (by omega) hj2
              have h2 := hm.wb_le (show i ≤ j by omega) h1.1
              omega) (by rw [hg, grW_step hiW]; omega)
        rw [e0]
        show (fitP W wd wb we → (if nI (sp W wd wb we i - i) = 0 then _ else f_X10_lay_L10 fu q u (nI wd) (nI r + 1) (nI i + nI (sp W wd wb we i - i))) = _) ∧ (¬ fitP W wd wb we → (if nI (sp W wd wb we i - i) = 0 then _ else f_X10_lay_L10 fu q u (nI wd) (nI r + 1) (nI i + nI (sp W wd wb we i - i))) = _)
        rw [if_neg (show ¬ nI (sp W wd wb we i - i) = 0 from nI_neq (b := 0) (by omega) (by decide) (by omega)), nI_1, nI_add, show i + (sp W wd wb we i - i) = sp W wd wb we i by omega]
        exact this
theorem lay_e (H : Wds h n W wb we) (hn : n ≤ 1500) (hh : ∀ i, i < n → h i < 256) (hwd : wd ≤ 40) {fu : Nat} (hfu : 2000 ≤ fu) {M : St} (hM : ∀ i, i < n → M.2 26 i = nI (h i)) :
    (fitP W wd wb we → ∃ M' : St, f_X10_lay fu M (nI n) (nI wd) = some (1, M') ∧ Ld M' W wd wb we ∧ FrL M M' ∧ M'.2 26 = M.2 26) ∧ (¬ fitP W wd wb we → ∃ M' : St, f_X10_lay fu M (nI n) (nI wd) = some (0, M') ∧ FrL M M') := by
  obtain ⟨u, e1, e2, e3, e4⟩ := cutWords_e H hn hh hfu hM
  have hW7 := W_750 H
  have hwe : ∀ k, k < W → we k < 2 ^ 20 := fun k hk => by have := (H.2.2.2.1 k hk).2.1; omega
  have hL10 := l10 (wd := wd) e2 H.m (by omega) (by omega) hwe hfu 13 fu 0 0 rfl (by omega) (Nat.zero_le _) (fun j hj => absurd hj (Nat.not_lt_zero _)) (by omega)
  have fr1 : FrL M u := ⟨fun x h1 _ _ => e3 x h1, fun x _ h1 h2 _ _ => e4 x h1 h2⟩
  refine ⟨fun hf => ?_, fun hf => ⟨u, bd e1 (hL10.2 hf), fr1⟩⟩
  have hg := hf.2
  have hW2 : W ≤ 240 := by have := gr_240 H.m hwd hf.1 W 0 rfl (Nat.zero_le _); omega
  obtain ⟨P, hP⟩ : ∃ P, P = (grW W wd wb we 0 + 1) / 2 := ⟨_, rfl⟩
  have hs : slt W wd wb we = 2 * P := by rw [hP]; rfl
  have hway := Rp_slt H.m hwd hg
  rw [hs] at hway
  obtain ⟨u2, g1, g2, g3, g4⟩ := lyL106 H.m hW2 (show wd ≤ 100 by omega) hwe hf.1 hfu (show P ≤ 6 by omega) (P + 1) fu 0 (sF u 32 (nI P)) (by omega) (by omega) ⟨by rw [sF_1, if_neg (by decide)]; exact e2.1, e2.2⟩ (by rw [sF_1, if_pos rfl]) (fun g hg => absurd hg (Nat.not_lt_zero _))
  have h32 : u2.1 32 = nI P := by rw [g3, sF_1, if_pos rfl]
  have hw2 : Wr u2 W wb we := ⟨by rw [g3, sF_1, if_neg (by decide)]; exact e2.1, fun j hj => by rw [g4 27 (by decide), g4 28 (by decide)]; exact e2.2 j hj⟩
  obtain ⟨u3, k1, k2, k3, k4⟩ := l210 H.m hW2 (show wd ≤ 100 by omega) hwe hf.1 hfu (show P ≤ 6 by omega) hway P fu 0 (sF u2 33 (nI (Rp W wd wb we (2 * P) 0))) (by omega) (by omega) ⟨by rw [sF_1, if_neg (by decide)]; exact hw2.1, hw2.2⟩ (by rw [sF_1, if_neg (by decide)]; exact h32) g2 (fun a ha => absurd ha (Nat.not_lt_zero _))
  refine ⟨u3, bd e1 ((hL10.1 hf).trans ?_), ⟨?_, ?_, ?_, ?_, ?_⟩, ⟨?_, ?_⟩, ?_⟩
  · rw [← hP]
    exact g1.trans k1
  · rw [k3, sF_1, if_neg (by decide), h32, hs, show 2 * P / 2 = P by omega]
  · rw [k3, sF_1, if_pos rfl, hs]
  · rw [hs]; exact k2
  · rw [k3, sF_1, if_neg (by decide)]; exact hw2.1
  · intro j hj; rw [k4 27 (by decide), k4 28 (by decide)]; exact hw2.2 j hj
  · intro x h1 h2 h3
    rw [k3, sF_1, if_neg h3, g3, sF_1, if_neg h2, e3 x h1]
  · intro x _ h1 h2 h3 h4
    rw [k4 x h4, sF_2, g4 x h3, sF_2, e4 x h1 h2]
  · rw [k4 26 (by decide), sF_2, g4 26 (by decide), sF_2, e4 26 (by decide) (by decide)]
end LE
