/-! the class's Words; the reference's areWords -/
section FT
variable {W wd n fr : Nat} {wb we h : Nat → Nat} {b : Nat → Int32}
theorem within_e (fu : Nat) (b : Nat → Int32) {fr n : Nat} (h : fr + n ≤ 1500) : f_X8_areWithin fu b (nI fr) (nI n) = some 1 := by
  unfold f_X8_areWithin
  rw [if_neg (nI_pos (show fr < 2 ^ 31 by omega)), if_neg (nI_pos (show n < 2 ^ 31 by omega)), if_neg (show ¬ (1500 : Int32) < nI n from nI_nlt (a := 1500) (by omega) (by omega)), show (1500 - nI n : Int32) = nI (1500 - n) from pk_sub (show n ≤ 1500 by omega), if_neg (nI_nlt (by omega) (by omega))]
theorem lrL23 (H : Wds h n W wb we) (hwd : wd ≤ 40) (hfr : fr + n ≤ 1500) (hh : ∀ i, i < n → h i < 256) (hb : ∀ i, i < n → b (fr + i) = nI (h i)) (fu : Nat) :
    ∀ (m q k i r len fi : Nat), i + m = n + 1 → m < q → k < W → wb k ≤ i → i ≤ we k → r ≤ k → (∀ j, j < k → we j - wb j ≤ wd) → ((k = 0 ∧ r = 0 ∧ len = wd) ∨ (0 < k ∧ fi < k ∧ k ≤ sp W wd wb we fi ∧ len + wb fi = we (k - 1) ∧ grW W wd wb we 0 = r + grW W wd wb we (sp W wd wb we fi))) →
      (((∀ j, j < W → we j - wb j ≤ wd) → f_X8_leastRows_L23 fu b q (nI fr) (nI n) (nI wd) (nI r) (nI len) (nI (i - wb k)) (nI (fr + i)) = some (nI (grW W wd wb we 0))) ∧ (¬ (∀ j, j < W → we j - wb j ≤ wd) → f_X8_leastRows_L23 fu b q (nI fr) (nI n) (nI wd) (nI r) (nI len) (nI (i - wb k)) (nI (fr + i)) = some (-1))) := by
  obtain ⟨hW0, hb0, heW, hwds, hsp⟩ := id H
  have hm := H.m
  have hW7 := W_750 H
  intro m
  induction m with
  | zero =>
    intro q k i r len fi hi hq hk h1 h2
    have := (hwds k hk).2.1
    omega
  | succ m ih =>
    intro q k i r len fi hi hq hk h1 h2 hrk hj hinv
    obtain ⟨q, rfl⟩ : ∃ q', q = q' + 1 := ⟨q - 1, by omega⟩
    have hwk := hwds k hk
    have hlen : len ≤ 1500 := by
      rcases hinv with ⟨_, _, g⟩ | ⟨g0, g1, _, g, _⟩
      · omega
      · have := (hwds (k - 1) (by omega)).2.1; omega
    rw [f_X8_leastRows_L23, nI_add, if_neg (show ¬ nI (fr + n) < nI (fr + i) from nI_nlt (by omega) (by omega))]
    by_cases c : i < we k
    · have hne := hwk.2.2 i h1 c
      have hlt := hh i (by omega)
      rw [if_neg (show ¬ nI (fr + n) ≤ nI (fr + i) from nI_ge (by omega) (by omega)), if_pos (inb_nI (show fr + i < 1500 by omega) (by decide)), cl_nI (show fr + i < 2 ^ 31 by omega), hb i (by omega), if_neg (show ¬ nI (h i) = 32 from nI_neq (b := 32) (by omega) (by decide) hne), nI_1, nI_1, show i - wb k + 1 = i + 1 - wb k by omega, show fr + i + 1 = fr + (i + 1) by omega]
      exact ih q k (i + 1) r len fi (by omega) (by omega) hk (by omega) (by omega) hrk hj hinv
    · have hie : i = we k := by omega
      -- the word is whole
      have main : ((∀ j, j < W → we j - wb j ≤ wd) → f_X8_leastRows_L54 (f_X8_leastRows_L23 fu b q) fu b (nI fr) (nI n) (nI wd) (nI r) (nI len) (nI (i - wb k)) (nI (fr + i)) = some (nI (grW W wd wb we 0))) ∧ (¬ (∀ j, j < W → we j - wb j ≤ wd) → f_X8_leastRows_L54 (f_X8_leastRows_L23 fu b q) fu b (nI fr) (nI n) (nI wd) (nI r) (nI len) (nI (i - wb k)) (nI (fr + i)) = some (-1)) := by
        unfold f_X8_leastRows_L54 f_X8_leastRows_L84
        by_cases c1 : we k - wb k ≤ wd
        · rw [if_pos (show nI (i - wb k) ≤ nI wd from nI_le (by omega) (by omega)), show (1 + nI (i - wb k) : Int32) = nI (1 + (i - wb k)) from nI_add 1 _, nI_add, nI_1, nI_1]
          have hj2 : ∀ j, j < k + 1 → we j - wb j ≤ wd := fun j hjk => by
            by_cases e : j = k
            · rw [e]; exact c1
            · exact hj j (by omega)
          -- what follows, for the new row state
          have go : ∀ r' len' fi', r' ≤ k + 1 → fi' < k + 1 → k + 1 ≤ sp W wd wb we fi' → len' + wb fi' = we k → grW W wd wb we 0 = r' + grW W wd wb we (sp W wd wb we fi') → ((∀ j, j < W → we j - wb j ≤ wd) → f_X8_leastRows_L23 fu b q (nI fr) (nI n) (nI wd) (nI r') (nI len') 0 (nI (fr + i + 1)) = some (nI (grW W wd wb we 0))) ∧ (¬ (∀ j, j < W → we j - wb j ≤ wd) → f_X8_leastRows_L23 fu b q (nI fr) (nI n) (nI wd) (nI r') (nI len') 0 (nI (fr + i + 1)) = some (-1)) := by
            intro r' len' fi' a1 a2 a3 a4 a5
            by_cases c2 : k + 1 < W
            · have hs := hsp k c2
              have := ih q (k + 1) (i + 1) r' len' fi' (by omega) (by omega) c2 (by omega) (by have := (hwds (k + 1) c2).1; omega) a1 hj2 (Or.inr ⟨by omega, a2, a3, by rw [show k + 1 - 1 = k by omega]; exact a4, a5⟩)
              rw [show i + 1 - wb (k + 1) = 0 by omega, show fr + (i + 1) = fr + i + 1 by omega] at this
              exact this
            · have hkW : k + 1 = W := by omega
              have hin : i = n := by rw [hie, ← heW, ← hkW]; rfl
              obtain ⟨q, rfl⟩ : ∃ q', q = q' + 1 := ⟨q - 1, by omega⟩
              have hsW := sp_le (W := W) (wd := wd) (wb := wb) (we := we) (show fi' ≤ W by omega)
              rw [f_X8_leastRows_L23, nI_add, if_pos (show nI (fr + n) < nI (fr + i + 1) from nI_lt (by omega) (by omega))]
              have e9 : grW W wd wb we (sp W wd wb we fi') = 0 := grW_end (by omega)
              refine ⟨fun _ => ?_, fun g => absurd (fun j hj3 => hj2 j (by omega)) g⟩
              rw [a5, e9]
              rfl
          have spk := sp_gt (W := W) (wd := wd) (wb := wb) (we := we) hk
          rcases hinv with ⟨g0, g1, g2⟩ | ⟨g0, g1, g2, g3, g4⟩
          · rw [if_neg (show ¬ nI (len + (1 + (i - wb k))) ≤ nI wd from nI_ge (by omega) (by omega))]
            refine go (r + 1) (i - wb k) k (by omega) (by omega) (by omega) (by omega) ?_
            have := grW_step (W := W) (wd := wd) (wb := wb) (we := we) hW0
            rw [g1, g0]
            omega
          · have hs := hsp (k - 1) (by omega)
            rw [show k - 1 + 1 = k by omega] at hs
            have hwbk := hm.wb_le (show fi ≤ k by omega) hk
            have hsum : len + (1 + (i - wb k)) = we k - wb fi := by omega
            rw [hsum]
            by_cases c3 : we k - wb fi ≤ wd
            · rw [if_pos (nI_le c3 (by omega))]
              refine go r (we k - wb fi) fi (by omega) (by omega) ?_ (by omega) g4
              rcases Nat.lt_or_ge k (sp W wd wb we fi) with q1 | q1
              · exact q1
              · have e9 : sp W wd wb we fi = k := by omega
                have := sp_out (wd := wd) (wb := wb) (we := we) (show fi < W by omega) (by omega)
                rw [e9] at this
                omega
            · rw [if_neg (show ¬ nI (we k - wb fi) ≤ nI wd from nI_ge (by omega) (by omega))]
              have e9 : sp W wd wb we fi = k := by
                rcases Nat.lt_or_ge k (sp W wd wb we fi) with q1 | q1
                · have e1 : sp W wd wb we fi = spx W wd wb we fi := by unfold sp; rw [if_pos (show fi < W by omega)]
                  rw [e1] at q1
                  exact absurd (spx_in k (by omega) q1).2 c3
                · omega
              refine go (r + 1) (i - wb k) k (by omega) (by omega) (by omega) (by omega) ?_
              rw [g4, e9, grW_step hk]
              omega
        · rw [if_neg (show ¬ nI (i - wb k) ≤ nI wd from nI_ge (by omega) (by omega))]
          exact ⟨fun g => absurd (g k hk) c1, fun _ => rfl⟩
      by_cases c4 : n ≤ i
      · rw [if_pos (show nI (fr + n) ≤ nI (fr + i) from nI_le (by omega) (by omega))]
        exact main
      · have hkW : k + 1 < W := by
          rcases Nat.lt_or_ge (k + 1) W with q1 | q1
          · exact q1
          · have : k = W - 1 := by omega
            rw [hie, this, heW] at c4; exact absurd (Nat.le_refl _) c4
        have h32 := (hsp k hkW).1
        rw [← hie] at h32
        rw [if_neg (show ¬ nI (fr + n) ≤ nI (fr + i) from nI_ge (by omega) (by omega)), if_pos (inb_nI (show fr + i < 1500 by omega) (by decide)), cl_nI (show fr + i < 2 ^ 31 by omega), hb i (by omega), h32, if_pos (show nI 32 = 32 from rfl)]
        exact main
theorem fit_e (H : Wds h n W wb we) (hwd : wd ≤ 40) (hfr : fr + n ≤ 1500) (hh : ∀ i, i < n → h i < 256) (hb : ∀ i, i < n → b (fr + i) = nI (h i)) {fu : Nat} (hfu : 2000 ≤ fu) : (fitP W wd wb we → f_X8_fit fu b (nI fr) (nI n) (nI wd) = some 1) ∧ (¬ fitP W wd wb we → f_X8_fit fu b (nI fr) (nI n) (nI wd) = some 0) := by
  have hl := lrL23 H hwd hfr hh hb fu (n + 1) fu 0 0 0 wd 0 (by omega) (by omega) H.1 (by rw [H.2.1]; exact Nat.le_refl _) (Nat.zero_le _) (Nat.le_refl _) (fun j hj => absurd hj (Nat.not_lt_zero _)) (Or.inl ⟨rfl, rfl, rfl⟩)
  rw [H.2.1] at hl
  have hW7 := W_750 H
  have hgW : grW W wd wb we 0 ≤ W := by
    have h9 : ∀ k i, W - i = k → grW W wd wb we i ≤ k := by
      intro k
      induction k using Nat.strongRecOn with
      | _ k ihk =>
        intro i hi
        by_cases hiW : i < W
        · rw [grW_step hiW]
          have := sp_gt (W := W) (wd := wd) (wb := wb) (we := we) hiW
          have := ihk (W - sp W wd wb we i) (by omega) _ rfl
          omega
        · rw [grW_end (by omega)]; exact Nat.zero_le _
    exact h9 W 0 rfl
  have e0 : f_X8_leastRows fu b (nI fr) (nI n) (nI wd) = f_X8_leastRows_L23 fu b fu (nI fr) (nI n) (nI wd) 0 (nI wd) 0 (nI fr) := by
    unfold f_X8_leastRows
    exact bd (within_e fu b hfr) (iN (by decide) rfl)
  unfold f_X8_fit
  rw [e0]
  by_cases ha : ∀ j, j < W → we j - wb j ≤ wd
  · have e1 : f_X8_leastRows_L23 fu b fu (nI fr) (nI n) (nI wd) 0 (nI wd) 0 (nI fr) = some (nI (grW W wd wb we 0)) := hl.1 ha
    rw [e1]
    have hne : ¬ nI (grW W wd wb we 0) = -1 := fun e => by
      have h1 : ¬ nI (grW W wd wb we 0) < 0 := nI_pos (by omega)
      rw [e] at h1
      exact h1 (by decide)
    refine ⟨fun g => ?_, fun g => ?_⟩
    · show (if nI (grW W wd wb we 0) = -1 then _ else _) = _
      rw [if_neg hne, if_neg (show ¬ (12 : Int32) < nI (grW W wd wb we 0) from nI_nlt (a := 12) g.2 (by decide))]
    · show (if nI (grW W wd wb we 0) = -1 then _ else _) = _
      rw [if_neg hne, if_pos (show (12 : Int32) < nI (grW W wd wb we 0) from nI_lt (a := 12) (Nat.lt_of_not_le (fun q1 => g ⟨ha, q1⟩)) (by omega))]
  · have e1 : f_X8_leastRows_L23 fu b fu (nI fr) (nI n) (nI wd) 0 (nI wd) 0 (nI fr) = some (-1) := hl.2 ha
    rw [e1]
    exact ⟨fun g => absurd g.1 ha, fun _ => rfl⟩
end FT
