/-! title -/
section TI
variable {r1 : Nat} {b2 : Nat → Int32} {s3 : St} {F : FSt} {Lk : List Nat} {ck : Nat → Nat × (Nat → Int32)} {M : St} {tg tt im bt cn : Nat} {w v bar tm fr ns : Nat → Nat} {hs : Nat → Nat → Nat} {ch : Nat → Bool}
theorem short_e {e : St} {on : Nat → Bool} {cf ct : Nat → Nat} (R : Rw r1 b2 s3 F Lk ck M tg tt im bt cn w v bar tm fr ns hs ch) (hc : EvC e s3 on cf ct) (hm : EvM M on cf ct) {fu : Nat} (hfu : 2000 ≤ fu) (s0 s0' : St) {t : Nat} (ht : t < tt) : ∃ (q o : Int32) (M' : St), f_X9_countedBarsOf fu s0 s3 e (nI t) = some q ∧ f_X0_shortOf fu s0' s3 F Lk ck (nI t) q = some o ∧ f_X10_shortOf fu M (nI t) = some (o, M') ∧ FrL M M' := by
  have hend := eN_le R.1 (tm t)
  have ht4 := R.1.2.1.2.2
  have hg4 := R.1.1.2.2.2
  obtain ⟨h6, h1, -⟩ := mxs_le R ht tg (Nat.le_refl _)
  have h1 := h1 R.1.1.2.2.1
  obtain ⟨M1, s1', s2⟩ := steps_e R hfu ht
  have R1 := Rw.mc s2.mc R
  have htmm := R1.1.2.2.2.2.2.2.2.2.2.1 t ht
  obtain ⟨b1', b2'⟩ := barsOf_e R1.1 hc (EvM.mc s2.mc hm) hfu ht hend
  have hal2 : cN on cf ct (eN im bar (tm t) - bar (tm t)) (bar (tm t)) ≤ 1000 := Nat.le_trans (cN_le _ _) (by omega)
  obtain ⟨o, M2, k1, k2, k3⟩ := short_both hfu s0' ht h1 h6 hal2 tg fu fu 0 0 M1 R1 (by omega) (by omega) (by omega)
  refine ⟨_, o, M2, bd (barOf_e R.1 fu ht) (bd (endOf_e R.1 fu ht) (bd b1' rfl)), bd (stepsOf_e R hfu s0' ht) k1, ?_, s2.trans k3⟩
  unfold f_X10_shortOf
  refine bd s1' (ip (inb_nI (show t < 40 by omega) (by decide)) ?_)
  rw [cl_nI (show t < 2 ^ 31 by omega), htmm.2.1]
  exact bd (endOfM_e R1.1 fu ht) (bd b2' k2)
theorem chL2 (R : Rw r1 b2 s3 F Lk ck M tg tt im bt cn w v bar tm fr ns hs ch) (fu : Nat) (s0 : St) {t : Nat} (ht : t < tt) : ∀ (m q g : Nat), g + m = tg → m < q → ((∃ g', g ≤ g' ∧ g' < tg ∧ ch (4 * t + g') = true) → f_X0_isChanged_L2 fu s0 s3 F Lk ck q (nI t) (nI g) = some 1) ∧ ((∀ g', g ≤ g' → g' < tg → ch (4 * t + g') = false) → f_X0_isChanged_L2 fu s0 s3 F Lk ck q (nI t) (nI g) = some 0) := by
  have hg4 := R.1.1.2.2.2
  intro m
  induction m with
  | zero =>
    intro q g hg hq
    obtain ⟨q, rfl⟩ : ∃ k, q = k + 1 := ⟨q - 1, by omega⟩
    rw [f_X0_isChanged_L2, R.1.1.1]
    exact ⟨fun ⟨g', h1, h2, _⟩ => by omega, fun _ => ip (nI_le (by omega) (by omega)) rfl⟩
  | succ m ih =>
    intro q g hg hq
    obtain ⟨q, rfl⟩ : ∃ k, q = k + 1 := ⟨q - 1, by omega⟩
    obtain ⟨f', n', h', -, ⟨-, -, a3⟩, -⟩ := R.2.2.2.2 t g ht (by omega)
    have hi := ih q (g + 1) (by omega) (by omega)
    rw [f_X0_isChanged_L2, R.1.1.1, if_neg (nI_ge (show g < tg by omega) (by omega)), wordingOf_1 R.1 fu s0 ht (show g < tg by omega)]
    show (_ → (if ltb (4 * t + g) 161 = true then (if ((F.1 (4 * t + g)).1 3) = 0 then (f_X0_isChanged_L2 fu s0 s3 F Lk ck q (nI t) (nI g + 1)) else (some 1)) else none) = _) ∧ (_ → (if ltb (4 * t + g) 161 = true then (if ((F.1 (4 * t + g)).1 3) = 0 then (f_X0_isChanged_L2 fu s0 s3 F Lk ck q (nI t) (nI g + 1)) else (some 1)) else none) = _)
    rw [if_pos (ltb161 R.1 ht (show g < tg by omega)), a3, nI_1]
    cases hch : ch (4 * t + g) with
    | true =>
      refine ⟨fun _ => iN (by decide) rfl, fun h => ?_⟩
      have := h g (Nat.le_refl _) (by omega)
      rw [hch] at this
      exact absurd this (by decide)
    | false =>
      rw [if_pos (show nI (b1 false) = 0 from rfl)]
      refine ⟨fun ⟨g', h1, h2, h3⟩ => hi.1 ⟨g', ?_, h2, h3⟩, fun h => hi.2 (fun g' h1 h2 => h g' (by omega) h2)⟩
      by_cases e : g' = g
      · rw [e, hch] at h3; exact absurd h3 (by decide)
      · omega
end TI
theorem t_title {fu : Nat} (hfu : 2000 ≤ fu) : T_title Rel fu := by
  intro r1 r2 s1 s2 s3 s4 s5 s6 s9 s10 s11 s12 Lk ck M hR a b
  obtain ⟨tg, tt, im, bt, cn, w, v, bar, tm, fr, ns, hs, on, ch, cf, ct, h1, R, h3, ⟨hc, hm, ⟨p, p1, p2, p3, p4⟩, -⟩, h5, h6, h7⟩ := id hR
  have hmc := Rel.mc (MC_t M 0) hR
  have R0 : Rw r1 (ck r2).2 s3 s12 Lk ck (sF M 2 0) tg tt im bt cn w v bar tm fr ns hs ch := Rw.mc (MC_t M 0) ⟨R, h3, h5⟩
  have hm0 := EvM.mc (MC_t M 0) hm
  have ht4 := R.2.1.2.2
  have hg4 := R.1.2.2.2
  have him := R.2.2.2.1.2.2
  have thr : ∀ M' : St, FrL (sF M 2 0) M' → f_X10_thrown fu M' = some 0 := fun M' h => by
    unfold f_X10_thrown
    rw [h.1 2 (by decide) (by decide) (by decide)]
    rfl
  rcases title_e R0.1 fu a with ⟨t, ht, rfl, g1, g2⟩ | ⟨g1, g2⟩
  · have htm := R.2.2.2.2.2.2.2.2.2.1 t ht
    have hbk := R.2.2.2.2.2.2.2.1 (tm t) htm.2.2.1
    by_cases q0 : b = 0
    · refine Or.inl ⟨nI (bar (tm t)), sF M 2 0, bd g1 (iN (by decide) (ip q0 (bd (barOf_e R fu ht) rfl))), bd g2 (iN (by decide) (ip q0 ?_)), rfl, hmc⟩
      rw [if_pos (inb_nI (show t < 40 by omega) (by decide)), cl_nI (show t < 2 ^ 31 by omega), htm.2.1, if_pos (inb_nI (show tm t < 40 by omega) (by decide)), cl_nI (show tm t < 2 ^ 31 by omega), hbk.2.1]
    by_cases q1 : b = 1
    · obtain ⟨M', k1, k2⟩ := steps_e R0 hfu ht
      exact Or.inl ⟨_, M', bd g1 (iN (by decide) (iN q0 (ip q1 (bd (stepsOf_e R0 hfu s0i ht) rfl)))), bd g2 (iN (by decide) (iN q0 (ip q1 (bd k1 rfl)))), thr M' k2, Rel.mc k2.mc hmc⟩
    by_cases q2 : b = 2
    · obtain ⟨b1', b2'⟩ := barsOf_e R0.1 hc hm0 hfu ht (eN_le R0.1 (tm t))
      refine Or.inl ⟨_, sF M 2 0, bd g1 (iN (by decide) (iN q0 (iN q1 (ip q2 (bd (bd (barOf_e R fu ht) (bd (endOf_e R fu ht) (bd b1' rfl))) rfl))))), bd g2 (iN (by decide) (iN q0 (iN q1 (ip q2 (ip (inb_nI (show t < 40 by omega) (by decide)) ?_))))), rfl, hmc⟩
      rw [cl_nI (show t < 2 ^ 31 by omega), htm.2.1]
      exact bd (endOfM_e R0.1 fu ht) (bd b2' rfl)
    by_cases q3 : b = 3
    · obtain ⟨q, o, M', k1, k2, k3, k4⟩ := short_e R0 hc hm0 hfu s0i s0i ht
      exact Or.inl ⟨o, M', bd g1 (iN (by decide) (iN q0 (iN q1 (iN q2 (ip q3 (bd k1 (bd k2 rfl))))))), bd g2 (iN (by decide) (iN q0 (iN q1 (iN q2 (ip q3 (bd k3 rfl)))))), thr M' k4, Rel.mc k4.mc hmc⟩
    by_cases q4 : b = 4
    · have hch := chL2 R0 fu s0i ht tg fu 0 (by omega) (by omega)
      have h19 : ∀ k, k < 4 → M.2 19 (4 * t + k) = nI (b1 (ch (4 * t + k))) := fun k hk => (h5.2.1 (4 * t + k) (by omega)).1
      have hno : ∀ k, k < 4 → tg ≤ k → ch (4 * t + k) = false := fun k hk hk2 => by
        cases hcc : ch (4 * t + k) with
        | false => rfl
        | true =>
          have := ((h5.2.1 (4 * t + k) (by omega)).2 hcc).2
          omega
      have ref : ∀ o : Int32, (if ch (4 * t) = true ∨ ch (4 * t + 1) = true ∨ ch (4 * t + 2) = true ∨ ch (4 * t + 3) = true then o = 1 else o = 0) → f_X10_title_ fu M (nI t) b = some (o, sF M 2 0) := by
        intro o ho
        unfold f_X10_title_
        refine bd g2 (iN (by decide) (iN q0 (iN q1 (iN q2 (iN q3 (ip q4 ?_))))))
        have e0 := h19 0 (by decide)
        have e1 := h19 1 (by decide)
        have e2 := h19 2 (by decide)
        have e3 := h19 3 (by decide)
        rw [show (4 * nI t : Int32) = nI (4 * t) from pk_mul 4 t, show (nI (4 * t) + 1 : Int32) = nI (4 * t + 1) from nI_add _ 1, show (nI (4 * t) + 2 : Int32) = nI (4 * t + 2) from nI_add _ 2, show (nI (4 * t) + 3 : Int32) = nI (4 * t + 3) from nI_add _ 3, if_pos (inb_nI (show 4 * t < 160 by omega) (by decide)), if_pos (inb_nI (show 4 * t + 1 < 160 by omega) (by decide)), if_pos (inb_nI (show 4 * t + 2 < 160 by omega) (by decide)), if_pos (inb_nI (show 4 * t + 3 < 160 by omega) (by decide)), cl_nI (show 4 * t < 2 ^ 31 by omega), cl_nI (show 4 * t + 1 < 2 ^ 31 by omega), cl_nI (show 4 * t + 2 < 2 ^ 31 by omega), cl_nI (show 4 * t + 3 < 2 ^ 31 by omega), show M.2 19 (4 * t) = _ from e0, e1, e2, e3]
        rw [show 4 * t + 0 = 4 * t from rfl]
        cases c0 : ch (4 * t) with
        | true => rw [c0] at ho; rw [if_pos (Or.inl rfl)] at ho; rw [ho]; exact iN (by decide) rfl
        | false =>
          refine ip rfl ?_
          cases c1 : ch (4 * t + 1) with
          | true => rw [c1] at ho; rw [if_pos (Or.inr (Or.inl rfl))] at ho; rw [ho]; exact iN (by decide) rfl
          | false =>
            refine ip rfl ?_
            cases c2 : ch (4 * t + 2) with
            | true => rw [c2] at ho; rw [if_pos (Or.inr (Or.inr (Or.inl rfl)))] at ho; rw [ho]; exact iN (by decide) rfl
            | false =>
              refine ip rfl ?_
              cases c3 : ch (4 * t + 3) with
              | true => rw [c3] at ho; rw [if_pos (Or.inr (Or.inr (Or.inr rfl)))] at ho; rw [ho]; exact iN (by decide) rfl
              | false =>
                rw [c0, c1, c2, c3, if_neg (by decide)] at ho
                rw [ho]
                exact ip rfl rfl
      by_cases hany : ch (4 * t) = true ∨ ch (4 * t + 1) = true ∨ ch (4 * t + 2) = true ∨ ch (4 * t + 3) = true
      · have hex : ∃ g', 0 ≤ g' ∧ g' < tg ∧ ch (4 * t + g') = true := by
          have go : ∀ k, k < 4 → ch (4 * t + k) = true → ∃ g', 0 ≤ g' ∧ g' < tg ∧ ch (4 * t + g') = true := fun k hk hk2 => ⟨k, Nat.zero_le _, by
            rcases Nat.lt_or_ge k tg with q | q
            · exact q
            · rw [hno k hk q] at hk2; exact absurd hk2 (by decide), hk2⟩
          rcases hany with q | q | q | q
          · exact go 0 (by decide) q
          · exact go 1 (by decide) q
          · exact go 2 (by decide) q
          · exact go 3 (by decide) q
        exact Or.inl ⟨1, sF M 2 0, bd g1 (iN (by decide) (iN q0 (iN q1 (iN q2 (iN q3 (ip q4 (bd (hch.1 hex) (iN (by decide) rfl)))))))), ref 1 (by rw [if_pos hany]), rfl, hmc⟩
      · have hall : ∀ g', 0 ≤ g' → g' < tg → ch (4 * t + g') = false := by
          intro g' _ hg'
          cases hcc : ch (4 * t + g') with
          | false => rfl
          | true =>
            exfalso
            apply hany
            have h4 : g' = 0 ∨ g' = 1 ∨ g' = 2 ∨ g' = 3 := by omega
            rcases h4 with q | q | q | q
            · rw [q] at hcc; exact Or.inl hcc
            · rw [q] at hcc; exact Or.inr (Or.inl hcc)
            · rw [q] at hcc; exact Or.inr (Or.inr (Or.inl hcc))
            · rw [q] at hcc; exact Or.inr (Or.inr (Or.inr hcc))
        exact Or.inl ⟨0, sF M 2 0, bd g1 (iN (by decide) (iN q0 (iN q1 (iN q2 (iN q3 (ip q4 (bd (hch.2 hall) (ip rfl rfl)))))))), ref 0 (by rw [if_neg hany]), rfl, hmc⟩
    · exact Or.inr (Or.inr ⟨0, sF (sF M 2 0) 2 2, bd g1 (iN (by decide) (iN q0 (iN q1 (iN q2 (iN q3 (iN q4 rfl)))))), bd g2 (iN (by decide) (iN q0 (iN q1 (iN q2 (iN q3 (iN q4 rfl)))))), rfl, Rel.mc (MC_t _ 2) hmc⟩)
  · exact Or.inr (Or.inl ⟨0, sF (sF M 2 0) 2 1, bd g1 (ip rfl rfl), bd g2 (ip rfl rfl), rfl, Rel.mc (MC_t _ 1) hmc⟩)
