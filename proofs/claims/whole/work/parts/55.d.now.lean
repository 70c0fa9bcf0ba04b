/-! shown, now -/
theorem EvM.mc {M M' : St} {on : Nat → Bool} {cf ct : Nat → Nat} (m : MC M M') (h : EvM M on cf ct) : EvM M' on cf ct := by
  unfold EvM at *
  rw [m.2 18 (by decide), m.2 13 (by decide), m.2 12 (by decide)]
  exact h
theorem nI_ne_m1 {t : Nat} (h : t < 2 ^ 31) : ¬ nI t = -1 := fun e => by
  have h1 : ¬ nI t < 0 := nI_pos h
  rw [e] at h1
  exact h1 (by decide)
theorem t_shown {fu : Nat} (hfu : 2000 ≤ fu) : T_shown Rel fu := by
  intro r1 r2 s1 s2 s3 s4 s5 s6 s9 s10 s11 s12 Lk ck M hR a
  obtain ⟨tg, tt, im, bt, cn, w, v, bar, tm, fr, ns, hs, on, ch, cf, ct, h1, R, h3, ⟨hc, hm, ⟨p, p1, p2, p3, p4⟩, -⟩, h5, h6, h7⟩ := id hR
  have hmc := Rel.mc (MC_t M 0) hR
  have R0 : Rw r1 (ck r2).2 s3 s12 Lk ck (sF M 2 0) tg tt im bt cn w v bar tm fr ns hs ch := Rw.mc (MC_t M 0) ⟨R, h3, h5⟩
  have hm0 := EvM.mc (MC_t M 0) hm
  have h22 : (sF M 2 0).1 22 = nI p := p2
  have ht4 := R.2.1.2.2
  unfold f_X9_shown f_X10_shown
  rw [p1]
  rcases stands_e R0.1 hfu p3 h22 with ⟨g1, g2⟩ | ⟨t, ht, g1, g2⟩
  · refine ⟨-1, sF M 2 0, bd g1 (ip rfl rfl), bd g2 ?_, hmc⟩
    rw [if_neg (show ¬ (0 : Int32) ≤ -1 by decide), ite_self, ite_self]
  · have htn := nI_ne_m1 (show t < 2 ^ 31 by omega)
    have ht0 : (0 : Int32) ≤ nI t := nI_le (a := 0) (Nat.zero_le _) (by omega)
    by_cases c0 : a < 0
    · refine ⟨-1, sF M 2 0, bd g1 (iN htn ?_), bd g2 (if_pos c0), hmc⟩
      have hn : ∀ k : Nat, k < 2 ^ 31 → ¬ a = nI k := fun k hk e => by rw [e] at c0; exact nI_pos hk c0
      exact iN (hn 0 (by decide)) (iN (hn 1 (by decide)) (iN (hn 2 (by decide)) (iN (hn 3 (by decide)) (iN (hn 4 (by decide)) (iN (hn 5 (by decide)) rfl)))))
    · by_cases c1 : 5 < a
      · refine ⟨-1, sF M 2 0, bd g1 (iN htn ?_), bd g2 (iN c0 (if_pos c1)), hmc⟩
        have hn : ∀ k : Nat, k ≤ 5 → ¬ a = nI k := fun k hk e => by rw [e] at c1; exact nI_nlt (a := 5) hk (by decide) c1
        exact iN (hn 0 (by decide)) (iN (hn 1 (by decide)) (iN (hn 2 (by decide)) (iN (hn 3 (by decide)) (iN (hn 4 (by decide)) (iN (hn 5 (by decide)) rfl)))))
      · obtain ⟨k, hk, rfl⟩ := nI_is (x := a) 6 (by decide) c0 (fun q => by
          rw [Int32.lt_iff_toInt_lt] at c1
          rw [Int32.le_iff_toInt_le] at q
          have e1 : (5 : Int32).toInt = 5 := by decide
          have e2 : (nI 6).toInt = 6 := by decide
          omega)
        have ref : ∀ (o : Int32) (M' : St), (if nI k = 0 then (some (nI t, sF M 2 0)) else (if nI k = 1 then ((f_X10_stepNow fu (sF M 2 0) (nI t)).bind (fun q_38 => some (q_38.1, q_38.2))) else ((f_X10_isTongue fu (sF M 2 0) (nI k - 2)).bind (fun q_46 => if q_46 = 0 then (some ((-1), sF M 2 0)) else ((f_X10_pageNow fu (sF M 2 0) (nI t) (nI k - 2)).bind (fun q_57 => some (q_57.1, q_57.2))))))) = some (o, M') → ((f_X10_standing fu (sF M 2 0)).bind (fun q_6 => if nI k < 0 then (some ((-1), sF M 2 0)) else (if 5 < nI k then (some ((-1), sF M 2 0)) else (if 0 ≤ q_6 then (if nI k = 0 then (some (q_6, sF M 2 0)) else (if nI k = 1 then ((f_X10_stepNow fu (sF M 2 0) q_6).bind (fun q_38 => some (q_38.1, q_38.2))) else ((f_X10_isTongue fu (sF M 2 0) (nI k - 2)).bind (fun q_46 => if q_46 = 0 then (some ((-1), sF M 2 0)) else ((f_X10_pageNow fu (sF M 2 0) q_6 (nI k - 2)).bind (fun q_57 => some (q_57.1, q_57.2))))))) else (some ((-1), sF M 2 0)))))) = some (o, M') := fun o M' h => bd g2 (iN c0 (iN c1 (ip ht0 h)))
        by_cases k0 : k = 0
        · subst k0
          exact ⟨nI t, sF M 2 0, bd g1 (iN htn (ip rfl rfl)), ref _ _ (ip rfl rfl), hmc⟩
        have e0 : ¬ nI k = 0 := nI_neq (b := 0) (by omega) (by decide) k0
        by_cases k1 : k = 1
        · subst k1
          obtain ⟨j, M', -, j1, j2, j3⟩ := step_now R0 hc hm0 hfu p3 p1 h22 s0i s0i ht
          exact ⟨nI j, M', bd g1 (iN htn (iN e0 (ip rfl (bd j1 rfl)))), ref _ _ (iN e0 (ip rfl (bd j2 rfl))), Rel.mc j3.mc hmc⟩
        have e1 : ¬ nI k = 1 := nI_neq (b := 1) (by omega) (by decide) k1
        have e2 : (nI k - 2 : Int32) = nI (k - 2) := pk_sub (show 2 ≤ k by omega)
        -- the class's page
        have cls : ∀ o : Int32, ((f_X9_shownStep fu s0i s3 s11 s0i s12 Lk ck (nI t)).bind (fun q_75 => (f_X9_shownPage fu s0i s3 s11 s0i s12 Lk ck (nI t) (nI k - 2) q_75).bind (fun q_78 => some q_78))) = some o → f_X9_shown fu s0i s3 s11 s0i s12 Lk ck (nI k) = some o := by
          intro o ho
          unfold f_X9_shown
          rw [p1]
          refine bd g1 (iN htn (iN e0 (iN e1 ?_)))
          by_cases q2 : nI k = 2
          · exact ip q2 ho
          by_cases q3 : nI k = 3
          · exact iN q2 (ip q3 ho)
          by_cases q4 : nI k = 4
          · exact iN q2 (iN q3 (ip q4 ho))
          have q5 : nI k = 5 := by
            have a2 : k ≠ 2 := fun e => q2 (by rw [e]; rfl)
            have a3 : k ≠ 3 := fun e => q3 (by rw [e]; rfl)
            have a4 : k ≠ 4 := fun e => q4 (by rw [e]; rfl)
            rw [show k = 5 by omega]; rfl
          exact iN q2 (iN q3 (iN q4 (ip q5 ho)))
        have cls2 : ∀ o : Int32, ((f_X9_shownStep fu s0i s3 s11 s0i s12 Lk ck (nI t)).bind (fun q_75 => (f_X9_shownPage fu s0i s3 s11 s0i s12 Lk ck (nI t) (nI k - 2) q_75).bind (fun q_78 => some q_78))) = some o → _ := fun o ho => cls o ho
        unfold f_X9_shown at cls2
        rw [p1] at cls2
        rcases tongue_e R0.1 fu (nI (k - 2)) with ⟨g, hg, eg, k1', k2'⟩ | ⟨k1', k2'⟩
        · obtain ⟨j, o, M', j1, j2, j3, j4⟩ := page_now R0 hc hm0 hfu p3 p1 h22 s0i s0i ht hg
          refine ⟨nI o, M', cls2 _ (bd j1 (bd ?_ rfl)), ref _ _ (iN e0 (iN e1 (bd (show f_X10_isTongue fu (sF M 2 0) (nI k - 2) = some 1 by rw [e2]; exact k2') (iN (by decide) (bd (r := (nI o, M')) ?_ rfl))))), Rel.mc j4.mc hmc⟩
          · rw [e2, eg]; exact j2
          · rw [e2, eg]; exact j3
        · obtain ⟨j, M', -, j1, j2, j3⟩ := step_now R0 hc hm0 hfu p3 p1 h22 s0i s0i ht
          refine ⟨-1, sF M 2 0, cls2 _ (bd j1 (bd ?_ rfl)), ref _ _ (iN e0 (iN e1 (bd (show f_X10_isTongue fu (sF M 2 0) (nI k - 2) = some 0 by rw [e2]; exact k2') (ip rfl rfl)))), hmc⟩
          unfold f_X9_shownPage
          rw [e2]
          exact bd k1' (ip rfl rfl)
theorem t_now {fu : Nat} (hfu : 2000 ≤ fu) : T_now Rel fu := by
  intro r1 r2 s1 s2 s3 s4 s5 s6 s9 s10 s11 s12 Lk ck M hR a b d
  obtain ⟨tg, tt, im, bt, cn, w, v, bar, tm, fr, ns, hs, on, ch, cf, ct, h1, R, h3, ⟨hc, hm, ⟨p, p1, p2, p3, p4⟩, -⟩, h5, h6, h7⟩ := id hR
  have hmc := Rel.mc (MC_t M 0) hR
  have R0 : Rw r1 (ck r2).2 s3 s12 Lk ck (sF M 2 0) tg tt im bt cn w v bar tm fr ns hs ch := Rw.mc (MC_t M 0) ⟨R, h3, h5⟩
  have hm0 := EvM.mc (MC_t M 0) hm
  have h22 : (sF M 2 0).1 22 = nI p := p2
  have ht4 := R.2.1.2.2
  unfold f_X9_now f_X10_now
  rw [p1]
  rcases stands_e R0.1 hfu p3 h22 with ⟨g1, g2⟩ | ⟨t, ht, g1, g2⟩
  · exact ⟨-1, sF M 2 0, bd g1 (ip rfl rfl), bd g2 (ip (by decide) rfl), hmc⟩
  · have htn := nI_ne_m1 (show t < 2 ^ 31 by omega)
    have htp : ¬ nI t < 0 := nI_pos (by omega)
    rcases tongue_e R0.1 fu a with ⟨g, hg, rfl, k1, k2⟩ | ⟨k1, k2⟩
    · obtain ⟨j, o, M', j1, j2, j3, j4⟩ := page_now R0 hc hm0 hfu p3 p1 h22 s0i s0i ht hg
      obtain ⟨o2, M2, l1, l2, l3⟩ := sign_core (Rw.mc j4.mc R0) hfu ht hg (nI o) b d
      obtain ⟨f', n', h', ⟨mm, -⟩, -⟩ := h5.2.2 t g ht hg
      refine ⟨o2, M2, bd g1 (iN htn (bd j1 (bd j2 (bd (wordingOf_1 R0.1 fu s0i ht hg) (ip (ltb161 R0.1 ht hg) (ip (show memb (s12.2 (4 * t + g)) Lk = true from decide_eq_true mm) (bd l1 rfl))))))), bd g2 (iN htp (bd k2 (iN (by decide) (bd j3 (bd l2 rfl))))), Rel.mc (j4.trans l3).mc hmc⟩
    · obtain ⟨j, M', -, j1, j2, j3⟩ := step_now R0 hc hm0 hfu p3 p1 h22 s0i s0i ht
      refine ⟨-1, sF M 2 0, bd g1 (iN htn (bd j1 (bd (show f_X9_shownPage fu s0i s3 s11 s0i s12 Lk ck (nI t) a (nI j) = some (-1) from bd k1 (ip rfl rfl)) (bd (show f_X0_wordingOf fu s0i s3 (nI t) a = some 160 from bd (show f_X0_isThere fu s0i s3 (nI t) a = some 0 from bd (hasTitle_1 R0.1 fu ht) (iN (by decide) (bd k1 (ip rfl rfl)))) (ip rfl rfl)) (ip (by decide) (ip (show memb (s12.2 160) Lk = true from decide_eq_true h5.1.1) (bd (noWord_e h5.1.2 fu _ _ (-1) b d) rfl))))))), bd g2 (iN htp (bd k2 (ip rfl rfl))), hmc⟩
