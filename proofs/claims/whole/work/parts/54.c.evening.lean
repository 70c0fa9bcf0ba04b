/-! cut, heard, hand; the evening's start -/
theorem isB_0 : isB 0 = true := by decide
theorem isB_1 : isB 1 = true := by decide
theorem isB_b (b : Int32) (h : b = 0 ∨ b = 1) : isB b = true := by rcases h with rfl | rfl <;> decide
theorem b_b1 (b : Int32) (h : b = 0 ∨ b = 1) : b = nI (b1 (decide (b = 1))) := by rcases h with rfl | rfl <;> decide
/-- the same place behind the cuts on both sides -/
theorem both_e {e s M : St} {on : Nat → Bool} {cf ct : Nat → Nat} (hc : EvC e s on cf ct) (hm : EvM M on cf ct) {fu : Nat} (hfu : 1010 ≤ fu) {p : Nat} (hp : p ≤ 999) (h22 : M.1 22 = nI p) : ∃ r, f_X2_behindCuts fu e s (nI p) = some (nI r) ∧ f_X10_goesOn fu M = some (sF M 22 (nI r)) ∧ r ≤ 999 ∧ ¬ isC on cf ct r ∧ (¬ isC on cf ct p → r = p) := by
  obtain ⟨r, e1, e2⟩ := behind_e hc (show 10 ≤ fu by omega) (show p < 2 ^ 31 by omega)
  obtain ⟨r', g1, g2⟩ := goesOn_e hm hfu h22 (show p < 2 ^ 31 by omega)
  have : r' = r := Fu_uniq g2 e2
  subst this
  refine ⟨r', e1, g1, ?_, e2.2.2.2, fun h => Fu_uniq e2 (Fu_self h)⟩
  rcases e2.2.1 with q | q <;> omega
theorem t_cut {fu : Nat} (hfu : 1010 ≤ fu) : T_cut Rel fu := by
  intro r1 r2 s1 s2 s3 s4 s5 s6 s9 s10 s11 s12 Lk ck M hR a b hb
  obtain ⟨tg, tt, im, bt, cn, w, v, bar, tm, fr, ns, hs, on, ch, cf, ct, h1, h2, h3, ⟨hc, hm, ⟨p, p1, p2, p3, p4⟩, f, d, f1, f2, d1, d2, d3, d4, d5⟩, h5, h6, h7⟩ := id hR
  have hmc := Rel.mc (MC_t M 0) hR
  have no : f_X5_hasCut fu s3 a = some 0 → f_X10_cut fu M a b = some (0, sF M 2 0) → ∃ (o : Int32) (t : St) (M' : St), f_X9_cut fu s0i s3 s11 a b = some (o, t) ∧ f_X10_cut fu M a b = some (o, M') ∧ Rel r1 r2 s1 s2 s3 s4 s5 s6 s9 s10 t s12 Lk ck M' := fun g1 g2 => ⟨0, s11, _, bd g1 (ip rfl rfl), g2, hmc⟩
  by_cases c0 : a < 0
  · exact no (by unfold f_X5_hasCut; exact if_pos c0) (by unfold f_X10_cut; exact if_pos c0)
  by_cases c1 : 8 ≤ a
  · refine no (by unfold f_X5_hasCut; exact iN c0 (if_pos c1)) ?_
    unfold f_X10_cut
    refine iN c0 (if_pos ?_)
    rw [Int32.lt_iff_toInt_lt]
    rw [Int32.le_iff_toInt_le] at c1
    have e1 : (8 : Int32).toInt = 8 := by decide
    have e2 : (7 : Int32).toInt = 7 := by decide
    omega
  obtain ⟨k, hk, rfl⟩ := nI_is 8 (by decide) c0 c1
  have hh := hasCut_e hc fu hk
  have hE := hm k hk
  have hE2 := hc k hk
  have h7k : ¬ (7 : Int32) < nI k := nI_nlt (a := 7) (by omega) (by decide)
  by_cases c2 : ct k = 0
  · rw [if_pos c2] at hh
    refine no hh ?_
    unfold f_X10_cut
    rw [if_neg c0, if_neg h7k, if_pos (inb_nI hk (by decide)), cl_nI (show k < 2 ^ 31 by omega), hE.2.1, c2]
    exact ip rfl rfl
  · rw [if_neg c2] at hh
    have hlt : ct k ≤ 999 := by rcases hE.2.2 with q | q <;> omega
    obtain ⟨on', hon⟩ : ∃ on' : Nat → Bool, on' = fun j => if j = k then decide (b = 1) else on j := ⟨_, rfl⟩
    have hc' : EvC (sA s11 4 k b) s3 on' cf ct := by
      intro j hj
      refine ⟨?_, (hc j hj).2⟩
      rw [sA_2i, if_pos rfl, hon]
      by_cases e : j = k
      · simp only [if_pos e]; exact b_b1 b hb
      · simp only [if_neg e]; exact (hc j hj).1
    have hm' : EvM (sA (sF M 2 0) 18 k b) on' cf ct := by
      intro j hj
      have e13 : (sA (sF M 2 0) 18 k b).2 13 = M.2 13 := rfl
      have e12 : (sA (sF M 2 0) 18 k b).2 12 = M.2 12 := rfl
      rw [e13, e12]
      refine ⟨?_, (hm j hj).2⟩
      rw [sA_2i, if_pos rfl, hon]
      by_cases e : j = k
      · simp only [if_pos e]; exact b_b1 b hb
      · simp only [if_neg e]; exact (hm j hj).1
    obtain ⟨r, g1, g2, g3, g4, -⟩ := both_e hc' hm' hfu p3 (show (sA (sF M 2 0) 18 k b).1 22 = nI p from p2)
    refine ⟨1, sF (sA s11 4 k b) 0 (nI r), sF (sA (sF M 2 0) 18 k b) 22 (nI r), ?_, ?_, tg, tt, im, bt, cn, w, v, bar, tm, fr, ns, hs, on', ch, cf, ct, RT.c rfl rfl h1, RS.c rfl rfl rfl rfl rfl rfl rfl rfl rfl rfl h2, RX.c rfl rfl rfl h3, ⟨hc', hm', ⟨r, rfl, rfl, g3, g4⟩, f, d, f1, f2, d1, d2, d3, d4, d5⟩, RW.c rfl rfl rfl h5, RF.c rfl rfl h6, RR.c rfl h7⟩
    · unfold f_X9_cut
      refine bd hh (iN (by decide) (bd ?_ rfl))
      unfold f_X2_switchCut
      rw [if_neg c0, if_neg c1, if_pos (inb_nI hk (by decide)), if_pos (isB_b b hb), cl_nI (show k < 2 ^ 31 by omega), p1]
      exact bd g1 rfl
    · unfold f_X10_cut
      rw [if_neg c0, if_neg h7k, if_pos (inb_nI hk (by decide)), cl_nI (show k < 2 ^ 31 by omega), hE.2.1, if_neg (show ¬ nI (ct k) = 0 from nI_neq (b := 0) (by omega) (by decide) c2), if_pos (inb_nI hk (by decide)), if_pos (isB_b b hb)]
      exact bd g2 rfl
theorem t_hand {fu : Nat} (hfu : 1010 ≤ fu) : T_hand Rel fu := by
  intro r1 r2 s1 s2 s3 s4 s5 s6 s9 s10 s11 s12 Lk ck M hR a b hb
  obtain ⟨tg, tt, im, bt, cn, w, v, bar, tm, fr, ns, hs, on, ch, cf, ct, h1, h2, h3, ⟨hc, hm, ⟨p, p1, p2, p3, p4⟩, f, d, f1, f2, d1, d2, d3, d4, d5⟩, h5, h6, h7⟩ := id hR
  have hmc := Rel.mc (MC_t M 0) hR
  unfold f_X9_hand f_X10_hand
  by_cases c0 : a < 0
  · exact ⟨_, _, _, if_pos c0, if_pos c0, hmc⟩
  by_cases c1 : a ≤ 999
  · obtain ⟨k, hk, rfl⟩ := nI_is (x := a) 1000 (by decide) c0 (by
      intro q
      rw [Int32.le_iff_toInt_le] at c1 q
      have e1 : (999 : Int32).toInt = 999 := by decide
      have e2 : (nI 1000).toInt = 1000 := by decide
      omega)
    have hc' : EvC s11 s3 on cf ct := hc
    have hm' : EvM (sF (sF (sF (sF M 2 0) 22 (nI k)) 24 0) 23 b) on cf ct := hm
    obtain ⟨r, g1, g2, g3, g4, -⟩ := both_e hc' hm' hfu (show k ≤ 999 by omega) rfl
    refine ⟨nI r, sF (sF (sF s11 0 (nI r)) 2 0) 1 b, sF (sF (sF (sF (sF M 2 0) 22 (nI k)) 24 0) 23 b) 22 (nI r), ?_, ?_, tg, tt, im, bt, cn, w, v, bar, tm, fr, ns, hs, on, ch, cf, ct, RT.c rfl rfl h1, RS.c rfl rfl rfl rfl rfl rfl rfl rfl rfl rfl h2, RX.c rfl rfl rfl h3, ⟨hc', hm', ⟨r, rfl, rfl, g3, g4⟩, decide (b = 1), 0, b_b1 b hb, b_b1 b hb, rfl, rfl, by decide, fun _ => by decide, fun q => absurd q (by decide)⟩, RW.c rfl rfl rfl h5, RF.c rfl rfl h6, RR.c rfl h7⟩
    · rw [if_neg c0, if_pos c1]
      unfold f_X2_lead f_X2_goTo
      exact bd (bd (bd g1 rfl) (ip (isB_b b hb) rfl)) rfl
    · rw [if_neg c0, if_pos c1, if_pos (isB_b b hb)]
      exact bd g2 rfl
  · exact ⟨_, _, _, iN c0 (if_neg c1), iN c0 (if_neg c1), hmc⟩
theorem t_heard {fu : Nat} (hfu : 1010 ≤ fu) : T_heard Rel fu := by
  intro r1 r2 s1 s2 s3 s4 s5 s6 s9 s10 s11 s12 Lk ck M hR a
  obtain ⟨tg, tt, im, bt, cn, w, v, bar, tm, fr, ns, hs, on, ch, cf, ct, h1, h2, h3, ⟨hc, hm, ⟨p, p1, p2, p3, p4⟩, f, d, f1, f2, d1, d2, d3, d4, d5⟩, h5, h6, h7⟩ := id hR
  have hmc := Rel.mc (MC_t M 0) hR
  unfold f_X9_heard f_X10_heard
  by_cases c0 : a < 1
  · exact ⟨_, _, _, if_pos c0, if_pos c0, hmc⟩
  rw [if_neg c0, if_neg c0]
  by_cases c1 : 999 < a
  · exact ⟨_, _, _, if_pos c1, if_pos c1, hmc⟩
  rw [if_neg c1, if_neg c1, f1, f2]
  by_cases c2 : nI (b1 f) = 0
  · exact ⟨_, _, _, if_pos c2, if_pos c2, hmc⟩
  rw [if_neg c2, if_neg c2]
  have hft : f = true := by
    cases f with
    | true => rfl
    | false => exact absurd rfl c2
  have hd3 := d4 hft
  obtain ⟨k, hk, rfl⟩ := nI_is (x := a) 1000 (by decide) (by
    intro q
    rw [Int32.lt_iff_toInt_lt] at c0 q
    have e1 : (1 : Int32).toInt = 1 := by decide
    have e2 : (0 : Int32).toInt = 0 := by decide
    omega) (by
    intro q
    rw [Int32.le_iff_toInt_le] at q
    rw [Int32.lt_iff_toInt_lt] at c1
    have e1 : (999 : Int32).toInt = 999 := by decide
    have e2 : (nI 1000).toInt = 1000 := by decide
    omega)
  -- going to the bar
  have go : ∃ (t M' : St), (f_X2_goTo fu s3 s11 (nI k)) = some t ∧ f_X10_heard_L127 fu (sF (sF (sF M 2 0) 22 (nI k)) 24 0) = some (t.1 0, M') ∧ Rel r1 r2 s1 s2 s3 s4 s5 s6 s9 s10 t s12 Lk ck M' := by
    have hm' : EvM (sF (sF (sF M 2 0) 22 (nI k)) 24 0) on cf ct := hm
    obtain ⟨r, g1, g2, g3, g4, -⟩ := both_e hc hm' hfu (show k ≤ 999 by omega) rfl
    refine ⟨sF (sF s11 0 (nI r)) 2 0, sF (sF (sF (sF M 2 0) 22 (nI k)) 24 0) 22 (nI r), ?_, ?_, tg, tt, im, bt, cn, w, v, bar, tm, fr, ns, hs, on, ch, cf, ct, RT.c rfl rfl h1, RS.c rfl rfl rfl rfl rfl rfl rfl rfl rfl rfl h2, RX.c rfl rfl rfl h3, ⟨hc, hm', ⟨r, rfl, rfl, g3, g4⟩, f, 0, f1, f2, rfl, rfl, by decide, fun _ => by decide, fun q => absurd q (by decide)⟩, RW.c rfl rfl rfl h5, RF.c rfl rfl h6, RR.c rfl h7⟩
    · unfold f_X2_goTo
      exact bd g1 rfl
    · unfold f_X10_heard_L127
      exact bd g2 rfl
  -- a doubt more
  have doubt : ∃ (t M' : St), f_X2_hear_L59 fu s3 s11 (nI k) = some t ∧ f_X10_heard_L95 fu (sF M 2 0) (nI k) = some (t.1 0, M') ∧ Rel r1 r2 s1 s2 s3 s4 s5 s6 s9 s10 t s12 Lk ck M' := by
    have fin : ∀ f' : Bool, (f' = true → d + 1 < 3) → ∃ (t M' : St), f_X2_hear_L88 fu s3 (sF (sF s11 2 (nI (d + 1))) 3 (nI k)) (nI (b1 f')) = some t ∧ f_X10_heard_L124 fu (sF (sF (sF M 2 0) 24 (nI (d + 1))) 25 (nI k)) (nI (b1 f')) = some (t.1 0, M') ∧ Rel r1 r2 s1 s2 s3 s4 s5 s6 s9 s10 t s12 Lk ck M' := by
      intro f' hf'
      have hB : isB (nI (b1 f')) = true := by cases f' <;> decide
      have hm' : EvM (sF (sF (sF (sF M 2 0) 24 (nI (d + 1))) 25 (nI k)) 23 (nI (b1 f'))) on cf ct := hm
      obtain ⟨r, g1, g2, g3, g4, g5⟩ := both_e hc hm' hfu p3 (show (sF (sF (sF (sF M 2 0) 24 (nI (d + 1))) 25 (nI k)) 23 (nI (b1 f'))).1 22 = nI p from p2)
      have er := g5 p4
      subst er
      refine ⟨sF (sF (sF s11 2 (nI (d + 1))) 3 (nI k)) 1 (nI (b1 f')), sF (sF (sF (sF (sF M 2 0) 24 (nI (d + 1))) 25 (nI k)) 23 (nI (b1 f'))) 22 (nI r), ?_, ?_, tg, tt, im, bt, cn, w, v, bar, tm, fr, ns, hs, on, ch, cf, ct, RT.c rfl rfl h1, RS.c rfl rfl rfl rfl rfl rfl rfl rfl rfl rfl h2, RX.c rfl rfl rfl h3, ⟨hc, hm', ⟨r, p1, rfl, g3, g4⟩, f', d + 1, rfl, rfl, rfl, rfl, by omega, hf', fun _ => rfl⟩, RW.c rfl rfl rfl h5, RF.c rfl rfl h6, RR.c rfl h7⟩
      · unfold f_X2_hear_L88
        exact ip hB rfl
      · unfold f_X10_heard_L124 f_X10_heard_L127
        have e0 : (sF (sF (sF s11 2 (nI (d + 1))) 3 (nI k)) 1 (nI (b1 f'))).1 0 = nI r := p1
        rw [e0]
        exact ip hB (bd g2 rfl)
    unfold f_X2_hear_L59 f_X10_heard_L95
    have e24 : (sF M 2 0).1 24 = nI d := d2
    rw [d1, e24, nI_1]
    by_cases c3 : d + 1 < 3
    · rw [if_neg (show ¬ (3 : Int32) ≤ nI (d + 1) from nI_ge (a := d + 1) (b := 3) (by omega) (by decide)), if_neg (show ¬ (3 : Int32) ≤ nI (d + 1) from nI_ge (a := d + 1) (b := 3) (by omega) (by decide))]
      exact fin true (fun _ => c3)
    · rw [if_pos (show (3 : Int32) ≤ nI (d + 1) from nI_le (a := 3) (by omega) (by omega)), if_pos (show (3 : Int32) ≤ nI (d + 1) from nI_le (a := 3) (by omega) (by omega))]
      exact fin false (fun q => absurd q (by decide))
  -- neither here nor a little ahead
  have far : ∃ (t M' : St), f_X2_hear_L26 fu s3 s11 (nI k) = some t ∧ f_X10_heard_L57 fu (sF M 2 0) (nI k) = some (t.1 0, M') ∧ Rel r1 r2 s1 s2 s3 s4 s5 s6 s9 s10 t s12 Lk ck M' := by
    unfold f_X2_hear_L26 f_X10_heard_L57
    have e24 : (sF M 2 0).1 24 = nI d := d2
    have e22 : (sF M 2 0).1 22 = nI p := p2
    have e25 : (sF M 2 0).1 25 = M.1 25 := rfl
    rw [d1, e24, e22, e25, p1]
    by_cases c3 : nI d ≤ 0
    · rw [if_pos c3, if_pos c3]; exact doubt
    · rw [if_neg c3, if_neg c3]
      have hd0 : 0 < d := Nat.pos_of_ne_zero (fun e => c3 (by rw [e]; decide))
      rw [d5 hd0]
      by_cases c4 : nI k = M.1 25 + 1
      · rw [if_pos c4, if_pos c4]
        by_cases c5 : nI k ≤ nI p
        · rw [if_pos c5, if_pos c5]; exact doubt
        · rw [if_neg c5, if_neg c5]
          obtain ⟨t, M', g1, g2, g3⟩ := go
          exact ⟨t, M', bd g1 rfl, g2, g3⟩
      · rw [if_neg c4, if_neg c4]; exact doubt
  have all : ∃ (t M' : St), f_X2_hear fu s3 s11 (nI k) = some t ∧ (if nI k < M.1 22 then (f_X10_heard_L57 fu (sF M 2 0) (nI k)) else (if (M.1 22 + 4) < nI k then (f_X10_heard_L57 fu (sF M 2 0) (nI k)) else (f_X10_heard_L127 fu (sF (sF (sF M 2 0) 22 (nI k)) 24 0)))) = some (t.1 0, M') ∧ Rel r1 r2 s1 s2 s3 s4 s5 s6 s9 s10 t s12 Lk ck M' := by
    unfold f_X2_hear
    rw [p1, p2]
    by_cases c3 : nI k < nI p
    · rw [if_pos c3, if_pos c3]; exact far
    · rw [if_neg c3, if_neg c3]
      by_cases c4 : nI p + 4 < nI k
      · rw [if_pos c4, if_pos c4]; exact far
      · rw [if_neg c4, if_neg c4]
        obtain ⟨t, M', g1, g2, g3⟩ := go
        exact ⟨t, M', bd g1 rfl, g2, g3⟩
  obtain ⟨t, M', g1, g2, g3⟩ := all
  exact ⟨t.1 0, t, M', bd g1 rfl, g2, g3⟩
/-- the evening's start on both sides -/
theorem startL7 (fu : Nat) (s3 : St) : ∀ (m q k : Nat) (u : St), k + m = 8 → m < q → (∀ j, j < k → u.2 4 j = 0) → ∃ u' : St, f_X2_start_L7 fu s3 q u (nI k) = some u' ∧ (∀ j, j < 8 → u'.2 4 j = 0) ∧ u'.1 0 = 0 ∧ u'.1 1 = 1 ∧ u'.1 2 = 0 := by
  intro m
  induction m with
  | zero =>
    intro q k u hk hq hj
    obtain ⟨q, rfl⟩ : ∃ q', q = q' + 1 := ⟨q - 1, by omega⟩
    refine ⟨sF (sF (sF u 0 0) 2 0) 1 1, ?_, fun j h => hj j (by omega), rfl, rfl, rfl⟩
    rw [f_X2_start_L7]
    exact ip (nI_le (a := 8) (by omega) (by omega)) rfl
  | succ m ih =>
    intro q k u hk hq hj
    obtain ⟨q, rfl⟩ : ∃ q', q = q' + 1 := ⟨q - 1, by omega⟩
    rw [f_X2_start_L7, if_neg (show ¬ (8 : Int32) ≤ nI k from nI_ge (a := k) (b := 8) (by omega) (by decide)), if_pos (inb_nI (show k < 8 by omega) (by decide)), cl_nI (show k < 2 ^ 31 by omega), nI_1]
    exact ih q (k + 1) (sA u 4 k 0) (by omega) (by omega) (by
      intro j hjk
      rw [sA_2i, if_pos rfl]
      by_cases e : j = k
      · rw [if_pos e]
      · rw [if_neg e]; exact hj j (by omega))
theorem start_e {fu : Nat} (hfu : 100 ≤ fu) (s3 e : St) : ∃ u' : St, f_X2_start fu s3 e = some u' ∧ (∀ j, j < 8 → u'.2 4 j = 0) ∧ u'.1 0 = 0 ∧ u'.1 1 = 1 ∧ u'.1 2 = 0 := startL7 fu s3 8 fu 0 e rfl (by omega) (fun j hj => absurd hj (Nat.not_lt_zero _))
