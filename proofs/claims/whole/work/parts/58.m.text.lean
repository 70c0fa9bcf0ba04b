/-! T_text -/
theorem t_text {fu : Nat} (hfu : 2000 ≤ fu) : T_text Rel fu := by
  intro r1 r2 s1 s2 s3 s4 s5 s6 s9 s10 s11 s12 Lk ck M hR a
  obtain ⟨tg0, tt0, im0, bt0, cn0, w0', v0, bar0, tm0, fr0, ns0, hs0, on0, ch0, cf0, ct0, h1, h2, h3, h4, h5, h6, h7⟩ := id hR
  obtain ⟨nt, h, n15, t1, t2, t3⟩ := id h1
  obtain ⟨q1, q2, q3, q4, q5, q6⟩ := id h7
  rcases holds_e fu n15 t1 a with ⟨l1, l2⟩ | ⟨n, hn, rfl, l1⟩
  · refine Or.inl ⟨-2, sF M 2 0, bd l1 (ip rfl rfl), ?_, Rel.mc (MC_t M 0) hR⟩
    unfold f_X10_text
    by_cases c0 : a < 0
    · exact if_pos c0
    · rw [t2]
      exact iN c0 (if_neg (l2.resolve_left c0))
  refine Or.inr ?_
  have hmem : memb r1 Lk = true := decide_eq_true q2
  have heq : eqn (ck r1).1 1500 = true := decide_eq_true q4
  have C : CX h n (ck r1).2 := ⟨by omega, fun i hi => ⟨(t3 i (by omega)).1, (t3 i (by omega)).2.1⟩⟩
  obtain ⟨M0, eM0⟩ : ∃ M0, M0 = sF (sF (sF (sF (sF M 2 0) 34 (nI n)) 1 0) 39 0) 40 (-1) := ⟨_, rfl⟩
  have T : TM h n M0 := by
    rw [eM0]
    exact ⟨rfl, fun i hi => (t3 i (by omega)).2.2, q6⟩
  have m0S : ∀ x, x ≠ 1 → x ≠ 2 → x ≤ 25 → M0.1 x = M.1 x := fun x c1 c2 c3 => by
    rw [eM0, sF_1, if_neg (by omega), sF_1, if_neg (by omega), sF_1, if_neg (by omega), sF_1, if_neg (by omega), sF_1, if_neg (by omega)]
  have m0A : M0.2 = M.2 := by rw [eM0]; rfl
  have et : f_X10_text fu M (nI n) = (f_X10_reads fu M0).bind (fun q_41 => if q_41.1 = 0 then (some ((-1), q_41.2)) else (if (q_41.2.1 44) ≤ 0 then (f_X10_text_L73 fu (sF q_41.2 3 (q_41.2.1 41)) 4) else (f_X10_text_L73 fu (sF q_41.2 3 (q_41.2.1 41)) (q_41.2.1 44)))) := by
    unfold f_X10_text
    rw [if_neg (nI_pos (show n < 2 ^ 31 by omega)), t2, if_pos (nI_le hn (by omega)), ← eM0]
  rw [et]
  rcases read_e C (r := s5) (u := s6) (d := s4) T hfu (by rw [eM0]; rfl) (by rw [eM0]; rfl) with ⟨r', u', d', M', a1, a2, a3, a4⟩ | ⟨r', u', d', M', a1, a2, a3, a4, a5⟩
  · -- a fault
    have mS : ∀ x, x ≠ 1 → x ≠ 2 → x ≤ 25 → M'.1 x = M.1 x := fun x c1 c2 c3 => (a4.1 x (by omega)).trans (m0S x c1 c2 c3)
    have mA : ∀ x, x ≤ 25 ∨ x = 54 → M'.2 x = M.2 x := fun x c => by rw [a4.2 x c, m0A]
    have m1 : M'.1 1 = 0 := by rw [a4.1 1 (by omega), eM0]; rfl
    refine Or.inl ⟨(-1, sF s1 1 0, d', r', u'), M', bd l1 (iN n10 (ip hmem (ip heq (bd a1 (ip rfl (bd rfl (ip rfl rfl))))))), bd a2 (ip rfl rfl), tg0, tt0, im0, bt0, cn0, w0', v0, bar0, tm0, fr0, ns0, hs0, on0, ch0, cf0, ct0, ⟨0, h, by omega, rfl, m1, fun i hi => absurd hi (Nat.not_lt_zero _)⟩, ?_, ?_, ?_, ?_, a3, ?_⟩
    · exact RS.c (mS _ (by decide) (by decide) (by decide)) (mS _ (by decide) (by decide) (by decide)) (mS _ (by decide) (by decide) (by decide)) (mS _ (by decide) (by decide) (by decide)) (mS _ (by decide) (by decide) (by decide)) (mA _ (by decide)) (mA _ (by decide)) (mA _ (by decide)) (mA _ (by decide)) (mA _ (by decide)) h2
    · exact RX.c (mA _ (by decide)) (mA _ (by decide)) (mA _ (by decide)) h3
    · unfold RE EvM at *
      rw [mS 22 (by decide) (by decide) (by decide), mS 23 (by decide) (by decide) (by decide), mS 24 (by decide) (by decide) (by decide), mS 25 (by decide) (by decide) (by decide), mA 18 (by decide), mA 13 (by decide), mA 12 (by decide)]
      exact h4
    · exact RW.c (mA _ (by decide)) (mA _ (by decide)) (mA _ (by decide)) h5
    · exact RR.c (mA _ (by decide)) h7
  -- a text
  refine Or.inr ?_
  obtain ⟨tg, bt, cn, tt, im, w, v, cf, ct, bar, tm, fr, ns, hA, hB, hM, hX⟩ := a5
  obtain ⟨⟨A1, A2, A3, A4⟩, ⟨A5, A6, A7⟩, A8, A9⟩ := hA
  obtain ⟨⟨B1, B2, B3⟩, B4⟩ := hB
  obtain ⟨⟨D1, D2, D3⟩, ⟨D4, D5, D6⟩, D7, D8, D9, D10⟩ := hM
  -- the numbers
  have e73 : (if (M'.1 44) ≤ 0 then (f_X10_text_L73 fu (sF M' 3 (M'.1 41)) 4) else (f_X10_text_L73 fu (sF M' 3 (M'.1 41)) (M'.1 44))) = f_X10_text_L102 fu fu (sF (sF (sF (sF (sF M' 3 (nI tg)) 6 (nI (if bt = 0 then 4 else bt))) 7 (nI im)) 8 (nI tt)) 14 (nI cn)) 0 := by
    have k45 : ∀ z v : Int32, (sF M' 3 v).1 45 = nI im := fun z v => D5
    have k46 : ∀ v : Int32, (sF M' 3 v).1 46 = nI tt := fun v => D2
    have k51 : ∀ v : Int32, (sF M' 3 v).1 51 = nI cn := fun v => B2
    unfold f_X10_text_L73
    rw [A6, A2, k45 0, k46, k51]
    by_cases c : bt = 0
    · rw [if_pos c, c, if_pos (show nI 0 ≤ 0 by decide)]; rfl
    · rw [if_neg c, if_neg (nI_nle (by omega) (by omega))]
  obtain ⟨N0, eN0⟩ : ∃ N0, N0 = sF (sF (sF (sF (sF M' 3 (nI tg)) 6 (nI (if bt = 0 then 4 else bt))) 7 (nI im)) 8 (nI tt)) 14 (nI cn) := ⟨_, rfl⟩
  rw [← eN0] at e73
  have n0A : N0.2 = M'.2 := by rw [eN0]; rfl
  obtain ⟨N1, bb1, b2, b3, b4⟩ := tx102 (fu := fu) (w := w) (v := v) (fun t ht => (A8 t ht).2.2) (fun t ht => (A9 t ht).2.2) 4 fu 0 N0 rfl (by omega) (fun t ht => by rw [n0A]; exact ⟨(A8 t ht).2.1, (A9 t ht).2.1⟩) (fun j hj => absurd hj (Nat.not_lt_zero _))
  obtain ⟨N2, c1, c2, c3, c4⟩ := tx166 (fu := fu) 8 fu 0 N1 rfl (by omega) (fun j hj => absurd hj (Nat.not_lt_zero _))
  have n2A : ∀ x, x ≠ 4 → x ≠ 5 → x ≠ 12 → x ≠ 13 → N2.2 x = M'.2 x := fun x g1 g2 g3 g4 => by rw [c4 x g3 g4, b4 x g1 g2, n0A]
  have n2S : N2.1 = N0.1 := by rw [c3, b3]
  obtain ⟨N3, f1, f2, f3, f4, f5⟩ := tx204 (fu := fu) (tt := tt) (im := im) (tm := tm) (A := M'.2 47) (B := M'.2 48) D6 D3 (fun t ht => ⟨(D9 t ht).2.1, (D9 t ht).2.2⟩) D10 im fu 0 N2 (by omega) (by omega) (by rw [n2S, eN0]; rfl) (n2A 47 (by decide) (by decide) (by decide) (by decide)) (n2A 48 (by decide) (by decide) (by decide) (by decide)) (fun j hj => absurd hj (Nat.not_lt_zero _)) (fun t _ h2 => absurd h2 (Nat.not_lt_zero _))
  have n3A : ∀ x, x ≠ 4 → x ≠ 5 → x ≠ 12 → x ≠ 13 → x ≠ 9 → x ≠ 10 → x ≠ 11 → N3.2 x = M'.2 x := fun x g1 g2 g3 g4 g5 g6 g7 => by rw [f5 x g5 g6 g7, n2A x g1 g2 g3 g4]
  have n3S : N3.1 = N0.1 := by rw [f4, n2S]
  -- the strings
  obtain ⟨sz, z1, z2, z3⟩ : ∃ sz : Nat → Nat, (∀ t g, t < tt → g < 4 → M'.2 53 (4 * t + g) = nI (sz (4 * t + g))) ∧ (∀ t g, t < tt → tg ≤ g → g < 4 → sz (4 * t + g) = 0) ∧ ∀ t g, t < tt → g < tg → (sz (4 * t + g) = ns (4 * t + g) ∧ M'.2 52 (4 * t + g) = nI (fr (4 * t + g))) ∨ (sz (4 * t + g) = 0 ∧ fr (4 * t + g) = fr (4 * t) ∧ ns (4 * t + g) = ns (4 * t) ∧ g ≠ 0) := by
    have key : ∀ t g, t < tt → g < 4 → M'.2 53 (4 * t + g) = nI ((M'.2 53 (4 * t + g)).toNatClampNeg) ∧ (tg ≤ g → (M'.2 53 (4 * t + g)).toNatClampNeg = 0) ∧ (g < tg → ((M'.2 53 (4 * t + g)).toNatClampNeg = ns (4 * t + g) ∧ M'.2 52 (4 * t + g) = nI (fr (4 * t + g))) ∨ ((M'.2 53 (4 * t + g)).toNatClampNeg = 0 ∧ fr (4 * t + g) = fr (4 * t) ∧ ns (4 * t + g) = ns (4 * t) ∧ g ≠ 0)) := by
      intro t g ht hg
      by_cases c : g < tg
      · obtain ⟨⟨-, -, x3⟩, -, -, x4⟩ := hX.1 t g ht c
        rcases x4 with ⟨y1, y2⟩ | ⟨y1, y2, y3, y4⟩
        · rw [y1, cl_nI (by omega)]
          exact ⟨rfl, fun q => absurd c (by omega), fun _ => Or.inl ⟨rfl, y2⟩⟩
        · rw [y1]
          exact ⟨rfl, fun q => rfl, fun _ => Or.inr ⟨rfl, y2, y3, y4⟩⟩
      · rw [hX.2 t g ht (by omega) hg]
        exact ⟨rfl, fun _ => rfl, fun q => absurd q c⟩
    exact ⟨fun z => (M'.2 53 z).toNatClampNeg, fun t g ht hg => (key t g ht hg).1, fun t g ht h1 h2 => (key t g ht h2).2.1 h1, fun t g ht hg => (key t g ht (by omega)).2.2 hg⟩
  have hns : ∀ t g, t < tt → g < tg → ns (4 * t + g) ≤ 492 ∧ 0 < ns (4 * t + g) ∧ fr (4 * t + g) + ns (4 * t + g) ≤ n := fun t g ht hg => by
    obtain ⟨⟨-, -, x3⟩, xP, ⟨W, wb, we, H, hf⟩, -⟩ := hX.1 t g ht hg
    have hw : wdt w g ≤ 40 := by
      have := (A8 g (by omega)).2.2
      unfold wdt; split <;> omega
    exact ⟨n_500 H hw hf, xP.2.1, x3⟩
  have dec : ∀ j, j < 4 * tt → j = 4 * (j / 4) + j % 4 ∧ j / 4 < tt ∧ j % 4 < 4 := fun j hj => ⟨by omega, by omega, by omega⟩
  have hsz : ∀ j, j < 4 * tt → (sz j ≤ 492 ∧ (0 < sz j → fr j + sz j ≤ n)) ∧ M'.2 53 j = nI (sz j) ∧ (0 < sz j → M'.2 52 j = nI (fr j)) := by
    intro j hj
    obtain ⟨e1, e2, e3⟩ := dec j hj
    rw [e1]
    refine ⟨?_, z1 _ _ e2 e3, ?_⟩
    · by_cases c : j % 4 < tg
      · have := hns _ _ e2 c
        rcases z3 _ _ e2 c with ⟨y, -⟩ | ⟨y, -⟩ <;> rw [y] <;> omega
      · rw [z2 _ _ e2 (by omega) e3]; omega
    · by_cases c : j % 4 < tg
      · rcases z3 _ _ e2 c with ⟨-, y⟩ | ⟨y, -⟩
        · exact fun _ => y
        · exact fun q => by omega
      · intro q
        have := z2 _ _ e2 (by omega) e3
        omega
  obtain ⟨N4, g1, g2, g3, g4⟩ := tx265 (h := h) (n := n) (fu := fu) (by omega) (show tt ≤ 40 by omega) (sz := sz) (fo := fr) (fun k hk => (hsz k hk).1) hfu (4 * tt) fu 0 N3 (by omega) (by omega) (by rw [n3S, eN0]; rfl) (fun j hj => by
    rw [n3A 53 (by decide) (by decide) (by decide) (by decide) (by decide) (by decide) (by decide), n3A 52 (by decide) (by decide) (by decide) (by decide) (by decide) (by decide) (by decide)]
    exact (hsz j hj).2) (fun j hj => by
    rw [n3A 0 (by decide) (by decide) (by decide) (by decide) (by decide) (by decide) (by decide), a4.2 0 (by omega)]
    exact T.2.1 j hj) (fun j hj => absurd hj (Nat.not_lt_zero _))
  obtain ⟨N5, o0, o1, o2, o3, o4, o5, o6, o7⟩ := opens_e (show 200 ≤ fu by omega) N4
  have n5A : ∀ x, x ≠ 18 → x ≠ 19 → x ≠ 15 → x ≠ 16 → x ≠ 17 → N5.2 x = N3.2 x := fun x g1 g2 g5 g6 g7 => by rw [o7 x g1 g2, g4 x g5 g6 g7]
  have n5S : ∀ x, x ≠ 22 → x ≠ 23 → x ≠ 24 → N5.1 x = N0.1 x := fun x h1 h2 h3 => by rw [o6 x h1 h2 h3, g3, n3S]
  have n0S : ∀ x, x ≠ 3 → x ≠ 6 → x ≠ 7 → x ≠ 8 → x ≠ 14 → N0.1 x = M'.1 x := fun x h1 h2 h3 h4 h5 => by
    rw [eN0, sF_1, if_neg h5, sF_1, if_neg h4, sF_1, if_neg h3, sF_1, if_neg h2, sF_1, if_neg h1]
  have eref : (f_X10_reads fu M0).bind (fun q_41 => if q_41.1 = 0 then (some ((-1), q_41.2)) else (if (q_41.2.1 44) ≤ 0 then (f_X10_text_L73 fu (sF q_41.2 3 (q_41.2.1 41)) 4) else (f_X10_text_L73 fu (sF q_41.2 3 (q_41.2.1 41)) (q_41.2.1 44)))) = some (nI tt, N5) := by
    refine bd a2 (iN n10 (e73.trans (bb1.trans (c1.trans (f1.trans (g1.trans (bd o0 ?_)))))))
    rw [n5S 8 (by decide) (by decide) (by decide), eN0]
    rfl
  -- the script
  have hRS : RS d' N5 tg tt im bt cn w v bar tm := by
    refine ⟨⟨A1, by rw [n5S 3 (by decide) (by decide) (by decide), eN0]; rfl, A3, A4⟩, ⟨D1, by rw [n5S 8 (by decide) (by decide) (by decide), eN0]; rfl, by omega⟩, ⟨B1, by rw [n5S 14 (by decide) (by decide) (by decide), eN0]; rfl⟩, ⟨D4, by rw [n5S 7 (by decide) (by decide) (by decide), eN0]; rfl, D6⟩, ⟨A5, by rw [n5S 6 (by decide) (by decide) (by decide), eN0]; rfl, A7⟩, fun t ht => ?_, fun t ht => ?_, fun k hk => ?_, D8, fun t ht => ?_, fun k hk => ?_⟩
    · rw [n5A 4 (by decide) (by decide) (by decide) (by decide) (by decide), f5 4 (by decide) (by decide) (by decide), c4 4 (by decide) (by decide)]
      exact ⟨(A8 t ht).1, (b2 t ht).1, (A8 t ht).2.2⟩
    · rw [n5A 5 (by decide) (by decide) (by decide) (by decide) (by decide), f5 5 (by decide) (by decide) (by decide), c4 5 (by decide) (by decide)]
      exact ⟨(A9 t ht).1, (b2 t ht).2, (A9 t ht).2.2⟩
    · rw [n5A 9 (by decide) (by decide) (by decide) (by decide) (by decide), (f2 k hk).1]
      exact ⟨(D7 k hk).1, (D7 k hk).2.1, (D7 k hk).2.2.2⟩
    · have hk := (D9 t ht).2.1
      rw [n5A 11 (by decide) (by decide) (by decide) (by decide) (by decide), f3 t ht, n5A 10 (by decide) (by decide) (by decide) (by decide) (by decide), (f2 _ hk).2]
      exact ⟨(D9 t ht).1, rfl, hk, (D9 t ht).2.2⟩
    · rw [n5A 10 (by decide) (by decide) (by decide) (by decide) (by decide), (f2 k hk).2]
      exact D10 k hk
  have hRX : RX (ck r1).2 d' N5 tg tt w fr ns (fun κ i => h (fr κ + i)) := by
    intro t g ht hg
    obtain ⟨⟨x1, x2, x3⟩, xP, xW, -⟩ := hX.1 t g ht hg
    refine ⟨⟨x1, x2, by omega⟩, xP, fun i hi => ?_, xW, ?_⟩
    · rw [(t3 _ (show fr (4 * t + g) + i < nt by omega)).2.1]
      exact sb_lo (xP.lt i hi)
    · rw [o7 17 (by decide) (by decide), o7 16 (by decide) (by decide), o7 15 (by decide) (by decide)]
      rcases z3 t g ht hg with ⟨y1, y2⟩ | ⟨y1, y2, y3, y4⟩
      · obtain ⟨w1, w2, w3⟩ := g2 (4 * t + g) (by omega)
        have hpos := (hns t g ht hg).2.1
        refine ⟨4 * t + g, by omega, ?_, by rw [w2, y1], fun i hi => w3 i (by omega)⟩
        rw [w1, decide_eq_true (show 0 < sz (4 * t + g) by omega), if_neg (show ¬ nI (b1 true) = 0 by decide)]
      · obtain ⟨w1, w2, w3⟩ := g2 (4 * t + g) (by omega)
        have e0 : sz (4 * t) = ns (4 * t) := by
          have := z3 t 0 ht (by omega)
          rw [Nat.add_zero] at this
          rcases this with ⟨q, -⟩ | ⟨-, -, -, q⟩
          · exact q
          · exact absurd rfl q
        obtain ⟨v1, v2, v3⟩ := g2 (4 * t) (by omega)
        refine ⟨4 * t, by omega, ?_, by rw [v2, e0, y3], fun i hi => ?_⟩
        · rw [w1, decide_eq_false (show ¬ 0 < sz (4 * t + g) by omega), if_pos (show nI (b1 false) = 0 from rfl)]
        · rw [v3 i (by omega)]
          show nI (h (fr (4 * t) + i)) = nI (h (fr (4 * t + g) + i))
          rw [y2]
  -- the class
  have hck : ck r1 = (1500, (ck r1).2) := by rw [← q4]
  obtain ⟨u3, u4, F', k1, k2⟩ := useScript_e hRS hRX hfu (r1 := r2) (r2 := r1) q1 q2 hck s9 s10 s12
  obtain ⟨e', m0, m1, m2, m3, m4⟩ := start_e (show 100 ≤ fu by omega) d' s11
  refine ⟨(d'.1 1, sF s2 1 0, d', r', u', u3, u4, e', F'), N5, ?_, ?_, tg, tt, im, bt, cn, w, v, bar, tm, fr, ns, _, (fun _ => false), (fun _ => false), cf, ct, ?_, hRS, hRX, ?_, ?_, ?_, ?_⟩
  · exact bd l1 (iN n10 (ip hmem (ip heq (bd a1 (iN n10 (bd rfl (bd k1 (bd m0 (bd rfl (iN n10 rfl))))))))))
  · show _ = some (d'.1 1, N5)
    rw [D1]
    exact eref
  · refine ⟨0, h, by omega, rfl, ?_, fun i hi => absurd hi (Nat.not_lt_zero _)⟩
    rw [n5S 1 (by decide) (by decide) (by decide), n0S 1 (by decide) (by decide) (by decide) (by decide) (by decide), a4.1 1 (by omega), eM0]
    rfl
  · refine RE_start (on := fun _ => false) (fun k hk => ?_) (fun k hk => ?_) m1 m2 m3 m4 o1 o3 o4 o5
    · obtain ⟨y1, y2, y3⟩ := B4 k hk
      refine ⟨rfl, y1, ?_⟩
      rcases y3 with y3 | ⟨y3, y4, y5, y6⟩
      · exact Or.inl y3
      · exact Or.inr ⟨y3, y5, y6⟩
    · obtain ⟨y1, y2, y3⟩ := B4 k hk
      rw [n5A 13 (by decide) (by decide) (by decide) (by decide) (by decide), n5A 12 (by decide) (by decide) (by decide) (by decide) (by decide), f5 13 (by decide) (by decide) (by decide), f5 12 (by decide) (by decide) (by decide), (c2 k hk).1, (c2 k hk).2, b4 49 (by decide) (by decide), b4 50 (by decide) (by decide), n0A]
      refine ⟨rfl, y2, ?_⟩
      rcases y3 with y3 | ⟨y3, y4, y5, y6⟩
      · exact Or.inl y3
      · exact Or.inr ⟨y4, y5, y6⟩
  · exact RW_fresh h5.1 k2 o2
  · exact RF.c (M := M') (by rw [n5S 39 (by decide) (by decide) (by decide), n0S 39 (by decide) (by decide) (by decide) (by decide) (by decide)]) (by rw [n5S 40 (by decide) (by decide) (by decide), n0S 40 (by decide) (by decide) (by decide) (by decide) (by decide)]) a3
  · unfold RR
    rw [n5A 54 (by decide) (by decide) (by decide) (by decide) (by decide), n3A 54 (by decide) (by decide) (by decide) (by decide) (by decide) (by decide) (by decide), a4.2 54 (by omega)]
    exact ⟨Ne.symm q1, q3, q2, q5, q4, T.2.2⟩
