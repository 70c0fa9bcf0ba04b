/-! a title, all items on both sides -/
section ITS
variable {h : Nat → Nat} {n : Nat} {b : Nat → Int32} {fu : Nat}
theorem at_e (C : CX h n b) {r u d M : St} (T : TM h n M) (hfu : 2000 ≤ fu) {pl bh : Nat} (K : TK fu h n b u M 1 5 pl bh) (hF : RF r M) (hP : PP h n d M) :
    JF (atC fu b r u d) (f_X10_item fu M) M ∨ JI fu h n b (atC fu b r u d) (f_X10_item fu M) M pl := by
  obtain ⟨tg, bt, cn, tt, im, w, v, cf, ct, bar, tm, fr, ns, hA, hB, hM, hX⟩ := hP
  have hp := K.1
  have he := K.eq (by decide)
  have h37 : M.1 37 = nI 5 := (K.2.2.2.2.2.1 rfl).2.2
  have h45 := hM.2.1.2.1
  have htg := hA.1.2.2.2
  unfold atC f_X10_item
  rw [if_pos (show M.1 36 = 1 from he.2), h37, if_pos (show (5 : Int32) ≤ nI 5 by decide), if_neg (show ¬ nI 5 = 7 by decide), h45]
  rcases mark_e C T hfu K hF hM with ⟨cF, e1⟩ | ⟨cF, r2, u2, M1, M2, e1, e2, e3, e4, e5⟩ | ⟨cF, r2, u2, M1, M2, y, kd2, x2, pl2, bh2, e1, e2, e3, e4, e5, e6, e7, ⟨y1, y2⟩, e8⟩
  · rw [cF, if_pos (show nI 40 = 40 from rfl), e1]
    unfold f_X10_item_L56
    rw [hp.2.2.1]
    exact Or.inl ⟨sF (sF r 0 2) 1 (nI pl), u, d, sF (sF M 39 2) 40 (nI pl), bd rfl (ip rfl rfl), bd rfl (ip isB_0 rfl), wrong_rf _ _ _ _, (wrong_nf _ _ _).pf⟩
  · rw [if_neg (show ¬ nI im = 40 from nI_neq (b := 40) (by omega) (by decide) (by omega)), e3]
    unfold f_X10_item_L66 f_X10_title
    rw [e1, obs, obs, h37, if_neg (show ¬ nI 5 = 7 by decide), if_pos (show nI 5 = 5 from rfl), e2, obs]
    exact Or.inl ⟨r2, u2, d, M2, ip rfl rfl, bd (ip rfl rfl) (ip isB_0 rfl), e4, e5⟩
  rw [if_neg (show ¬ nI im = 40 from nI_neq (b := 40) (by omega) (by decide) (by omega)), e3]
  unfold f_X10_item_L66 f_X10_title
  rw [e1, obs, obs, h37, if_neg (show ¬ nI 5 = 7 by decide), if_pos (show nI 5 = 5 from rfl), e2, obs, if_neg n10, if_neg n10]
  dsimp only
  have hM2 := PM.n e5 hM
  obtain ⟨d1, ed1⟩ : ∃ d1, d1 = sF (sA d 9 im (nI y)) 3 (nI (im + 1)) := ⟨_, rfl⟩
  obtain ⟨M3, eM3⟩ : ∃ M3, M3 = sA M2 47 im (nI y) := ⟨_, rfl⟩
  rw [← ed1, ← eM3]
  have pf3 : PF M M3 := by rw [eM3]; exact e5.pf.trans (PF.a M2 (nI y) (by omega))
  have K3 : TK fu h n b u2 M3 kd2 x2 pl2 bh2 := by rw [eM3]; exact e6
  have F3 : RF r2 M3 := by rw [eM3]; exact e4
  have hA3 : PA d1 M3 tg bt w v := by rw [ed1, eM3]; exact PA.c (d := d) (M := M2) rfl rfl rfl rfl rfl rfl rfl rfl (PA.n e5 hA)
  have h46 : M3.1 46 = nI tt := by rw [eM3]; exact hM2.1.2.1
  have h45' : M3.1 45 = nI im := by rw [eM3]; exact hM2.2.1.2.1
  have hti := hM2.1.2.2
  rcases first_e C (T.p pf3) hfu K3 F3 hA3 (by rw [ed1]; exact hM2.1.1) (by rw [ed1]; rfl) hti cF h46 with ⟨r6, u6, d6, M6, a1, a2, a3, a4⟩ | ⟨u6, d6, M6, kd6, x6, pl6, bh6, j6, frS, nsS, a1, a2, a3, a4, a5, a6, ⟨a7, a7'⟩, a8, a9, a10⟩
  · rw [a1, a2, obs]
    exact Or.inl ⟨r6, u6, d6, M6, ip rfl rfl, bd rfl (ip isB_0 rfl), a3, pf3.trans a4⟩
  rw [a1, a2, obs, if_neg n10]
  dsimp only
  obtain ⟨M7, c1, c2, c3, c4⟩ := t156 (fu := fu) (show tt < 40 by omega) (4 - j6) fu j6 M6 (by omega) (by omega) ((a10.1 46 (by decide) (by decide) (by decide) (by decide)).trans h46)
  have mf67 : MFr tt M6 M7 := ⟨fun x _ _ _ _ => by rw [c2], fun x _ h2 => c3 x h2, fun z hz => ⟨by rw [c3 52 (by decide)], by rw [c4 z, if_neg (by omega)]⟩⟩
  have mf37 := a10.trans mf67
  have T7 : TM h n M7 := (T.p pf3).p mf37.pf
  have K7 : TK fu h n b u6 M7 kd6 x6 pl6 bh6 := TK.m (by rw [c2]) (by rw [c2]) (by rw [c2]) (by rw [c2]) a4
  have F7 : RF r2 M7 := RF.c (by rw [c2]) (by rw [c2]) a3
  have hp7 := K7.1
  rw [c1]
  by_cases cS : kd6 = 5
  case neg =>
    have hne := K7.ne (k := 5) (by decide) (by decide) (by decide) cS
    unfold f_X3_readSemicolon
    rw [if_neg (show ¬ u6.1 1 = 5 from hne.1), if_neg (show ¬ M7.1 36 = 5 from hne.2), hp7.2.1, hp7.2.2.1]
    exact Or.inl ⟨sF (sF r2 0 1) 1 (nI pl6), u6, d6, sF (sF M7 39 1) 40 (nI pl6), bd (bd rfl (ip isB_0 rfl)) (ip rfl rfl), bd (bd rfl (ip isB_0 rfl)) (ip isB_0 rfl), wrong_rf _ _ _ _, (pf3.trans mf37.pf).trans (wrong_nf _ _ _).pf⟩
  subst cS
  have he7 := K7.eq (by decide)
  -- the strings, all four
  have hS7 : ST h n d6 M7 tt 4 frS nsS := by
    refine ⟨a8.1, fun g hg => ?_, fun g h1 h2 => absurd h1 (by omega)⟩
    rw [c4, c3 52 (by decide)]
    by_cases cg : g < j6
    · rw [if_neg (by omega)]; exact a8.2.1 g cg
    · rw [if_pos (by omega)]
      have := a8.2.2 g (by omega) hg
      exact Or.inr ⟨rfl, this.1, this.2, by omega⟩
  have d6_1 : d6.1 = (sF d1 1 (nI (tt + 1))).1 := a9.1
  have d6x : ∀ x, x ≠ 10 → x ≠ 11 → x ≠ 12 → d6.2 x = d1.2 x := fun x q0 q1 q2 => by rw [a9.2.1 x q1 q2, sF_2, sA_2, if_neg q0]
  have hA7 : PA d6 M7 tg bt w v := PA.c (d := d1) (M := M3) (by rw [d6_1]; rfl) (by rw [d6_1]; rfl) (d6x 5 (by decide) (by decide) (by decide)) (d6x 6 (by decide) (by decide) (by decide)) (mf37.1 41 (by decide) (by decide) (by decide) (by decide)) (mf37.1 44 (by decide) (by decide) (by decide) (by decide)) (mf37.2.1 42 (by decide) (by decide)) (mf37.2.1 43 (by decide) (by decide)) hA3
  have h46' : M7.1 46 = nI tt := (mf37.1 46 (by decide) (by decide) (by decide) (by decide)).trans h46
  rw [if_pos (show M7.1 36 = 5 from he7.2)]
  have d61 : (d6.1 1 - 1 : Int32) = nI tt := by
    rw [d6_1]; exact pk_sub (a := tt + 1) (b := 1) (by omega)
  have hfl : ∀ s1 : St, f_X3_stringsFit fu s1 b d6 r2 = f_X3_stringsFit_L14 fu s1 b d6 fu r2 (nI tt) (-1) (nI 0) := by
    intro s1
    unfold f_X3_stringsFit
    rw [d61]
    rfl
  obtain ⟨u9, M9', kd9', x9', pl9', bh9', s1e, -, -, -, -⟩ := step_e C T7 hfu K7 (by decide) (by decide)
  have hsc : f_X3_readSemicolon fu b r2 u6 = some (1, r2, u9) := by
    unfold f_X3_readSemicolon
    exact ip (show u6.1 1 = 5 from he7.1) (bd s1e rfl)
  rw [hsc, obs, if_neg n10]
  dsimp only
  rw [hfl]
  obtain ⟨M8, g1, g2⟩ := fit_loop C hfu (r := r2) (d := d6) (tg := tg) (bt := bt) (w := w) (v := v) (show tt < 40 by omega) u9 tg fu fu 0 M7 (-1) (by omega) (by omega) (by omega) T7 hA7 h46' hS7 (Or.inl rfl) (fun _ g' hg' => absurd hg' (Nat.not_lt_zero _))
  have nf8 := g1.nf
  rcases g2 with ⟨g2, g3, g4⟩ | ⟨p, g3, g4⟩
  case inr =>
    have g4' : f_X10_title_L204 fu fu M7 (-1) 0 = some (0, sF (sF M8 39 4) 40 (nI p)) := g4
    rw [g3, g4', obs]
    exact Or.inl ⟨sF (sF r2 0 4) 1 (nI p), u9, d6, sF (sF M8 39 4) 40 (nI p), ip rfl rfl, bd rfl (ip isB_0 rfl), wrong_rf _ _ _ _, ((pf3.trans mf37.pf).trans nf8.pf).trans (wrong_nf _ _ _).pf⟩
  have g4' : f_X10_title_L204 fu fu M7 (-1) 0 = _ := g4
  have q45 : M8.1 45 = nI im := (nf8.1 45 (by omega)).trans ((mf37.1 45 (by decide) (by decide) (by decide) (by decide)).trans h45')
  have q46 : M8.1 46 = nI tt := (nf8.1 46 (by omega)).trans h46'
  rw [g3, g4', q45, q46, if_pos (inb_nI (show im < 40 by omega) (by decide)), cl_nI (show im < 2 ^ 31 by omega), nI_1, nI_1, obs, if_neg n10]
  dsimp only
  obtain ⟨M9, eM9⟩ : ∃ M9, M9 = sF (sF (sA M8 48 im (nI tt)) 46 (nI (tt + 1))) 45 (nI (im + 1)) := ⟨_, rfl⟩
  rw [← eM9]
  have pf9 : PF M M9 := by
    rw [eM9]
    exact ((((pf3.trans mf37.pf).trans nf8.pf).trans (PF.a M8 _ (by omega))).trans (PF.f _ _ (by omega))).trans (PF.f _ _ (by omega))
  have gS : ∀ x, x = 35 ∨ x = 36 ∨ x = 37 ∨ x = 38 → M9.1 x = M7.1 x := fun x hx => by
    rw [eM9, sF_1, if_neg (by omega), sF_1, if_neg (by omega), sA_1, g1.1 x (by omega) (by omega) (by omega)]
  have K9 : TK fu h n b u6 M9 5 x6 pl6 bh6 := TK.m (gS 35 (by omega)) (gS 36 (by omega)) (gS 37 (by omega)) (gS 38 (by omega)) K7
  have F9 : RF r2 M9 := RF.c (by rw [eM9, sF_1, if_neg (by omega), sF_1, if_neg (by omega), sA_1, g1.1 39 (by omega) (by omega) (by omega)]) (by rw [eM9, sF_1, if_neg (by omega), sF_1, if_neg (by omega), sA_1, g1.1 40 (by omega) (by omega) (by omega)]) F7
  obtain ⟨u10, M10, kd10, x10, pl10, bh10, t1, t2, t3, t4, t5⟩ := step_e C (T.p pf9) hfu K9 (by decide) (by decide)
  have eu : u9 = u10 := Option.some.inj (s1e.symm.trans t1)
  subst eu
  rw [t2, obs]
  have nf10 := t5.nf
  -- what the reference's rows hold
  have m9S : ∀ x, x ≠ 45 → x ≠ 46 → (x ≤ 25 ∨ (41 ≤ x ∧ x ≤ 54)) → M9.1 x = M3.1 x := fun x q1 q2 q3 => by
    rw [eM9, sF_1, if_neg q1, sF_1, if_neg q2, sA_1, nf8.1 x (by omega), mf37.1 x (by omega) (by omega) (by omega) (by omega)]
  have m9A : ∀ x, x ≠ 48 → x ≠ 52 → x ≠ 53 → (x ≤ 25 ∨ (41 ≤ x ∧ x ≤ 54)) → M9.2 x = M3.2 x := fun x q1 q2 q3 q4 => by
    rw [eM9, sF_2, sF_2, sA_2, if_neg q1, nf8.2 x (by omega), mf37.2.1 x q2 q3]
  have m9x : ∀ x, x = 52 ∨ x = 53 → M9.2 x = M7.2 x := fun x hx => by
    rw [eM9, sF_2, sF_2, sA_2, if_neg (by omega), nf8.2 x (by omega)]
  have hA9 : PA d6 M9 tg bt w v := PA.c (d := d6) (M := M7) rfl rfl rfl rfl ((m9S 41 (by omega) (by omega) (by omega)).trans (mf37.1 41 (by decide) (by decide) (by decide) (by decide)).symm) ((m9S 44 (by omega) (by omega) (by omega)).trans (mf37.1 44 (by decide) (by decide) (by decide) (by decide)).symm) ((m9A 42 (by omega) (by omega) (by omega) (by omega)).trans (mf37.2.1 42 (by decide) (by decide)).symm) ((m9A 43 (by omega) (by omega) (by omega) (by omega)).trans (mf37.2.1 43 (by decide) (by decide)).symm) hA7
  have hB9 : PB d6 M9 cn cf ct := by
    refine PB.c (d := d) (M := M2) ?_ ?_ ?_ ?_ ?_ ?_ (PB.n e5 hB)
    · rw [d6_1, ed1]; rfl
    · rw [d6x 7 (by decide) (by decide) (by decide), ed1]; rfl
    · rw [d6x 8 (by decide) (by decide) (by decide), ed1]; rfl
    · rw [m9S 51 (by omega) (by omega) (by omega), eM3]; rfl
    · rw [m9A 49 (by omega) (by omega) (by omega) (by omega), eM3]; rfl
    · rw [m9A 50 (by omega) (by omega) (by omega) (by omega), eM3]; rfl
  obtain ⟨bar', b1', b2'⟩ : ∃ bar' : Nat → Nat, bar' im = y ∧ ∀ k, k ≠ im → bar' k = bar k := ⟨fun k => if k = im then y else bar k, if_pos rfl, fun k hk => if_neg hk⟩
  obtain ⟨tm', t1', t2'⟩ : ∃ tm' : Nat → Nat, tm' tt = im ∧ ∀ k, k ≠ tt → tm' k = tm k := ⟨fun k => if k = tt then im else tm k, if_pos rfl, fun k hk => if_neg hk⟩
  have hM9 : PM d6 M9 (tt + 1) (im + 1) bar' tm' := by
    obtain ⟨p1, p2, p3, p4, p5, p6⟩ := hM2
    have q9 : ∀ k, d6.2 9 k = if k = im then nI y else d.2 9 k := fun k => by rw [d6x 9 (by decide) (by decide) (by decide), ed1]; rfl
    have q10 : ∀ k, d6.2 10 k = if k = tt then nI im else d.2 10 k := fun k => by rw [a9.2.1 10 (by decide) (by decide), ed1]; rfl
    have q47 : ∀ k, M9.2 47 k = if k = im then nI y else M2.2 47 k := fun k => by rw [m9A 47 (by omega) (by omega) (by omega) (by omega), eM3]; rfl
    have q48 : ∀ k, M9.2 48 k = if k = im then nI tt else M2.2 48 k := fun k => by
      have e48 : M8.2 48 = M2.2 48 := by rw [nf8.2 48 (by omega), mf37.2.1 48 (by decide) (by decide), eM3]; rfl
      rw [eM9, sF_2, sF_2, sA_2i, if_pos rfl, e48]
    refine ⟨⟨by rw [d6_1]; rfl, by rw [eM9]; rfl, by omega⟩, ⟨by rw [d6_1, ed1]; rfl, by rw [eM9]; rfl, by omega⟩, fun k hk => ?_, fun k hk => ?_, fun t ht => ?_, fun k hk => ?_⟩
    · rw [q9, q47]
      by_cases c : k = im
      · rw [if_pos c, if_pos c, c, b1']; exact ⟨rfl, rfl, y1, y2⟩
      · rw [if_neg c, if_neg c, b2' k c]; exact p3 k (by omega)
    · by_cases c : k + 1 = im
      · rw [c, b1', b2' k (by omega)]
        have := e8 (by omega)
        rw [show im - 1 = k by omega] at this
        exact this
      · rw [b2' k (by omega), b2' (k + 1) c]; exact p4 k (by omega)
    · rw [q10, q48]
      by_cases c : t = tt
      · rw [if_pos c, c, t1', if_pos rfl]; exact ⟨rfl, by omega, rfl⟩
      · obtain ⟨z1, z2, z3⟩ := p5 t (by omega)
        rw [if_neg c, t2' t c, if_neg (by omega)]
        exact ⟨z1, by omega, z3⟩
    · rw [q48]
      by_cases c : k = im
      · exact Or.inl ⟨tt, by omega, by rw [t1', c]⟩
      · rw [if_neg c]
        rcases p6 k (by omega) with ⟨t, z1, z2⟩ | z
        · exact Or.inl ⟨t, by omega, by rw [t2' t (by omega)]; exact z2⟩
        · exact Or.inr z
  obtain ⟨fr', f1', f2'⟩ : ∃ fr' : Nat → Nat, (∀ g, fr' (4 * tt + g) = frS g) ∧ ∀ z, z < 4 * tt → fr' z = fr z := ⟨fun z => if z < 4 * tt then fr z else frS (z - 4 * tt), fun g => by simp only [if_neg (show ¬ 4 * tt + g < 4 * tt by omega)]; congr 1; omega, fun z hz => if_pos hz⟩
  obtain ⟨ns', n1', n2'⟩ : ∃ ns' : Nat → Nat, (∀ g, ns' (4 * tt + g) = nsS g) ∧ ∀ z, z < 4 * tt → ns' z = ns z := ⟨fun z => if z < 4 * tt then ns z else nsS (z - 4 * tt), fun g => by simp only [if_neg (show ¬ 4 * tt + g < 4 * tt by omega)]; congr 1; omega, fun z hz => if_pos hz⟩
  have hX9 : PX h n d6 M9 tg (tt + 1) w fr' ns' := by
    have hX2 := PX.n e5 hX
    have z52 : ∀ z, z < 4 * tt → M9.2 52 z = M2.2 52 z := fun z hz => by rw [m9x 52 (by omega), (mf37.2.2 z hz).1, eM3]; rfl
    have z53 : ∀ z, z < 4 * tt → M9.2 53 z = M2.2 53 z := fun z hz => by rw [m9x 53 (by omega), (mf37.2.2 z hz).2, eM3]; rfl
    have z11 : ∀ z, z < 4 * tt → d6.2 11 z = d.2 11 z := fun z hz => by rw [(a9.2.2 z hz).1, ed1]; rfl
    have z12 : ∀ z, z < 4 * tt → d6.2 12 z = d.2 12 z := fun z hz => by rw [(a9.2.2 z hz).2, ed1]; rfl
    refine ⟨fun t g ht hg => ?_, fun t g ht hg hg4 => ?_⟩
    · by_cases c : t = tt
      · rw [c]
        obtain ⟨⟨v1, v2⟩, ⟨v3, v4⟩, v5⟩ := hS7.1 g (by omega)
        have v6 := hS7.2.1 g (by omega)
        have f0 := f1' 0
        have n0 := n1' 0
        rw [Nat.add_zero] at f0 n0
        unfold PSs
        rw [f1', n1', f0, n0, m9x 52 (by omega), m9x 53 (by omega)]
        exact ⟨⟨v1, v2, v3⟩, v5, g2 g hg, v6⟩
      · have hlt : 4 * t + g < 4 * tt := by omega
        have := hX2.1 t g (by omega) hg
        unfold PSs at this ⊢
        rw [f2' _ hlt, n2' _ hlt, f2' (4 * t) (by omega), n2' (4 * t) (by omega), z52 _ hlt, z53 _ hlt, z11 _ hlt, z12 _ hlt]
        exact this
    · by_cases c : t = tt
      · rw [c, m9x 53 (by omega), c4, if_pos (by omega)]
      · rw [z53 _ (by omega)]; exact hX2.2 t g (by omega) hg hg4
  exact Or.inr ⟨r2, u9, d6, M10, kd10, x10, pl10, bh10, rfl, bd rfl (ip isB_1 rfl), F9.n t5, pf9.trans nf10.pf, t3, by omega, tg, bt, cn, tt + 1, im + 1, w, v, cf, ct, bar', tm', fr', ns', PA.n nf10 hA9, PB.n nf10 hB9, PM.n nf10 hM9, PX.n nf10 hX9⟩
/-- the class's roads through an item -/
theorem atC_b (Kx : St → St → St → Int32 → Int32 → Option (Int32 × St × St × St)) (r u d : St) (x1 x2 : Int32) : (f_X3_readMark fu b r u d).bind (fun q_30 => if q_30.1 = 0 then (f_X3_readItems_L61 Kx fu b q_30.2.1 q_30.2.2.1 q_30.2.2.2 x1 x2) else ((f_X3_readStrings fu b q_30.2.1 q_30.2.2.1 q_30.2.2.2).bind (fun q_37 => if q_37.1 = 0 then (f_X3_readItems_L61 Kx fu b q_37.2.1 q_37.2.2.1 q_37.2.2.2 x1 x2) else ((f_X3_readSemicolon fu b q_37.2.1 q_37.2.2.1).bind (fun q_44 => if q_44.1 = 0 then (f_X3_readItems_L61 Kx fu b q_44.2.1 q_44.2.2 q_37.2.2.2 x1 x2) else ((f_X3_stringsFit fu q_44.2.2 b q_37.2.2.2 q_44.2.1).bind (fun q_51 => if q_51.1 = 0 then (f_X3_readItems_L61 Kx fu b q_51.2 q_44.2.2 q_37.2.2.2 x1 x2) else (f_X3_readItems_L62 Kx fu b q_51.2 q_44.2.2 q_37.2.2.2 x1 x2 1)))))))) = (atC fu b r u d).bind (fun z => f_X3_readItems_L134 Kx fu b z.2.1 z.2.2.1 z.2.2.2 x1 x2 z.1) := by
  unfold atC
  cases f_X3_readMark fu b r u d with
  | none => rfl
  | some q =>
    rw [obs, obs]
    by_cases c : q.1 = 0
    · rw [if_pos c, if_pos c]; rfl
    rw [if_neg c, if_neg c]
    cases f_X3_readStrings fu b q.2.1 q.2.2.1 q.2.2.2 with
    | none => rfl
    | some q2 =>
      rw [obs, obs]
      by_cases c2 : q2.1 = 0
      · rw [if_pos c2, if_pos c2]; rfl
      rw [if_neg c2, if_neg c2]
      cases f_X3_readSemicolon fu b q2.2.1 q2.2.2.1 with
      | none => rfl
      | some q3 =>
        rw [obs, obs]
        by_cases c3 : q3.1 = 0
        · rw [if_pos c3, if_pos c3]; rfl
        rw [if_neg c3, if_neg c3]
        cases f_X3_stringsFit fu q3.2.2 b q2.2.2.2 q3.2.1 with
        | none => rfl
        | some q4 =>
          rw [obs, obs]
          by_cases c4 : q4.1 = 0
          · rw [if_pos c4, if_pos c4]; rfl
          rw [if_neg c4, if_neg c4]; rfl
theorem blC_b (Kx : St → St → St → Int32 → Int32 → Option (Int32 × St × St × St)) (r u d : St) (x1 x2 : Int32) : (f_X3_readMark fu b r u d).bind (fun q_79 => if q_79.1 = 0 then (f_X3_readItems_L96 Kx fu b q_79.2.1 q_79.2.2.1 q_79.2.2.2 x1 x2) else ((f_X3_readSemicolon fu b q_79.2.1 q_79.2.2.1).bind (fun q_86 => if q_86.1 = 0 then (f_X3_readItems_L96 Kx fu b q_86.2.1 q_86.2.2 q_79.2.2.2 x1 x2) else (f_X3_readItems_L97 Kx fu b q_86.2.1 q_86.2.2 q_79.2.2.2 x1 x2 1)))) = (blC fu b r u d).bind (fun z => f_X3_readItems_L134 Kx fu b z.2.1 z.2.2.1 z.2.2.2 x1 x2 z.1) := by
  unfold blC
  cases f_X3_readMark fu b r u d with
  | none => rfl
  | some q =>
    rw [obs, obs]
    by_cases c : q.1 = 0
    · rw [if_pos c, if_pos c]; rfl
    rw [if_neg c, if_neg c]
    cases f_X3_readSemicolon fu b q.2.1 q.2.2.1 with
    | none => rfl
    | some q3 =>
      rw [obs, obs]
      by_cases c3 : q3.1 = 0
      · rw [if_pos c3, if_pos c3]; rfl
      rw [if_neg c3, if_neg c3]; rfl
/-- all items -/
theorem items_e (C : CX h n b) (hfu : 2000 ≤ fu) : ∀ (m q q' i : Nat) (r u d M : St) (kd x pl bh : Nat), n - pl ≤ m → m < q → m < q' → i ≤ pl → TM h n M → TK fu h n b u M kd x pl bh → RF r M → PP h n d M →
    JF (f_X3_readItems_L2 fu b q r u d (nI n) (nI i)) (f_X10_reads_L168 fu q' M) M ∨
    ∃ r' u' d' M' : St, f_X3_readItems_L2 fu b q r u d (nI n) (nI i) = some (1, r', u', d') ∧ f_X10_reads_L168 fu q' M = some (1, M') ∧ RF r' M' ∧ PF M M' ∧ PP h n d' M' := by
  intro m
  have hn := C.1
  induction m with
  | zero =>
    intro q q' i r u d M kd x pl bh hm hq hq' hi T K hF hP
    obtain ⟨q, rfl⟩ : ∃ z, q = z + 1 := ⟨q - 1, by omega⟩
    obtain ⟨q', rfl⟩ : ∃ z, q' = z + 1 := ⟨q' - 1, by omega⟩
    have hpl := K.1.2.2.2
    have hkd : kd = 0 := by
      rcases Nat.eq_zero_or_pos kd with e | e
      · exact e
      · have := K.2.2.2.1.2 (by omega); omega
    subst hkd
    have he := K.eq (by decide)
    refine Or.inr ⟨r, u, d, M, ?_, ?_, hF, PF.refl _, hP⟩
    · rw [f_X3_readItems_L2]
      by_cases c : n ≤ i
      · exact if_pos (nI_le c (by omega))
      · exact iN (nI_ge (by omega) (by omega)) (if_pos (show u.1 1 = 0 from he.1))
    · rw [f_X10_reads_L168]
      exact if_pos (show M.1 36 = 0 from he.2)
  | succ m ih =>
    intro q q' i r u d M kd x pl bh hm hq hq' hi T K hF hP
    obtain ⟨q, rfl⟩ : ∃ z, q = z + 1 := ⟨q - 1, by omega⟩
    obtain ⟨q', rfl⟩ : ∃ z, q' = z + 1 := ⟨q' - 1, by omega⟩
    have hp := K.1
    rw [f_X3_readItems_L2, f_X10_reads_L168]
    by_cases c0 : kd = 0
    · subst c0
      have he := K.eq (by decide)
      refine Or.inr ⟨r, u, d, M, ?_, if_pos (show M.1 36 = 0 from he.2), hF, PF.refl _, hP⟩
      by_cases c : n ≤ i
      · exact if_pos (nI_le c (by omega))
      · exact iN (nI_ge (by omega) (by omega)) (if_pos (show u.1 1 = 0 from he.1))
    have hlt := K.2.2.2.1.2 c0
    have hne := K.ne (k := 0) (by decide) (by decide) (by decide) c0
    rw [if_neg (nI_ge (show i < n by omega) (by omega)), if_neg (show ¬ u.1 1 = 0 from hne.1), if_neg (show ¬ M.1 36 = 0 from hne.2)]
    -- what goes on
    have go : ∀ A : Option (Int32 × St × St × St), (JF A (f_X10_item fu M) M ∨ JI fu h n b A (f_X10_item fu M) M pl) →
        JF (A.bind (fun z => f_X3_readItems_L134 (f_X3_readItems_L2 fu b q) fu b z.2.1 z.2.2.1 z.2.2.2 (nI n) (nI i) z.1)) ((f_X10_item fu M).bind (fun q_176 => if q_176.1 = 0 then (some (0, q_176.2)) else (f_X10_reads_L168 fu q' q_176.2))) M ∨
        ∃ r' u' d' M' : St, A.bind (fun z => f_X3_readItems_L134 (f_X3_readItems_L2 fu b q) fu b z.2.1 z.2.2.1 z.2.2.2 (nI n) (nI i) z.1) = some (1, r', u', d') ∧ (f_X10_item fu M).bind (fun q_176 => if q_176.1 = 0 then (some (0, q_176.2)) else (f_X10_reads_L168 fu q' q_176.2)) = some (1, M') ∧ RF r' M' ∧ PF M M' ∧ PP h n d' M' := by
      intro A hJ
      rcases hJ with ⟨r', u', d', M', a1, a2, a3, a4⟩ | ⟨r', u', d', M', kd', x', pl', bh', a1, a2, a3, a4, a5, a6, a7⟩
      · exact Or.inl ⟨r', u', d', M', bd a1 (ip rfl rfl), bd a2 (ip rfl rfl), a3, a4⟩
      · have hpl' := a5.1.2.2.2
        rw [a1, a2]
        unfold f_X3_readItems_L134
        rw [obs, obs, if_neg n10, if_neg n10, nI_1]
        dsimp only
        rcases ih q q' (i + 1) r' u' d' M' kd' x' pl' bh' (by omega) (by omega) (by omega) (by omega) (T.p a4) a5 a3 a7 with ⟨r2, u2, d2, M2, b1, b2, b3, b4⟩ | ⟨r2, u2, d2, M2, b1, b2, b3, b4, b5⟩
        · exact Or.inl ⟨r2, u2, d2, M2, b1, b2, b3, a4.trans b4⟩
        · exact Or.inr ⟨r2, u2, d2, M2, b1, b2, b3, a4.trans b4, b5⟩
    by_cases cI : kd = 1 ∧ 5 ≤ x
    · obtain ⟨rfl, hx1⟩ := cI
      have hx2 := (K.2.2.2.2.2.1 rfl).2.1
      have h567 : x = 5 ∨ x = 6 ∨ x = 7 := by omega
      rcases h567 with rfl | rfl | rfl
      · rw [K.yes (j := 4) (by decide), obs, if_neg n10, atC_b]; exact go _ (at_e C T hfu K hF hP)
      · rw [K.no (j := 4) (by decide) (fun q => absurd q.2 (by decide)), obs, if_pos z00, K.yes (j := 5) (by decide), obs, if_neg n10, blC_b]; exact go _ (blank_e C T hfu K hF hP)
      · rw [K.no (j := 4) (by decide) (fun q => absurd q.2 (by decide)), obs, if_pos z00, K.no (j := 5) (by decide) (fun q => absurd q.2 (by decide)), obs, if_pos z00, K.yes (j := 6) (by decide), obs, if_neg n10]; exact go _ (cut_e C T hfu K hF hP)
    · have nx : ∀ j, 4 ≤ j → ¬ (kd = 1 ∧ x = j + 1) := fun j hj q => cI ⟨q.1, by have := q.2; omega⟩
      have ei : f_X10_item fu M = some (0, sF (sF M 39 1) 40 (nI pl)) := by
        unfold f_X10_item f_X10_item_L16
        rw [hp.2.2.1]
        by_cases c1 : kd = 1
        · subst c1
          have he := K.eq (by decide)
          have h37 := (K.2.2.2.2.2.1 rfl)
          have hx5 : x < 5 := by
            rcases Nat.lt_or_ge x 5 with q | q
            · exact q
            · exact absurd ⟨rfl, q⟩ cI
          rw [if_pos (show M.1 36 = 1 from he.2), h37.2.2, if_neg (show ¬ (5 : Int32) ≤ nI x from nI_ge (a := x) (b := 5) hx5 (by decide))]
          exact bd rfl (ip isB_0 rfl)
        · have h36 := K.2.1.1
          rw [if_neg (show ¬ M.1 36 = 1 by rw [h36]; exact nI_neq (b := 1) (by have := K.2.1.2.1; omega) (by decide) c1)]
          exact bd rfl (ip isB_0 rfl)
      rw [K.no (j := 4) (by decide) (nx 4 (by decide)), obs, if_pos z00, K.no (j := 5) (by decide) (nx 5 (by decide)), obs, if_pos z00, K.no (j := 6) (by decide) (nx 6 (by decide)), obs, if_pos z00, ei, hp.2.1]
      exact Or.inl ⟨sF (sF r 0 1) 1 (nI pl), u, d, sF (sF M 39 1) 40 (nI pl), bd rfl (ip rfl rfl), bd rfl (ip rfl rfl), wrong_rf _ _ _ _, (wrong_nf _ _ _).pf⟩
end ITS
