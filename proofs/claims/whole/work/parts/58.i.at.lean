/-! an item on both sides -/
def atC (fu : Nat) (b2 : Nat → Int32) (u0 u1 u3 : St) : Option (Int32 × St × St × St) := (f_X3_readMark fu b2 u0 u1 u3).bind (fun q_30 => if q_30.1 = 0 then some (0, q_30.2.1, q_30.2.2.1, q_30.2.2.2) else ((f_X3_readStrings fu b2 q_30.2.1 q_30.2.2.1 q_30.2.2.2).bind (fun q_37 => if q_37.1 = 0 then some (0, q_37.2.1, q_37.2.2.1, q_37.2.2.2) else ((f_X3_readSemicolon fu b2 q_37.2.1 q_37.2.2.1).bind (fun q_44 => if q_44.1 = 0 then some (0, q_44.2.1, q_44.2.2, q_37.2.2.2) else ((f_X3_stringsFit fu q_44.2.2 b2 q_37.2.2.2 q_44.2.1).bind (fun q_51 => if q_51.1 = 0 then some (0, q_51.2, q_44.2.2, q_37.2.2.2) else some (1, q_51.2, q_44.2.2, q_37.2.2.2))))))))
def blC (fu : Nat) (b2 : Nat → Int32) (u0 u1 u3 : St) : Option (Int32 × St × St × St) := (f_X3_readMark fu b2 u0 u1 u3).bind (fun q_79 => if q_79.1 = 0 then some (0, q_79.2.1, q_79.2.2.1, q_79.2.2.2) else ((f_X3_readSemicolon fu b2 q_79.2.1 q_79.2.2.1).bind (fun q_86 => if q_86.1 = 0 then some (0, q_86.2.1, q_86.2.2, q_79.2.2.2) else some (1, q_86.2.1, q_86.2.2, q_79.2.2.2))))
theorem TK.m {fu : Nat} {h : Nat → Nat} {n : Nat} {b : Nat → Int32} {u M M' : St} {kd x pl bh : Nat} (e5 : M'.1 35 = M.1 35) (e6 : M'.1 36 = M.1 36) (e7 : M'.1 37 = M.1 37) (e8 : M'.1 38 = M.1 38) (K : TK fu h n b u M kd x pl bh) : TK fu h n b u M' kd x pl bh := by
  unfold TK at *
  rw [e5, e6, e7, e8]
  exact K
section ATE
variable {h : Nat → Nat} {n : Nat} {b : Nat → Int32} {fu : Nat}
theorem blank_e (C : CX h n b) {r u d M : St} (T : TM h n M) (hfu : 2000 ≤ fu) {pl bh : Nat} (K : TK fu h n b u M 1 6 pl bh) (hF : RF r M) (hP : PP h n d M) :
    JF (blC fu b r u d) (f_X10_item fu M) M ∨ JI fu h n b (blC fu b r u d) (f_X10_item fu M) M pl := by
  obtain ⟨tg, bt, cn, tt, im, w, v, cf, ct, bar, tm, fr, ns, hA, hB, hM, hX⟩ := hP
  have hp := K.1
  have he := K.eq (by decide)
  have h37 : M.1 37 = nI 6 := (K.2.2.2.2.2.1 rfl).2.2
  have h45 := hM.2.1.2.1
  unfold blC f_X10_item
  rw [if_pos (show M.1 36 = 1 from he.2), h37, if_pos (show (5 : Int32) ≤ nI 6 by decide), if_neg (show ¬ nI 6 = 7 by decide), h45]
  rcases mark_e C T hfu K hF hM with ⟨cF, e1⟩ | ⟨cF, r2, u2, M1, M2, e1, e2, e3, e4, e5⟩ | ⟨cF, r2, u2, M1, M2, y, kd2, x2, pl2, bh2, e1, e2, e3, e4, e5, e6, e7, ⟨y1, y2⟩, e8⟩
  · rw [cF, if_pos (show nI 40 = 40 from rfl), e1]
    unfold f_X10_item_L56
    rw [hp.2.2.1]
    exact Or.inl ⟨sF (sF r 0 2) 1 (nI pl), u, d, sF (sF M 39 2) 40 (nI pl), bd rfl (ip rfl rfl), bd rfl (ip isB_0 rfl), wrong_rf _ _ _ _, (wrong_nf _ _ _).pf⟩
  · rw [if_neg (show ¬ nI im = 40 from nI_neq (b := 40) (by omega) (by decide) (by omega)), e3]
    unfold f_X10_item_L66
    rw [e1, obs, obs, h37, if_neg (show ¬ nI 6 = 7 by decide), if_neg (show ¬ nI 6 = 5 by decide), e2, obs]
    exact Or.inl ⟨r2, u2, d, M2, ip rfl rfl, ip rfl rfl, e4, e5⟩
  · rw [if_neg (show ¬ nI im = 40 from nI_neq (b := 40) (by omega) (by decide) (by omega)), e3]
    unfold f_X10_item_L66
    have h45' : (sA M2 47 im (nI y)).1 45 = nI im := (e5.1 45 (by omega)).trans h45
    rw [e1, obs, obs, h37, if_neg (show ¬ nI 6 = 7 by decide), if_neg (show ¬ nI 6 = 5 by decide), e2, obs, if_neg n10, if_neg n10]
    dsimp only
    rw [h45', if_pos (inb_nI (show im < 40 by omega) (by decide)), cl_nI (show im < 2 ^ 31 by omega), nI_1]
    obtain ⟨M3, eM3⟩ : ∃ M3, M3 = sF (sA (sA M2 47 im (nI y)) 48 im (-1)) 45 (nI (im + 1)) := ⟨_, rfl⟩
    rw [← eM3]
    have pf3 : PF M M3 := by
      rw [eM3]
      exact ((e5.pf.trans (PF.a M2 (nI y) (by omega))).trans (PF.a _ (-1) (by omega))).trans (PF.f _ _ (by omega))
    have K3 : TK fu h n b u2 M3 kd2 x2 pl2 bh2 := by rw [eM3]; exact e6
    have F3 : RF r2 M3 := by rw [eM3]; exact e4
    rcases semi_e C (T.p pf3) hfu K3 F3 with ⟨-, r6, u6, M6, l1, l2, l3, l4, -⟩ | ⟨-, u6, M6, kd6, x6, pl6, bh6, l1, l2, l3, l4, l5, l6⟩
    · exact Or.inl ⟨r6, u6, _, M6, bd l1 (ip rfl rfl), bd l2 (ip isB_0 rfl), l3, pf3.trans l4.pf⟩
    · have hA3 : PA (sF (sA d 9 im (nI y)) 3 (nI (im + 1))) M3 tg bt w v := by
        rw [eM3]; exact PA.c (d := d) (M := M2) rfl rfl rfl rfl rfl rfl rfl rfl (PA.n e5 hA)
      have hB3 : PB (sF (sA d 9 im (nI y)) 3 (nI (im + 1))) M3 cn cf ct := by
        rw [eM3]; exact PB.c (d := d) (M := M2) rfl rfl rfl rfl rfl rfl (PB.n e5 hB)
      have hX3 : PX h n (sF (sA d 9 im (nI y)) 3 (nI (im + 1))) M3 tg tt w fr ns := by
        rw [eM3]; exact PX.c (d := d) (M := M2) rfl rfl rfl rfl (PX.n e5 hX)
      have hM2 := PM.n e5 hM
      obtain ⟨bar', b1', b2'⟩ : ∃ bar' : Nat → Nat, bar' im = y ∧ ∀ k, k ≠ im → bar' k = bar k := ⟨fun k => if k = im then y else bar k, if_pos rfl, fun k hk => if_neg hk⟩
      have hM3 : PM (sF (sA d 9 im (nI y)) 3 (nI (im + 1))) M3 tt (im + 1) bar' tm := by
        rw [eM3]
        obtain ⟨p1, p2, p3, p4, p5, p6⟩ := hM2
        refine ⟨⟨p1.1, p1.2.1, by have := p1.2.2; omega⟩, ⟨rfl, rfl, by omega⟩, fun k hk => ?_, fun k hk => ?_, fun t ht => ?_, fun k hk => ?_⟩
        · have q1 : (sF (sA d 9 im (nI y)) 3 (nI (im + 1))).2 9 k = if k = im then nI y else d.2 9 k := rfl
          have q2 : (sF (sA (sA M2 47 im (nI y)) 48 im (-1)) 45 (nI (im + 1))).2 47 k = if k = im then nI y else M2.2 47 k := rfl
          rw [q1, q2]
          by_cases c : k = im
          · rw [if_pos c, if_pos c, c, b1']; exact ⟨rfl, rfl, y1, y2⟩
          · rw [if_neg c, if_neg c, b2' k c]; exact p3 k (by omega)
        · by_cases c : k + 1 = im
          · rw [c, b1', b2' k (by omega)]
            have := e8 (by omega)
            rw [show im - 1 = k by omega] at this
            exact this
          · rw [b2' k (by omega), b2' (k + 1) c]; exact p4 k (by omega)
        · obtain ⟨z1, z2, z3⟩ := p5 t ht
          have q2 : (sF (sA (sA M2 47 im (nI y)) 48 im (-1)) 45 (nI (im + 1))).2 48 (tm t) = if tm t = im then -1 else M2.2 48 (tm t) := rfl
          rw [q2, if_neg (by omega)]
          exact ⟨z1, by omega, z3⟩
        · have q2 : (sF (sA (sA M2 47 im (nI y)) 48 im (-1)) 45 (nI (im + 1))).2 48 k = if k = im then -1 else M2.2 48 k := rfl
          rw [q2]
          by_cases c : k = im
          · rw [if_pos c]; exact Or.inr rfl
          · rw [if_neg c]; exact p6 k (by omega)
      exact Or.inr ⟨r2, u6, _, M6, kd6, x6, pl6, bh6, bd l1 (iN n10 rfl), bd l2 (ip isB_1 rfl), l3, pf3.trans l4.nf.pf, l5, by omega, tg, bt, cn, tt, im + 1, w, v, cf, ct, bar', tm, fr, ns, PA.n l4.nf hA3, PB.n l4.nf hB3, PM.n l4.nf hM3, PX.n l4.nf hX3⟩
/-- the first string of a title -/
theorem first_e (C : CX h n b) {r u d M : St} (T : TM h n M) (hfu : 2000 ≤ fu) {kd x pl bh tg bt tt im : Nat} {w v : Nat → Nat} (K : TK fu h n b u M kd x pl bh) (hF : RF r M) (hA : PA d M tg bt w v) (h1 : d.1 1 = nI tt) (h3 : d.1 3 = nI (im + 1)) (hti : tt ≤ im) (hi : im < 40) (h46 : M.1 46 = nI tt) :
    JF (f_X3_readStrings fu b r u d) (f_X10_title_L13 fu fu M 0 1) M ∨
    ∃ (u' d' M' : St) (kd' x' pl' bh' j' : Nat) (fr' ns' : Nat → Nat), f_X3_readStrings fu b r u d = some (1, r, u', d') ∧ f_X10_title_L13 fu fu M 0 1 = f_X10_title_L156 fu fu M' (nI j') ∧ RF r M' ∧ TK fu h n b u' M' kd' x' pl' bh' ∧ pl ≤ pl' ∧ kd' ≠ 4 ∧ (1 ≤ j' ∧ j' ≤ tg) ∧ ST h n d' M' tt j' fr' ns' ∧ SFr tt (sF (sA d 10 tt (nI im)) 1 (nI (tt + 1))) d' ∧ MFr tt M M' := by
  obtain ⟨f0, rfl⟩ : ∃ z, fu = z + 1 := ⟨fu - 1, by omega⟩
  have hg := hA.1
  have hn := C.1
  have hp := K.1
  unfold f_X3_readStrings
  rw [f_X10_title_L13, if_neg n10]
  by_cases c : kd = 4
  case neg =>
    have hne := K.ne (k := 4) (by decide) (by decide) (by decide) c
    rw [if_neg (show ¬ M.1 36 = 4 from hne.2), hp.2.2.1]
    unfold f_X3_readStrings_L42
    rw [hp.2.1]
    exact Or.inl ⟨sF (sF r 0 1) 1 (nI pl), u, d, sF (sF M 39 1) 40 (nI pl), bd rfl (bd rfl (iN (show ¬ u.1 1 = 4 from hne.1) (bd rfl (ip isB_0 rfl)))), bd rfl (ip isB_0 rfl), wrong_rf _ _ _ _, (wrong_nf _ _ _).pf⟩
  subst c
  have he := K.eq (by decide)
  obtain ⟨s1, s2, s3, s4, s5, s6, s7, s8⟩ := str_tok C T hfu K
  rw [if_pos (show M.1 36 = 4 from he.2), s1, s2, obs, obs, if_pos (show u.1 1 = 4 from he.1), s3, s4]
  have bad : f_X8_areProper (f0 + 1) b (nI (pl + 1)) (nI (bh - pl - 2)) = some 0 → ∀ B, B = f_X10_title_L69 (f0 + 1) M → JF ((f_X8_areProper (f0 + 1) b (nI (pl + 1)) (nI (bh - pl - 2))).bind (fun q_36 => if q_36 = 0 then (f_X3_readStrings_L42 (f0 + 1) b r u d) else ((f_X5_addTitle (f0 + 1) d (nI (pl + 1)) (nI (bh - pl - 2))).bind (fun q_61 => (f_X4_step (f0 + 1) b u).bind (fun q_68 => f_X3_readStrings_L73 (f0 + 1) b (f0 + 1) r q_68 q_61 1))))) B M := by
    intro z B hB
    rw [hB, z]
    unfold f_X3_readStrings_L42 f_X10_title_L69
    rw [hp.2.1, hp.2.2.1]
    exact ⟨sF (sF r 0 1) 1 (nI pl), u, d, sF (sF M 39 1) 40 (nI pl), bd rfl (ip rfl (bd rfl (ip isB_0 rfl))), bd rfl (ip isB_0 rfl), wrong_rf _ _ _ _, (wrong_nf _ _ _).pf⟩
  by_cases c0 : bh - pl - 2 = 0
  · obtain ⟨z1, z2⟩ := s8 c0
    exact Or.inl (bad z1 _ (bd z2 (iN n10 (ip rfl (ip (by rw [c0]; rfl) rfl)))))
  by_cases cP : PrpA (fun i => h (pl + 1 + i)) (bh - pl - 2)
  case neg =>
    obtain ⟨z1, z2⟩ := s7 (by omega) cP
    exact Or.inl (bad z1 _ (bd z2 (ip rfl rfl)))
  obtain ⟨z1, z2⟩ := s6 cP
  rw [z1, z2, obs, obs, if_neg n10, if_neg n10, if_pos z00, if_neg (show ¬ nI (bh - pl - 2) = 0 from nI_neq (b := 0) (by omega) (by decide) c0)]
  obtain ⟨d2, a1, a2, a3⟩ := addTitle_e (fu := f0 + 1) hfu h1 h3 hti hi (nI (pl + 1)) (nI (bh - pl - 2))
  have eκ : (4 * nI tt + 0 : Int32) = nI (4 * tt) := by
    rw [show (4 * nI tt : Int32) = nI (4 * tt) from pk_mul 4 tt]; exact nI_add (4 * tt) 0
  obtain ⟨M1, eM1⟩ : ∃ M1, M1 = sA (sA M 52 (4 * tt) (nI (pl + 1))) 53 (4 * tt) (nI (bh - pl - 2)) := ⟨_, rfl⟩
  have mf1 : MFr tt M M1 := by rw [eM1]; exact (MFr.a tt M _ (by omega) (by omega)).trans (MFr.a tt _ _ (by omega) (by omega))
  have K1 : TK (f0 + 1) h n b u M1 4 x pl bh := by rw [eM1]; exact K
  have F1 : RF r M1 := by rw [eM1]; exact hF
  obtain ⟨u2, M2, kd2, x2, pl2, bh2, e1, e2, e3, e4, e5⟩ := step_e C (T.p mf1.pf) hfu K1 (by decide) (by decide)
  have mf2 := mf1.trans (e5.mfr tt)
  have w79 : ∀ Kx : St → Int32 → Int32 → Option (Int32 × St), f_X10_title_L79 Kx (f0 + 1) M 0 (nI (bh - pl - 2)) = Kx M2 (nI 1) (if kd2 = 4 then 1 else 0) := by
    intro Kx
    unfold f_X10_title_L79
    rw [hg.2.1, if_neg (show ¬ (0 : Int32) = nI tg from fun e => nI_neq (a := 0) (b := tg) (by decide) (by omega) (by omega) e), h46, eκ, if_pos (inb_nI (show 4 * tt < 160 by omega) (by decide)), if_pos (inb_nI (show 4 * tt < 160 by omega) (by decide)), cl_nI (show 4 * tt < 2 ^ 31 by omega), s3, ← eM1, e2, obs]
    by_cases c2 : kd2 = 4
    · rw [if_pos c2, if_pos (show M2.1 36 = 4 by rw [e3.2.1.1, c2]; rfl)]; rfl
    · rw [if_neg c2, if_neg (show ¬ M2.1 36 = 4 by rw [e3.2.1.1]; exact nI_neq (b := 4) (by have := e3.2.1.2.1; omega) (by decide) c2)]; rfl
  have g53 : M2.2 53 (4 * tt) = nI (bh - pl - 2) := by rw [e5.2, eM1, sA_2i, if_pos rfl, if_pos rfl]
  have g52 : M2.2 52 (4 * tt) = nI (pl + 1) := by rw [e5.2, eM1, sA_2i, if_neg (by decide), sA_2i, if_pos rfl, if_pos rfl]
  have hA2 : PA d2 M2 tg bt w v := PA.c (d := d) (M := M) (by rw [a3.1]; rfl) (by rw [a3.1]; rfl) (by rw [a3.2.1 5 (by decide) (by decide)]; rfl) (by rw [a3.2.1 6 (by decide) (by decide)]; rfl) (mf2.1 41 (by decide) (by decide) (by decide) (by decide)) (mf2.1 44 (by decide) (by decide) (by decide) (by decide)) (mf2.2.1 42 (by decide) (by decide)) (mf2.2.1 43 (by decide) (by decide)) hA
  have hS2 : ST h n d2 M2 tt 1 (fun _ => pl + 1) (fun _ => bh - pl - 2) := by
    refine ⟨fun g hg2 => ⟨a2 g hg2, ⟨s5, Nat.le_add_left 1 pl⟩, cP⟩, fun g hg2 => Or.inl ?_, fun _ _ _ => ⟨rfl, rfl⟩⟩
    rw [show g = 0 by omega]
    exact ⟨g53, g52⟩
  rw [a1, e1, obs, obs, w79]
  rcases strs_e C hfu (tg := tg) (tt := tt) (bt := bt) (w := w) (v := v) (show tt < 40 by omega) (tg - 1) (f0 + 1) f0 1 r u2 d2 M2 kd2 x2 pl2 bh2 _ _ (by omega) (by omega) (by omega) (by omega) (T.p mf2.pf) e3 (F1.n e5) hA2 (by rw [a3.1]; rfl) ((mf2.1 46 (by decide) (by decide) (by decide) (by decide)).trans h46) hS2 with ⟨r3, u3, d3, M3, b1, b2, b3, b4⟩ | ⟨u3, d3, M3, kd3, x3, pl3, bh3, j3, fr3, ns3, b1, b2, b3, b4, b5, b6, b7, b8, b9, b10⟩
  · exact Or.inl ⟨r3, u3, d3, M3, b1, b2, b3, mf2.pf.trans b4⟩
  · exact Or.inr ⟨u3, d3, M3, kd3, x3, pl3, bh3, j3, fr3, ns3, b1, b2, b3, b4, by omega, b6, b7, b8, a3.trans b9, mf2.trans b10⟩
end ATE
