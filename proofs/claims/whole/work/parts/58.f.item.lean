/-! cuts and marks on both sides -/
/-- the half-read text on both sides -/
def PP (h : Nat → Nat) (n : Nat) (d M : St) : Prop := ∃ (tg bt cn tt im : Nat) (w v cf ct bar tm fr ns : Nat → Nat), PA d M tg bt w v ∧ PB d M cn cf ct ∧ PM d M tt im bar tm ∧ PX h n d M tg tt w fr ns
def JI (fu : Nat) (h : Nat → Nat) (n : Nat) (b : Nat → Int32) (A : Option (Int32 × St × St × St)) (B : Option (Int32 × St)) (M : St) (pl : Nat) : Prop :=
  ∃ (r' u' d' M' : St) (kd' x' pl' bh' : Nat), A = some (1, r', u', d') ∧ B = some (1, M') ∧ RF r' M' ∧ PF M M' ∧ TK fu h n b u' M' kd' x' pl' bh' ∧ pl < pl' ∧ PP h n d' M'
section ITM
variable {h : Nat → Nat} {n : Nat} {b : Nat → Int32} {fu : Nat}
theorem cut_e (C : CX h n b) {r u d M : St} (T : TM h n M) (hfu : 2000 ≤ fu) {pl bh : Nat} (K : TK fu h n b u M 1 7 pl bh) (hF : RF r M) (hP : PP h n d M) :
    JF (f_X3_readCut fu b r u d) (f_X10_item fu M) M ∨ JI fu h n b (f_X3_readCut fu b r u d) (f_X10_item fu M) M pl := by
  obtain ⟨tg, bt, cn, tt, im, w, v, cf, ct, bar, tm, fr, ns, hA, hB, hM, hX⟩ := hP
  have hp := K.1
  have he := K.eq (by decide)
  have h37 : M.1 37 = nI 7 := (K.2.2.2.2.2.1 rfl).2.2
  obtain ⟨⟨c1, c2, c3⟩, hk⟩ := id hB
  unfold f_X3_readCut f_X10_item f_X5_isFullOfCuts
  rw [if_pos (show M.1 36 = 1 from he.2), h37, if_pos (show (5 : Int32) ≤ nI 7 by decide), if_pos (show nI 7 = 7 from rfl), c1, c2]
  by_cases cF : cn = 8
  · rw [cF, if_neg (show ¬ nI 8 < 8 by decide), if_pos (show nI 8 = 8 from rfl)]
    unfold f_X10_item_L56
    rw [hp.2.1, hp.2.2.1]
    exact Or.inl ⟨sF (sF r 0 2) 1 (nI pl), u, d, sF (sF M 39 2) 40 (nI pl), bd rfl (iN n10 (bd rfl (ip isB_0 rfl))), bd rfl (ip isB_0 rfl), wrong_rf _ _ _ _, (wrong_nf _ _ _).pf⟩
  rw [if_pos (show nI cn < 8 from nI_lt (b := 8) (by omega) (by decide)), if_neg (show ¬ nI cn = 8 from nI_neq (b := 8) (by omega) (by decide) cF), obs, if_pos z00]
  unfold f_X10_item_L66
  obtain ⟨u1, M1, kd1, x1, pl1, bh1, e1, e2, e3, e4, e5⟩ := step_e C T hfu K (by decide) (by decide)
  have T1 := T.p e5.nf.pf
  rw [e1, e2, obs, obs, h37, if_pos (show nI 7 = 7 from rfl)]
  have hp1 := e3.1
  unfold f_X10_cutItem
  by_cases cN : kd1 = 2
  case neg =>
    have hne := e3.ne (k := 2) (by decide) (by decide) (by decide) cN
    rw [if_neg (show ¬ u1.1 1 = 2 from hne.1), if_neg (show ¬ M1.1 36 = 2 from hne.2), hp1.2.1, hp1.2.2.1]
    exact Or.inl ⟨sF (sF r 0 1) 1 (nI pl1), u1, d, sF (sF M1 39 1) 40 (nI pl1), bd rfl (ip isB_0 rfl), bd (bd rfl (ip isB_0 rfl)) (ip isB_0 rfl), wrong_rf _ _ _ _, (e5.nf.trans (wrong_nf _ _ _)).pf⟩
  subst cN
  have he1 := e3.eq (by decide)
  obtain ⟨x8, y1, y2⟩ := e3.2.2.2.2.2.2.1 rfl
  have hB1 := PB.n e5.nf hB
  obtain ⟨hk1, hk2, hk3⟩ := hB1.2 x1 x8
  rw [if_pos (show u1.1 1 = 2 from he1.1), if_pos (show M1.1 36 = 2 from he1.2), y1, y2, if_pos (inb_nI x8 (by decide)), cl_nI (show x1 < 2 ^ 31 by omega), hk2]
  have hC : f_X5_hasCut fu d (nI x1) = some (if ct x1 = 0 then 0 else 1) := by
    unfold f_X5_hasCut
    rw [if_neg (nI_pos (show x1 < 2 ^ 31 by omega)), if_neg (show ¬ (8 : Int32) ≤ nI x1 from nI_ge (a := x1) (b := 8) x8 (by decide)), if_pos (inb_nI x8 (by decide)), cl_nI (show x1 < 2 ^ 31 by omega), hk1]
    by_cases c : ct x1 = 0
    · rw [if_pos c, c]; exact if_pos (by decide)
    · rw [if_neg c]; exact if_neg (nI_nle (by omega) (by rcases hk3 with q | q <;> omega))
  rw [hC, obs]
  by_cases cT : ct x1 = 0
  case neg =>
    rw [if_neg cT, if_neg n10, if_neg (nI_nle (show 0 < ct x1 by omega) (by rcases hk3 with q | q <;> omega)), hp1.2.1, hp1.2.2.1]
    exact Or.inl ⟨sF (sF r 0 3) 1 (nI pl1), u1, d, sF (sF M1 39 3) 40 (nI pl1), bd rfl (ip isB_0 rfl), bd (bd rfl (ip isB_0 rfl)) (ip isB_0 rfl), wrong_rf _ _ _ _, (e5.nf.trans (wrong_nf _ _ _)).pf⟩
  rw [if_pos cT, if_pos z00, cT, if_pos (show nI 0 ≤ 0 by decide)]
  obtain ⟨u2, M2, kd2, x2, pl2, bh2, f1, f2, f3, f4, f5⟩ := step_e C T1 hfu e3 (by decide) (by decide)
  have T2 := T1.p f5.nf.pf
  have nf2 := e5.nf.trans f5.nf
  rw [f1, f2, obs, obs]
  rcases num_e C T2 hfu f3 ((hF.n e5).n f5) 1 999 (by omega) with ⟨r3, u3, M3, g1, g2, g3, g4⟩ | ⟨r3, u3, M3, y, kd3, x3, pl3, bh3, g1, g2, g3, g4, g5, g6, ⟨g7, g7'⟩, g8, g9, g10⟩
  · exact Or.inl ⟨r3, u3, d, M3, bd g1 (ip rfl rfl), bd (bd g2 (ip rfl rfl)) (ip isB_0 rfl), g3, (nf2.trans g4).pf⟩
  have T3 := T2.p g4.pf
  have A1 : f_X3_readNumber fu b r u2 1 999 = some (1, r3, u3) := g1
  have B1 : f_X10_number fu M2 1 999 = some (1, M3) := g2
  rw [A1, B1, obs, obs, if_neg n10, if_neg n10]
  dsimp only
  have hp3 := g5.1
  rw [g8, g10, hp3.2.2.1]
  rcases num_e C T3 hfu g5 g3 1 999 (by omega) with ⟨r4, u4, M4, k1, k2, k3, k4⟩ | ⟨r4, u4, M4, z, kd4, x4, pl4, bh4, k1, k2, k3, k4, k5, k6, ⟨k7, k7'⟩, k8, k9, k10⟩
  · exact Or.inl ⟨r4, u4, d, M4, bd k1 (ip rfl rfl), bd (bd k2 (ip rfl rfl)) (ip isB_0 rfl), k3, ((nf2.trans g4).trans k4).pf⟩
  have T4 := T3.p k4.pf
  have A2 : f_X3_readNumber fu b r3 u3 1 999 = some (1, r4, u4) := k1
  have B2 : f_X10_number fu M3 1 999 = some (1, M4) := k2
  have nf4 := (nf2.trans g4).trans k4
  rw [A2, B2, obs, obs, if_neg n10, if_neg n10]
  dsimp only
  rw [k8, k9, k10]
  by_cases cO : y < z
  case neg =>
    rw [if_neg (nI_nlt (show z ≤ y by omega) (by omega)), if_neg (nI_nlt (show z ≤ y by omega) (by omega))]
    exact Or.inl ⟨sF (sF r4 0 3) 1 (nI pl3), u4, d, sF (sF M4 39 3) 40 (nI pl3), bd rfl (ip isB_0 rfl), bd (bd rfl (ip isB_0 rfl)) (ip isB_0 rfl), wrong_rf _ _ _ _, (nf4.trans (wrong_nf _ _ _)).pf⟩
  have h51 : M4.1 51 = nI cn := (nf4.1 51 (by omega)).trans c2
  rw [if_pos (nI_lt cO (by omega)), if_pos (nI_lt cO (by omega)), if_pos (inb_nI x8 (by decide)), if_pos (inb_nI x8 (by decide)), h51, nI_1]
  have hAC : f_X5_addCut fu d (nI x1) (nI y) (nI z) = some (sF (sA (sA d 7 x1 (nI y)) 8 x1 (nI z)) 2 (nI (cn + 1))) := by
    unfold f_X5_addCut
    rw [if_neg (nI_pos (show x1 < 2 ^ 31 by omega)), if_neg (show ¬ (8 : Int32) ≤ nI x1 from nI_ge (a := x1) (b := 8) x8 (by decide)), if_pos (inb_nI x8 (by decide)), if_pos (inb_nI x8 (by decide)), cl_nI (show x1 < 2 ^ 31 by omega), c1, nI_1]
  rw [hAC, obs]
  obtain ⟨M5, e5M⟩ : ∃ M5, M5 = sF (sA (sA M4 49 x1 (nI y)) 50 x1 (nI z)) 51 (nI (cn + 1)) := ⟨_, rfl⟩
  rw [← e5M]
  have pf5 : PF M M5 := by
    rw [e5M]
    exact ((nf4.pf.trans (PF.a M4 (nI y) (by omega))).trans (PF.a _ (nI z) (by omega))).trans (PF.f _ _ (by omega))
  have T5 : TM h n M5 := T.p pf5
  have K5 : TK fu h n b u4 M5 kd4 x4 pl4 bh4 := by rw [e5M]; exact k5
  have F5 : RF r4 M5 := by rw [e5M]; exact k3
  rcases semi_e C T5 hfu K5 F5 with ⟨-, r6, u6, M6, l1, l2, l3, l4, -⟩ | ⟨-, u6, M6, kd6, x6, pl6, bh6, l1, l2, l3, l4, l5, l6⟩
  · exact Or.inl ⟨r6, u6, _, M6, bd l1 (ip isB_0 rfl), bd (bd l2 (ip isB_0 rfl)) (ip isB_0 rfl), l3, pf5.trans l4.pf⟩
  · have hA5 : PA (sF (sA (sA d 7 x1 (nI y)) 8 x1 (nI z)) 2 (nI (cn + 1))) M5 tg bt w v := by
      rw [e5M]; exact PA.c (d := d) (M := M4) rfl rfl rfl rfl rfl rfl rfl rfl (PA.n nf4 hA)
    have hM5 : PM (sF (sA (sA d 7 x1 (nI y)) 8 x1 (nI z)) 2 (nI (cn + 1))) M5 tt im bar tm := by
      rw [e5M]; exact PM.c (d := d) (M := M4) rfl rfl rfl rfl rfl rfl rfl rfl (PM.n nf4 hM)
    have hX5 : PX h n (sF (sA (sA d 7 x1 (nI y)) 8 x1 (nI z)) 2 (nI (cn + 1))) M5 tg tt w fr ns := by
      rw [e5M]; exact PX.c (d := d) (M := M4) rfl rfl rfl rfl (PX.n nf4 hX)
    have hB4 := PB.n nf4 hB
    have hB5 : PB (sF (sA (sA d 7 x1 (nI y)) 8 x1 (nI z)) 2 (nI (cn + 1))) M5 (cn + 1) (fun k => if k = x1 then y else cf k) (fun k => if k = x1 then z else ct k) := by
      rw [e5M]
      refine ⟨⟨rfl, rfl, by omega⟩, fun k hk8 => ?_⟩
      have h9 := hB4.2 k hk8
      have q1 : (sF (sA (sA d 7 x1 (nI y)) 8 x1 (nI z)) 2 (nI (cn + 1))).2 8 k = if k = x1 then nI z else d.2 8 k := rfl
      have q2 : (sF (sA (sA d 7 x1 (nI y)) 8 x1 (nI z)) 2 (nI (cn + 1))).2 7 k = if k = x1 then nI y else d.2 7 k := rfl
      have q3 : (sF (sA (sA M4 49 x1 (nI y)) 50 x1 (nI z)) 51 (nI (cn + 1))).2 50 k = if k = x1 then nI z else M4.2 50 k := rfl
      have q4 : (sF (sA (sA M4 49 x1 (nI y)) 50 x1 (nI z)) 51 (nI (cn + 1))).2 49 k = if k = x1 then nI y else M4.2 49 k := rfl
      rw [q1, q2, q3, q4]
      by_cases cx : k = x1
      · simp only [if_pos cx]; exact ⟨trivial, trivial, Or.inr ⟨trivial, trivial, cO, k7'⟩⟩
      · simp only [if_neg cx]; exact h9
    exact Or.inr ⟨r4, u6, _, M6, kd6, x6, pl6, bh6, bd l1 (ip isB_1 rfl), bd (bd l2 (ip isB_1 rfl)) (ip isB_1 rfl), l3, pf5.trans l4.nf.pf, l5, by omega, tg, bt, cn + 1, tt, im, w, v, _, _, bar, tm, fr, ns, PA.n l4.nf hA5, PB.n l4.nf hB5, PM.n l4.nf hM5, PX.n l4.nf hX5⟩
/-- the last bar -/
theorem latestBar_e {d M : St} {tt im : Nat} {bar tm : Nat → Nat} (hM : PM d M tt im bar tm) (fu : Nat) : f_X5_latestBar fu d = some (nI (if im = 0 then 0 else bar (im - 1))) := by
  obtain ⟨-, ⟨h1, -, h2⟩, h3, -⟩ := hM
  unfold f_X5_latestBar f_X5_barOfMark
  rw [h1]
  by_cases c : im = 0
  · rw [if_pos c, c]; exact bd (if_pos (by decide)) rfl
  · have h9 := h3 (im - 1) (by omega)
    rw [if_neg c, show (nI im - 1 : Int32) = nI (im - 1) from pk_sub (b := 1) (by omega)]
    refine bd (iN (nI_pos (by omega)) (iN (nI_ge (by omega) (by omega)) (iN (nI_ge (a := im - 1) (b := 40) (by omega) (by decide)) ?_))) rfl
    rw [if_pos (inb_nI (show im - 1 < 40 by omega) (by decide)), cl_nI (by omega), h9.1]
/-- a mark on both sides -/
theorem mark_e (C : CX h n b) {r u d M : St} (T : TM h n M) (hfu : 2000 ≤ fu) {x pl bh tt im : Nat} {bar tm : Nat → Nat} (K : TK fu h n b u M 1 x pl bh) (hF : RF r M) (hM : PM d M tt im bar tm) :
    (im = 40 ∧ f_X3_readMark fu b r u d = some (0, sF (sF r 0 2) 1 (nI pl), u, d)) ∨
    (im < 40 ∧ ∃ r' u' M1 M' : St, f_X10_take fu M = some M1 ∧ f_X10_bar fu M1 = some (0, M') ∧ f_X3_readMark fu b r u d = some (0, r', u', d) ∧ RF r' M' ∧ PF M M') ∨
    (im < 40 ∧ ∃ (r' u' M1 M2 : St) (y kd' x' pl' bh' : Nat), f_X10_take fu M = some M1 ∧ f_X10_bar fu M1 = some (1, sA M2 47 im (nI y)) ∧ f_X3_readMark fu b r u d = some (1, r', u', sF (sA d 9 im (nI y)) 3 (nI (im + 1))) ∧ RF r' M2 ∧ NF M M2 ∧ TK fu h n b u' M2 kd' x' pl' bh' ∧ pl < pl' ∧ (1 ≤ y ∧ y ≤ 999) ∧ (0 < im → bar (im - 1) < y)) := by
  have hp := K.1
  obtain ⟨-, ⟨m1, m2, m3⟩, m4, -⟩ := id hM
  unfold f_X3_readMark f_X5_isFullOfMarks
  rw [m1]
  by_cases cF : im = 40
  · refine Or.inl ⟨cF, ?_⟩
    rw [cF, if_neg (show ¬ nI 40 < 40 by decide), hp.2.1]
    exact bd rfl (iN n10 (bd rfl (ip isB_0 rfl)))
  refine Or.inr ?_
  rw [if_pos (show nI im < 40 from nI_lt (b := 40) (by omega) (by decide)), obs, if_pos z00]
  obtain ⟨u1, M1, kd1, x1, pl1, bh1, e1, e2, e3, e4, e5⟩ := step_e C T hfu K (by decide) (by decide)
  have T1 := T.p e5.nf.pf
  have hp1 := e3.1
  rw [e1, obs]
  rcases num_e C T1 hfu e3 (hF.n e5) 1 999 (by omega) with ⟨r3, u3, M3, g1, g2, g3, g4⟩ | ⟨r3, u3, M3, y, kd3, x3, pl3, bh3, g1, g2, g3, g4, g5, g6, ⟨g7, g7'⟩, g8, g9, g10⟩
  · exact Or.inl ⟨by omega, r3, u3, M1, M3, e2, bd g2 (ip rfl rfl), bd g1 (ip rfl rfl), g3, (e5.nf.trans g4).pf⟩
  have A1 : f_X3_readNumber fu b r u1 1 999 = some (1, r3, u3) := g1
  have B1 : f_X10_number fu M1 1 999 = some (1, M3) := g2
  have nf3 := e5.nf.trans g4
  have hM3 := PM.n nf3 hM
  have h45 : M3.1 45 = nI im := hM3.2.1.2.1
  have eb : f_X10_bar fu M1 = (if nI im ≤ 0 then (f_X10_bar_L50 fu M3) else (if inb (nI im - 1) 40 = true then (if (M3.2 47 (nI im - 1).toNatClampNeg) < nI y then (f_X10_bar_L50 fu M3) else ((f_X10_wrong fu M3 3 (nI pl1)).bind (fun q_46 => if isB q_46.1 = true then (some (q_46.1, q_46.2)) else none))) else none)) := by
    unfold f_X10_bar
    rw [B1, obs, if_neg n10]
    dsimp only
    rw [h45, g10, hp1.2.2.1]
  have e50 : f_X10_bar_L50 fu M3 = some (1, sA M3 47 im (nI y)) := by
    unfold f_X10_bar_L50
    rw [h45, if_pos (inb_nI (show im < 40 by omega) (by decide)), cl_nI (show im < 2 ^ 31 by omega), g10]
  rw [A1, obs, if_neg n10]
  dsimp only
  rw [latestBar_e hM fu, obs, g8, g9]
  have hAM : f_X5_addMark fu d (nI y) = some (sF (sA d 9 im (nI y)) 3 (nI (im + 1))) := by
    unfold f_X5_addMark f_X5_isFullOfMarks
    rw [m1]
    refine bd (if_pos (show nI im < 40 from nI_lt (b := 40) (by omega) (by decide))) (ip rfl ?_)
    rw [if_pos (inb_nI (show im < 40 by omega) (by decide)), cl_nI (show im < 2 ^ 31 by omega), nI_1]
  have ok : (0 < im → bar (im - 1) < y) → nI (if im = 0 then 0 else bar (im - 1)) < nI y ∧ f_X10_bar fu M1 = some (1, sA M3 47 im (nI y)) := by
    intro ho
    by_cases c : im = 0
    · rw [if_pos c]
      exact ⟨nI_lt (by omega) (by omega), by rw [eb, c]; rw [c] at e50; exact (if_pos (by decide)).trans e50⟩
    · have h9 := hM3.2.2.1 (im - 1) (by omega)
      have h8 := ho (by omega)
      rw [if_neg c]
      refine ⟨nI_lt h8 (by omega), ?_⟩
      rw [eb, if_neg (nI_nle (by omega) (by omega)), show (nI im - 1 : Int32) = nI (im - 1) from pk_sub (b := 1) (by omega), if_pos (inb_nI (show im - 1 < 40 by omega) (by decide)), cl_nI (by omega), h9.2.1, if_pos (nI_lt h8 (by omega))]
      exact e50
  by_cases cO : 0 < im → bar (im - 1) < y
  · obtain ⟨o1, o2⟩ := ok cO
    rw [if_pos o1, hAM]
    exact Or.inr ⟨by omega, r3, u3, M1, M3, y, kd3, x3, pl3, bh3, e2, o2, bd rfl rfl, g3, nf3, g5, by omega, ⟨g7, g7'⟩, cO⟩
  · have hi : 0 < im := Nat.pos_of_ne_zero (fun e => cO (fun q => by omega))
    have ho : y ≤ bar (im - 1) := by
      rcases Nat.lt_or_ge (bar (im - 1)) y with q | q
      · exact absurd (fun _ => q) cO
      · exact q
    have h9 := hM3.2.2.1 (im - 1) (by omega)
    rw [if_neg (show ¬ im = 0 by omega), if_neg (nI_nlt ho (by omega))]
    refine Or.inl ⟨by omega, sF (sF r3 0 3) 1 (nI pl1), u3, M1, sF (sF M3 39 3) 40 (nI pl1), e2, ?_, bd rfl (ip isB_0 rfl), wrong_rf _ _ _ _, (nf3.trans (wrong_nf _ _ _)).pf⟩
    rw [eb, if_neg (nI_nle (by omega) (by omega)), show (nI im - 1 : Int32) = nI (im - 1) from pk_sub (b := 1) (by omega), if_pos (inb_nI (show im - 1 < 40 by omega) (by decide)), cl_nI (by omega), h9.2.1, if_neg (nI_nlt ho (by omega))]
    exact bd rfl (ip isB_0 rfl)
end ITM
