/-! settings on both sides -/
def P0 (d M : St) : Prop := (d.1 1 = 0 ∧ d.1 2 = 0 ∧ d.1 3 = 0) ∧ (M.1 45 = 0 ∧ M.1 46 = 0 ∧ M.1 51 = 0) ∧ ∀ k, k < 8 → d.2 8 k = 0 ∧ M.2 50 k = 0
theorem P0.c {d d' M M' : St} (e1 : d'.1 1 = d.1 1) (e2 : d'.1 2 = d.1 2) (e3 : d'.1 3 = d.1 3) (e8 : d'.2 8 = d.2 8) (f5 : M'.1 45 = M.1 45) (f6 : M'.1 46 = M.1 46) (f1 : M'.1 51 = M.1 51) (f0 : M'.2 50 = M.2 50) (a : P0 d M) : P0 d' M' := by
  unfold P0 at *
  rw [e1, e2, e3, e8, f5, f6, f1, f0]
  exact a
/-- both sides end with the same fault -/
def JF (A : Option (Int32 × St × St × St)) (B : Option (Int32 × St)) (M : St) : Prop := ∃ r' u' d' M' : St, A = some (0, r', u', d') ∧ B = some (0, M') ∧ RF r' M' ∧ PF M M'
theorem obs {α β : Type} (a : α) (f : α → Option β) : (some a).bind f = f a := rfl
theorem n10 : ¬ (1 : Int32) = 0 := by decide
theorem z00 : (0 : Int32) = 0 := rfl
theorem TK.no {fu : Nat} {h : Nat → Nat} {n : Nat} {b : Nat → Int32} {u M : St} {kd x pl bh : Nat} (K : TK fu h n b u M kd x pl bh) {j : Nat} (hj : j < 7) (hne : ¬ (kd = 1 ∧ x = j + 1)) : f_X4_isWord fu j u b = some 0 := by rw [K.2.2.1 j hj, if_neg hne]
theorem TK.yes {fu : Nat} {h : Nat → Nat} {n : Nat} {b : Nat → Int32} {u M : St} {j pl bh : Nat} (K : TK fu h n b u M 1 (j + 1) pl bh) (hj : j < 7) : f_X4_isWord fu j u b = some 1 := by rw [K.2.2.1 j hj, if_pos ⟨rfl, rfl⟩]
section SET
variable {h : Nat → Nat} {n : Nat} {b : Nat → Int32} {fu : Nat}
/-- a setting is read on both sides -/
def JS (fu : Nat) (h : Nat → Nat) (n : Nat) (b : Nat → Int32) (A : Option (Int32 × St × St × St)) (B : Option (Int32 × St)) (M : St) (tg pl : Nat) : Prop :=
  ∃ (r' u' d' M' : St) (kd' x' pl' bh' bt' : Nat) (w' v' : Nat → Nat), A = some (1, r', u', d') ∧ B = some (1, M') ∧ RF r' M' ∧ PF M M' ∧ TK fu h n b u' M' kd' x' pl' bh' ∧ pl < pl' ∧ PA d' M' tg bt' w' v' ∧ P0 d' M'
theorem setW_e (C : CX h n b) {r u d M : St} (T : TM h n M) (hfu : 2000 ≤ fu) {pl bh tg bt : Nat} {w v : Nat → Nat} (K : TK fu h n b u M 1 2 pl bh) (hF : RF r M) (hA : PA d M tg bt w v) (h0 : P0 d M) :
    JF (f_X3_readTongueSettingW fu b r u d 4 40) (f_X10_setting fu M) M ∨ JS fu h n b (f_X3_readTongueSettingW fu b r u d 4 40) (f_X10_setting fu M) M tg pl := by
  have hp := K.1
  have h37 : M.1 37 = nI 2 := (K.2.2.2.2.2.1 rfl).2.2
  obtain ⟨u1, M1, kd1, x1, pl1, bh1, e1, e2, e3, e4, e5⟩ := step_e C T hfu K (by decide) (by decide)
  have T1 := T.p e5.nf.pf
  have hA1 := PA.n e5.nf hA
  have hg := hA1.1
  unfold f_X3_readTongueSettingW f_X10_setting
  rw [e1, e2, h37, hp.2.1, hp.2.2.1]
  rw [obs, obs]
  rw [if_neg (show ¬ nI 2 = 4 by decide), hg.1, hg.2.1, show (nI tg - 1 : Int32) = nI (tg - 1) from pk_sub (b := 1) hg.2.2.1]
  rcases num_e C T1 hfu e3 (hF.n e5) 0 (tg - 1) (by omega) with ⟨r2, u2, M2, g1, g2, g3, g4⟩ | ⟨r2, u2, M2, y, kd2, x2, pl2, bh2, g1, g2, g3, g4, g5, g6, ⟨-, g7⟩, g8, g9, g10⟩
  · exact Or.inl ⟨r2, u2, d, M2, bd g1 (ip rfl rfl), bd g2 (ip rfl rfl), g3, (e5.nf.trans g4).pf⟩
  have T2 := T1.p g4.pf
  have hA2 := PA.n g4 hA1
  have hyt : y < tg := by omega
  obtain ⟨w1, w2, w3⟩ := hA2.2.2.1 y (by omega)
  have A1 : (f_X3_readNumber fu b r u1 0 (nI (tg - 1))) = some (1, r2, u2) := g1
  have B1 : (f_X10_number fu M1 0 (nI (tg - 1))) = some (1, M2) := g2
  rw [A1, B1]
  rw [obs, obs, if_neg n10, if_neg n10]
  dsimp only
  rw [if_pos (show nI 2 = 2 from rfl), g8, g10, if_pos (inb_nI (show y < 4 by omega) (by decide)), cl_nI (show y < 2 ^ 31 by omega), w2, tellsW_P hA2 fu hyt]
  unfold f_X10_setting_L99
  by_cases c : w y = 0
  · rw [if_pos c, c, if_pos (show nI 0 ≤ 0 by decide), if_pos (show nI 2 = 2 from rfl)]
    unfold f_X10_setting_L120
    rw [if_pos (show nI 2 = 2 from rfl)]
    unfold f_X10_setting_L132
    rw [obs, if_pos rfl]
    rcases num_e C T2 hfu g5 g3 4 40 (by omega) with ⟨r3, u3, M3, k1, k2, k3, k4⟩ | ⟨r3, u3, M3, z, kd3, x3, pl3, bh3, k1, k2, k3, k4, k5, k6, ⟨z1, z2⟩, k8, k9, k10⟩
    · exact Or.inl ⟨r3, u3, d, M3, bd k1 (ip rfl rfl), bd k2 (ip rfl rfl), k3, ((e5.nf.trans g4).trans k4).pf⟩
    have T3 := T2.p k4.pf
    have hA3 := PA.n k4 hA2
    have A2 : (f_X3_readNumber fu b r2 u2 4 40) = some (1, r3, u3) := k1
    have B2 : (f_X10_number fu M2 4 40) = some (1, M3) := k2
    rw [A2, B2]
    rw [obs, obs, if_neg n10, if_neg n10]
    dsimp only
    rw [if_pos (show nI 2 = 2 from rfl), if_pos (inb_nI (show y < 4 by omega) (by decide)), cl_nI (show y < 2 ^ 31 by omega), k8, k10, tellW_P hA3 fu hyt]
    unfold f_X10_setting_L168
    have pf3 : PF M (sA M3 42 y (nI z)) := ((e5.nf.trans g4).trans k4).pf.trans (PF.a M3 (nI z) (by omega))
    have T4 : TM h n (sA M3 42 y (nI z)) := T3.p (PF.a M3 (nI z) (by omega))
    have K4 : TK fu h n b u3 (sA M3 42 y (nI z)) kd3 x3 pl3 bh3 := k5
    have F4 : RF r3 (sA M3 42 y (nI z)) := k3
    rcases semi_e C T4 hfu K4 F4 with ⟨-, r5, u5, M5, l1, l2, l3, l4, -⟩ | ⟨-, u5, M5, kd5, x5, pl5, bh5, l1, l2, l3, l4, l5, l6⟩
    · exact Or.inl ⟨r5, u5, sA d 5 y (nI z), M5, bd rfl (bd l1 (ip isB_0 rfl)), bd l2 (ip isB_0 rfl), l3, pf3.trans l4.pf⟩
    · refine Or.inr ⟨r3, u5, sA d 5 y (nI z), M5, kd5, x5, pl5, bh5, bt, (fun t => if t = y then z else w t), v, bd rfl (bd l1 (ip isB_1 rfl)), bd l2 (ip isB_1 rfl), l3, pf3.trans l4.nf.pf, l5, by omega, PA.n l4.nf ?_, ?_⟩
      · refine ⟨hA3.1, hA3.2.1, fun t ht => ?_, fun t ht => hA3.2.2.2 t ht⟩
        have h9 := hA3.2.2.1 t ht
        rw [sA_2i, if_pos rfl, sA_2i, if_pos rfl]
        by_cases ct : t = y
        · simp only [if_pos ct]; exact ⟨trivial, trivial, z2⟩
        · simp only [if_neg ct]; exact h9
      · have nf5 := (e5.nf.trans g4).trans k4
        exact P0.c rfl rfl rfl rfl ((l4.nf.1 45 (by omega)).trans (nf5.1 45 (by omega))) ((l4.nf.1 46 (by omega)).trans (nf5.1 46 (by omega))) ((l4.nf.1 51 (by omega)).trans (nf5.1 51 (by omega))) ((l4.nf.2 50 (by omega)).trans (nf5.2 50 (by omega))) h0
  · rw [if_neg c, if_neg (nI_nle (show 0 < w y by omega) (by omega))]
    refine Or.inl ⟨sF (sF r2 0 3) 1 (nI pl), u2, d, sF (sF M2 39 3) 40 (nI pl), ?_, ?_, wrong_rf _ _ _ _, ((e5.nf.trans g4).trans (wrong_nf _ _ _)).pf⟩
    · exact bd rfl (iN (by decide) (bd rfl (ip isB_0 rfl)))
    · exact bd rfl (ip isB_0 rfl)
theorem setS_e (C : CX h n b) {r u d M : St} (T : TM h n M) (hfu : 2000 ≤ fu) {pl bh tg bt : Nat} {w v : Nat → Nat} (K : TK fu h n b u M 1 3 pl bh) (hF : RF r M) (hA : PA d M tg bt w v) (h0 : P0 d M) :
    JF (f_X3_readTongueSettingS fu b r u d 1 20) (f_X10_setting fu M) M ∨ JS fu h n b (f_X3_readTongueSettingS fu b r u d 1 20) (f_X10_setting fu M) M tg pl := by
  have hp := K.1
  have h37 : M.1 37 = nI 3 := (K.2.2.2.2.2.1 rfl).2.2
  obtain ⟨u1, M1, kd1, x1, pl1, bh1, e1, e2, e3, e4, e5⟩ := step_e C T hfu K (by decide) (by decide)
  have T1 := T.p e5.nf.pf
  have hA1 := PA.n e5.nf hA
  have hg := hA1.1
  unfold f_X3_readTongueSettingS f_X10_setting
  rw [e1, e2, h37, hp.2.1, hp.2.2.1]
  rw [obs, obs]
  rw [if_neg (show ¬ nI 3 = 4 by decide), hg.1, hg.2.1, show (nI tg - 1 : Int32) = nI (tg - 1) from pk_sub (b := 1) hg.2.2.1]
  rcases num_e C T1 hfu e3 (hF.n e5) 0 (tg - 1) (by omega) with ⟨r2, u2, M2, g1, g2, g3, g4⟩ | ⟨r2, u2, M2, y, kd2, x2, pl2, bh2, g1, g2, g3, g4, g5, g6, ⟨-, g7⟩, g8, g9, g10⟩
  · exact Or.inl ⟨r2, u2, d, M2, bd g1 (ip rfl rfl), bd g2 (ip rfl rfl), g3, (e5.nf.trans g4).pf⟩
  have T2 := T1.p g4.pf
  have hA2 := PA.n g4 hA1
  have hyt : y < tg := by omega
  obtain ⟨w1, w2, w3⟩ := hA2.2.2.2 y (by omega)
  have A1 : (f_X3_readNumber fu b r u1 0 (nI (tg - 1))) = some (1, r2, u2) := g1
  have B1 : (f_X10_number fu M1 0 (nI (tg - 1))) = some (1, M2) := g2
  rw [A1, B1]
  rw [obs, obs, if_neg n10, if_neg n10]
  dsimp only
  rw [if_neg (show ¬ nI 3 = 2 by decide), g8, g10, if_pos (inb_nI (show y < 4 by omega) (by decide)), cl_nI (show y < 2 ^ 31 by omega), w2, tellsS_P hA2 fu hyt]
  unfold f_X10_setting_L99
  by_cases c : v y = 0
  · rw [if_pos c, c, if_pos (show nI 0 ≤ 0 by decide), if_neg (show ¬ nI 3 = 2 by decide)]
    unfold f_X10_setting_L120
    rw [if_neg (show ¬ nI 3 = 2 by decide)]
    unfold f_X10_setting_L132
    rw [obs, if_pos rfl]
    rcases num_e C T2 hfu g5 g3 1 20 (by omega) with ⟨r3, u3, M3, k1, k2, k3, k4⟩ | ⟨r3, u3, M3, z, kd3, x3, pl3, bh3, k1, k2, k3, k4, k5, k6, ⟨z1, z2⟩, k8, k9, k10⟩
    · exact Or.inl ⟨r3, u3, d, M3, bd k1 (ip rfl rfl), bd k2 (ip rfl rfl), k3, ((e5.nf.trans g4).trans k4).pf⟩
    have T3 := T2.p k4.pf
    have hA3 := PA.n k4 hA2
    have A2 : (f_X3_readNumber fu b r2 u2 1 20) = some (1, r3, u3) := k1
    have B2 : (f_X10_number fu M2 1 20) = some (1, M3) := k2
    rw [A2, B2]
    rw [obs, obs, if_neg n10, if_neg n10]
    dsimp only
    rw [if_neg (show ¬ nI 3 = 2 by decide), if_pos (inb_nI (show y < 4 by omega) (by decide)), cl_nI (show y < 2 ^ 31 by omega), k8, k10, tellS_P hA3 fu hyt]
    unfold f_X10_setting_L168
    have pf3 : PF M (sA M3 43 y (nI z)) := ((e5.nf.trans g4).trans k4).pf.trans (PF.a M3 (nI z) (by omega))
    have T4 : TM h n (sA M3 43 y (nI z)) := T3.p (PF.a M3 (nI z) (by omega))
    have K4 : TK fu h n b u3 (sA M3 43 y (nI z)) kd3 x3 pl3 bh3 := k5
    have F4 : RF r3 (sA M3 43 y (nI z)) := k3
    rcases semi_e C T4 hfu K4 F4 with ⟨-, r5, u5, M5, l1, l2, l3, l4, -⟩ | ⟨-, u5, M5, kd5, x5, pl5, bh5, l1, l2, l3, l4, l5, l6⟩
    · exact Or.inl ⟨r5, u5, sA d 6 y (nI z), M5, bd rfl (bd l1 (ip isB_0 rfl)), bd l2 (ip isB_0 rfl), l3, pf3.trans l4.pf⟩
    · refine Or.inr ⟨r3, u5, sA d 6 y (nI z), M5, kd5, x5, pl5, bh5, bt, w, (fun t => if t = y then z else v t), bd rfl (bd l1 (ip isB_1 rfl)), bd l2 (ip isB_1 rfl), l3, pf3.trans l4.nf.pf, l5, by omega, PA.n l4.nf ?_, ?_⟩
      · refine ⟨hA3.1, hA3.2.1, fun t ht => hA3.2.2.1 t ht, fun t ht => ?_⟩
        have h9 := hA3.2.2.2 t ht
        rw [sA_2i, if_pos rfl, sA_2i, if_pos rfl]
        by_cases ct : t = y
        · simp only [if_pos ct]; exact ⟨trivial, trivial, z2⟩
        · simp only [if_neg ct]; exact h9
      · have nf5 := (e5.nf.trans g4).trans k4
        exact P0.c rfl rfl rfl rfl ((l4.nf.1 45 (by omega)).trans (nf5.1 45 (by omega))) ((l4.nf.1 46 (by omega)).trans (nf5.1 46 (by omega))) ((l4.nf.1 51 (by omega)).trans (nf5.1 51 (by omega))) ((l4.nf.2 50 (by omega)).trans (nf5.2 50 (by omega))) h0
  · rw [if_neg c, if_neg (nI_nle (show 0 < v y by omega) (by omega))]
    refine Or.inl ⟨sF (sF r2 0 3) 1 (nI pl), u2, d, sF (sF M2 39 3) 40 (nI pl), ?_, ?_, wrong_rf _ _ _ _, ((e5.nf.trans g4).trans (wrong_nf _ _ _)).pf⟩
    · exact bd rfl (iN (by decide) (bd rfl (ip isB_0 rfl)))
    · exact bd rfl (ip isB_0 rfl)
theorem setB_e (C : CX h n b) {r u d M : St} (T : TM h n M) (hfu : 2000 ≤ fu) {pl bh tg bt : Nat} {w v : Nat → Nat} (K : TK fu h n b u M 1 4 pl bh) (hF : RF r M) (hA : PA d M tg bt w v) (h0 : P0 d M) :
    JF (f_X3_readBeats fu b r u d) (f_X10_setting fu M) M ∨ JS fu h n b (f_X3_readBeats fu b r u d) (f_X10_setting fu M) M tg pl := by
  have hp := K.1
  have h37 : M.1 37 = nI 4 := (K.2.2.2.2.2.1 rfl).2.2
  obtain ⟨u1, M1, kd1, x1, pl1, bh1, e1, e2, e3, e4, e5⟩ := step_e C T hfu K (by decide) (by decide)
  have T1 := T.p e5.nf.pf
  have hA1 := PA.n e5.nf hA
  obtain ⟨hb1, hb2, hb3⟩ := hA1.2.1
  unfold f_X3_readBeats f_X10_setting f_X5_tellsBeats
  rw [e1, e2, h37, hp.2.1, hp.2.2.1, hb1]
  rw [obs, obs]
  rw [if_pos (show nI 4 = 4 from rfl), hb2]
  by_cases c : bt = 0
  · rw [c, if_pos (show nI 0 ≤ 0 by decide), if_pos (show nI 0 ≤ 0 by decide)]
    rw [obs, if_pos rfl]
    rcases num_e C T1 hfu e3 (hF.n e5) 1 8 (by omega) with ⟨r3, u3, M3, k1, k2, k3, k4⟩ | ⟨r3, u3, M3, z, kd3, x3, pl3, bh3, k1, k2, k3, k4, k5, k6, ⟨z1, z2⟩, k8, k9, k10⟩
    · exact Or.inl ⟨r3, u3, d, M3, bd k1 (ip rfl rfl), bd k2 (ip rfl rfl), k3, (e5.nf.trans k4).pf⟩
    have T3 := T1.p k4.pf
    have hA3 := PA.n k4 hA1
    have A2 : (f_X3_readNumber fu b r u1 1 8) = some (1, r3, u3) := k1
    have B2 : (f_X10_number fu M1 1 8) = some (1, M3) := k2
    rw [A2, B2]
    rw [obs, obs, if_neg n10, if_neg n10]
    dsimp only
    rw [k8, k10]
    have pf3 : PF M (sF M3 44 (nI z)) := (e5.nf.trans k4).pf.trans (PF.f M3 (nI z) (by omega))
    have T4 : TM h n (sF M3 44 (nI z)) := T3.p (PF.f M3 (nI z) (by omega))
    have K4 : TK fu h n b u3 (sF M3 44 (nI z)) kd3 x3 pl3 bh3 := k5
    have F4 : RF r3 (sF M3 44 (nI z)) := k3
    rcases semi_e C T4 hfu K4 F4 with ⟨-, r5, u5, M5, l1, l2, l3, l4, -⟩ | ⟨-, u5, M5, kd5, x5, pl5, bh5, l1, l2, l3, l4, l5, l6⟩
    · exact Or.inl ⟨r5, u5, sF d 4 (nI z), M5, bd rfl (bd l1 (ip isB_0 rfl)), bd l2 (ip isB_0 rfl), l3, pf3.trans l4.pf⟩
    · refine Or.inr ⟨r3, u5, sF d 4 (nI z), M5, kd5, x5, pl5, bh5, z, w, v, bd rfl (bd l1 (ip isB_1 rfl)), bd l2 (ip isB_1 rfl), l3, pf3.trans l4.nf.pf, l5, by omega, PA.n l4.nf ⟨hA3.1, ⟨rfl, rfl, z2⟩, hA3.2.2.1, hA3.2.2.2⟩, ?_⟩
      have nf5 := e5.nf.trans k4
      exact P0.c rfl rfl rfl rfl ((l4.nf.1 45 (by omega)).trans (nf5.1 45 (by omega))) ((l4.nf.1 46 (by omega)).trans (nf5.1 46 (by omega))) ((l4.nf.1 51 (by omega)).trans (nf5.1 51 (by omega))) ((l4.nf.2 50 (by omega)).trans (nf5.2 50 (by omega))) h0
  · rw [if_neg (nI_nle (show 0 < bt by omega) (by omega)), if_neg (nI_nle (show 0 < bt by omega) (by omega))]
    refine Or.inl ⟨sF (sF r 0 3) 1 (nI pl), u, d, sF (sF M1 39 3) 40 (nI pl), ?_, ?_, wrong_rf _ _ _ _, (e5.nf.trans (wrong_nf _ _ _)).pf⟩
    · exact bd rfl (iN (by decide) (bd rfl (ip isB_0 rfl)))
    · exact bd rfl (ip isB_0 rfl)
/-- all settings -/
theorem settings_e (C : CX h n b) (hfu : 2000 ≤ fu) {tg : Nat} : ∀ (m q q' i : Nat) (r u d M : St) (kd x pl bh bt : Nat) (w v : Nat → Nat), n - pl ≤ m → m < q → m < q' → i ≤ pl → TM h n M → TK fu h n b u M kd x pl bh → RF r M → PA d M tg bt w v → P0 d M →
    JF (f_X3_readSettings_L2 fu b q r u d (nI n) (nI i)) (f_X10_reads_L135 fu q' M) M ∨
    ∃ (r' u' d' M' : St) (kd' x' pl' bh' bt' : Nat) (w' v' : Nat → Nat), f_X3_readSettings_L2 fu b q r u d (nI n) (nI i) = some (1, r', u', d') ∧ f_X10_reads_L135 fu q' M = f_X10_reads_L168 fu fu M' ∧ RF r' M' ∧ PF M M' ∧ TK fu h n b u' M' kd' x' pl' bh' ∧ PA d' M' tg bt' w' v' ∧ P0 d' M' := by
  intro m
  have hn := C.1
  induction m with
  | zero =>
    intro q q' i r u d M kd x pl bh bt w v hm hq hq' hi T K hF hA h0
    obtain ⟨q, rfl⟩ : ∃ z, q = z + 1 := ⟨q - 1, by omega⟩
    obtain ⟨q', rfl⟩ : ∃ z, q' = z + 1 := ⟨q' - 1, by omega⟩
    have hpl := K.1.2.2.2
    have hkd : kd = 0 := by
      rcases Nat.eq_zero_or_pos kd with e | e
      · exact e
      · have := K.2.2.2.1.2 (by omega); omega
    subst hkd
    have he := K.eq (by decide)
    have hw := K.2.2.1
    refine Or.inr ⟨r, u, d, M, 0, x, pl, bh, bt, w, v, ?_, ?_, hF, PF.refl _, K, hA, h0⟩
    · rw [f_X3_readSettings_L2]
      by_cases c : n ≤ i
      · exact if_pos (nI_le c (by omega))
      · refine iN (nI_ge (by omega) (by omega)) (bd (K.no (j := 1) (by decide) (fun q => absurd q.1 (by decide))) (ip rfl (bd (K.no (j := 2) (by decide) (fun q => absurd q.1 (by decide))) (ip rfl (bd (K.no (j := 3) (by decide) (fun q => absurd q.1 (by decide))) (ip rfl rfl))))))
    · rw [f_X10_reads_L135, if_neg (show ¬ M.1 36 = 1 by rw [he.2]; decide)]
  | succ m ih =>
    intro q q' i r u d M kd x pl bh bt w v hm hq hq' hi T K hF hA h0
    obtain ⟨q, rfl⟩ : ∃ z, q = z + 1 := ⟨q - 1, by omega⟩
    obtain ⟨q', rfl⟩ : ∃ z, q' = z + 1 := ⟨q' - 1, by omega⟩
    have hpl := K.1.2.2.2
    have hw := K.2.2.1
    rw [f_X3_readSettings_L2, f_X10_reads_L135]
    by_cases cS : kd = 1 ∧ 2 ≤ x ∧ x ≤ 4
    · obtain ⟨rfl, hx1, hx2⟩ := cS
      have he := K.eq (by decide)
      have hlt := K.2.2.2.1.2 (by decide)
      have h37 := (K.2.2.2.2.2.1 rfl).2.2
      rw [if_neg (nI_ge (show i < n by omega) (by omega)), if_pos (show M.1 36 = 1 from he.2), h37, if_neg (show ¬ nI x < 2 from nI_nlt (b := 2) hx1 (by omega)), if_neg (show ¬ 4 < nI x from nI_nlt (a := 4) hx2 (by decide))]
      -- what goes on
      have go : ∀ A : Option (Int32 × St × St × St), (JF A (f_X10_setting fu M) M ∨ JS fu h n b A (f_X10_setting fu M) M tg pl) →
          JF (A.bind (fun q_30 => f_X3_readSettings_L89 (f_X3_readSettings_L2 fu b q) fu b q_30.2.1 q_30.2.2.1 q_30.2.2.2 (nI n) (nI i) q_30.1)) ((f_X10_setting fu M).bind (fun q_160 => if q_160.1 = 0 then (some (0, q_160.2)) else (f_X10_reads_L135 fu q' q_160.2))) M ∨
          ∃ (r' u' d' M' : St) (kd' x' pl' bh' bt' : Nat) (w' v' : Nat → Nat), A.bind (fun q_30 => f_X3_readSettings_L89 (f_X3_readSettings_L2 fu b q) fu b q_30.2.1 q_30.2.2.1 q_30.2.2.2 (nI n) (nI i) q_30.1) = some (1, r', u', d') ∧ (f_X10_setting fu M).bind (fun q_160 => if q_160.1 = 0 then (some (0, q_160.2)) else (f_X10_reads_L135 fu q' q_160.2)) = f_X10_reads_L168 fu fu M' ∧ RF r' M' ∧ PF M M' ∧ TK fu h n b u' M' kd' x' pl' bh' ∧ PA d' M' tg bt' w' v' ∧ P0 d' M' := by
        intro A hJ
        rcases hJ with ⟨r', u', d', M', a1, a2, a3, a4⟩ | ⟨r', u', d', M', kd', x', pl', bh', bt', w', v', a1, a2, a3, a4, a5, a6, a7, a8⟩
        · exact Or.inl ⟨r', u', d', M', bd a1 (ip rfl rfl), bd a2 (ip rfl rfl), a3, a4⟩
        · have hpl' := a5.1.2.2.2
          rw [a1, a2]
          unfold f_X3_readSettings_L89
          rw [obs, obs, if_neg n10, if_neg n10, nI_1]
          dsimp only
          rcases ih q q' (i + 1) r' u' d' M' kd' x' pl' bh' bt' w' v' (by omega) (by omega) (by omega) (by omega) (T.p a4) a5 a3 a7 a8 with ⟨r2, u2, d2, M2, b1, b2, b3, b4⟩ | ⟨r2, u2, d2, M2, kd2, x2, pl2, bh2, bt2, w2, v2, b1, b2, b3, b4, b5⟩
          · exact Or.inl ⟨r2, u2, d2, M2, b1, b2, b3, a4.trans b4⟩
          · exact Or.inr ⟨r2, u2, d2, M2, kd2, x2, pl2, bh2, bt2, w2, v2, b1, b2, b3, a4.trans b4, b5⟩
      have h234 : x = 2 ∨ x = 3 ∨ x = 4 := by omega
      rcases h234 with rfl | rfl | rfl
      · rw [K.yes (j := 1) (by decide), obs, if_neg n10]; exact go _ (setW_e C T hfu K hF hA h0)
      · rw [K.no (j := 1) (by decide) (fun q => absurd q.2 (by decide)), obs, if_pos z00, K.yes (j := 2) (by decide), obs, if_neg n10]; exact go _ (setS_e C T hfu K hF hA h0)
      · rw [K.no (j := 1) (by decide) (fun q => absurd q.2 (by decide)), obs, if_pos z00, K.no (j := 2) (by decide) (fun q => absurd q.2 (by decide)), obs, if_pos z00, K.yes (j := 3) (by decide), obs, if_neg n10]; exact go _ (setB_e C T hfu K hF hA h0)
    · refine Or.inr ⟨r, u, d, M, kd, x, pl, bh, bt, w, v, ?_, ?_, hF, PF.refl _, K, hA, h0⟩
      · by_cases c : n ≤ i
        · exact if_pos (nI_le c (by omega))
        · refine iN (nI_ge (by omega) (by omega)) (bd (K.no (j := 1) (by decide) (fun q => cS ⟨q.1, by have := q.2; omega, by have := q.2; omega⟩)) (ip rfl (bd (K.no (j := 2) (by decide) (fun q => cS ⟨q.1, by have := q.2; omega, by have := q.2; omega⟩)) (ip rfl (bd (K.no (j := 3) (by decide) (fun q => cS ⟨q.1, by have := q.2; omega, by have := q.2; omega⟩)) (ip rfl rfl))))))
      · by_cases c : kd = 1
        · subst c
          have he := K.eq (by decide)
          have h37 := (K.2.2.2.2.2.1 rfl)
          rw [if_pos (show M.1 36 = 1 from he.2), h37.2.2]
          by_cases c2 : x < 2
          · exact if_pos (nI_lt (b := 2) c2 (by decide))
          · exact iN (nI_nlt (b := 2) (by omega) (by omega)) (if_pos (nI_lt (a := 4) (by omega) (by omega)))
        · have h36 := K.2.1.1
          exact if_neg (show ¬ M.1 36 = 1 by rw [h36]; exact nI_neq (b := 1) (by have := K.2.1.2.1; omega) (by decide) c)
end SET
