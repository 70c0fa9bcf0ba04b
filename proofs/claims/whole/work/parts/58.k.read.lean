/-! the whole text read on both sides -/
theorem fill_e {fu n0 : Nat} (h0 : n0 < 100) : ∀ (m q k : Nat) (f : Nat → Int32), k + m = n0 → m < q → (∀ j, j < k → f j = 0) → ∃ f' : Nat → Int32, f_J7_fill_53178_L5 fu n0 q f 0 (nI k) (nI n0) = some f' ∧ ∀ j, j < n0 → f' j = 0 := by
  intro m
  induction m with
  | zero =>
    intro q k f hk hq hj
    obtain ⟨q, rfl⟩ : ∃ z, q = z + 1 := ⟨q - 1, by omega⟩
    refine ⟨f, ?_, fun j hj2 => hj j (by omega)⟩
    rw [f_J7_fill_53178_L5]
    exact if_pos (nI_le (by omega) (by omega))
  | succ m ih =>
    intro q k f hk hq hj
    obtain ⟨q, rfl⟩ : ∃ z, q = z + 1 := ⟨q - 1, by omega⟩
    obtain ⟨f', e1, e2⟩ := ih q (k + 1) (upd f k 0) (by omega) (by omega) (fun j hj2 => by
      by_cases c : j = k
      · rw [c]; exact pk_us
      · rw [pk_un c]; exact hj j (by omega))
    refine ⟨f', ?_, e2⟩
    rw [f_J7_fill_53178_L5, if_neg (nI_ge (show k < n0 by omega) (by omega)), if_pos (inb_nI (show k < n0 by omega) (by omega)), cl_nI (show k < 2 ^ 31 by omega), nI_1]
    exact e1
theorem fill_all {fu n0 : Nat} (hfu : 200 ≤ fu) (h0 : n0 < 100) (f : Nat → Int32) : ∃ f' : Nat → Int32, f_J7_fill_53178 fu n0 f 0 = some f' ∧ ∀ j, j < n0 → f' j = 0 :=
  fill_e h0 n0 fu 0 f (by omega) (by omega) (fun j hj => absurd hj (Nat.not_lt_zero _))
theorem clear_e {fu : Nat} (hfu : 200 ≤ fu) (d : St) : ∃ d' : St, f_X5_clear fu d = some d' ∧ d'.1 0 = 1 ∧ d'.1 1 = 0 ∧ d'.1 2 = 0 ∧ d'.1 3 = 0 ∧ d'.1 4 = 0 ∧ (∀ j, j < 4 → d'.2 5 j = 0) ∧ (∀ j, j < 4 → d'.2 6 j = 0) ∧ ∀ j, j < 8 → d'.2 8 j = 0 := by
  obtain ⟨a, a1, a2⟩ := fill_all (n0 := 4) hfu (by decide) (d.2 5)
  obtain ⟨b, b1, b2⟩ := fill_all (n0 := 4) hfu (by decide) (d.2 6)
  obtain ⟨c, c1, c2⟩ := fill_all (n0 := 8) hfu (by decide) (d.2 7)
  obtain ⟨e, e1, e2⟩ := fill_all (n0 := 8) hfu (by decide) (d.2 8)
  refine ⟨_, bd a1 (bd b1 (bd c1 (bd e1 rfl))), rfl, rfl, rfl, rfl, rfl, a2, b2, e2⟩
/-- the reference's clearing -/
theorem rdL2 {fu : Nat} : ∀ (m q k : Nat) (u : St), k + m = 4 → m < q → (∀ j, j < k → u.2 42 j = 0 ∧ u.2 43 j = 0) → ∃ u' : St, f_X10_reads_L2 fu q u (nI k) = f_X10_reads_L29 fu fu u' 0 ∧ (∀ j, j < 4 → u'.2 42 j = 0 ∧ u'.2 43 j = 0) ∧ u'.1 = u.1 ∧ ∀ x, x ≠ 42 → x ≠ 43 → u'.2 x = u.2 x := by
  intro m
  induction m with
  | zero =>
    intro q k u hk hq hj
    obtain ⟨q, rfl⟩ : ∃ z, q = z + 1 := ⟨q - 1, by omega⟩
    refine ⟨u, ?_, fun j hj2 => hj j (by omega), rfl, fun _ _ _ => rfl⟩
    rw [f_X10_reads_L2]
    exact if_pos (nI_le (a := 4) (by omega) (by omega))
  | succ m ih =>
    intro q k u hk hq hj
    obtain ⟨q, rfl⟩ : ∃ z, q = z + 1 := ⟨q - 1, by omega⟩
    obtain ⟨u', e1, e2, e3, e4⟩ := ih q (k + 1) (sA (sA u 42 k 0) 43 k 0) (by omega) (by omega) (fun j hj2 => by
      have q1 : (sA (sA u 42 k 0) 43 k 0).2 42 j = if j = k then 0 else u.2 42 j := rfl
      have q2 : (sA (sA u 42 k 0) 43 k 0).2 43 j = if j = k then 0 else u.2 43 j := rfl
      rw [q1, q2]
      by_cases c : j = k
      · rw [if_pos c, if_pos c]; exact ⟨rfl, rfl⟩
      · rw [if_neg c, if_neg c]; exact hj j (by omega))
    refine ⟨u', ?_, e2, e3, fun x h1 h2 => by rw [e4 x h1 h2, sA_2, if_neg h2, sA_2, if_neg h1]⟩
    rw [f_X10_reads_L2, if_neg (show ¬ (4 : Int32) ≤ nI k from nI_ge (a := k) (b := 4) (by omega) (by decide)), if_pos (inb_nI (show k < 4 by omega) (by decide)), if_pos (inb_nI (show k < 4 by omega) (by decide)), cl_nI (show k < 2 ^ 31 by omega), nI_1]
    exact e1
def rdB (fu : Nat) (u0 : St) : Option (Int32 × St) := (f_X10_take fu (sF (sF (sF (sF (sF u0 44 0) 45 0) 46 0) 51 0) 35 0)).bind (fun q_74 => if (q_74.1 36) = 1 then (if (q_74.1 37) = 1 then ((f_X10_take fu q_74).bind (fun q_104 => (f_X10_number fu q_104 1 4).bind (fun q_110 => if q_110.1 = 0 then (some (0, q_110.2)) else ((f_X10_semi fu (sF q_110.2 41 (q_110.2.1 55))).bind (fun q_127 => if q_127.1 = 0 then (some (0, q_127.2)) else (f_X10_reads_L135 fu fu q_127.2)))))) else (f_X10_reads_L93 fu q_74)) else (f_X10_reads_L93 fu q_74))
theorem rdL29 {fu : Nat} : ∀ (m q k : Nat) (u : St), k + m = 8 → m < q → (∀ j, j < k → u.2 50 j = 0) → ∃ u' : St, f_X10_reads_L29 fu q u (nI k) = rdB fu u' ∧ (∀ j, j < 8 → u'.2 50 j = 0) ∧ u'.1 = u.1 ∧ ∀ x, x ≠ 50 → u'.2 x = u.2 x := by
  intro m
  induction m with
  | zero =>
    intro q k u hk hq hj
    obtain ⟨q, rfl⟩ : ∃ z, q = z + 1 := ⟨q - 1, by omega⟩
    refine ⟨u, ?_, fun j hj2 => hj j (by omega), rfl, fun _ _ => rfl⟩
    rw [f_X10_reads_L29]
    exact if_pos (nI_le (a := 8) (by omega) (by omega))
  | succ m ih =>
    intro q k u hk hq hj
    obtain ⟨q, rfl⟩ : ∃ z, q = z + 1 := ⟨q - 1, by omega⟩
    obtain ⟨u', e1, e2, e3, e4⟩ := ih q (k + 1) (sA u 50 k 0) (by omega) (by omega) (fun j hj2 => by
      rw [sA_2i, if_pos rfl]
      by_cases c : j = k
      · rw [if_pos c]
      · rw [if_neg c]; exact hj j (by omega))
    refine ⟨u', ?_, e2, e3, fun x h1 => by rw [e4 x h1, sA_2, if_neg h1]⟩
    rw [f_X10_reads_L29, if_neg (show ¬ (8 : Int32) ≤ nI k from nI_ge (a := k) (b := 8) (by omega) (by decide)), if_pos (inb_nI (show k < 8 by omega) (by decide)), cl_nI (show k < 2 ^ 31 by omega), nI_1]
    exact e1
theorem P0.pp {h : Nat → Nat} {n : Nat} {d M : St} {tg bt : Nat} {w v : Nat → Nat} (hA : PA d M tg bt w v) (h0 : P0 d M) : PP h n d M := by
  obtain ⟨⟨d1, d2, d3⟩, ⟨m1, m2, m3⟩, hk⟩ := h0
  refine ⟨tg, bt, 0, 0, 0, w, v, fun _ => 0, fun _ => 0, fun _ => 0, fun _ => 0, fun _ => 0, fun _ => 0, hA, ⟨⟨d2, m3, by omega⟩, fun k hk8 => ⟨(hk k hk8).1, (hk k hk8).2, Or.inl rfl⟩⟩, ⟨⟨d1, m2, by omega⟩, ⟨d3, m1, by omega⟩, fun k hk => absurd hk (Nat.not_lt_zero _), fun k hk => absurd hk (by omega), fun k hk => absurd hk (Nat.not_lt_zero _), fun k hk => absurd hk (Nat.not_lt_zero _)⟩, fun t g ht _ => absurd ht (Nat.not_lt_zero _), fun t g ht _ => absurd ht (Nat.not_lt_zero _)⟩
theorem read_e {h : Nat → Nat} {n : Nat} {b : Nat → Int32} {fu : Nat} (C : CX h n b) {r u d M : St} (T : TM h n M) (hfu : 2000 ≤ fu) (m39 : M.1 39 = 0) (m40 : M.1 40 = -1) :
    JF (f_X3_read fu b r u d (nI n)) (f_X10_reads fu M) M ∨ ∃ r' u' d' M' : St, f_X3_read fu b r u d (nI n) = some (1, r', u', d') ∧ f_X10_reads fu M = some (1, M') ∧ RF r' M' ∧ PF M M' ∧ PP h n d' M' := by
  have hn := C.1
  obtain ⟨d0, k1, k2, k3, k4, k5, k6, k7, k8, k9⟩ := clear_e (show 200 ≤ fu by omega) d
  obtain ⟨M1, a1, a2, a3, a4⟩ := rdL2 (fu := fu) 4 fu 0 M rfl (by omega) (fun j hj => absurd hj (Nat.not_lt_zero _))
  obtain ⟨M2, b1, b2, b3, b4⟩ := rdL29 (fu := fu) 8 fu 0 M1 rfl (by omega) (fun j hj => absurd hj (Nat.not_lt_zero _))
  have er : f_X10_reads fu M = rdB fu M2 := by
    unfold f_X10_reads
    exact a1.trans b1
  obtain ⟨M3, eM3⟩ : ∃ M3, M3 = sF (sF (sF (sF (sF M2 44 0) 45 0) 46 0) 51 0) 35 0 := ⟨_, rfl⟩
  have pf3 : PF M M3 := by
    rw [eM3]
    refine ⟨fun x hx => ?_, fun x hx => ?_⟩
    · rw [sF_1, if_neg (by omega), sF_1, if_neg (by omega), sF_1, if_neg (by omega), sF_1, if_neg (by omega), sF_1, if_neg (by omega), b3, a3]
    · rw [sF_2, sF_2, sF_2, sF_2, sF_2, b4 x (by omega), a4 x (by omega) (by omega)]
  have s3 : ∀ x, x ≠ 44 → x ≠ 45 → x ≠ 46 → x ≠ 51 → x ≠ 35 → M3.1 x = M.1 x := fun x c1 c2 c3 c4 c5 => by
    rw [eM3, sF_1, if_neg c5, sF_1, if_neg c4, sF_1, if_neg c3, sF_1, if_neg c2, sF_1, if_neg c1, b3, a3]
  have T3 := T.p pf3
  have eo : ((if (0 : Int32) < (if 1500 < nI n then 1500 else nI n) then (if 1500 < nI n then 1500 else nI n) else 0) : Int32) = nI n := by
    rw [if_neg (show ¬ (1500 : Int32) < nI n from nI_nlt (a := 1500) hn (by decide))]
    by_cases c : n = 0
    · rw [c]; rfl
    · exact if_pos (nI_lt (a := 0) (by omega) (by omega))
  obtain ⟨u1, M4, kd4, x4, pl4, bh4, e1, e2, e3, -, e5⟩ := step_take C (u := sF (sF u 4 (nI n)) 5 0) (M := M3) T3 hfu (p := 0) rfl rfl (by rw [eM3]; rfl) (Nat.zero_le _)
  have hF4 : RF (sF (sF r 0 0) 1 (-1)) M4 := by
    refine RF.n (M := M3) ⟨?_, ?_⟩ e5
    · show (0 : Int32) = M3.1 39
      rw [s3 39 (by decide) (by decide) (by decide) (by decide) (by decide), m39]
    · show (-1 : Int32) = M3.1 40
      rw [s3 40 (by decide) (by decide) (by decide) (by decide) (by decide), m40]
  have pf4 := pf3.trans e5.nf.pf
  have T4 := T.p pf4
  rw [er]
  unfold f_X3_read rdB f_X4_open
  rw [eo, k1, ← eM3, e1, e2, obs, obs, obs, obs]
  obtain ⟨r1, hr1⟩ : ∃ r1, r1 = sF (sF r 0 0) 1 (-1) := ⟨_, rfl⟩
  rw [← hr1]
  rw [← hr1] at hF4
  have hp4 := e3.1
  unfold f_X3_readTongues
  by_cases cW : kd4 = 1 ∧ x4 = 1
  case neg =>
    have eB : (if (M4.1 36) = 1 then (if (M4.1 37) = 1 then ((f_X10_take fu M4).bind (fun q_104 => (f_X10_number fu q_104 1 4).bind (fun q_110 => if q_110.1 = 0 then (some (0, q_110.2)) else ((f_X10_semi fu (sF q_110.2 41 (q_110.2.1 55))).bind (fun q_127 => if q_127.1 = 0 then (some (0, q_127.2)) else (f_X10_reads_L135 fu fu q_127.2)))))) else (f_X10_reads_L93 fu M4)) else (f_X10_reads_L93 fu M4)) = some (0, sF (sF M4 39 1) 40 (nI pl4)) := by
      have e93 : f_X10_reads_L93 fu M4 = some (0, sF (sF M4 39 1) 40 (nI pl4)) := by
        unfold f_X10_reads_L93
        rw [hp4.2.2.1]
        exact bd rfl (ip isB_0 rfl)
      rw [e93]
      by_cases c1 : kd4 = 1
      · subst c1
        have h37 := e3.2.2.2.2.2.1 rfl
        rw [if_pos (show M4.1 36 = 1 from e3.2.1.1), h37.2.2, if_neg (show ¬ nI x4 = 1 from nI_neq (b := 1) (by omega) (by decide) (fun e => cW ⟨rfl, e⟩))]
      · exact if_neg (show ¬ M4.1 36 = 1 by rw [e3.2.1.1]; exact nI_neq (b := 1) (by have := e3.2.1.2.1; omega) (by decide) c1)
    rw [eB, e3.no (j := 0) (by decide) cW, obs, if_pos z00, hp4.2.1]
    exact Or.inl ⟨sF (sF r1 0 1) 1 (nI pl4), u1, d0, sF (sF M4 39 1) 40 (nI pl4), bd (bd rfl (ip isB_0 rfl)) (ip rfl rfl), rfl, wrong_rf _ _ _ _, pf4.trans (wrong_nf _ _ _).pf⟩
  obtain ⟨rfl, rfl⟩ := cW
  have h37 := (e3.2.2.2.2.2.1 rfl).2.2
  rw [e3.yes (j := 0) (by decide), obs, if_neg n10, if_pos (show M4.1 36 = 1 from e3.2.1.1), if_pos (show M4.1 37 = 1 from h37)]
  obtain ⟨u5, M5, kd5, x5, pl5, bh5, f1, f2, f3, f4, f5⟩ := step_e C T4 hfu e3 (by decide) (by decide)
  have T5 := T4.p f5.nf.pf
  have pf5 := pf4.trans f5.nf.pf
  rw [f1, f2, obs, obs]
  rcases num_e C T5 hfu f3 (hF4.n f5) 1 4 (by omega) with ⟨r6, u6, M6, g1, g2, g3, g4⟩ | ⟨r6, u6, M6, y, kd6, x6, pl6, bh6, g1, g2, g3, g4, g5, g6, ⟨g7, g7'⟩, g8, g9, g10⟩
  · exact Or.inl ⟨r6, u6, d0, M6, bd (bd g1 (ip rfl rfl)) (ip rfl rfl), bd g2 (ip rfl rfl), g3, pf5.trans g4.pf⟩
  have A1 : f_X3_readNumber fu b r1 u5 1 4 = some (1, r6, u6) := g1
  have B1 : f_X10_number fu M5 1 4 = some (1, M6) := g2
  rw [A1, B1, obs, obs, if_neg n10, if_neg n10]
  dsimp only
  rw [g8, g10]
  have pf6 : PF M (sF M6 41 (nI y)) := (pf5.trans g4.pf).trans (PF.f M6 (nI y) (by omega))
  have K6 : TK fu h n b u6 (sF M6 41 (nI y)) kd6 x6 pl6 bh6 := g5
  have F6 : RF r6 (sF M6 41 (nI y)) := g3
  rcases semi_e C (T.p pf6) hfu K6 F6 with ⟨-, r7, u7, M7, l1, l2, l3, l4, -⟩ | ⟨-, u7, M7, kd7, x7, pl7, bh7, l1, l2, l3, l4, l5, l6⟩
  · exact Or.inl ⟨r7, u7, sF d0 0 (nI y), M7, bd (bd l1 (ip isB_0 rfl)) (ip rfl rfl), bd l2 (ip rfl rfl), l3, pf6.trans l4.pf⟩
  have pf7 := pf6.trans l4.nf.pf
  -- what the clearing left
  have nf36 : NF M3 M6 := (e5.nf.trans f5.nf).trans g4
  have q6S : ∀ x, x = 44 ∨ x = 45 ∨ x = 46 ∨ x = 51 → (sF M6 41 (nI y)).1 x = 0 := fun x hx => by
    rw [sF_1, if_neg (by omega), nf36.1 x (by omega), eM3]
    rcases hx with rfl | rfl | rfl | rfl <;> rfl
  have q6A : ∀ x, (41 ≤ x ∧ x ≤ 53) → (sF M6 41 (nI y)).2 x = M2.2 x := fun x hx => by
    rw [sF_2, nf36.2 x (by omega), eM3]; rfl
  have hA7 : PA (sF d0 0 (nI y)) M7 y 0 (fun _ => 0) (fun _ => 0) := by
    refine PA.n l4.nf ⟨⟨rfl, rfl, g7, g7'⟩, ⟨k6, q6S 44 (by omega), by omega⟩, fun t ht => ⟨k7 t ht, ?_, Nat.zero_le _⟩, fun t ht => ⟨k8 t ht, ?_, Nat.zero_le _⟩⟩
    · rw [q6A 42 (by omega), b4 42 (by decide)]; exact (a2 t ht).1
    · rw [q6A 43 (by omega), b4 43 (by decide)]; exact (a2 t ht).2
  have h07 : P0 (sF d0 0 (nI y)) M7 := by
    refine P0.c (d := sF d0 0 (nI y)) (M := sF M6 41 (nI y)) rfl rfl rfl rfl (l4.nf.1 45 (by omega)) (l4.nf.1 46 (by omega)) (l4.nf.1 51 (by omega)) (l4.nf.2 50 (by omega)) ⟨⟨k3, k4, k5⟩, ⟨q6S 45 (by omega), q6S 46 (by omega), q6S 51 (by omega)⟩, fun k hk => ⟨k9 k hk, ?_⟩⟩
    rw [q6A 50 (by omega)]; exact b2 k hk
  rw [l1, l2, obs, obs, if_pos isB_1, if_neg n10]
  dsimp only
  rw [obs, if_neg n10]
  dsimp only
  unfold f_X3_readSettings f_X3_readItems
  rcases settings_e C hfu n fu fu 0 r6 u7 (sF d0 0 (nI y)) M7 kd7 x7 pl7 bh7 0 _ _ (by omega) (by omega) (by omega) (Nat.zero_le _) (T.p pf7) l5 l3 hA7 h07 with ⟨r8, u8, d8, M8, z1, z2, z3, z4⟩ | ⟨r8, u8, d8, M8, kd8, x8, pl8, bh8, bt8, w8, v8, z1, z2, z3, z4, z5, z6, z7⟩
  · have z1' : f_X3_readSettings_L2 fu b fu r6 u7 (sF d0 0 (nI y)) (nI n) 0 = some (0, r8, u8, d8) := z1
    rw [z1', z2]
    exact Or.inl ⟨r8, u8, d8, M8, bd rfl (ip rfl rfl), rfl, z3, pf7.trans z4⟩
  have z1' : f_X3_readSettings_L2 fu b fu r6 u7 (sF d0 0 (nI y)) (nI n) 0 = some (1, r8, u8, d8) := z1
  have pf8 := pf7.trans z4
  rw [z1', z2, obs, if_neg n10]
  dsimp only
  rcases items_e C hfu n fu fu 0 r8 u8 d8 M8 kd8 x8 pl8 bh8 (by omega) (by omega) (by omega) (Nat.zero_le _) (T.p pf8) z5 z3 (P0.pp z6 z7) with ⟨r9, u9, d9, M9, y1, y2, y3, y4⟩ | ⟨r9, u9, d9, M9, y1, y2, y3, y4, y5⟩
  · have y1' : f_X3_readItems_L2 fu b fu r8 u8 d8 (nI n) 0 = some (0, r9, u9, d9) := y1
    rw [y1', y2]
    exact Or.inl ⟨r9, u9, d9, M9, bd rfl (ip rfl rfl), rfl, y3, pf8.trans y4⟩
  · have y1' : f_X3_readItems_L2 fu b fu r8 u8 d8 (nI n) 0 = some (1, r9, u9, d9) := y1
    rw [y1', y2]
    exact Or.inr ⟨r9, u9, d9, M9, bd rfl (iN n10 rfl), rfl, y3, pf8.trans y4, y5⟩
