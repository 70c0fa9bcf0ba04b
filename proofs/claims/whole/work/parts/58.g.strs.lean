/-! a title's strings on both sides -/
def ST (h : Nat → Nat) (n : Nat) (d M : St) (tt j : Nat) (fr ns : Nat → Nat) : Prop :=
  (∀ g, g < 4 → (d.2 11 (4 * tt + g) = nI (fr g) ∧ d.2 12 (4 * tt + g) = nI (ns g)) ∧ (fr g + ns g ≤ n ∧ 1 ≤ fr g) ∧ PrpA (fun i => h (fr g + i)) (ns g)) ∧
  (∀ g, g < j → (M.2 53 (4 * tt + g) = nI (ns g) ∧ M.2 52 (4 * tt + g) = nI (fr g)) ∨ (M.2 53 (4 * tt + g) = 0 ∧ fr g = fr 0 ∧ ns g = ns 0 ∧ g ≠ 0)) ∧
  ∀ g, j ≤ g → g < 4 → fr g = fr 0 ∧ ns g = ns 0
def SFr (tt : Nat) (d d' : St) : Prop := d'.1 = d.1 ∧ (∀ x, x ≠ 11 → x ≠ 12 → d'.2 x = d.2 x) ∧ ∀ z, z < 4 * tt → d'.2 11 z = d.2 11 z ∧ d'.2 12 z = d.2 12 z
def MFr (tt : Nat) (M M' : St) : Prop := (∀ x, x ≠ 35 → x ≠ 36 → x ≠ 37 → x ≠ 38 → M'.1 x = M.1 x) ∧ (∀ x, x ≠ 52 → x ≠ 53 → M'.2 x = M.2 x) ∧ ∀ z, z < 4 * tt → M'.2 52 z = M.2 52 z ∧ M'.2 53 z = M.2 53 z
theorem SFr.refl (tt : Nat) (d : St) : SFr tt d d := ⟨rfl, fun _ _ _ => rfl, fun _ _ => ⟨rfl, rfl⟩⟩
theorem SFr.trans {tt : Nat} {a b c : St} (p : SFr tt a b) (q : SFr tt b c) : SFr tt a c := ⟨q.1.trans p.1, fun x h1 h2 => (q.2.1 x h1 h2).trans (p.2.1 x h1 h2), fun z hz => ⟨((q.2.2 z hz).1).trans (p.2.2 z hz).1, ((q.2.2 z hz).2).trans (p.2.2 z hz).2⟩⟩
theorem MFr.refl (tt : Nat) (d : St) : MFr tt d d := ⟨fun _ _ _ _ _ => rfl, fun _ _ _ => rfl, fun _ _ => ⟨rfl, rfl⟩⟩
theorem MFr.trans {tt : Nat} {a b c : St} (p : MFr tt a b) (q : MFr tt b c) : MFr tt a c := ⟨fun x h1 h2 h3 h4 => (q.1 x h1 h2 h3 h4).trans (p.1 x h1 h2 h3 h4), fun x h1 h2 => (q.2.1 x h1 h2).trans (p.2.1 x h1 h2), fun z hz => ⟨((q.2.2 z hz).1).trans (p.2.2 z hz).1, ((q.2.2 z hz).2).trans (p.2.2 z hz).2⟩⟩
theorem MFr.pf {tt : Nat} {a b : St} (p : MFr tt a b) : PF a b := ⟨fun x hx => p.1 x (by omega) (by omega) (by omega) (by omega), fun x hx => p.2.1 x (by omega) (by omega)⟩
theorem FrT.mfr {a b : St} (tt : Nat) (p : FrT a b) : MFr tt a b := ⟨p.1, fun x _ _ => by rw [p.2], fun z _ => by rw [p.2]; exact ⟨rfl, rfl⟩⟩
theorem MFr.a (tt : Nat) (M : St) {k κ : Nat} (v : Int32) (hk : k = 52 ∨ k = 53) (hκ : 4 * tt ≤ κ) : MFr tt M (sA M k κ v) := by
  refine ⟨fun _ _ _ _ _ => rfl, fun x h1 h2 => by rw [sA_2, if_neg (by omega)], fun z hz => ⟨?_, ?_⟩⟩
  · rw [sA_2i]
    by_cases c : 52 = k
    · rw [if_pos c, if_neg (by omega), c]
    · rw [if_neg c]
  · rw [sA_2i]
    by_cases c : 53 = k
    · rw [if_pos c, if_neg (by omega), c]
    · rw [if_neg c]
theorem SFr.a (tt : Nat) (d : St) {k κ : Nat} (v : Int32) (hk : k = 11 ∨ k = 12) (hκ : 4 * tt ≤ κ) : SFr tt d (sA d k κ v) := by
  refine ⟨rfl, fun x h1 h2 => by rw [sA_2, if_neg (by omega)], fun z hz => ⟨?_, ?_⟩⟩
  · rw [sA_2i]
    by_cases c : 11 = k
    · rw [if_pos c, if_neg (by omega), c]
    · rw [if_neg c]
  · rw [sA_2i]
    by_cases c : 12 = k
    · rw [if_pos c, if_neg (by omega), c]
    · rw [if_neg c]
theorem PA.sm {d d' M M' : St} {tt tg bt : Nat} {w v : Nat → Nat} (p : SFr tt d d') (q : MFr tt M M') (a : PA d M tg bt w v) : PA d' M' tg bt w v :=
  PA.c (by rw [p.1]) (by rw [p.1]) (p.2.1 _ (by decide) (by decide)) (p.2.1 _ (by decide) (by decide)) (q.1 _ (by decide) (by decide) (by decide) (by decide)) (q.1 _ (by decide) (by decide) (by decide) (by decide)) (q.2.1 _ (by decide) (by decide)) (q.2.1 _ (by decide) (by decide)) a
section STR
variable {h : Nat → Nat} {n : Nat} {b : Nat → Int32} {fu : Nat}
theorem setString_e {d : St} {tt g : Nat} (h1 : d.1 1 = nI (tt + 1)) (ht : tt < 40) (hg : g < 4) (fu : Nat) (f l : Int32) : f_X5_setString fu d (nI g) f l = some (sA (sA d 11 (4 * tt + g) f) 12 (4 * tt + g) l) := by
  unfold f_X5_setString
  rw [h1, show (nI (tt + 1) - 1 : Int32) = nI tt from pk_sub (b := 1) (by omega)]
  refine bd (slotOf_e fu ht hg) (iN (nI_ne_m1 (by omega)) ?_)
  rw [if_pos (inb_nI (show 4 * tt + g < 160 by omega) (by decide)), if_pos (inb_nI (show 4 * tt + g < 160 by omega) (by decide)), cl_nI (by omega)]
theorem addL48 {tt : Nat} (ht : tt < 40) (fu : Nat) (f l : Int32) : ∀ (m q g : Nat) (d : St), g + m = 4 → m < q → d.1 1 = nI (tt + 1) → (∀ k, k < g → d.2 11 (4 * tt + k) = f ∧ d.2 12 (4 * tt + k) = l) → ∃ d' : St, f_X5_addTitle_L48 fu q d f l (nI g) = some d' ∧ (∀ k, k < 4 → d'.2 11 (4 * tt + k) = f ∧ d'.2 12 (4 * tt + k) = l) ∧ SFr tt d d' := by
  intro m
  induction m with
  | zero =>
    intro q g d hg hq h1 hk
    obtain ⟨q, rfl⟩ : ∃ z, q = z + 1 := ⟨q - 1, by omega⟩
    refine ⟨d, ?_, fun k hk2 => hk k (by omega), SFr.refl _ _⟩
    rw [f_X5_addTitle_L48]
    exact if_pos (nI_le (a := 4) (by omega) (by omega))
  | succ m ih =>
    intro q g d hg hq h1 hk
    obtain ⟨q, rfl⟩ : ∃ z, q = z + 1 := ⟨q - 1, by omega⟩
    obtain ⟨d', e1, e2, e3⟩ := ih q (g + 1) (sA (sA d 11 (4 * tt + g) f) 12 (4 * tt + g) l) (by omega) (by omega) h1 (fun k hk2 => by
      have e11 : (sA (sA d 11 (4 * tt + g) f) 12 (4 * tt + g) l).2 11 (4 * tt + k) = if 4 * tt + k = 4 * tt + g then f else d.2 11 (4 * tt + k) := rfl
      have e12 : (sA (sA d 11 (4 * tt + g) f) 12 (4 * tt + g) l).2 12 (4 * tt + k) = if 4 * tt + k = 4 * tt + g then l else d.2 12 (4 * tt + k) := rfl
      rw [e11, e12]
      by_cases c : k = g
      · rw [if_pos (by omega), if_pos (by omega)]; exact ⟨rfl, rfl⟩
      · rw [if_neg (by omega), if_neg (by omega)]; exact hk k (by omega))
    refine ⟨d', ?_, e2, ((SFr.a tt d f (by omega) (by omega)).trans (SFr.a tt _ l (by omega) (by omega))).trans e3⟩
    rw [f_X5_addTitle_L48, if_neg (show ¬ (4 : Int32) ≤ nI g from nI_ge (a := g) (b := 4) (by omega) (by decide)), nI_1]
    exact bd (setString_e h1 ht (by omega) fu f l) e1
theorem addTitle_e {d : St} {tt im : Nat} (hfu : 2000 ≤ fu) (h1 : d.1 1 = nI tt) (h3 : d.1 3 = nI (im + 1)) (ht : tt ≤ im) (hi : im < 40) (f l : Int32) : ∃ d' : St, f_X5_addTitle fu d f l = some d' ∧ (∀ k, k < 4 → d'.2 11 (4 * tt + k) = f ∧ d'.2 12 (4 * tt + k) = l) ∧ SFr tt (sF (sA d 10 tt (nI im)) 1 (nI (tt + 1))) d' := by
  obtain ⟨d', e1, e2, e3⟩ := addL48 (show tt < 40 by omega) fu f l 4 fu 0 (sF (sA d 10 tt (nI im)) 1 (nI (tt + 1))) rfl (by omega) rfl (fun k hk => absurd hk (Nat.not_lt_zero _))
  refine ⟨d', ?_, e2, e3⟩
  unfold f_X5_addTitle
  rw [h1, h3, if_neg (nI_ge (show tt < im + 1 by omega) (by omega)), if_pos (show nI tt < 40 from nI_lt (b := 40) (by omega) (by decide)), if_pos (inb_nI (show tt < 40 by omega) (by decide)), cl_nI (show tt < 2 ^ 31 by omega), nI_1, show (nI (im + 1) - 1 : Int32) = nI im from pk_sub (b := 1) (by omega)]
  exact e1
/-- a string token: its place, its length, what both sides say of it -/
theorem str_tok (C : CX h n b) {u M : St} (T : TM h n M) (hfu : 2000 ≤ fu) {x pl bh : Nat} (K : TK fu h n b u M 4 x pl bh) :
    f_X4_stringFrom fu u = some (nI (pl + 1)) ∧ f_X4_stringLength fu u = some (nI (bh - pl - 2)) ∧ (M.1 38 + 1 : Int32) = nI (pl + 1) ∧ ((M.1 35 - M.1 38) - 2 : Int32) = nI (bh - pl - 2) ∧ pl + 1 + (bh - pl - 2) ≤ n ∧
    ((PrpA (fun i => h (pl + 1 + i)) (bh - pl - 2) → f_X8_areProper fu b (nI (pl + 1)) (nI (bh - pl - 2)) = some 1 ∧ f_X10_areWords fu M (nI (pl + 1)) (nI (bh - pl - 2)) = some 1) ∧
     (0 < bh - pl - 2 → ¬ PrpA (fun i => h (pl + 1 + i)) (bh - pl - 2) → f_X8_areProper fu b (nI (pl + 1)) (nI (bh - pl - 2)) = some 0 ∧ f_X10_areWords fu M (nI (pl + 1)) (nI (bh - pl - 2)) = some 0) ∧
     (bh - pl - 2 = 0 → f_X8_areProper fu b (nI (pl + 1)) (nI (bh - pl - 2)) = some 0 ∧ f_X10_areWords fu M (nI (pl + 1)) (nI (bh - pl - 2)) = some 1)) := by
  obtain ⟨hn, hb⟩ := C
  obtain ⟨k1, k2, k3, k4⟩ := K.2.2.2.2.1 (by decide) (by decide)
  obtain ⟨k5, k6⟩ := K.2.2.2.2.2.2.2.2 rfl
  have hp := K.1
  have e2 : (nI bh - nI pl - 2 : Int32) = nI (bh - pl - 2) := by
    rw [pk_sub (show pl ≤ bh by omega), show (nI (bh - pl) - 2 : Int32) = nI (bh - pl - 2) from pk_sub (b := 2) (by omega)]
  have AP := areProper_e (fr := pl + 1) (h := fun i => h (pl + 1 + i)) (n := bh - pl - 2) (b := b) (by omega) (fun i hi => (hb _ (by omega)).1) (fun i hi => (hb _ (by omega)).2) hfu
  have RWd := areWords_e (fr := pl + 1) (h := fun i => h (pl + 1 + i)) (n := bh - pl - 2) (M := M) (by omega) (fun i hi => (hb _ (by omega)).1) (fun i hi => T.2.1 _ (by omega)) hfu
  refine ⟨by unfold f_X4_stringFrom; rw [hp.2.1, nI_1], by unfold f_X4_stringLength; rw [hp.2.1, k1, e2], by rw [hp.2.2.1, nI_1], by rw [hp.2.2.1, k2, e2], by omega, ?_, ?_, ?_⟩
  · intro hP
    exact ⟨AP.1 hP, RWd.1 ((AW_P _ _ hP.2.1 (fun i hi => pS_t.mp (k6 i hi))).mpr hP)⟩
  · intro h0 hP
    exact ⟨AP.2 hP, RWd.2 (fun q => hP ((AW_P _ _ h0 (fun i hi => pS_t.mp (k6 i hi))).mp q))⟩
  · intro h0
    exact ⟨AP.2 (fun q => by have := q.2.1; omega), RWd.1 (fun i hi => absurd hi (by omega))⟩
/-- the further strings -/
theorem strs_e (C : CX h n b) (hfu : 2000 ≤ fu) {tg tt bt : Nat} {w v : Nat → Nat} (ht : tt < 40) : ∀ (m q q' j : Nat) (r u d M : St) (kd x pl bh : Nat) (fr ns : Nat → Nat), j + m = tg → 1 ≤ j → m + 1 < q → m + 1 < q' → TM h n M → TK fu h n b u M kd x pl bh → RF r M → PA d M tg bt w v → d.1 1 = nI (tt + 1) → M.1 46 = nI tt → ST h n d M tt j fr ns →
    JF (f_X3_readStrings_L73 fu b q r u d (nI j)) (f_X10_title_L13 fu q' M (nI j) (if kd = 4 then 1 else 0)) M ∨
    ∃ (u' d' M' : St) (kd' x' pl' bh' j' : Nat) (fr' ns' : Nat → Nat), f_X3_readStrings_L73 fu b q r u d (nI j) = some (1, r, u', d') ∧ f_X10_title_L13 fu q' M (nI j) (if kd = 4 then 1 else 0) = f_X10_title_L156 fu fu M' (nI j') ∧ RF r M' ∧ TK fu h n b u' M' kd' x' pl' bh' ∧ pl ≤ pl' ∧ kd' ≠ 4 ∧ (1 ≤ j' ∧ j' ≤ tg) ∧ ST h n d' M' tt j' fr' ns' ∧ SFr tt d d' ∧ MFr tt M M' := by
  intro m
  induction m with
  | zero =>
    intro q q' j r u d M kd x pl bh fr ns hj hj1 hq hq' T K hF hA h1 h46 hS
    obtain ⟨q, rfl⟩ : ∃ z, q = z + 1 := ⟨q - 1, by omega⟩
    obtain ⟨q', rfl⟩ : ∃ z, q' = z + 1 := ⟨q' - 1, by omega⟩
    have hg := hA.1
    have hjt : j = tg := by omega
    subst hjt
    rw [f_X3_readStrings_L73, f_X10_title_L13, if_neg (show ¬ (4 : Int32) < nI j from nI_nlt (a := 4) (by omega) (by decide))]
    by_cases c : kd = 4
    · subst c
      have he := K.eq (by decide)
      have hp := K.1
      obtain ⟨s1, s2, s3, s4, s5, s6, s7, s8⟩ := str_tok C T hfu K
      rw [if_pos (show u.1 1 = 4 from he.1), if_pos rfl, if_neg n10, if_pos (show M.1 36 = 4 from he.2), s3, s4]
      unfold f_X3_readFurtherString
      rw [s1, s2, obs, obs]
      refine Or.inl ?_
      have hT : f_X5_hasTongue fu d (nI j) = some 0 := by rw [hasTongue_P hA fu j (by omega), if_neg (by omega)]
      have fail2 : f_X3_readFurtherString_L48 fu b r u d (nI j) (nI (pl + 1)) (nI (bh - pl - 2)) = some (0, sF (sF r 0 2) 1 (nI pl), u, d) := by
        unfold f_X3_readFurtherString_L48
        rw [hp.2.1]
        exact bd hT (ip rfl (bd rfl (ip isB_0 rfl)))
      have wrong2 : ∀ Kx, f_X10_title_L79 Kx fu M (nI j) (nI (bh - pl - 2)) = some (0, sF (sF M 39 2) 40 (nI pl)) := by
        intro Kx
        unfold f_X10_title_L79
        rw [hg.2.1, if_pos rfl, hp.2.2.1]
        exact bd rfl (ip isB_0 rfl)
      have hj0 : ¬ nI j = 0 := nI_neq (b := 0) (by omega) (by decide) (by omega)
      by_cases c0 : bh - pl - 2 = 0
      · obtain ⟨-, z2⟩ := s8 c0
        rw [z2, obs, if_neg n10, if_neg hj0, wrong2, if_pos (show nI (bh - pl - 2) ≤ 0 by rw [c0]; decide), fail2]
        exact ⟨_, u, d, _, bd rfl (ip rfl rfl), rfl, wrong_rf _ _ _ _, (wrong_nf _ _ _).pf⟩
      rw [if_neg (nI_nle (show 0 < bh - pl - 2 by omega) (by have := C.1; omega))]
      by_cases cP : PrpA (fun i => h (pl + 1 + i)) (bh - pl - 2)
      · obtain ⟨z1, z2⟩ := s6 cP
        rw [z1, z2, obs, obs, if_neg n10, if_neg n10, if_neg hj0, wrong2, fail2]
        exact ⟨_, u, d, _, bd rfl (ip rfl rfl), rfl, wrong_rf _ _ _ _, (wrong_nf _ _ _).pf⟩
      · obtain ⟨z1, z2⟩ := s7 (by omega) cP
        rw [z1, z2, obs, obs, if_pos z00, if_pos z00, hp.2.1]
        unfold f_X10_title_L69
        rw [hp.2.2.1]
        exact ⟨sF (sF r 0 1) 1 (nI pl), u, d, sF (sF M 39 1) 40 (nI pl), bd (bd rfl (ip isB_0 rfl)) (ip rfl rfl), bd rfl (ip isB_0 rfl), wrong_rf _ _ _ _, (wrong_nf _ _ _).pf⟩
    · have hne := K.ne (k := 4) (by decide) (by decide) (by decide) c
      rw [if_neg (show ¬ u.1 1 = 4 from hne.1), if_neg c, if_pos z00]
      exact Or.inr ⟨u, d, M, kd, x, pl, bh, j, fr, ns, rfl, rfl, hF, K, Nat.le_refl _, c, ⟨hj1, Nat.le_refl _⟩, hS, SFr.refl _ _, MFr.refl _ _⟩
  | succ m ih =>
    intro q q' j r u d M kd x pl bh fr ns hj hj1 hq hq' T K hF hA h1 h46 hS
    obtain ⟨q, rfl⟩ : ∃ z, q = z + 1 := ⟨q - 1, by omega⟩
    obtain ⟨q', rfl⟩ : ∃ z, q' = z + 1 := ⟨q' - 1, by omega⟩
    have hg := hA.1
    have hn := C.1
    rw [f_X3_readStrings_L73, f_X10_title_L13, if_neg (show ¬ (4 : Int32) < nI j from nI_nlt (a := 4) (by omega) (by decide))]
    by_cases c : kd = 4
    · subst c
      have he := K.eq (by decide)
      have hp := K.1
      obtain ⟨s1, s2, s3, s4, s5, s6, s7, s8⟩ := str_tok C T hfu K
      rw [if_pos (show u.1 1 = 4 from he.1), if_pos rfl, if_neg n10, if_pos (show M.1 36 = 4 from he.2), s3, s4]
      unfold f_X3_readFurtherString
      rw [s1, s2, obs, obs]
      have hT : f_X5_hasTongue fu d (nI j) = some 1 := by rw [hasTongue_P hA fu j (by omega), if_pos (by omega)]
      have hj0 : ¬ nI j = 0 := nI_neq (b := 0) (by omega) (by decide) (by omega)
      -- the reference's writing, and the step
      have eκ : (4 * nI tt + nI j : Int32) = nI (4 * tt + j) := by
        rw [show (4 * nI tt : Int32) = nI (4 * tt) from pk_mul 4 tt, nI_add]
      obtain ⟨M1, eM1⟩ : ∃ M1, M1 = sA (sA M 52 (4 * tt + j) (nI (pl + 1))) 53 (4 * tt + j) (nI (bh - pl - 2)) := ⟨_, rfl⟩
      have mf1 : MFr tt M M1 := by rw [eM1]; exact (MFr.a tt M _ (by omega) (by omega)).trans (MFr.a tt _ _ (by omega) (by omega))
      have K1 : TK fu h n b u M1 4 x pl bh := by rw [eM1]; exact K
      have F1 : RF r M1 := by rw [eM1]; exact hF
      obtain ⟨u2, M2, kd2, x2, pl2, bh2, e1, e2, e3, e4, e5⟩ := step_e C (T.p mf1.pf) hfu K1 (by decide) (by decide)
      have mf2 := mf1.trans (e5.mfr tt)
      have w79 : ∀ Kx : St → Int32 → Int32 → Option (Int32 × St), f_X10_title_L79 Kx fu M (nI j) (nI (bh - pl - 2)) = Kx M2 (nI (j + 1)) (if kd2 = 4 then 1 else 0) := by
        intro Kx
        unfold f_X10_title_L79
        rw [hg.2.1, if_neg (nI_neq (by omega) (by omega) (show j ≠ tg by omega)), h46, eκ, if_pos (inb_nI (show 4 * tt + j < 160 by omega) (by decide)), if_pos (inb_nI (show 4 * tt + j < 160 by omega) (by decide)), cl_nI (show 4 * tt + j < 2 ^ 31 by omega), s3, ← eM1, e2, obs, nI_1]
        by_cases c2 : kd2 = 4
        · rw [if_pos c2, if_pos (show M2.1 36 = 4 by rw [e3.2.1.1, c2]; rfl)]
        · rw [if_neg c2, if_neg (show ¬ M2.1 36 = 4 by rw [e3.2.1.1]; exact nI_neq (b := 4) (by have := e3.2.1.2.1; omega) (by decide) c2)]
      have g53 : ∀ z, M2.2 53 z = if z = 4 * tt + j then nI (bh - pl - 2) else M.2 53 z := fun z => by rw [e5.2, eM1, sA_2i, if_pos rfl]; rfl
      have g52 : ∀ z, M2.2 52 z = if z = 4 * tt + j then nI (pl + 1) else M.2 52 z := fun z => by rw [e5.2, eM1, sA_2i, if_neg (by decide), sA_2i, if_pos rfl]
      -- what goes on
      have go : ∀ (d2 : St) (fr2 ns2 : Nat → Nat), SFr tt d d2 → ST h n d2 M2 tt (j + 1) fr2 ns2 →
          JF (f_X3_readStrings_L73 fu b q r u2 d2 (nI (j + 1))) (f_X10_title_L13 fu q' M2 (nI (j + 1)) (if kd2 = 4 then 1 else 0)) M ∨
          ∃ (u' d' M' : St) (kd' x' pl' bh' j' : Nat) (fr' ns' : Nat → Nat), f_X3_readStrings_L73 fu b q r u2 d2 (nI (j + 1)) = some (1, r, u', d') ∧ f_X10_title_L13 fu q' M2 (nI (j + 1)) (if kd2 = 4 then 1 else 0) = f_X10_title_L156 fu fu M' (nI j') ∧ RF r M' ∧ TK fu h n b u' M' kd' x' pl' bh' ∧ pl ≤ pl' ∧ kd' ≠ 4 ∧ (1 ≤ j' ∧ j' ≤ tg) ∧ ST h n d' M' tt j' fr' ns' ∧ SFr tt d d' ∧ MFr tt M M' := by
        intro d2 fr2 ns2 hs2 hS2
        rcases ih q q' (j + 1) r u2 d2 M2 kd2 x2 pl2 bh2 fr2 ns2 (by omega) (by omega) (by omega) (by omega) (T.p mf2.pf) e3 (F1.n e5) (hA.sm hs2 mf2) (by rw [hs2.1]; exact h1) ((mf2.1 46 (by decide) (by decide) (by decide) (by decide)).trans h46) hS2 with ⟨r3, u3, d3, M3, a1, a2, a3, a4⟩ | ⟨u3, d3, M3, kd3, x3, pl3, bh3, j3, fr3, ns3, a1, a2, a3, a4, a5, a6, a7, a8, a9, a10⟩
        · exact Or.inl ⟨r3, u3, d3, M3, a1, a2, a3, mf2.pf.trans a4⟩
        · exact Or.inr ⟨u3, d3, M3, kd3, x3, pl3, bh3, j3, fr3, ns3, a1, a2, a3, a4, by omega, a6, a7, a8, hs2.trans a9, mf2.trans a10⟩
      by_cases c0 : bh - pl - 2 = 0
      · obtain ⟨-, z2⟩ := s8 c0
        have cl : f_X3_readFurtherString_L48 fu b r u d (nI j) (nI (pl + 1)) (nI (bh - pl - 2)) = some (1, r, u2, d) := by
          unfold f_X3_readFurtherString_L48 f_X3_readFurtherString_L86
          exact bd hT (iN n10 (ip (by rw [c0]; decide) (bd e1 rfl)))
        rw [z2, obs, if_neg n10, if_neg hj0, w79, if_pos (show nI (bh - pl - 2) ≤ 0 by rw [c0]; decide), cl, obs, if_neg n10, nI_1]
        refine go d fr ns (SFr.refl _ _) ⟨hS.1, fun g hg2 => ?_, fun g hg2 hg3 => hS.2.2 g (by omega) hg3⟩
        rw [g53, g52]
        by_cases cg : g = j
        · rw [if_pos (by omega), if_pos (by omega), c0, cg]
          have := hS.2.2 j (Nat.le_refl _) (by omega)
          exact Or.inr ⟨rfl, this.1, this.2, by omega⟩
        · rw [if_neg (by omega), if_neg (by omega)]; exact hS.2.1 g (by omega)
      rw [if_neg (nI_nle (show 0 < bh - pl - 2 by omega) (by omega))]
      by_cases cP : PrpA (fun i => h (pl + 1 + i)) (bh - pl - 2)
      · obtain ⟨z1, z2⟩ := s6 cP
        have cl : f_X3_readFurtherString_L48 fu b r u d (nI j) (nI (pl + 1)) (nI (bh - pl - 2)) = some (1, r, u2, sA (sA d 11 (4 * tt + j) (nI (pl + 1))) 12 (4 * tt + j) (nI (bh - pl - 2))) := by
          unfold f_X3_readFurtherString_L48 f_X3_readFurtherString_L86
          exact bd hT (iN n10 (iN (nI_nle (show 0 < bh - pl - 2 by omega) (by omega)) (bd (setString_e h1 ht (by omega) fu _ _) (bd e1 rfl))))
        rw [z1, z2, obs, obs, if_neg n10, if_neg n10, if_neg hj0, w79, cl, obs, if_neg n10, nI_1]
        obtain ⟨fr2, q1, q2⟩ : ∃ fr2 : Nat → Nat, fr2 j = pl + 1 ∧ ∀ g, g ≠ j → fr2 g = fr g := ⟨fun g => if g = j then pl + 1 else fr g, if_pos rfl, fun g hg => if_neg hg⟩
        obtain ⟨ns2, q3, q4⟩ : ∃ ns2 : Nat → Nat, ns2 j = bh - pl - 2 ∧ ∀ g, g ≠ j → ns2 g = ns g := ⟨fun g => if g = j then bh - pl - 2 else ns g, if_pos rfl, fun g hg => if_neg hg⟩
        have q20 := q2 0 (by omega)
        have q40 := q4 0 (by omega)
        refine go _ fr2 ns2 ((SFr.a tt d _ (by omega) (by omega)).trans (SFr.a tt _ _ (by omega) (by omega))) ⟨fun g hg2 => ?_, fun g hg2 => ?_, fun g hg2 hg3 => ?_⟩
        · have e11 : (sA (sA d 11 (4 * tt + j) (nI (pl + 1))) 12 (4 * tt + j) (nI (bh - pl - 2))).2 11 (4 * tt + g) = if 4 * tt + g = 4 * tt + j then nI (pl + 1) else d.2 11 (4 * tt + g) := rfl
          have e12 : (sA (sA d 11 (4 * tt + j) (nI (pl + 1))) 12 (4 * tt + j) (nI (bh - pl - 2))).2 12 (4 * tt + g) = if 4 * tt + g = 4 * tt + j then nI (bh - pl - 2) else d.2 12 (4 * tt + g) := rfl
          rw [e11, e12]
          by_cases cg : g = j
          · rw [if_pos (by omega), if_pos (by omega), cg, q1, q3]
            exact ⟨⟨rfl, rfl⟩, ⟨s5, by omega⟩, cP⟩
          · rw [if_neg (by omega), if_neg (by omega), q2 g cg, q4 g cg]; exact hS.1 g hg2
        · rw [g53, g52]
          by_cases cg : g = j
          · rw [if_pos (by omega), if_pos (by omega), cg, q1, q3]
            exact Or.inl ⟨rfl, rfl⟩
          · rw [if_neg (by omega), if_neg (by omega), q2 g cg, q4 g cg, q20, q40]; exact hS.2.1 g (by omega)
        · rw [q2 g (by omega), q4 g (by omega), q20, q40]
          exact hS.2.2 g (by omega) hg3
      · obtain ⟨z1, z2⟩ := s7 (by omega) cP
        rw [z1, z2, obs, obs, if_pos z00, if_pos z00, hp.2.1]
        unfold f_X10_title_L69
        rw [hp.2.2.1]
        exact Or.inl ⟨sF (sF r 0 1) 1 (nI pl), u, d, sF (sF M 39 1) 40 (nI pl), bd (bd rfl (ip isB_0 rfl)) (ip rfl rfl), bd rfl (ip isB_0 rfl), wrong_rf _ _ _ _, (wrong_nf _ _ _).pf⟩
    · have hne := K.ne (k := 4) (by decide) (by decide) (by decide) c
      rw [if_neg (show ¬ u.1 1 = 4 from hne.1), if_neg c, if_pos z00]
      exact Or.inr ⟨u, d, M, kd, x, pl, bh, j, fr, ns, rfl, rfl, hF, K, Nat.le_refl _, c, ⟨hj1, by omega⟩, hS, SFr.refl _ _, MFr.refl _ _⟩
end STR
