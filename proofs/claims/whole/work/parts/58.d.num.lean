/-! the parser's state on both sides; numbers, semicolons -/
def PF (M M' : St) : Prop := (∀ x, x ≤ 25 ∨ x = 34 → M'.1 x = M.1 x) ∧ ∀ x, x ≤ 25 ∨ x = 54 → M'.2 x = M.2 x
def NF (M M' : St) : Prop := (∀ x, x ≤ 25 ∨ x = 34 ∨ (41 ≤ x ∧ x ≤ 54) → M'.1 x = M.1 x) ∧ ∀ x, x ≤ 25 ∨ (41 ≤ x ∧ x ≤ 54) → M'.2 x = M.2 x
theorem PF.trans {A B D : St} (a : PF A B) (c : PF B D) : PF A D := ⟨fun x hx => (c.1 x hx).trans (a.1 x hx), fun x hx => (c.2 x hx).trans (a.2 x hx)⟩
theorem PF.refl (A : St) : PF A A := ⟨fun _ _ => rfl, fun _ _ => rfl⟩
theorem NF.trans {A B D : St} (a : NF A B) (c : NF B D) : NF A D := ⟨fun x hx => (c.1 x hx).trans (a.1 x hx), fun x hx => (c.2 x hx).trans (a.2 x hx)⟩
theorem NF.refl (A : St) : NF A A := ⟨fun _ _ => rfl, fun _ _ => rfl⟩
theorem NF.pf {A B : St} (a : NF A B) : PF A B := ⟨fun x hx => a.1 x (by omega), fun x hx => a.2 x (by omega)⟩
theorem FrT.nf {A B : St} (a : FrT A B) : NF A B := ⟨fun x hx => a.1 x (by omega) (by omega) (by omega) (by omega), fun x _ => by rw [a.2]⟩
theorem FrL.nf {A B : St} (a : FrL A B) : NF A B := ⟨fun x hx => a.1 x (by omega) (by omega) (by omega), fun x hx => a.2 x (by omega) (by omega) (by omega) (by omega) (by omega)⟩
theorem NF.f (M : St) {k : Nat} (v : Int32) (hk : 25 < k ∧ k ≠ 34 ∧ (k < 41 ∨ 54 < k)) : NF M (sF M k v) := ⟨fun x hx => by rw [sF_1, if_neg (by omega)], fun _ _ => rfl⟩
theorem PF.f (M : St) {k : Nat} (v : Int32) (hk : 25 < k ∧ k ≠ 34) : PF M (sF M k v) := ⟨fun x hx => by rw [sF_1, if_neg (by omega)], fun _ _ => rfl⟩
theorem PF.a (M : St) {k i : Nat} (v : Int32) (hk : 25 < k ∧ k ≠ 54) : PF M (sA M k i v) := ⟨fun _ _ => rfl, fun x hx => by rw [sA_2, if_neg (by omega)]⟩
theorem TM.p {h : Nat → Nat} {n : Nat} {M M' : St} (T : TM h n M) (a : PF M M') : TM h n M' := ⟨(a.1 34 (by omega)).trans T.1, by rw [a.2 0 (by omega)]; exact T.2.1, (a.2 54 (by omega)).trans T.2.2⟩
theorem wrong_nf (M : St) (f p : Int32) : NF M (sF (sF M 39 f) 40 p) := (NF.f M f (by omega)).trans (NF.f _ p (by omega))
theorem wrong_rf (r M : St) (f p : Int32) : RF (sF (sF r 0 f) 1 p) (sF (sF M 39 f) 40 p) := ⟨rfl, rfl⟩
theorem RF.n {r M M' : St} (h : RF r M) (a : FrT M M') : RF r M' := RF.c (a.1 39 (by decide) (by decide) (by decide) (by decide)) (a.1 40 (by decide) (by decide) (by decide) (by decide)) h
section PRS
variable {h : Nat → Nat} {n : Nat} {b : Nat → Int32} {fu : Nat}
/-- a step behind a token that is one -/
theorem step_e (C : CX h n b) {u M : St} (T : TM h n M) (hfu : 2000 ≤ fu) {kd x pl bh : Nat} (K : TK fu h n b u M kd x pl bh) (h0 : kd ≠ 0) (h6 : kd ≠ 6) :
    ∃ (u' M' : St) (kd' x' pl' bh' : Nat), f_X4_step fu b u = some u' ∧ f_X10_take fu M = some M' ∧ TK fu h n b u' M' kd' x' pl' bh' ∧ pl < pl' ∧ FrT M M' := by
  obtain ⟨k1, k2, k3, k4⟩ := K.2.2.2.2.1 h0 h6
  obtain ⟨u', M', kd', x', pl', bh', e1, e2, e3, e4, e5⟩ := step_take C T hfu K.1.1 k1 k2 k4
  exact ⟨u', M', kd', x', pl', bh', e1, e2, e3, by omega, e5⟩
theorem TK.ne {u M : St} {kd x pl bh : Nat} (K : TK fu h n b u M kd x pl bh) {k : Nat} (hk : k ≤ 6) (h1 : k ≠ 1) (h6 : k ≠ 6) (hne : kd ≠ k) : ¬ u.1 1 = nI k ∧ ¬ M.1 36 = nI k := by
  obtain ⟨-, ⟨a1, a2, a3⟩, -⟩ := K
  refine ⟨?_, by rw [a1]; exact nI_neq (by omega) (by omega) hne⟩
  rcases a3 with q | ⟨-, q⟩
  · rw [q]; exact nI_neq (by omega) (by omega) hne
  · rw [q]; exact nI_neq (by omega) (by omega) (Ne.symm h1)
theorem TK.eq {u M : St} {kd x pl bh : Nat} (K : TK fu h n b u M kd x pl bh) (h6 : kd ≠ 6) : u.1 1 = nI kd ∧ M.1 36 = nI kd := by
  obtain ⟨-, ⟨a1, a2, a3⟩, -⟩ := K
  exact ⟨a3.resolve_right (fun q => h6 q.1), a1⟩
theorem num_e (C : CX h n b) {r u M : St} (T : TM h n M) (hfu : 2000 ≤ fu) {kd x pl bh : Nat} (K : TK fu h n b u M kd x pl bh) (hF : RF r M) (lo hi : Nat) (hlh : lo ≤ 99999 ∧ hi ≤ 99999) :
    (∃ r' u' M' : St, f_X3_readNumber fu b r u (nI lo) (nI hi) = some (0, r', u') ∧ f_X10_number fu M (nI lo) (nI hi) = some (0, M') ∧ RF r' M' ∧ NF M M') ∨
    (∃ (r' u' M' : St) (y kd' x' pl' bh' : Nat), f_X3_readNumber fu b r u (nI lo) (nI hi) = some (1, r', u') ∧ f_X10_number fu M (nI lo) (nI hi) = some (1, M') ∧ RF r' M' ∧ NF M M' ∧ TK fu h n b u' M' kd' x' pl' bh' ∧ pl < pl' ∧ (lo ≤ y ∧ y ≤ hi) ∧ r'.1 4 = nI y ∧ r'.1 5 = nI pl ∧ M'.1 55 = nI y) := by
  have hp := K.1
  unfold f_X3_readNumber f_X10_number
  by_cases c : kd = 3
  · subst c
    have he := K.eq (by decide)
    obtain ⟨y, ⟨n1, n2, n3⟩, y1, y2⟩ := K.2.2.2.2.2.2.2.1 rfl
    rw [if_pos (show u.1 1 = 3 from he.1), if_pos (show M.1 36 = 3 from he.2), y1, y2]
    have bad : ∃ r' u' M' : St, f_X3_readNumber_L62 fu b (sF (sF r 4 (nI x)) 5 (u.1 2)) u = some (0, r', u') ∧ f_X10_number_L34 fu M = some (0, M') ∧ RF r' M' ∧ NF M M' := by
      refine ⟨sF (sF (sF (sF r 4 (nI x)) 5 (u.1 2)) 0 2) 1 (u.1 2), u, sF (sF M 39 2) 40 (M.1 38), bd rfl (ip isB_0 rfl), bd rfl (ip isB_0 rfl), ?_, wrong_nf _ _ _⟩
      rw [hp.2.1, hp.2.2.1]
      exact ⟨rfl, rfl⟩
    by_cases c1 : x < lo
    · rw [if_pos (nI_lt c1 (by omega)), if_pos (nI_lt (show y < lo by omega) (by omega))]
      exact Or.inl bad
    rw [if_neg (nI_nlt (show lo ≤ x by omega) (by omega)), if_neg (nI_nlt (show lo ≤ y by omega) (by omega))]
    by_cases c2 : x ≤ hi
    · have hxy : x = y := by omega
      subst hxy
      rw [if_pos (nI_le c2 (by omega)), if_pos (nI_le c2 (by omega))]
      have K' : TK fu h n b u (sF M 55 (nI x)) 3 x pl bh := K
      obtain ⟨u', M', kd', x', pl', bh', e1, e2, e3, e4, e5⟩ := step_e C (T.f (by decide)) hfu K' (by decide) (by decide)
      refine Or.inr ⟨sF (sF r 4 (nI x)) 5 (u.1 2), u', M', x, kd', x', pl', bh', bd e1 rfl, bd e2 rfl, ?_, (NF.f M (nI x) (by omega)).trans e5.nf, e3, e4, ⟨by omega, c2⟩, rfl, hp.2.1, e5.1 55 (by decide) (by decide) (by decide) (by decide)⟩
      exact RF.n (M := sF M 55 (nI x)) hF e5
    · rw [if_neg (nI_ge (show hi < x by omega) (by omega)), if_neg (nI_ge (show hi < y by omega) (by omega))]
      exact Or.inl bad
  · have hne := K.ne (k := 3) (by decide) (by decide) (by decide) c
    rw [if_neg (show ¬ u.1 1 = 3 from hne.1), if_neg (show ¬ M.1 36 = 3 from hne.2)]
    refine Or.inl ⟨sF (sF r 0 1) 1 (u.1 2), u, sF (sF M 39 1) 40 (M.1 38), bd rfl (ip isB_0 rfl), bd rfl (ip isB_0 rfl), ?_, wrong_nf _ _ _⟩
    rw [hp.2.1, hp.2.2.1]
    exact ⟨rfl, rfl⟩
theorem semi_e (C : CX h n b) {r u M : St} (T : TM h n M) (hfu : 2000 ≤ fu) {kd x pl bh : Nat} (K : TK fu h n b u M kd x pl bh) (hF : RF r M) :
    (kd ≠ 5 ∧ ∃ r' u' M' : St, f_X3_readSemicolon fu b r u = some (0, r', u') ∧ f_X10_semi fu M = some (0, M') ∧ RF r' M' ∧ NF M M' ∧ (r' = sF (sF r 0 1) 1 (nI pl) ∧ M' = sF (sF M 39 1) 40 (nI pl))) ∨
    (kd = 5 ∧ ∃ (u' M' : St) (kd' x' pl' bh' : Nat), f_X3_readSemicolon fu b r u = some (1, r, u') ∧ f_X10_semi fu M = some (1, M') ∧ RF r M' ∧ FrT M M' ∧ TK fu h n b u' M' kd' x' pl' bh' ∧ pl < pl') := by
  have hp := K.1
  unfold f_X3_readSemicolon f_X10_semi
  by_cases c : kd = 5
  · subst c
    have he := K.eq (by decide)
    rw [if_pos (show u.1 1 = 5 from he.1), if_pos (show M.1 36 = 5 from he.2)]
    obtain ⟨u', M', kd', x', pl', bh', e1, e2, e3, e4, e5⟩ := step_e C T hfu K (by decide) (by decide)
    exact Or.inr ⟨rfl, u', M', kd', x', pl', bh', bd e1 rfl, bd e2 rfl, hF.n e5, e5, e3, e4⟩
  · have hne := K.ne (k := 5) (by decide) (by decide) (by decide) c
    rw [if_neg (show ¬ u.1 1 = 5 from hne.1), if_neg (show ¬ M.1 36 = 5 from hne.2)]
    refine Or.inl ⟨c, sF (sF r 0 1) 1 (u.1 2), u, sF (sF M 39 1) 40 (M.1 38), bd rfl (ip isB_0 rfl), bd rfl (ip isB_0 rfl), ?_, wrong_nf _ _ _, by rw [hp.2.1], by rw [hp.2.2.1]⟩
    rw [hp.2.1, hp.2.2.1]
    exact ⟨rfl, rfl⟩
end PRS
/-- tongues and settings -/
def PA (d M : St) (tg bt : Nat) (w v : Nat → Nat) : Prop := (d.1 0 = nI tg ∧ M.1 41 = nI tg ∧ 1 ≤ tg ∧ tg ≤ 4) ∧ (d.1 4 = nI bt ∧ M.1 44 = nI bt ∧ bt ≤ 8) ∧ (∀ t, t < 4 → d.2 5 t = nI (w t) ∧ M.2 42 t = nI (w t) ∧ w t ≤ 40) ∧ ∀ t, t < 4 → d.2 6 t = nI (v t) ∧ M.2 43 t = nI (v t) ∧ v t ≤ 20
/-- cuts -/
def PB (d M : St) (cn : Nat) (cf ct : Nat → Nat) : Prop := (d.1 2 = nI cn ∧ M.1 51 = nI cn ∧ cn ≤ 8) ∧ ∀ k, k < 8 → d.2 8 k = nI (ct k) ∧ M.2 50 k = nI (ct k) ∧ (ct k = 0 ∨ (d.2 7 k = nI (cf k) ∧ M.2 49 k = nI (cf k) ∧ cf k < ct k ∧ ct k ≤ 999))
/-- marks -/
def PM (d M : St) (tt im : Nat) (bar tm : Nat → Nat) : Prop := (d.1 1 = nI tt ∧ M.1 46 = nI tt ∧ tt ≤ im) ∧ (d.1 3 = nI im ∧ M.1 45 = nI im ∧ im ≤ 40) ∧ (∀ k, k < im → d.2 9 k = nI (bar k) ∧ M.2 47 k = nI (bar k) ∧ 1 ≤ bar k ∧ bar k ≤ 999) ∧ (∀ k, k + 1 < im → bar k < bar (k + 1)) ∧
  (∀ t, t < tt → d.2 10 t = nI (tm t) ∧ tm t < im ∧ M.2 48 (tm t) = nI t) ∧ ∀ k, k < im → (∃ t, t < tt ∧ tm t = k) ∨ M.2 48 k = -1
/-- a title's string in a tongue -/
def PSs (h : Nat → Nat) (n : Nat) (d M : St) (w fr ns : Nat → Nat) (t g : Nat) : Prop :=
  (d.2 11 (4 * t + g) = nI (fr (4 * t + g)) ∧ d.2 12 (4 * t + g) = nI (ns (4 * t + g)) ∧ fr (4 * t + g) + ns (4 * t + g) ≤ n) ∧ PrpA (fun i => h (fr (4 * t + g) + i)) (ns (4 * t + g)) ∧ (∃ (W : Nat) (wb we : Nat → Nat), Wds (fun i => h (fr (4 * t + g) + i)) (ns (4 * t + g)) W wb we ∧ fitP W (wdt w g) wb we) ∧
  ((M.2 53 (4 * t + g) = nI (ns (4 * t + g)) ∧ M.2 52 (4 * t + g) = nI (fr (4 * t + g))) ∨ (M.2 53 (4 * t + g) = 0 ∧ fr (4 * t + g) = fr (4 * t) ∧ ns (4 * t + g) = ns (4 * t) ∧ g ≠ 0))
def PX (h : Nat → Nat) (n : Nat) (d M : St) (tg tt : Nat) (w fr ns : Nat → Nat) : Prop := (∀ t g, t < tt → g < tg → PSs h n d M w fr ns t g) ∧ ∀ t g, t < tt → tg ≤ g → g < 4 → M.2 53 (4 * t + g) = 0
section PCC
variable {d d' M M' : St}
theorem PA.c {tg bt : Nat} {w v : Nat → Nat} (e0 : d'.1 0 = d.1 0) (e4 : d'.1 4 = d.1 4) (e5 : d'.2 5 = d.2 5) (e6 : d'.2 6 = d.2 6) (f1 : M'.1 41 = M.1 41) (f4 : M'.1 44 = M.1 44) (f2 : M'.2 42 = M.2 42) (f3 : M'.2 43 = M.2 43) (a : PA d M tg bt w v) : PA d' M' tg bt w v := by
  unfold PA at *
  rw [e0, e4, e5, e6, f1, f4, f2, f3]
  exact a
theorem PB.c {cn : Nat} {cf ct : Nat → Nat} (e2 : d'.1 2 = d.1 2) (e7 : d'.2 7 = d.2 7) (e8 : d'.2 8 = d.2 8) (f1 : M'.1 51 = M.1 51) (f2 : M'.2 49 = M.2 49) (f3 : M'.2 50 = M.2 50) (a : PB d M cn cf ct) : PB d' M' cn cf ct := by
  unfold PB at *
  rw [e2, e7, e8, f1, f2, f3]
  exact a
theorem PM.c {tt im : Nat} {bar tm : Nat → Nat} (e1 : d'.1 1 = d.1 1) (e3 : d'.1 3 = d.1 3) (e9 : d'.2 9 = d.2 9) (e10 : d'.2 10 = d.2 10) (f5 : M'.1 45 = M.1 45) (f6 : M'.1 46 = M.1 46) (f7 : M'.2 47 = M.2 47) (f8 : M'.2 48 = M.2 48) (a : PM d M tt im bar tm) : PM d' M' tt im bar tm := by
  unfold PM at *
  rw [e1, e3, e9, e10, f5, f6, f7, f8]
  exact a
theorem PX.c {h : Nat → Nat} {n tg tt : Nat} {w fr ns : Nat → Nat} (e11 : d'.2 11 = d.2 11) (e12 : d'.2 12 = d.2 12) (f2 : M'.2 52 = M.2 52) (f3 : M'.2 53 = M.2 53) (a : PX h n d M tg tt w fr ns) : PX h n d' M' tg tt w fr ns := by
  unfold PX PSs at *
  rw [e11, e12, f2, f3]
  exact a
theorem PA.n {tg bt : Nat} {w v : Nat → Nat} (m : NF M M') (a : PA d M tg bt w v) : PA d M' tg bt w v := PA.c rfl rfl rfl rfl (m.1 _ (by omega)) (m.1 _ (by omega)) (m.2 _ (by omega)) (m.2 _ (by omega)) a
theorem PB.n {cn : Nat} {cf ct : Nat → Nat} (m : NF M M') (a : PB d M cn cf ct) : PB d M' cn cf ct := PB.c rfl rfl rfl (m.1 _ (by omega)) (m.2 _ (by omega)) (m.2 _ (by omega)) a
theorem PM.n {tt im : Nat} {bar tm : Nat → Nat} (m : NF M M') (a : PM d M tt im bar tm) : PM d M' tt im bar tm := PM.c rfl rfl rfl rfl (m.1 _ (by omega)) (m.1 _ (by omega)) (m.2 _ (by omega)) (m.2 _ (by omega)) a
theorem PX.n {h : Nat → Nat} {n tg tt : Nat} {w fr ns : Nat → Nat} (m : NF M M') (a : PX h n d M tg tt w fr ns) : PX h n d M' tg tt w fr ns := PX.c rfl rfl (m.2 _ (by omega)) (m.2 _ (by omega)) a
theorem hasTongue_P {tg bt : Nat} {w v : Nat → Nat} (a : PA d M tg bt w v) (fu : Nat) (g : Nat) (hg : g < 2 ^ 31) : f_X5_hasTongue fu d (nI g) = some (if g < tg then 1 else 0) := by
  obtain ⟨⟨h1, h2, h3, h4⟩, -⟩ := a
  unfold f_X5_hasTongue
  rw [h1]
  by_cases c : g < tg
  · rw [if_pos c]
    exact iN (nI_pos hg) (iN (nI_ge c (by omega)) (if_neg (nI_ge (a := g) (b := 4) (by omega) (by decide))))
  · rw [if_neg c]
    exact iN (nI_pos hg) (if_pos (nI_le (by omega) hg))
theorem tellsW_P {tg bt : Nat} {w v : Nat → Nat} (a : PA d M tg bt w v) (fu : Nat) {g : Nat} (hg : g < tg) : f_X5_tellsW fu d (nI g) = some (if w g = 0 then 0 else 1) := by
  have hg4 : tg ≤ 4 := a.1.2.2.2
  obtain ⟨h1, -, h2⟩ := a.2.2.1 g (by omega)
  unfold f_X5_tellsW
  refine bd (r := 1) (by rw [hasTongue_P a fu g (by omega), if_pos hg]) (iN (by decide) (iN (nI_ge (a := g) (b := 4) (by omega) (by decide)) ?_))
  rw [if_pos (inb_nI (show g < 4 by omega) (by decide)), cl_nI (show g < 2 ^ 31 by omega), h1]
  by_cases c : w g = 0
  · rw [if_pos c, c]; exact if_pos (by decide)
  · rw [if_neg c]; exact if_neg (nI_nle (by omega) (by omega))
theorem tellsS_P {tg bt : Nat} {w v : Nat → Nat} (a : PA d M tg bt w v) (fu : Nat) {g : Nat} (hg : g < tg) : f_X5_tellsS fu d (nI g) = some (if v g = 0 then 0 else 1) := by
  have hg4 : tg ≤ 4 := a.1.2.2.2
  obtain ⟨h1, -, h2⟩ := a.2.2.2 g (by omega)
  unfold f_X5_tellsS
  refine bd (r := 1) (by rw [hasTongue_P a fu g (by omega), if_pos hg]) (iN (by decide) (iN (nI_ge (a := g) (b := 4) (by omega) (by decide)) ?_))
  rw [if_pos (inb_nI (show g < 4 by omega) (by decide)), cl_nI (show g < 2 ^ 31 by omega), h1]
  by_cases c : v g = 0
  · rw [if_pos c, c]; exact if_pos (by decide)
  · rw [if_neg c]; exact if_neg (nI_nle (by omega) (by omega))
theorem widthOf_P {tg bt : Nat} {w v : Nat → Nat} (a : PA d M tg bt w v) (fu : Nat) {g : Nat} (hg : g < tg) : f_X5_widthOf fu d (nI g) = some (nI (wdt w g)) := by
  have hg4 : tg ≤ 4 := a.1.2.2.2
  obtain ⟨h1, -, h2⟩ := a.2.2.1 g (by omega)
  unfold f_X5_widthOf wdt
  refine bd (tellsW_P a fu hg) ?_
  by_cases c : w g = 0
  · rw [if_pos c, if_pos c]; exact ip rfl rfl
  · rw [if_neg c, if_neg c, if_neg (by decide), if_pos (inb_nI (show g < 4 by omega) (by decide)), cl_nI (show g < 2 ^ 31 by omega), h1]
theorem tellW_P {tg bt : Nat} {w v : Nat → Nat} (a : PA d M tg bt w v) (fu : Nat) {g : Nat} (hg : g < tg) (x : Int32) : f_X5_tellW fu d (nI g) x = some (sA d 5 g x) := by
  have hg4 : tg ≤ 4 := a.1.2.2.2
  unfold f_X5_tellW
  refine bd (r := 1) (by rw [hasTongue_P a fu g (by omega), if_pos hg]) (iN (by decide) (iN (nI_ge (a := g) (b := 4) (by omega) (by decide)) ?_))
  rw [if_pos (inb_nI (show g < 4 by omega) (by decide)), cl_nI (show g < 2 ^ 31 by omega)]
theorem tellS_P {tg bt : Nat} {w v : Nat → Nat} (a : PA d M tg bt w v) (fu : Nat) {g : Nat} (hg : g < tg) (x : Int32) : f_X5_tellS fu d (nI g) x = some (sA d 6 g x) := by
  have hg4 : tg ≤ 4 := a.1.2.2.2
  unfold f_X5_tellS
  refine bd (r := 1) (by rw [hasTongue_P a fu g (by omega), if_pos hg]) (iN (by decide) (iN (nI_ge (a := g) (b := 4) (by omega) (by decide)) ?_))
  rw [if_pos (inb_nI (show g < 4 by omega) (by decide)), cl_nI (show g < 2 ^ 31 by omega)]
end PCC
