/-! a token on both sides -/
/-- kd: 0 the end, 1 the word x, 2 the name x, 3 a number x, 4 a string, 5 a semicolon, 6 none; at pl, up to bh -/
def TK (fu : Nat) (h : Nat → Nat) (n : Nat) (b : Nat → Int32) (u M : St) (kd x pl bh : Nat) : Prop :=
  (u.1 4 = nI n ∧ u.1 2 = nI pl ∧ M.1 38 = nI pl ∧ pl ≤ n) ∧ (M.1 36 = nI kd ∧ kd ≤ 6 ∧ (u.1 1 = nI kd ∨ (kd = 6 ∧ u.1 1 = nI 1))) ∧
  (∀ j, j < 7 → f_X4_isWord fu j u b = some (if kd = 1 ∧ x = j + 1 then 1 else 0)) ∧ ((kd = 0 → pl = n) ∧ (kd ≠ 0 → pl < n)) ∧
  (kd ≠ 0 → kd ≠ 6 → u.1 5 = nI bh ∧ M.1 35 = nI bh ∧ pl < bh ∧ bh ≤ n) ∧ (kd = 1 → 1 ≤ x ∧ x ≤ 7 ∧ M.1 37 = nI x) ∧ (kd = 2 → x < 8 ∧ M.1 37 = nI x ∧ u.1 3 = nI x) ∧
  (kd = 3 → ∃ y, NR x y ∧ u.1 3 = nI x ∧ M.1 37 = nI y) ∧ (kd = 4 → pl + 2 ≤ bh ∧ ∀ i, i < bh - pl - 2 → pS (h (pl + 1 + i)) = true)
theorem noWord (fu : Nat) {b : Nat → Int32} {u : St} {kd : Nat} (h : u.1 1 = nI kd) (hk : kd ≤ 6) (h1 : kd ≠ 1) (x : Nat) : ∀ j, j < 7 → f_X4_isWord fu j u b = some (if kd = 1 ∧ x = j + 1 then 1 else 0) := by
  intro j hj
  unfold f_X4_isWord
  rw [if_neg (show ¬ u.1 1 = 1 by rw [h]; exact nI_neq (b := 1) (by omega) (by decide) h1), if_neg (fun q => h1 q.1)]
theorem sb65 {c : Nat} (hc : c < 256) (h : c < 65 ∨ 128 ≤ c) : sb c - 65 < 0 := by
  have key : ∀ i : Fin 256, (i.val < 65 ∨ 128 ≤ i.val) → sb i.val - 65 < 0 := by decide +kernel
  exact key ⟨c, hc⟩ h
/-- a step and a take change but these fields -/
def FrT (M M' : St) : Prop := (∀ x, x ≠ 35 → x ≠ 36 → x ≠ 37 → x ≠ 38 → M'.1 x = M.1 x) ∧ M'.2 = M.2
section TOK
variable {h : Nat → Nat} {n : Nat} {b : Nat → Int32} {fu : Nat}
theorem step_take (C : CX h n b) {u M : St} (T : TM h n M) (hfu : 2000 ≤ fu) {p : Nat} (h4 : u.1 4 = nI n) (h5 : u.1 5 = nI p) (h35 : M.1 35 = nI p) (hp : p ≤ n) :
    ∃ (u' M' : St) (kd x pl bh : Nat), f_X4_step fu b u = some u' ∧ f_X10_take fu M = some M' ∧ TK fu h n b u' M' kd x pl bh ∧ p ≤ pl ∧ FrT M M' := by
  obtain ⟨hn, hb⟩ := id C
  have hh : ∀ i, i < n → h i < 256 := fun i hi => (hb i hi).1
  obtain ⟨p', hS⟩ := Sc_ex pB h n (n - p) p (by omega)
  have hp1 := hS.1
  have hp2 := hS.2.1
  have ec : f_X4_step fu b u = f_X4_step_L60 fu b (sF u 2 (nI p')) := by
    unfold f_X4_step
    rw [h5]
    exact stepL8 C h4 (by omega) hS
  have er : f_X10_take fu M = f_X10_take_L52 fu (sF M 35 (nI p')) := by
    unfold f_X10_take
    have := takeL0 (fu := fu) hn hh T (show n < fu by omega) hS
    rw [sF_self h35] at this
    exact this
  have h34 := T.1
  rw [ec, er]
  unfold f_X4_step_L60 f_X10_take_L52
  have a2 : (sF u 2 (nI p')).1 2 = nI p' := rfl
  have a4 : (sF u 2 (nI p')).1 4 = nI n := h4
  have m34 : (sF M 35 (nI p')).1 34 = nI n := h34
  have m35 : (sF M 35 (nI p')).1 35 = nI p' := rfl
  rw [a2, a4, m34, m35]
  by_cases cE : p' = n
  · rw [if_neg (nI_nlt (show n ≤ p' by omega) (by omega)), if_pos (show nI p' = nI n by rw [cE])]
    refine ⟨_, _, 0, 0, p', n, rfl, rfl, ⟨⟨h4, rfl, rfl, by omega⟩, ⟨rfl, by omega, Or.inl rfl⟩, noWord fu (kd := 0) rfl (by omega) (by omega) 0, ⟨fun _ => cE, fun q => absurd rfl q⟩, fun q => absurd rfl q, fun q => absurd q (by decide), fun q => absurd q (by decide), fun q => absurd q (by decide), fun q => absurd q (by decide)⟩, hp1, fun x c1 c2 c3 c4 => ?_, rfl⟩
    simp only [sF_1, if_neg c1, if_neg c2, if_neg c4]
  have hlt : p' < n := by omega
  have hc := (hb p' hlt).1
  have e0 : (sF M 35 (nI p')).2 0 p' = nI (h p') := T.2.1 p' hlt
  have T38 : TM h n (sF (sF M 35 (nI p')) 38 (nI p')) := (T.f (by decide)).f (by decide)
  rw [if_pos (nI_lt hlt (by omega)), if_pos (inb_nI (show p' < 1500 by omega) (by decide)), cl_nI (show p' < 2 ^ 31 by omega), (hb p' hlt).2, if_neg (nI_neq (by omega) (by omega) cE), small_e hn hh T38 (by omega)]
  by_cases cW : pW (h p') = true
  · have hw := pW_t.mp cW
    obtain ⟨bh, hS2⟩ := Sc_ex pW h n (n - p') p' (by omega)
    have hb1 : p' < bh := by
      have h1 := hS2.1
      rcases Nat.lt_or_ge p' bh with q | q
      · exact q
      · have e : bh = p' := by omega
        have := hS2.2.2.2 (by omega)
        rw [e, cW] at this
        exact absurd this (by decide)
    have hb2 := hS2.2.1
    have k1 : f_X4_takeWord fu b (sF (sF u 2 (nI p')) 5 (nI p')) = some (sF (sF (sF u 2 (nI p')) 1 1) 5 (nI bh)) := by
      unfold f_X4_takeWord
      rw [sF_comm _ (show (5 : Nat) ≠ 1 by decide)]
      exact wordL5 C (u := sF (sF u 2 (nI p')) 1 1) h4 (by omega) hS2
    have k2 := takeL90 (fu := fu) hn hh (M := sF M 38 (nI p')) (T.f (by decide)) (show n < fu by omega) hS2
    have e38 : (sF M 38 (nI p')).1 38 = nI p' := rfl
    have T2 : TM h n (sF (sF M 38 (nI p')) 35 (nI bh)) := (T.f (by decide)).f (by decide)
    have WA := wordAtL5 hn hh T2 hfu hb2 hb1 7 fu 0 rfl (by omega)
    have ewa : f_X10_wordAt fu (sF (sF M 38 (nI p')) 35 (nI bh)) (nI p') (nI bh) = f_X10_wordAt_L5 fu (sF (sF M 38 (nI p')) 35 (nI bh)) fu (nI p') (nI bh) (nI (0 + 1)) (nI (woff 0)) := rfl
    rw [e38, ewa] at k2
    rw [if_neg (show ¬ sb (h p') < 97 from fun e => by have := (sb_lt (k := 97) hc (by decide)).mp e; omega), if_neg (show ¬ 122 < sb (h p') from fun e => by have := (sb_gt (k := 122) hc (by decide)).mp e; omega), k1, if_pos ⟨hlt, cW⟩, sF_comm M (show (35 : Nat) ≠ 38 by decide)]
    have IW : ∀ j, j < 7 → _ := fun j hj => isWord_e (fu := fu) C (u := sF (sF (sF u 2 (nI p')) 1 1) 5 (nI bh)) (pl := p') (bh := bh) (j := j) hfu rfl rfl rfl hj hb2 hb1
    by_cases cX : ∃ k, k < 7 ∧ isW h p' bh k
    · obtain ⟨k, hk, hw⟩ := cX
      have e1 := WA.1 k hk hw (Nat.zero_le _)
      rw [e1] at k2
      refine ⟨_, sF (sF (sF (sF M 38 (nI p')) 35 (nI bh)) 37 (nI (k + 1))) 36 1, 1, k + 1, p', bh, rfl, bd rfl (iN (by decide) (k2.trans (bd rfl (ip (nI_pos' (by omega)) rfl)))), ⟨⟨h4, rfl, rfl, by omega⟩, ⟨rfl, by omega, Or.inl rfl⟩, fun j hj => ?_, ⟨fun q => absurd q (by decide), fun _ => hlt⟩, fun _ _ => ⟨rfl, rfl, hb1, hb2⟩, fun _ => ⟨by omega, by omega, rfl⟩, fun q => absurd q (by decide), fun q => absurd q (by decide), fun q => absurd q (by decide)⟩, hp1, fun x c1 c2 c3 c4 => ?_, rfl⟩
      · by_cases cj : j = k
        · rw [if_pos ⟨rfl, by omega⟩, cj]; exact (IW k hk).1 hw
        · rw [if_neg (fun q => cj (by have := q.2; omega))]; exact (IW j hj).2 (fun q => cj (isW_one hj hk q hw))
      · simp only [sF_1, if_neg c1, if_neg c2, if_neg c3, if_neg c4]
    · have e1 := WA.2 (fun k hk _ q => cX ⟨k, hk, q⟩)
      rw [e1] at k2
      refine ⟨_, sF (sF (sF (sF M 38 (nI p')) 35 (nI bh)) 37 (-1)) 36 6, 6, 0, p', bh, rfl, bd rfl (iN (by decide) (k2.trans (bd rfl (iN (by decide) rfl)))), ⟨⟨h4, rfl, rfl, by omega⟩, ⟨rfl, by omega, Or.inr ⟨rfl, rfl⟩⟩, fun j hj => ?_, ⟨fun q => absurd q (by decide), fun _ => hlt⟩, fun _ q => absurd rfl q, fun q => absurd q (by decide), fun q => absurd q (by decide), fun q => absurd q (by decide), fun q => absurd q (by decide)⟩, hp1, fun x c1 c2 c3 c4 => ?_, rfl⟩
      · rw [if_neg (fun q => absurd q.1 (by decide))]; exact (IW j hj).2 (fun q => cX ⟨j, hj, q⟩)
      · simp only [sF_1, if_neg c1, if_neg c2, if_neg c3, if_neg c4]
  have hw : ¬ (97 ≤ h p' ∧ h p' ≤ 122) := fun q => cW (pW_t.mpr q)
  -- the class goes on to L114 on both roads
  have cl114 : ∀ A B : Option St, (if sb (h p') < 97 then A else (if 122 < sb (h p') then A else B)) = A := by
    intro A B
    by_cases c1 : sb (h p') < 97
    · exact if_pos c1
    · have : ¬ (h p' < 97 ∨ 128 ≤ h p') := fun e => c1 ((sb_lt (k := 97) hc (by decide)).mpr e)
      exact iN c1 (if_pos ((sb_gt (k := 122) hc (by decide)).mpr (by omega)))
  rw [cl114, if_neg (fun q : p' < n ∧ pW (h p') = true => cW q.2), digit_e hn hh T38 (by omega)]
  unfold f_X4_step_L114
  by_cases cD : pD (h p') = true
  · have hd := pD_t.mp cD
    obtain ⟨bh, hS2⟩ := Sc_ex pD h n (n - p') p' (by omega)
    have hb1 : p' < bh := by
      have h1 := hS2.1
      rcases Nat.lt_or_ge p' bh with q | q
      · exact q
      · have e : bh = p' := by omega
        have := hS2.2.2.2 (by omega)
        rw [e, cD] at this
        exact absurd this (by decide)
    have hb2 := hS2.2.1
    have hS3 : Sc pD h n p' (p' + (bh - p')) := by rw [show p' + (bh - p') = bh by omega]; exact hS2
    obtain ⟨x', y', k1, k2, k3⟩ := numL10 (fu := fu) C (u := sF (sF u 2 (nI p')) 1 3) h4 (M := sF (sF M 38 (nI p')) 36 3) ((T.f (by decide)).f (by decide)) (bh - p') fu p' 0 0 (by omega) hS3 ⟨by omega, by omega, Or.inl rfl⟩
    rw [show p' + (bh - p') = bh by omega] at k2 k3
    rw [if_neg (show ¬ sb (h p') < 48 from fun e => by have := (sb_lt (k := 48) hc (by decide)).mp e; omega), if_neg (show ¬ 57 < sb (h p') from fun e => by have := (sb_gt (k := 57) hc (by decide)).mp e; omega), if_pos ⟨hlt, cD⟩]
    refine ⟨_, _, 3, x', p', bh, bd (r := sF (sF (sF (sF u 2 (nI p')) 1 3) 3 (nI x')) 5 (nI bh)) ?_ rfl, bd rfl (ip rfl (bd rfl (iN (by decide) (Eq.trans ?_ k3)))), ⟨⟨h4, rfl, rfl, by omega⟩, ⟨rfl, by omega, Or.inl rfl⟩, noWord fu (kd := 3) rfl (by omega) (by omega) x', ⟨fun q => absurd q (by decide), fun _ => hlt⟩, fun _ _ => ⟨rfl, rfl, hb1, hb2⟩, fun q => absurd q (by decide), fun q => absurd q (by decide), fun _ => ⟨y', k1, rfl, rfl⟩, fun q => absurd q (by decide)⟩, hp1, fun x c1 c2 c3 c4 => ?_, rfl⟩
    · unfold f_X4_takeNumber
      rw [sF_comm _ (show (5 : Nat) ≠ 1 by decide), sF_comm _ (show (5 : Nat) ≠ 3 by decide)]
      exact k2
    · rw [sF_comm M (show (35 : Nat) ≠ 38 by decide), sF_comm _ (show (35 : Nat) ≠ 36 by decide), sF_comm _ (show (35 : Nat) ≠ 37 by decide)]
      rfl
    · simp only [sF_1, if_neg c1, if_neg c2, if_neg c3, if_neg c4]
  have hd : ¬ (48 ≤ h p' ∧ h p' ≤ 57) := fun q => cD (pD_t.mpr q)
  have cl133 : ∀ A B : Option St, (if sb (h p') < 48 then A else (if 57 < sb (h p') then A else B)) = A := by
    intro A B
    by_cases c1 : sb (h p') < 48
    · exact if_pos c1
    · have : ¬ (h p' < 48 ∨ 128 ≤ h p') := fun e => c1 ((sb_lt (k := 48) hc (by decide)).mpr e)
      exact iN c1 (if_pos ((sb_gt (k := 57) hc (by decide)).mpr (by omega)))
  rw [cl133, if_neg (fun q : p' < n ∧ pD (h p') = true => cD q.2)]
  unfold f_X4_step_L133
  have m35' : (sF (sF M 35 (nI p')) 38 (nI p')).1 35 = nI p' := rfl
  rw [nI_1, e0, if_pos (inb_nI (show p' < 1500 by omega) (by decide))]
  obtain ⟨N, eN⟩ : ∃ N : St, N = sF (sF (sF (sF M 35 (nI p')) 38 (nI p')) 35 (nI (p' + 1))) 37 (nI (h p') - 65) := ⟨_, rfl⟩
  rw [← eN]
  have TN : TM h n N := by rw [eN]; exact (((T.f (by decide)).f (by decide)).f (by decide)).f (by decide)
  have N35 : N.1 35 = nI (p' + 1) := by rw [eN]; rfl
  have N38 : N.1 38 = nI p' := by rw [eN]; rfl
  have N2 : N.2 = M.2 := by rw [eN]; rfl
  have Nx : ∀ x, x ≠ 35 → x ≠ 37 → x ≠ 38 → N.1 x = M.1 x := fun x c1 c3 c4 => by rw [eN]; simp only [sF_1, if_neg c1, if_neg c3, if_neg c4]
  by_cases cQ : h p' = 34
  · obtain ⟨bq, hS2⟩ := Sc_ex pS h n (n - (p' + 1)) (p' + 1) (by omega)
    have hb1 := hS2.1
    have hb2 := hS2.2.1
    have k1 : f_X4_takeString fu b (sF (sF u 2 (nI p')) 5 (nI p')) = f_X4_takeString_L76 fu b (sF (sF u 2 (nI p')) 5 (nI bq)) := by
      unfold f_X4_takeString
      have e5 : (sF (sF u 2 (nI p')) 5 (nI p')).1 5 = nI p' := rfl
      rw [e5, nI_1, sF_same]
      exact strL10 C (u := sF u 2 (nI p')) h4 (by omega) hS2
    have k2 : f_X10_string fu (sF N 36 6) = f_X10_string_L66 fu (sF (sF N 36 6) 35 (nI bq)) := by
      unfold f_X10_string
      have := strL0 (fu := fu) hn hh (M := sF N 36 6) (TN.f (by decide)) (show n < fu by omega) hS2
      rw [sF_self (show (sF N 36 6).1 35 = nI (p' + 1) from N35)] at this
      exact this
    have e34 : (sb (h p') : Int32) = 34 := (sb_eq (k := 34) hc (by decide)).mpr cQ
    have r34 : f_X10_take_L280 fu N (nI (h p')) = (f_X10_string_L66 fu (sF (sF N 36 6) 35 (nI bq))).bind (fun q_302 => some q_302) := by
      unfold f_X10_take_L280 f_X10_take_L292
      rw [cQ, if_neg (show ¬ nI 34 = 59 by decide), if_pos (show nI 34 = 34 from rfl), k2]
    rw [if_pos e34, k1, if_pos (show nI (h p') < 65 from nI_lt (b := 65) (by omega) (by decide)), r34]
    unfold f_X4_takeString_L76 f_X10_string_L66
    have g4 : (sF (sF u 2 (nI p')) 5 (nI bq)).1 4 = nI n := h4
    have g5 : (sF (sF u 2 (nI p')) 5 (nI bq)).1 5 = nI bq := rfl
    have g34 : (sF (sF N 36 6) 35 (nI bq)).1 34 = nI n := TN.1
    have g35 : (sF (sF N 36 6) 35 (nI bq)).1 35 = nI bq := rfl
    rw [g4, g5, g34, g35]
    by_cases cC : bq < n ∧ h bq = 34
    · have g0 : (sF (sF N 36 6) 35 (nI bq)).2 0 bq = nI (h bq) := TN.2.1 bq cC.1
      rw [if_neg (nI_ge cC.1 (by omega)), if_neg (nI_ge cC.1 (by omega)), if_pos (inb_nI (show bq < 1500 by omega) (by decide)), if_pos (inb_nI (show bq < 1500 by omega) (by decide)), cl_nI (show bq < 2 ^ 31 by omega), (hb bq cC.1).2, g0, cC.2, if_pos (show sb 34 = 34 by decide), if_pos (show nI 34 = 34 from rfl)]
      refine ⟨sF (sF (sF (sF u 2 (nI p')) 5 (nI bq)) 1 4) 5 (nI (bq + 1)), sF (sF (sF (sF N 36 6) 35 (nI bq)) 36 4) 35 (nI (bq + 1)), 4, 0, p', bq + 1, ?_, ?_, ⟨⟨h4, rfl, N38, by omega⟩, ⟨rfl, by omega, Or.inl rfl⟩, noWord fu (kd := 4) rfl (by omega) (by omega) 0, ⟨fun q => absurd q (by decide), fun _ => hlt⟩, fun _ _ => ⟨rfl, rfl, by omega, by omega⟩, fun q => absurd q (by decide), fun q => absurd q (by decide), fun q => absurd q (by decide), fun _ => ⟨by omega, fun i hi => hS2.2.2.1 _ (by omega) (by omega)⟩⟩, hp1, fun x c1 c2 c3 c4 => ?_, N2⟩
      · unfold f_X4_takeString_L106 f_X4_takeString_L118 f_X4_takeString_L139
        rw [if_neg (show ¬ (1 : Int32) = 0 by decide), if_neg (show ¬ (1 : Int32) = 0 by decide), g5, nI_1]
        rfl
      · unfold f_X10_string_L98
        rw [g35, nI_1]
        exact bd rfl (ip rfl (bd rfl (ip rfl rfl)))
      · simp only [sF_1, if_neg c1, if_neg c2]; exact Nx x c1 c3 c4
    · have kA : (if nI n ≤ nI bq then f_X4_takeString_L105 fu b (sF (sF u 2 (nI p')) 5 (nI bq)) else if inb (nI bq) 1500 = true then (if b (nI bq).toNatClampNeg = 34 then f_X4_takeString_L106 fu b (sF (sF u 2 (nI p')) 5 (nI bq)) 1 else f_X4_takeString_L105 fu b (sF (sF u 2 (nI p')) 5 (nI bq))) else none) = f_X4_takeString_L105 fu b (sF (sF u 2 (nI p')) 5 (nI bq)) := by
        by_cases c : bq < n
        · have hq := (hb bq c).1
          rw [if_neg (nI_ge c (by omega)), if_pos (inb_nI (show bq < 1500 by omega) (by decide)), cl_nI (show bq < 2 ^ 31 by omega), (hb bq c).2, if_neg (show ¬ sb (h bq) = 34 from fun e => cC ⟨c, (sb_eq (k := 34) hq (by decide)).mp e⟩)]
        · exact if_pos (nI_le (by omega) (by omega))
      have kB : (if nI n ≤ nI bq then f_X10_string_L96 fu (sF (sF N 36 6) 35 (nI bq)) else if inb (nI bq) 1500 = true then (if (sF (sF N 36 6) 35 (nI bq)).2 0 (nI bq).toNatClampNeg = 34 then f_X10_string_L98 fu (sF (sF N 36 6) 35 (nI bq)) 4 else f_X10_string_L96 fu (sF (sF N 36 6) 35 (nI bq))) else none) = f_X10_string_L96 fu (sF (sF N 36 6) 35 (nI bq)) := by
        by_cases c : bq < n
        · have hq := hh bq c
          have g0 : (sF (sF N 36 6) 35 (nI bq)).2 0 bq = nI (h bq) := TN.2.1 bq c
          rw [if_neg (nI_ge c (by omega)), if_pos (inb_nI (show bq < 1500 by omega) (by decide)), cl_nI (show bq < 2 ^ 31 by omega), g0, if_neg (show ¬ nI (h bq) = 34 from nI_neq (b := 34) (by omega) (by decide) (fun e => cC ⟨c, e⟩))]
        · exact if_pos (nI_le (by omega) (by omega))
      rw [kA, kB]
      refine ⟨sF (sF (sF (sF u 2 (nI p')) 5 (nI bq)) 1 6) 5 (nI bq), sF (sF (sF (sF N 36 6) 35 (nI bq)) 36 6) 35 (nI (bq + 1)), 6, 0, p', bq + 1, ?_, ?_, ⟨⟨h4, rfl, N38, by omega⟩, ⟨rfl, by omega, Or.inl rfl⟩, noWord fu (kd := 6) rfl (by omega) (by omega) 0, ⟨fun q => absurd q (by decide), fun _ => hlt⟩, fun _ q => absurd rfl q, fun q => absurd q (by decide), fun q => absurd q (by decide), fun q => absurd q (by decide), fun q => absurd q (by decide)⟩, hp1, fun x c1 c2 c3 c4 => ?_, N2⟩
      · unfold f_X4_takeString_L105 f_X4_takeString_L106 f_X4_takeString_L118 f_X4_takeString_L139
        rw [if_pos (show (0 : Int32) = 0 from rfl), if_pos (show (0 : Int32) = 0 from rfl)]
        rfl
      · unfold f_X10_string_L96 f_X10_string_L98
        rw [g35, nI_1]
        exact bd rfl (ip rfl (bd rfl (ip rfl rfl)))
      · simp only [sF_1, if_neg c1, if_neg c2]; exact Nx x c1 c3 c4
  -- a single sign
  rw [if_neg (show ¬ sb (h p') = 34 from fun e => cQ ((sb_eq (k := 34) hc (by decide)).mp e))]
  have rl : ∀ k : Int32, f_X10_take_L292 fu N (nI (h p')) k = some (sF N 36 k) := by
    intro k
    unfold f_X10_take_L292
    exact if_neg (show ¬ nI (h p') = 34 from nI_neq (b := 34) (by omega) (by decide) cQ)
  unfold f_X4_takeSingle f_X4_takeSingle_L53 f_X4_takeSingle_L55
  have s5 : (sF (sF u 2 (nI p')) 5 (nI p')).1 5 = nI p' := rfl
  rw [s5, nI_1, sF_same]
  by_cases cS : h p' = 59
  · have k2 : f_X10_take_L280 fu N (nI (h p')) = some (sF N 36 5) := by
      unfold f_X10_take_L280
      rw [if_pos (show nI (h p') = 59 by rw [cS]; rfl)]
      exact rl 5
    rw [if_pos (show sb (h p') = 59 from (sb_eq (k := 59) hc (by decide)).mpr cS), if_pos (show nI (h p') < 65 from nI_lt (b := 65) (by omega) (by decide)), k2]
    refine ⟨_, sF N 36 5, 5, 0, p', p' + 1, rfl, bd rfl (ip rfl (bd rfl (ip rfl rfl))), ⟨⟨h4, rfl, N38, by omega⟩, ⟨rfl, by omega, Or.inl rfl⟩, noWord fu (kd := 5) rfl (by omega) (by omega) 0, ⟨fun q => absurd q (by decide), fun _ => hlt⟩, fun _ _ => ⟨rfl, N35, by omega, by omega⟩, fun q => absurd q (by decide), fun q => absurd q (by decide), fun q => absurd q (by decide), fun q => absurd q (by decide)⟩, hp1, fun x c1 c2 c3 c4 => ?_, N2⟩
    simp only [sF_1, if_neg c2]; exact Nx x c1 c3 c4
  have k280 : f_X10_take_L280 fu N (nI (h p')) = some (sF N 36 6) := by
    unfold f_X10_take_L280
    rw [if_neg (show ¬ nI (h p') = 59 from nI_neq (b := 59) (by omega) (by decide) cS)]
    exact rl 6
  rw [if_neg (show ¬ sb (h p') = 59 from fun e => cS ((sb_eq (k := 59) hc (by decide)).mp e)), k280, rl 2]
  by_cases cN : 65 ≤ h p' ∧ h p' ≤ 72
  · have e65 : (sb (h p') - 65 : Int32) = nI (h p' - 65) := by
      rw [sb_lo (show h p' < 128 by omega)]; exact pk_sub (b := 65) cN.1
    have e65' : (nI (h p') - 65 : Int32) = nI (h p' - 65) := pk_sub (b := 65) cN.1
    rw [e65, if_neg (nI_pos (show h p' - 65 < 2 ^ 31 by omega)), if_neg (show ¬ (8 : Int32) ≤ nI (h p' - 65) from nI_ge (a := h p' - 65) (b := 8) (by omega) (by decide)), if_neg (show ¬ nI (h p') < 65 from nI_nlt (b := 65) cN.1 (by omega)), if_neg (show ¬ 72 < nI (h p') from nI_nlt (a := 72) cN.2 (by decide))]
    refine ⟨_, sF N 36 2, 2, h p' - 65, p', p' + 1, rfl, bd rfl (ip rfl (bd rfl (ip rfl rfl))), ⟨⟨h4, rfl, N38, by omega⟩, ⟨rfl, by omega, Or.inl rfl⟩, noWord fu (kd := 2) rfl (by omega) (by omega) _, ⟨fun q => absurd q (by decide), fun _ => hlt⟩, fun _ _ => ⟨rfl, N35, by omega, by omega⟩, fun q => absurd q (by decide), fun _ => ⟨by omega, by rw [sF_1, if_neg (by decide), eN, sF_1, if_pos rfl]; exact e65', rfl⟩, fun q => absurd q (by decide), fun q => absurd q (by decide)⟩, hp1, fun x c1 c2 c3 c4 => ?_, N2⟩
    simp only [sF_1, if_neg c2]; exact Nx x c1 c3 c4
  have kM : (if nI (h p') < 65 then some (sF N 36 6) else if 72 < nI (h p') then some (sF N 36 6) else some (sF N 36 2)) = some (sF N 36 6) := by
    by_cases c1 : h p' < 65
    · exact if_pos (nI_lt (b := 65) c1 (by decide))
    · exact iN (nI_nlt (b := 65) (by omega) (by omega)) (if_pos (nI_lt (a := 72) (by omega) (by omega)))
  have kC : ∀ v : St, (if sb (h p') - 65 < 0 then some (sF v 1 6) else if 8 ≤ sb (h p') - 65 then some (sF v 1 6) else some (sF v 1 2)) = some (sF v 1 6) := by
    intro v
    by_cases c1 : h p' < 65 ∨ 128 ≤ h p'
    · exact if_pos (sb65 hc c1)
    · have e65 : (sb (h p') - 65 : Int32) = nI (h p' - 65) := by
        rw [sb_lo (show h p' < 128 by omega)]; exact pk_sub (b := 65) (by omega)
      rw [e65]
      exact iN (nI_pos (by omega)) (if_pos (nI_le (a := 8) (by omega) (by omega)))
  rw [kM, kC]
  refine ⟨_, sF N 36 6, 6, 0, p', p' + 1, rfl, bd rfl (ip rfl (bd rfl (ip rfl rfl))), ⟨⟨h4, rfl, N38, by omega⟩, ⟨rfl, by omega, Or.inl rfl⟩, noWord fu (kd := 6) rfl (by omega) (by omega) _, ⟨fun q => absurd q (by decide), fun _ => hlt⟩, fun _ q => absurd rfl q, fun q => absurd q (by decide), fun q => absurd q (by decide), fun q => absurd q (by decide), fun q => absurd q (by decide)⟩, hp1, fun x c1 c2 c3 c4 => ?_, N2⟩
  simp only [sF_1, if_neg c2]; exact Nx x c1 c3 c4
end TOK
