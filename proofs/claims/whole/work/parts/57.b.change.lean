/-! T_change -/
def gd (x : Nat) : Prop := 32 ≤ x ∧ x ≤ 126 ∧ x ≠ 34
theorem ch172 (fu : Nat) {k κ : Nat} {h : Nat → Nat} (hk : k ≤ 492) (hκ : κ < 160) : ∀ (m q i : Nat) (u : St), i + m = k → m < q → (∀ j, j < k → u.2 0 j = nI (h j)) → (∀ j, j < i → u.2 20 (500 * κ + j) = nI (h j)) → ∃ u' : St, f_X10_change_L172 fu q u (nI k) (nI κ) (nI i) = some (1, sF u' 1 0) ∧ (∀ j, j < k → u'.2 20 (500 * κ + j) = nI (h j)) ∧ u'.1 = u.1 ∧ (∀ x, x ≠ 20 → u'.2 x = u.2 x) ∧ ∀ z, (z < 500 * κ ∨ 500 * κ + k ≤ z) → u'.2 20 z = u.2 20 z := by
  intro m
  induction m with
  | zero =>
    intro q i u hi hq h1 h2
    obtain ⟨q, rfl⟩ : ∃ q', q = q' + 1 := ⟨q - 1, by omega⟩
    refine ⟨u, ?_, fun j hj => h2 j (by omega), rfl, fun x _ => rfl, fun z _ => rfl⟩
    rw [f_X10_change_L172]
    exact if_pos (nI_le (by omega) (by omega))
  | succ m ih =>
    intro q i u hi hq h1 h2
    obtain ⟨q, rfl⟩ : ∃ q', q = q' + 1 := ⟨q - 1, by omega⟩
    have e : (500 * nI κ + nI i : Int32) = nI (500 * κ + i) := by
      rw [show (500 * nI κ : Int32) = nI (500 * κ) from pk_mul 500 κ, nI_add]
    rw [f_X10_change_L172, if_neg (show ¬ nI k ≤ nI i from nI_ge (by omega) (by omega)), e, if_pos (inb_nI (show i < 1500 by omega) (by decide)), if_pos (inb_nI (show 500 * κ + i < 80000 by omega) (by decide)), cl_nI (show 500 * κ + i < 2 ^ 31 by omega), cl_nI (show i < 2 ^ 31 by omega), h1 i (by omega), nI_1]
    obtain ⟨u', e1, e2, e3, e4, e5⟩ := ih q (i + 1) (sA u 20 (500 * κ + i) (nI (h i))) (by omega) (by omega) (by
      intro j hj
      rw [sA_2, if_neg (by decide)]
      exact h1 j hj) (by
      intro j hj
      rw [sA_2i, if_pos rfl]
      by_cases c : j = i
      · rw [if_pos (by omega), c]
      · rw [if_neg (by omega)]; exact h2 j (by omega))
    exact ⟨u', e1, e2, e3, fun x hx => by rw [e4 x hx, sA_2, if_neg hx], fun z hz => by rw [e5 z hz, sA_2i, if_pos rfl, if_neg (by omega)]⟩
def ctC (fu : Nat) (u0 : St) (x2 x3 x4 : Int32) : Option (Int32 × St) := (f_X10_areWords fu u0 0 x3).bind (fun q_131 => if q_131 = 0 then (some (0, u0)) else (if inb x2 4 = true then ((f_X10_lay fu u0 x3 (u0.2 4 x2.toNatClampNeg)).bind (fun q_145 => if q_145.1 = 0 then (some (0, q_145.2)) else (if inb x4 160 = true then (if inb x4 160 = true then (f_X10_change_L172 fu fu (sA (sA q_145.2 19 x4.toNatClampNeg 1) 21 x4.toNatClampNeg x3) x3 x4 0) else none) else none))) else none))
theorem ch64 (fu : Nat) {k : Nat} {h : Nat → Nat} (hk : k ≤ 1500) (x2 x4 : Int32) : ∀ (m q i : Nat) (u : St), i + m = k → m < q → (∀ j, j < k → h j < 256 ∧ u.2 0 j = nI (h j)) → (∀ j, j < i → gd (h j) ∧ u.2 26 j = nI (h j)) → ∃ u' : St, u'.1 = u.1 ∧ (∀ x, x ≠ 26 → u'.2 x = u.2 x) ∧ (((∀ j, j < k → gd (h j)) ∧ (∀ j, j < k → u'.2 26 j = nI (h j)) ∧ f_X10_change_L64 fu q u x2 (nI k) x4 (nI i) = ctC fu u' x2 (nI k) x4) ∨ ((¬ ∀ j, j < k → gd (h j)) ∧ f_X10_change_L64 fu q u x2 (nI k) x4 (nI i) = some (0, u'))) := by
  intro m
  induction m with
  | zero =>
    intro q i u hi hq h1 h2
    obtain ⟨q, rfl⟩ : ∃ q', q = q' + 1 := ⟨q - 1, by omega⟩
    refine ⟨u, rfl, fun x _ => rfl, Or.inl ⟨fun j hj => (h2 j (by omega)).1, fun j hj => (h2 j (by omega)).2, ?_⟩⟩
    rw [f_X10_change_L64]
    exact if_pos (nI_le (by omega) (by omega))
  | succ m ih =>
    intro q i u hi hq h1 h2
    obtain ⟨q, rfl⟩ : ∃ q', q = q' + 1 := ⟨q - 1, by omega⟩
    have hi2 := (h1 i (by omega)).1
    rw [f_X10_change_L64, if_neg (show ¬ nI k ≤ nI i from nI_ge (by omega) (by omega)), if_pos (inb_nI (show i < 1500 by omega) (by decide)), cl_nI (show i < 2 ^ 31 by omega), (h1 i (by omega)).2, if_pos (inb_nI (show i < 1500 by omega) (by decide)), if_pos (inb_nI (show i < 1500 by omega) (by decide)), if_pos (inb_nI (show i < 1500 by omega) (by decide)), if_pos (inb_nI (show i < 1500 by omega) (by decide)), nI_1]
    by_cases c1 : h i < 32
    · exact ⟨u, rfl, fun x _ => rfl, Or.inr ⟨fun g => by have := (g i (by omega)).1; omega, if_pos (show nI (h i) < 32 from nI_lt (b := 32) c1 (by decide))⟩⟩
    rw [if_neg (show ¬ nI (h i) < 32 from nI_nlt (b := 32) (by omega) (by omega))]
    by_cases c2 : 126 < h i
    · exact ⟨u, rfl, fun x _ => rfl, Or.inr ⟨fun g => by have := (g i (by omega)).2.1; omega, if_pos (show 126 < nI (h i) from nI_lt (a := 126) c2 (by omega))⟩⟩
    rw [if_neg (show ¬ 126 < nI (h i) from nI_nlt (a := 126) (by omega) (by decide))]
    by_cases c3 : h i = 34
    · exact ⟨u, rfl, fun x _ => rfl, Or.inr ⟨fun g => (g i (by omega)).2.2 c3, if_pos (show nI (h i) = 34 by rw [c3]; rfl)⟩⟩
    rw [if_neg (show ¬ nI (h i) = 34 from nI_neq (b := 34) (by omega) (by decide) c3)]
    obtain ⟨u', e1, e2, e3⟩ := ih q (i + 1) (sA u 26 i (nI (h i))) (by omega) (by omega) (by
      intro j hj
      rw [sA_2, if_neg (by decide)]
      exact h1 j hj) (by
      intro j hj
      rw [sA_2i, if_pos rfl]
      by_cases c : j = i
      · rw [if_pos c, c]; exact ⟨⟨by omega, by omega, c3⟩, rfl⟩
      · rw [if_neg c]; exact h2 j (by omega))
    exact ⟨u', e1, fun x hx => by rw [e2 x hx, sA_2, if_neg hx], e3⟩
theorem holds_e {s1 : St} {n : Nat} (fu : Nat) (hn : n ≤ 1500) (t1 : s1.1 1 = nI n) (x : Int32) : (f_X6_holdsO fu s1 x = some 0 ∧ (x < 0 ∨ ¬ x ≤ nI n)) ∨ ∃ k, k ≤ n ∧ x = nI k ∧ f_X6_holdsO fu s1 x = some 1 := by
  unfold f_X6_holdsO
  rw [t1]
  by_cases c0 : x < 0
  · exact Or.inl ⟨if_pos c0, Or.inl c0⟩
  · obtain ⟨k, hk, rfl⟩ := nI_of c0
    by_cases c : k ≤ n
    · exact Or.inr ⟨k, c, rfl, iN c0 (if_neg (nI_nlt c (by omega)))⟩
    · exact Or.inl ⟨iN c0 (if_pos (nI_lt (by omega) hk)), Or.inr (nI_ge (by omega) hk)⟩
theorem t_change {fu : Nat} (hfu : 2000 ≤ fu) : T_change Rel fu := by
  intro r1 r2 s1 s2 s3 s4 s5 s6 s9 s10 s11 s12 Lk ck M hR a b n
  obtain ⟨tg, tt, im, bt, cn, w, v, bar, tm, fr, ns, hs, on, ch, cf, ct, h1, h2, h3, h4, h5, h6, h7⟩ := id hR
  obtain ⟨nt, h, n15, t1, t2, t3⟩ := id h1
  obtain ⟨q1, q2, q3, q4, q5, q6⟩ := id h7
  have hck : ck r2 = (1500, (ck r2).2) := by rw [← q5]
  have hg4 : tg ≤ 4 := h2.1.2.2.2
  have ht4 : tt ≤ 40 := h2.2.1.2.2
  have hmc := Rel.mc (MC_t M 0) hR
  have R0 := RS.mc (MC_t M 0) h2
  unfold f_X10_change
  rcases title_e R0 fu a with ⟨t, ht, rfl, k1, k2⟩ | ⟨k1, k2⟩
  case inr => exact Or.inl ⟨(0, s1, s9, s10, s12), sF M 2 0, bd k1 (ip rfl rfl), bd k2 (ip rfl rfl), hmc⟩
  rcases tongue_e R0 fu b with ⟨g, hg, rfl, g1, g2⟩ | ⟨g1, g2⟩
  case inr => exact Or.inl ⟨(0, s1, s9, s10, s12), sF M 2 0, bd k1 (iN (by decide) (bd g1 (ip rfl rfl))), bd k2 (iN (by decide) (bd g2 (ip rfl rfl))), hmc⟩
  rcases holds_e fu n15 t1 n with ⟨l1, l2⟩ | ⟨k, hk, rfl, l1⟩
  · refine Or.inl ⟨(0, s1, s9, s10, s12), sF M 2 0, bd k1 (iN (by decide) (bd g1 (iN (by decide) (bd l1 (ip rfl rfl))))), bd k2 (iN (by decide) (bd g2 (iN (by decide) ?_))), hmc⟩
    by_cases c0 : n < 0
    · exact if_pos c0
    · rw [t2]
      exact iN c0 (if_neg (l2.resolve_left c0))
  have hκ : (4 * nI t + nI g : Int32) = nI (4 * t + g) := by
    rw [show (4 * nI t : Int32) = nI (4 * t) from pk_mul 4 t, nI_add]
  have hw40 := wdt_40 h2 (show g < 4 by omega)
  rw [hκ, t2, if_pos (nI_le hk (by omega)), if_neg (nI_pos (show k < 2 ^ 31 by omega))]
  by_cases c0 : k = 0
  · subst c0
    obtain ⟨t9, t10, F', e1, e2, e3⟩ := restore_e h2 h3 hfu (r1 := r1) (Ne.symm q1) q3 hck ht hg s9 s10 s12
    obtain ⟨ch', hc1, hc2⟩ : ∃ ch' : Nat → Bool, ch' (4 * t + g) = false ∧ ∀ j, j ≠ 4 * t + g → ch' j = ch j := ⟨fun j => if j = 4 * t + g then false else ch j, if_pos rfl, fun j hj => if_neg hj⟩
    refine Or.inl ⟨(1, sF s1 1 0, t9, t10, F'), sF (sA (sF M 2 0) 19 (4 * t + g) 0) 1 0, ?_, ?_, tg, tt, im, bt, cn, w, v, bar, tm, fr, ns, hs, on, ch', cf, ct, ?_, RS.c rfl rfl rfl rfl rfl rfl rfl rfl rfl rfl h2, RX.c rfl rfl rfl h3, h4, ?_, RF.c rfl rfl h6, RR.c rfl h7⟩
    · exact bd k1 (iN (by decide) (bd g1 (iN (by decide) (bd l1 (iN (by decide) (ip rfl (bd e1 rfl)))))))
    · refine bd k2 (iN (by decide) (bd g2 (iN (by decide) (ip rfl ?_))))
      rw [if_pos (inb_nI (show 4 * t + g < 160 by omega) (by decide)), cl_nI (by omega)]
    · exact ⟨0, h, by omega, rfl, rfl, fun i hi => absurd hi (Nat.not_lt_zero _)⟩
    · have e160 := e2 160 (by omega)
      refine ⟨by rw [e160.1, e160.2]; exact h5.1, fun κ hκ => ?_, fun t' g' ht' hg' => ?_⟩
      · rw [sF_2, sA_2i, if_pos rfl, sF_2]
        by_cases c : κ = 4 * t + g
        · rw [if_pos c, c, hc1]; exact ⟨rfl, fun q => absurd q (by decide)⟩
        · rw [if_neg c, hc2 κ c]; exact h5.2.1 κ hκ
      · by_cases c : t' = t ∧ g' = g
        · obtain ⟨rfl, rfl⟩ := c
          exact e3 _ _ hc1
        · have hne : 4 * t' + g' ≠ 4 * t + g := by omega
          have e9 := e2 (4 * t' + g') hne
          exact RWs.c (M := M) (ch := ch) e9.1 e9.2 (hc2 _ hne) (fun _ => ⟨rfl, fun _ _ => rfl⟩) (wdt_40 h2 (show g' < 4 by omega)) (h5.2.2 t' g' ht' hg')
  have hk0 : ¬ nI k = 0 := nI_neq (b := 0) (by omega) (by decide) c0
  have hmem : memb r1 Lk = true := decide_eq_true q2
  have heq : eqn (ck r1).1 1500 = true := decide_eq_true q4
  have hb : ∀ i, i < k → (ck r1).2 (0 + i) = sb (h i) := fun i hi => by rw [Nat.zero_add]; exact (t3 i (by omega)).2.1
  have hb' : ∀ i, i < k → h i < 256 := fun i hi => (t3 i (by omega)).1
  have AP := areProper_e (fr := 0) (h := h) (n := k) (b := (ck r1).2) (by omega) hb' hb hfu
  rw [if_neg hk0]
  obtain ⟨u, a1, a2, a3⟩ := ch64 fu (k := k) (h := h) (by omega) (nI g) (nI (4 * t + g)) k fu 0 (sF M 2 0) (by omega) (by omega) (fun j hj => ⟨(t3 j (by omega)).1, (t3 j (by omega)).2.2⟩) (fun j hj => absurd hj (Nat.not_lt_zero _))
  have mcu : MC M u := ⟨fun x hx => by rw [a1]; exact (MC_t M 0).1 x hx, fun x hx => by rw [a2 x (fun e => by rw [e] at hx; exact absurd hx (by decide))]; rfl⟩
  have noA : f_X8_areProper fu (ck r1).2 0 (nI k) = some 0 → f_X9_changeA fu r1 r2 s0i s3 s0i Lk ck s1 s9 s10 s12 (nI t) (nI g) (nI k) = some (0, s1, s9, s10, s12) := fun g3 => bd k1 (iN (by decide) (bd g1 (iN (by decide) (bd l1 (iN (by decide) (iN hk0 (ip hmem (ip heq (bd g3 (ip rfl rfl))))))))))
  rcases a3 with ⟨a3, a4, a5⟩ | ⟨a3, a5⟩
  case inr => exact Or.inl ⟨(0, s1, s9, s10, s12), u, noA (AP.2 (fun q => a3 (fun j hj => ⟨(q.1 j hj).1, (q.1 j hj).2.1, (q.1 j hj).2.2.1⟩))), bd k2 (iN (by decide) (bd g2 (iN (by decide) a5))), Rel.mc mcu hR⟩
  have hAW := AW_P h k (by omega) a3
  have RWd := areWords_e (fr := 0) (h := h) (n := k) (M := u) (by omega) hb' (fun i hi => by rw [Nat.zero_add, a2 0 (by decide)]; exact (t3 i (by omega)).2.2) hfu
  by_cases hP : PrpA h k
  case neg => exact Or.inl ⟨(0, s1, s9, s10, s12), u, noA (AP.2 hP), bd k2 (iN (by decide) (bd g2 (iN (by decide) (a5.trans (bd (RWd.2 (fun q => hP (hAW.mp q))) (ip rfl rfl)))))), Rel.mc mcu hR⟩
  obtain ⟨W, wb, we, H⟩ := Wds_ex h k hP.p
  have hb2 : ∀ i, i < k → (ck r1).2 (0 + i) = nI (h i) := fun i hi => by rw [hb i hi]; exact sb_lo (hP.lt i hi)
  have FE := fit_e (fr := 0) (b := (ck r1).2) H hw40 (by omega) hb' hb2 hfu
  have LE := lay_e H (by omega) hb' hw40 hfu a4
  have hwM : u.2 4 g = nI (wdt w g) := by rw [a2 4 (by decide)]; exact (h2.2.2.2.2.2.1 g (by omega)).2.1
  have lay0 : ctC fu u (nI g) (nI k) (nI (4 * t + g)) = (f_X10_lay fu u (nI k) (nI (wdt w g))).bind (fun q_145 => if q_145.1 = 0 then (some (0, q_145.2)) else (f_X10_change_L172 fu fu (sA (sA q_145.2 19 (4 * t + g) 1) 21 (4 * t + g) (nI k)) (nI k) (nI (4 * t + g)) 0)) := by
    unfold ctC
    refine bd (RWd.1 (hAW.mpr hP)) (iN (by decide) ?_)
    rw [if_pos (inb_nI (show g < 4 by omega) (by decide)), cl_nI (show g < 2 ^ 31 by omega), hwM]
    congr 1
    funext q9
    rw [if_pos (inb_nI (show 4 * t + g < 160 by omega) (by decide)), if_pos (inb_nI (show 4 * t + g < 160 by omega) (by decide)), cl_nI (show 4 * t + g < 2 ^ 31 by omega)]
  by_cases hf : fitP W (wdt w g) wb we
  case neg =>
    obtain ⟨M', m1, m2⟩ := LE.2 hf
    refine Or.inl ⟨(0, s1, s9, s10, s12), M', ?_, ?_, Rel.mc (mcu.trans m2.mc) hR⟩
    · refine bd k1 (iN (by decide) (bd g1 (iN (by decide) (bd l1 (iN (by decide) (iN hk0 (ip hmem (ip heq (bd (AP.1 hP) (iN (by decide) (bd (widthOf_e h2 fu hg) (ip hmem (ip heq (bd (FE.2 hf) (ip rfl rfl)))))))))))))))
    · refine bd k2 (iN (by decide) (bd g2 (iN (by decide) ((a5.trans lay0).trans (bd m1 (ip rfl rfl))))))
  obtain ⟨M1, m1, -, m2, -⟩ := LE.1 hf
  have hn := n_500 H hw40 hf
  have mc1 := mcu.trans m2.mc
  obtain ⟨M2, p1, p2, p3, p4, p5⟩ := ch172 fu (k := k) (κ := 4 * t + g) (h := h) hn (by omega) k fu 0 (sA (sA M1 19 (4 * t + g) 1) 21 (4 * t + g) (nI k)) (by omega) (by omega) (fun j hj => by rw [sA_2, if_neg (by decide), sA_2, if_neg (by decide), mc1.2 0 (by decide)]; exact (t3 j (by omega)).2.2) (fun j hj => absurd hj (Nat.not_lt_zero _))
  obtain ⟨t9, t10, v', e1, e2, e3, e4, e5⟩ := relay_e h2 hfu (n2 := k) (b2 := va_cpy (ck r1).2 (fun _ => 0) 0 0 k) (f := 0) ht hg hP H hf (by omega) (by omega) (fun i hi => by rw [Nat.zero_add, pk_cpy_in (Nat.zero_le _) (by omega), Nat.sub_zero]; exact hb2 i hi) s9 s10 (s12.1 (4 * t + g)) true
  refine Or.inr ⟨k, fun xq => (t9, t10, fU (fG s12 (4 * t + g) (sF (sF (sF (s12.1 (4 * t + g)) 1 (nI 0)) 2 (nI k)) 3 (nI (b1 true))) xq) (4 * t + g) v'), sF M2 1 0, rfl, by omega, ?_, ?_, ?_, ?_, ?_⟩
  · intro i hi
    rw [(t3 i (by omega)).2.1]
    exact pk_fb _
  · exact bd k1 (iN (by decide) (bd g1 (iN (by decide) (bd l1 (iN (by decide) (iN hk0 (ip hmem (ip heq (bd (AP.1 hP) (iN (by decide) (bd (widthOf_e h2 fu hg) (ip hmem (ip heq (bd (FE.1 hf) (iN (by decide) rfl)))))))))))))))
  · intro xq hxq
    unfold f_X0_replace
    have hlt : ltb (4 * t + g) 161 = true := decide_eq_true (by omega)
    have hm2 : memb xq (xq :: Lk) = true := decide_eq_true (List.mem_cons_self)
    refine bd (isThere_1 h2 fu s0i ht hg) (iN (by decide) (bd (wordingOf_1 h2 fu s0i ht hg) (ip hm2 (ip hlt ?_))))
    rw [va_up_self]
    refine bd (r := sF (sF (sF (s12.1 (4 * t + g)) 1 (nI 0)) 2 (nI k)) 3 (nI (b1 true))) (by unfold f_X7_setString; exact if_pos isB_1) (bd (widthOf_e h2 fu hg) (ip hlt ?_))
    have g1 : ∀ y : St, (fG s12 (4 * t + g) y xq).2 (4 * t + g) = xq := fun y => va_up_self _ _ _
    have g2 : ∀ y : St, (fG s12 (4 * t + g) y xq).1 (4 * t + g) = y := fun y => va_up_self _ _ _
    rw [g1, g2, if_pos hm2, va_up_self]
    exact bd e1 rfl
  · refine bd k2 (iN (by decide) (bd g2 (iN (by decide) ((a5.trans lay0).trans (bd m1 (iN (show ¬ (1 : Int32) = 0 by decide) p1))))))
  · intro xq hxq
    have x1 : r1 ≠ xq := fun e => hxq (e ▸ q2)
    have x2 : r2 ≠ xq := fun e => hxq (e ▸ q3)
    have mS : ∀ x, x ≠ 1 → cS x = true → (sF M2 1 0).1 x = M.1 x := fun x hx hc => by rw [sF_1, if_neg hx, p3]; exact mc1.1 x hc
    have mA : ∀ x, x ≠ 19 → x ≠ 20 → x ≠ 21 → cA x = true → (sF M2 1 0).2 x = M.2 x := fun x g19 g20 g21 hc => by rw [sF_2, p4 x g20, sA_2, if_neg g21, sA_2, if_neg g19]; exact mc1.2 x hc
    obtain ⟨ch', hc1, hc2⟩ : ∃ ch' : Nat → Bool, ch' (4 * t + g) = true ∧ ∀ j, j ≠ 4 * t + g → ch' j = ch j := ⟨fun j => if j = 4 * t + g then true else ch j, if_pos rfl, fun j hj => if_neg hj⟩
    refine ⟨tg, tt, im, bt, cn, w, v, bar, tm, fr, ns, hs, on, ch', cf, ct, ?_, ?_, ?_, ?_, ?_, ?_, ?_⟩
    · exact ⟨0, h, by omega, rfl, rfl, fun i hi => absurd hi (Nat.not_lt_zero _)⟩
    · exact RS.c (mS _ (by decide) (by decide)) (mS _ (by decide) (by decide)) (mS _ (by decide) (by decide)) (mS _ (by decide) (by decide)) (mS _ (by decide) (by decide)) (mA _ (by decide) (by decide) (by decide) (by decide)) (mA _ (by decide) (by decide) (by decide) (by decide)) (mA _ (by decide) (by decide) (by decide) (by decide)) (mA _ (by decide) (by decide) (by decide) (by decide)) (mA _ (by decide) (by decide) (by decide) (by decide)) h2
    · rw [va_up_ne _ _ x2]
      exact RX.c (mA _ (by decide) (by decide) (by decide) (by decide)) (mA _ (by decide) (by decide) (by decide) (by decide)) (mA _ (by decide) (by decide) (by decide) (by decide)) h3
    · unfold RE EvM at *
      rw [mS 22 (by decide) (by decide), mS 23 (by decide) (by decide), mS 24 (by decide) (by decide), mS 25 (by decide) (by decide), mA 18 (by decide) (by decide) (by decide) (by decide), mA 13 (by decide) (by decide) (by decide) (by decide), mA 12 (by decide) (by decide) (by decide) (by decide)]
      exact h4
    · have z160 : (160 : Nat) ≠ 4 * t + g := by omega
      have fne : ∀ κ, κ ≠ 4 * t + g → (fU (fG s12 (4 * t + g) (sF (sF (sF (s12.1 (4 * t + g)) 1 (nI 0)) 2 (nI k)) 3 (nI (b1 true))) xq) (4 * t + g) v').1 κ = s12.1 κ ∧ (fU (fG s12 (4 * t + g) (sF (sF (sF (s12.1 (4 * t + g)) 1 (nI 0)) 2 (nI k)) 3 (nI (b1 true))) xq) (4 * t + g) v').2 κ = s12.2 κ := fun κ hκ => ⟨(fU_ne _ _ _ κ hκ).1.trans (fG_ne _ _ _ _ κ hκ).1, (fU_ne _ _ _ κ hκ).2.trans (fG_ne _ _ _ _ κ hκ).2⟩
      have f1 : (fU (fG s12 (4 * t + g) (sF (sF (sF (s12.1 (4 * t + g)) 1 (nI 0)) 2 (nI k)) 3 (nI (b1 true))) xq) (4 * t + g) v').1 (4 * t + g) = v' := va_up_self _ _ _
      have f2 : (fU (fG s12 (4 * t + g) (sF (sF (sF (s12.1 (4 * t + g)) 1 (nI 0)) 2 (nI k)) 3 (nI (b1 true))) xq) (4 * t + g) v').2 (4 * t + g) = xq := va_up_self _ _ _
      refine ⟨⟨by rw [(fne 160 z160).2]; exact List.mem_cons_of_mem _ h5.1.1, by rw [(fne 160 z160).1]; exact h5.1.2⟩, fun κ hκ => ?_, fun t' g' ht' hg' => ?_⟩
      · rw [sF_2, p4 19 (by decide), sA_2, if_neg (by decide), sA_2i, if_pos rfl]
        by_cases c : κ = 4 * t + g
        · rw [if_pos c, c, hc1]; exact ⟨rfl, fun _ => by omega⟩
        · rw [if_neg c, hc2 κ c, mc1.2 19 (by decide)]; exact h5.2.1 κ hκ
      · by_cases c : t' = t ∧ g' = g
        · obtain ⟨rfl, rfl⟩ := c
          refine ⟨0, k, h, ?_, ?_, ?_, ⟨W, wb, we, H, hf, ?_⟩, Or.inr ⟨hc1, ?_, ?_⟩⟩
          · rw [f2]; exact ⟨List.mem_cons_self, Ne.symm x1⟩
          · rw [f1, hc1]; exact ⟨e3, e4, e5⟩
          · rw [f2, va_up_self]
            exact ⟨by omega, by omega, hP, fun i hi => by
              show va_cpy (ck r1).2 (fun _ => 0) 0 0 k (0 + i) = _
              rw [Nat.zero_add, pk_cpy_in (Nat.zero_le _) (by omega), Nat.sub_zero]; exact hb2 i hi⟩
          · rw [f1]; exact e2
          · rw [sF_2, p4 21 (by decide), sA_2i, if_pos rfl, if_pos rfl]
          · intro i hi
            rw [sF_2]; exact p2 i hi
        · have hne : 4 * t' + g' ≠ 4 * t + g := by omega
          have e9 := fne (4 * t' + g') hne
          obtain ⟨f, n, h', ⟨z1, z2⟩, z3, z4, ⟨W', wb', we', H', hf', hl'⟩, z5⟩ := h5.2.2 t' g' ht' hg'
          have hn' := n_500 H' (wdt_40 h2 (show g' < 4 by omega)) hf'
          have x3 : s12.2 (4 * t' + g') ≠ xq := fun e => hxq (e ▸ z1)
          refine ⟨f, n, h', ?_, ?_, ?_, ⟨W', wb', we', H', hf', ?_⟩, ?_⟩
          · rw [e9.2]; exact ⟨List.mem_cons_of_mem _ z1, z2⟩
          · rw [e9.1, hc2 _ hne]; exact z3
          · rw [e9.2, va_up_ne _ _ x3]; exact z4
          · rw [e9.1]; exact hl'
          · rw [hc2 _ hne]
            rcases z5 with z5 | ⟨z5, z6, z7⟩
            · exact Or.inl z5
            · refine Or.inr ⟨z5, ?_, fun i hi => ?_⟩
              · rw [sF_2, p4 21 (by decide), sA_2i, if_pos rfl, if_neg hne, sA_2, if_neg (by decide), mc1.2 21 (by decide)]; exact z6
              · rw [sF_2, p5 _ (by omega), sA_2, if_neg (by decide), sA_2, if_neg (by decide), mc1.2 20 (by decide)]; exact z7 i hi
    · exact RF.c (mS _ (by decide) (by decide)) (mS _ (by decide) (by decide)) h6
    · unfold RR
      rw [va_up_ne _ _ x1, va_up_ne _ _ x2, mA 54 (by decide) (by decide) (by decide) (by decide)]
      exact ⟨q1, List.mem_cons_of_mem _ q2, List.mem_cons_of_mem _ q3, q4, q5, q6⟩
