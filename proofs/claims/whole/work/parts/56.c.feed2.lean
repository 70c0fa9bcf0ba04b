/-! T_feed -/
theorem va_same {ck : Nat → Nat × (Nat → Int32)} {r : Nat} {x : Nat × (Nat → Int32)} (h : ck r = x) : va_up ck r x = ck := funext fun j => by
  by_cases c : j = r
  · rw [c, va_up_self, h]
  · rw [va_up_ne _ _ c]
theorem RW.up {r1 : Nat} {F : FSt} {Lk : List Nat} {ck : Nat → Nat × (Nat → Int32)} {M : St} {tg tt : Nat} {w ns : Nat → Nat} {hs : Nat → Nat → Nat} {ch : Nat → Bool} (x : Nat × (Nat → Int32)) (h : RW r1 F Lk ck M tg tt w ns hs ch) : RW r1 F Lk (va_up ck r1 x) M tg tt w ns hs ch := by
  obtain ⟨h1, h2, h3⟩ := h
  refine ⟨h1, h2, fun t g ht hg => ?_⟩
  obtain ⟨f, n, h, ⟨m1, m2⟩, a, b, c⟩ := h3 t g ht hg
  refine ⟨f, n, h, ⟨m1, m2⟩, a, ?_, c⟩
  rw [va_up_ne _ _ m2]
  exact b
theorem five_e {fu : Nat} (hfu : 10 ≤ fu) {u : St} {n : Nat} (hn : u.1 1 = nI n) (h15 : n + 20 ≤ 1500) (a b c d e : Int32) : ∃ u1 u2 u3 u4 u5 : St, f_X6_append fu u a = some u1 ∧ f_X6_append fu u1 b = some u2 ∧ f_X6_append fu u2 c = some u3 ∧ f_X6_append fu u3 d = some u4 ∧ f_X6_append fu u4 e = some u5 ∧ u5.1 1 = nI (n + 20) ∧ (∀ j, j < n → u5.2 0 j = u.2 0 j) ∧ ∀ j, j < 20 → u5.2 0 (n + j) = sb (byk (wd5 a b c d e j) (j % 4)) := by
  obtain ⟨u1, a1, b1, c1, d1⟩ := append_e hfu hn (by omega) a
  obtain ⟨u2, a2, b2, c2, d2⟩ := append_e hfu b1 (by omega) b
  obtain ⟨u3, a3, b3, c3, d3⟩ := append_e hfu b2 (by omega) c
  obtain ⟨u4, a4, b4, c4, d4⟩ := append_e hfu b3 (by omega) d
  obtain ⟨u5, a5, b5, c5, d5⟩ := append_e hfu b4 (by omega) e
  refine ⟨u1, u2, u3, u4, u5, a1, a2, a3, a4, a5, b5, fun j hj => ?_, fun j hj => ?_⟩
  · rw [c5 j (by omega), c4 j (by omega), c3 j (by omega), c2 j (by omega), c1 j hj]
  · by_cases q4 : j < 4
    · rw [c5 _ (by omega), c4 _ (by omega), c3 _ (by omega), c2 _ (by omega), d1 j q4, Nat.mod_eq_of_lt q4]
      unfold wd5; rw [if_pos q4]
    by_cases q8 : j < 8
    · have := d2 (j - 4) (by omega)
      rw [show n + 4 + (j - 4) = n + j by omega] at this
      rw [c5 _ (by omega), c4 _ (by omega), c3 _ (by omega), this, show j % 4 = j - 4 by omega]
      unfold wd5; rw [if_neg q4, if_pos q8]
    by_cases q12 : j < 12
    · have := d3 (j - 8) (by omega)
      rw [show n + 4 + 4 + (j - 8) = n + j by omega] at this
      rw [c5 _ (by omega), c4 _ (by omega), this, show j % 4 = j - 8 by omega]
      unfold wd5; rw [if_neg q4, if_neg q8, if_pos q12]
    by_cases q16 : j < 16
    · have := d4 (j - 12) (by omega)
      rw [show n + 4 + 4 + 4 + (j - 12) = n + j by omega] at this
      rw [c5 _ (by omega), this, show j % 4 = j - 12 by omega]
      unfold wd5; rw [if_neg q4, if_neg q8, if_neg q12, if_pos q16]
    · have := d5 (j - 16) (by omega)
      rw [show n + 4 + 4 + 4 + 4 + (j - 16) = n + j by omega] at this
      rw [this, show j % 4 = j - 16 by omega]
      unfold wd5; rw [if_neg q4, if_neg q8, if_neg q12, if_neg q16]
theorem t_feed {fu : Nat} (hfu : 1010 ≤ fu) : T_feed Rel fu := by
  intro r1 r2 s1 s2 s3 s4 s5 s6 s9 s10 s11 s12 Lk ck M hR a b d e f
  obtain ⟨tg, tt, im, bt, cn, w, v, bar, tm, fr, ns, hs, on, ch, cf, ct, ⟨n, h, n15, t1, t2, t3⟩, h2, h3, h4, h5, h6, h7⟩ := id hR
  obtain ⟨q1, q2, q3, q4, q5, q6⟩ := id h7
  have hr2 : ∀ x : Nat × (Nat → Int32), va_up ck r1 x r2 = ck r2 := fun x => va_up_ne _ _ (Ne.symm q1)
  by_cases c : n + 20 ≤ 1500
  · obtain ⟨u1, u2, u3, u4, u5, a1, a2, a3, a4, a5, a6, a7, a8⟩ := five_e (show 10 ≤ fu by omega) (u := (s1.1, fun _ => (ck r1).2)) (show (s1.1, fun (_ : Nat) => (ck r1).2).1 1 = nI n from t1) c a b d e f
    obtain ⟨u', e1, e2, e3, e4, e5⟩ := fdL23 fu c a b d e f 20 fu 0 (sF M 2 0) rfl (by omega) (show (sF M 2 0).1 1 = nI n from t2) (fun j hj => absurd hj (Nat.not_lt_zero _))
    refine ⟨nI (n + 20), u5, sF u' 1 (nI (n + 20)), ?_, ?_, ⟨q2, q4⟩, tg, tt, im, bt, cn, w, v, bar, tm, fr, ns, hs, on, ch, cf, ct, ?_, ?_, ?_, ?_, ?_, ?_, ?_⟩
    · unfold f_X9_feed f_X6_hasRoom
      have e0 : ((s1.1, fun (_ : Nat) => (ck r1).2).1 1 + 20 : Int32) = nI (n + 20) := by
        show (s1.1 1 + 20 : Int32) = _
        rw [t1]; exact nI_add n 20
      refine bd (r := 1) (by rw [e0]; exact if_neg (nI_nlt (a := 1500) c (by decide))) (iN (by decide) (bd a1 (bd a2 (bd a3 (bd a4 (bd a5 ?_))))))
      rw [a6]
    · unfold f_X10_feed
      rw [t2, show (nI n + 20 : Int32) = nI (n + 20) from nI_add n 20, if_pos (show nI (n + 20) ≤ 1500 from nI_le (b := 1500) c (by decide))]
      exact e1
    · refine ⟨n + 20, fun i => if i < n then h i else byk (wd5 a b d e f (i - n)) ((i - n) % 4), c, a6, by rw [sF_1, if_pos rfl], fun i hi => ?_⟩
      rw [va_up_self, sF_2]
      by_cases ci : i < n
      · simp only [if_pos ci]
        rw [a7 i ci, e3 i ci]
        exact t3 i ci
      · simp only [if_neg ci]
        have g1 := a8 (i - n) (by omega)
        have g2 := e2 (i - n) (by omega)
        rw [show n + (i - n) = i by omega] at g1 g2
        exact ⟨(by8_e _).1, g1, g2⟩
    · exact RS.c (by rw [sF_1, if_neg (by decide), e4]; rfl) (by rw [sF_1, if_neg (by decide), e4]; rfl) (by rw [sF_1, if_neg (by decide), e4]; rfl) (by rw [sF_1, if_neg (by decide), e4]; rfl) (by rw [sF_1, if_neg (by decide), e4]; rfl) (by rw [sF_2, e5 _ (by decide)]; rfl) (by rw [sF_2, e5 _ (by decide)]; rfl) (by rw [sF_2, e5 _ (by decide)]; rfl) (by rw [sF_2, e5 _ (by decide)]; rfl) (by rw [sF_2, e5 _ (by decide)]; rfl) h2
    · rw [hr2]
      exact RX.c (by rw [sF_2, e5 _ (by decide)]; rfl) (by rw [sF_2, e5 _ (by decide)]; rfl) (by rw [sF_2, e5 _ (by decide)]; rfl) h3
    · unfold RE EvM at *
      rw [sF_2, e5 12 (by decide), e5 13 (by decide), e5 18 (by decide), sF_1, if_neg (by decide), sF_1, if_neg (by decide), sF_1, if_neg (by decide), sF_1, if_neg (by decide), e4]
      exact h4
    · exact RW.c (by rw [sF_2, e5 _ (by decide)]; rfl) (by rw [sF_2, e5 _ (by decide)]; rfl) (by rw [sF_2, e5 _ (by decide)]; rfl) (RW.up _ h5)
    · exact RF.c (by rw [sF_1, if_neg (by decide), e4]; rfl) (by rw [sF_1, if_neg (by decide), e4]; rfl) h6
    · unfold RR
      rw [va_up_self, hr2, sF_2, e5 54 (by decide)]
      exact ⟨q1, q2, q3, rfl, q5, q6⟩
  · refine ⟨-1, (s1.1, fun _ => (ck r1).2), sF M 2 0, ?_, ?_, ⟨q2, q4⟩, ?_⟩
    · unfold f_X9_feed f_X6_hasRoom
      have e0 : ((s1.1, fun (_ : Nat) => (ck r1).2).1 1 + 20 : Int32) = nI (n + 20) := by
        show (s1.1 1 + 20 : Int32) = _
        rw [t1]; exact nI_add n 20
      exact bd (r := 0) (by rw [e0]; exact if_pos (nI_lt (a := 1500) (by omega) (by omega))) (ip rfl rfl)
    · unfold f_X10_feed
      rw [t2, show (nI n + 20 : Int32) = nI (n + 20) from nI_add n 20, if_neg (show ¬ nI (n + 20) ≤ 1500 from nI_ge (a := 1500) (by omega) (by omega))]
    · rw [va_same (show ck r1 = (1500, (s1.1, fun (_ : Nat) => (ck r1).2).2 0) from by rw [← q4])]
      have := Rel.mc (MC_t M 0) hR
      obtain ⟨tg, tt, im, bt, cn, w, v, bar, tm, fr, ns, hs, on, ch, cf, ct, g1, g2⟩ := this
      exact ⟨tg, tt, im, bt, cn, w, v, bar, tm, fr, ns, hs, on, ch, cf, ct, g1, g2⟩
