/-! the reference takes what it has read -/
theorem tx102 {fu : Nat} {w v : Nat → Nat} (hw : ∀ t, t < 4 → w t ≤ 40) (hv : ∀ t, t < 4 → v t ≤ 20) : ∀ (m q k : Nat) (u : St), k + m = 4 → m < q → (∀ t, t < 4 → u.2 42 t = nI (w t) ∧ u.2 43 t = nI (v t)) → (∀ j, j < k → u.2 4 j = nI (wdt w j) ∧ u.2 5 j = nI (if v j = 0 then 4 else v j)) → ∃ u' : St, f_X10_text_L102 fu q u (nI k) = f_X10_text_L166 fu fu u' 0 ∧ (∀ j, j < 4 → u'.2 4 j = nI (wdt w j) ∧ u'.2 5 j = nI (if v j = 0 then 4 else v j)) ∧ u'.1 = u.1 ∧ ∀ x, x ≠ 4 → x ≠ 5 → u'.2 x = u.2 x := by
  intro m
  induction m with
  | zero =>
    intro q k u hk hq h4 hj
    obtain ⟨q, rfl⟩ : ∃ z, q = z + 1 := ⟨q - 1, by omega⟩
    refine ⟨u, ?_, fun j hj2 => hj j (by omega), rfl, fun _ _ _ => rfl⟩
    rw [f_X10_text_L102]
    exact if_pos (nI_le (a := 4) (by omega) (by omega))
  | succ m ih =>
    intro q k u hk hq h4 hj
    obtain ⟨q, rfl⟩ : ∃ z, q = z + 1 := ⟨q - 1, by omega⟩
    obtain ⟨hw1, hv1⟩ := h4 k (by omega)
    have hwk := hw k (by omega)
    have hvk := hv k (by omega)
    obtain ⟨u', e1, e2, e3, e4⟩ := ih q (k + 1) (sA (sA u 4 k (nI (wdt w k))) 5 k (nI (if v k = 0 then 4 else v k))) (by omega) (by omega) h4 (fun j hj2 => by
      have q1 : (sA (sA u 4 k (nI (wdt w k))) 5 k (nI (if v k = 0 then 4 else v k))).2 4 j = if j = k then nI (wdt w k) else u.2 4 j := rfl
      have q2 : (sA (sA u 4 k (nI (wdt w k))) 5 k (nI (if v k = 0 then 4 else v k))).2 5 j = if j = k then nI (if v k = 0 then 4 else v k) else u.2 5 j := rfl
      rw [q1, q2]
      by_cases c : j = k
      · rw [if_pos c, if_pos c, c]; exact ⟨rfl, rfl⟩
      · rw [if_neg c, if_neg c]; exact hj j (by omega))
    refine ⟨u', ?_, e2, e3, fun x h1 h2 => by rw [e4 x h1 h2, sA_2, if_neg h2, sA_2, if_neg h1]⟩
    have b157 : ∀ (U : St) (t0 : Int32), f_X10_text_L157 (f_X10_text_L102 fu q) fu U (nI k) t0 (nI k) = f_X10_text_L102 fu q (sA U 5 k t0) (nI (k + 1)) := by
      intro U t0
      unfold f_X10_text_L157
      rw [if_pos (inb_nI (show k < 4 by omega) (by decide)), cl_nI (show k < 2 ^ 31 by omega), nI_1]
    have b132 : ∀ t0 : Int32, f_X10_text_L132 (f_X10_text_L102 fu q) fu u (nI k) t0 (nI k) = f_X10_text_L102 fu q (sA (sA u 4 k t0) 5 k (nI (if v k = 0 then 4 else v k))) (nI (k + 1)) := by
      intro t0
      unfold f_X10_text_L132
      rw [if_pos (inb_nI (show k < 4 by omega) (by decide)), if_pos (inb_nI (show k < 4 by omega) (by decide)), cl_nI (show k < 2 ^ 31 by omega), hv1, b157, if_pos (inb_nI (show k < 4 by omega) (by decide)), b157]
      by_cases c : v k = 0
      · rw [if_pos (show nI (v k) ≤ 0 by rw [c]; decide), if_pos c]; rfl
      · rw [if_neg (nI_nle (by omega) (by omega)), if_neg c]
    rw [f_X10_text_L102, if_neg (show ¬ (4 : Int32) ≤ nI k from nI_ge (a := k) (b := 4) (by omega) (by decide)), if_pos (inb_nI (show k < 4 by omega) (by decide)), cl_nI (show k < 2 ^ 31 by omega), hw1, b132, if_pos (inb_nI (show k < 4 by omega) (by decide)), b132]
    unfold wdt at e1
    by_cases c : w k = 0
    · rw [if_pos c] at e1
      rw [if_pos (show nI (w k) ≤ 0 by rw [c]; decide)]; exact e1
    · rw [if_neg c] at e1
      rw [if_neg (nI_nle (by omega) (by omega))]; exact e1
theorem tx166 {fu : Nat} : ∀ (m q k : Nat) (u : St), k + m = 8 → m < q → (∀ j, j < k → u.2 12 j = u.2 49 j ∧ u.2 13 j = u.2 50 j) → ∃ u' : St, f_X10_text_L166 fu q u (nI k) = f_X10_text_L204 fu fu u' 0 ∧ (∀ j, j < 8 → u'.2 12 j = u.2 49 j ∧ u'.2 13 j = u.2 50 j) ∧ u'.1 = u.1 ∧ ∀ x, x ≠ 12 → x ≠ 13 → u'.2 x = u.2 x := by
  intro m
  induction m with
  | zero =>
    intro q k u hk hq hj
    obtain ⟨q, rfl⟩ : ∃ z, q = z + 1 := ⟨q - 1, by omega⟩
    refine ⟨u, ?_, fun j hj2 => hj j (by omega), rfl, fun _ _ _ => rfl⟩
    rw [f_X10_text_L166]
    exact if_pos (nI_le (a := 8) (by omega) (by omega))
  | succ m ih =>
    intro q k u hk hq hj
    obtain ⟨q, rfl⟩ : ∃ z, q = z + 1 := ⟨q - 1, by omega⟩
    obtain ⟨u', e1, e2, e3, e4⟩ := ih q (k + 1) (sA (sA u 12 k (u.2 49 k)) 13 k (u.2 50 k)) (by omega) (by omega) (fun j hj2 => by
      have q1 : (sA (sA u 12 k (u.2 49 k)) 13 k (u.2 50 k)).2 12 j = if j = k then u.2 49 k else u.2 12 j := rfl
      have q2 : (sA (sA u 12 k (u.2 49 k)) 13 k (u.2 50 k)).2 13 j = if j = k then u.2 50 k else u.2 13 j := rfl
      have q3 : (sA (sA u 12 k (u.2 49 k)) 13 k (u.2 50 k)).2 49 j = u.2 49 j := rfl
      have q4 : (sA (sA u 12 k (u.2 49 k)) 13 k (u.2 50 k)).2 50 j = u.2 50 j := rfl
      rw [q1, q2, q3, q4]
      by_cases c : j = k
      · rw [if_pos c, if_pos c, c]; exact ⟨rfl, rfl⟩
      · rw [if_neg c, if_neg c]; exact hj j (by omega))
    refine ⟨u', ?_, e2, e3, fun x h1 h2 => by rw [e4 x h1 h2, sA_2, if_neg h2, sA_2, if_neg h1]⟩
    rw [f_X10_text_L166, if_neg (show ¬ (8 : Int32) ≤ nI k from nI_ge (a := k) (b := 8) (by omega) (by decide)), if_pos (inb_nI (show k < 8 by omega) (by decide)), if_pos (inb_nI (show k < 8 by omega) (by decide)), if_pos (inb_nI (show k < 8 by omega) (by decide)), if_pos (inb_nI (show k < 8 by omega) (by decide)), cl_nI (show k < 2 ^ 31 by omega), nI_1]
    exact e1
theorem tx204 {fu tt im : Nat} {tm : Nat → Nat} {A B : Nat → Int32} (hi : im ≤ 40) (ht : tt ≤ im) (hB : ∀ t, t < tt → tm t < im ∧ B (tm t) = nI t) (hB2 : ∀ k, k < im → (∃ t, t < tt ∧ tm t = k) ∨ B k = -1) : ∀ (m q k : Nat) (u : St), k + m = im → m < q → u.1 7 = nI im → u.2 47 = A → u.2 48 = B → (∀ j, j < k → u.2 9 j = A j ∧ u.2 10 j = B j) → (∀ t, t < tt → tm t < k → u.2 11 t = nI (tm t)) → ∃ u' : St, f_X10_text_L204 fu q u (nI k) = f_X10_text_L265 fu fu u' 0 ∧ (∀ j, j < im → u'.2 9 j = A j ∧ u'.2 10 j = B j) ∧ (∀ t, t < tt → u'.2 11 t = nI (tm t)) ∧ u'.1 = u.1 ∧ ∀ x, x ≠ 9 → x ≠ 10 → x ≠ 11 → u'.2 x = u.2 x := by
  intro m
  induction m with
  | zero =>
    intro q k u hk hq h7 hA hBB h9 h11
    obtain ⟨q, rfl⟩ : ∃ z, q = z + 1 := ⟨q - 1, by omega⟩
    refine ⟨u, ?_, fun j hj2 => h9 j (by omega), fun t h => h11 t h (by have := (hB t h).1; omega), rfl, fun _ _ _ _ => rfl⟩
    rw [f_X10_text_L204, h7]
    exact if_pos (nI_le (by omega) (by omega))
  | succ m ih =>
    intro q k u hk hq h7 hA hBB h9 h11
    obtain ⟨q, rfl⟩ : ∃ z, q = z + 1 := ⟨q - 1, by omega⟩
    have i40 : inb (nI k) 40 = true := inb_nI (show k < 40 by omega) (by decide)
    rw [f_X10_text_L204, h7, if_neg (nI_ge (show k < im by omega) (by omega)), if_pos i40, if_pos i40, if_pos i40, if_pos i40, if_pos i40, if_pos i40, cl_nI (show k < 2 ^ 31 by omega), hA, hBB, nI_1]
    have nine : ∀ (U : St), U.2 9 = (sA u 9 k (A k)).2 9 → U.2 10 = (sA u 10 k (B k)).2 10 → ∀ j, j < k + 1 → U.2 9 j = A j ∧ U.2 10 j = B j := by
      intro U g1 g2 j hj
      rw [g1, g2, sA_2i, if_pos rfl, sA_2i, if_pos rfl]
      by_cases c : j = k
      · rw [if_pos c, if_pos c, c]; exact ⟨rfl, rfl⟩
      · rw [if_neg c, if_neg c]; exact h9 j (by omega)
    rcases hB2 k (by omega) with ⟨t, ht1, ht2⟩ | hm1
    · have hBk : B k = nI t := by rw [← ht2]; exact (hB t ht1).2
      rw [hBk, if_neg (nI_pos (show t < 2 ^ 31 by omega)), if_pos (inb_nI (show t < 40 by omega) (by decide)), cl_nI (show t < 2 ^ 31 by omega)]
      obtain ⟨u', e1, e2, e3, e4, e5⟩ := ih q (k + 1) (sA (sA (sA u 9 k (A k)) 10 k (nI t)) 11 t (nI k)) (by omega) (by omega) h7 hA hBB (by
        rw [← hBk]
        exact nine _ rfl rfl) (fun t' h1 h2 => by
        rw [sA_2i, if_pos rfl]
        by_cases c : t' = t
        · rw [if_pos c, c, ht2]
        · rw [if_neg c, sA_2, if_neg (by decide), sA_2, if_neg (by decide)]
          refine h11 t' h1 ?_
          have : tm t' ≠ k := fun e => by
            have a1 := (hB t' h1).2
            rw [e, hBk] at a1
            exact c ((nI_eq (by omega) (by omega)).mp a1.symm)
          omega)
      exact ⟨u', e1, e2, e3, e4, fun x c1 c2 c3 => by rw [e5 x c1 c2 c3, sA_2, if_neg c3, sA_2, if_neg c2, sA_2, if_neg c1]⟩
    · rw [if_pos (show B k < 0 by rw [hm1]; decide)]
      obtain ⟨u', e1, e2, e3, e4, e5⟩ := ih q (k + 1) (sA (sA u 9 k (A k)) 10 k (B k)) (by omega) (by omega) h7 hA hBB (nine _ rfl rfl) (fun t' h1 h2 => by
        rw [sA_2, if_neg (by decide), sA_2, if_neg (by decide)]
        refine h11 t' h1 ?_
        have : tm t' ≠ k := fun e => by
          have a1 := (hB t' h1).2
          rw [e, hm1] at a1
          exact nI_ne_m1 (show t' < 2 ^ 31 by omega) a1.symm
        omega)
      exact ⟨u', e1, e2, e3, e4, fun x c1 c2 c3 => by rw [e5 x c1 c2 c3, sA_2, if_neg c2, sA_2, if_neg c1]⟩
section CPY
variable {h : Nat → Nat} {n : Nat} {fu : Nat}
theorem tx309 (hn : n ≤ 1500) (Kx : St → Int32 → Option (Int32 × St)) {κ sz fo : Nat} (hκ : κ < 160) (hsz : sz ≤ 492) (hfo : 0 < sz → fo + sz ≤ n) : ∀ (m q i : Nat) (u : St), i + m = sz → m < q → u.2 16 κ = nI sz → (0 < sz → u.2 52 κ = nI fo) → (∀ j, j < n → u.2 0 j = nI (h j)) → (∀ j, j < i → u.2 15 (500 * κ + j) = nI (h (fo + j))) → ∃ u' : St, f_X10_text_L309 Kx fu q u (nI κ) (nI i) = Kx u' (nI (κ + 1)) ∧ (∀ j, j < sz → u'.2 15 (500 * κ + j) = nI (h (fo + j))) ∧ u'.1 = u.1 ∧ (∀ x, x ≠ 15 → u'.2 x = u.2 x) ∧ ∀ z, z < 500 * κ ∨ 500 * κ + 500 ≤ z → u'.2 15 z = u.2 15 z := by
  intro m
  induction m with
  | zero =>
    intro q i u hi hq h16 h52 h0 h15
    obtain ⟨q, rfl⟩ : ∃ z, q = z + 1 := ⟨q - 1, by omega⟩
    refine ⟨u, ?_, fun j hj => h15 j (by omega), rfl, fun _ _ => rfl, fun _ _ => rfl⟩
    rw [f_X10_text_L309, if_pos (inb_nI hκ (by decide)), cl_nI (show κ < 2 ^ 31 by omega), h16, nI_1]
    exact if_pos (nI_le (by omega) (by omega))
  | succ m ih =>
    intro q i u hi hq h16 h52 h0 h15
    obtain ⟨q, rfl⟩ : ∃ z, q = z + 1 := ⟨q - 1, by omega⟩
    have hf := hfo (by omega)
    have e : (500 * nI κ + nI i : Int32) = nI (500 * κ + i) := by
      rw [show (500 * nI κ : Int32) = nI (500 * κ) from pk_mul 500 κ, nI_add]
    rw [f_X10_text_L309, if_pos (inb_nI hκ (by decide)), cl_nI (show κ < 2 ^ 31 by omega), h16, if_neg (nI_ge (show i < sz by omega) (by omega)), if_neg (show ¬ (500 : Int32) ≤ nI i from nI_ge (a := i) (b := 500) (by omega) (by decide)), if_pos (inb_nI hκ (by decide)), h52 (by omega), nI_add, e, if_pos (inb_nI (show fo + i < 1500 by omega) (by decide)), if_pos (inb_nI (show 500 * κ + i < 80000 by omega) (by decide)), cl_nI (show fo + i < 2 ^ 31 by omega), cl_nI (show 500 * κ + i < 2 ^ 31 by omega), h0 _ (by omega), nI_1]
    obtain ⟨u', e1, e2, e3, e4, e5⟩ := ih q (i + 1) (sA u 15 (500 * κ + i) (nI (h (fo + i)))) (by omega) (by omega) h16 h52 h0 (fun j hj => by
      rw [sA_2i, if_pos rfl]
      by_cases c : j = i
      · rw [if_pos (by omega), c]
      · rw [if_neg (by omega)]; exact h15 j (by omega))
    exact ⟨u', e1, e2, e3, fun x hx => by rw [e4 x hx, sA_2, if_neg hx], fun z hz => by rw [e5 z hz, sA_2i, if_pos rfl, if_neg (by omega)]⟩
theorem tx265 (hn : n ≤ 1500) {tt : Nat} (htt : tt ≤ 40) {sz fo : Nat → Nat} (hsz : ∀ k, k < 4 * tt → sz k ≤ 492 ∧ (0 < sz k → fo k + sz k ≤ n)) (hfu : 2000 ≤ fu) : ∀ (m q k : Nat) (u : St), k + m = 4 * tt → m < q → u.1 8 = nI tt → (∀ j, j < 4 * tt → u.2 53 j = nI (sz j) ∧ (0 < sz j → u.2 52 j = nI (fo j))) → (∀ j, j < n → u.2 0 j = nI (h j)) → (∀ j, j < k → u.2 17 j = nI (b1 (decide (0 < sz j))) ∧ u.2 16 j = nI (sz j) ∧ ∀ i, i < sz j → u.2 15 (500 * j + i) = nI (h (fo j + i))) → ∃ u' : St, f_X10_text_L265 fu q u (nI k) = (f_X10_opens fu u').bind (fun q_364 => some (q_364.1 8, q_364)) ∧ (∀ j, j < 4 * tt → u'.2 17 j = nI (b1 (decide (0 < sz j))) ∧ u'.2 16 j = nI (sz j) ∧ ∀ i, i < sz j → u'.2 15 (500 * j + i) = nI (h (fo j + i))) ∧ u'.1 = u.1 ∧ ∀ x, x ≠ 15 → x ≠ 16 → x ≠ 17 → u'.2 x = u.2 x := by
  intro m
  have e48 : (4 * nI tt : Int32) = nI (4 * tt) := pk_mul 4 tt
  induction m with
  | zero =>
    intro q k u hk hq h8 h53 h0 hj
    obtain ⟨q, rfl⟩ : ∃ z, q = z + 1 := ⟨q - 1, by omega⟩
    refine ⟨u, ?_, fun j hj2 => hj j (by omega), rfl, fun _ _ _ _ => rfl⟩
    rw [f_X10_text_L265, h8, e48]
    exact if_pos (nI_le (by omega) (by omega))
  | succ m ih =>
    intro q k u hk hq h8 h53 h0 hj
    obtain ⟨q, rfl⟩ : ∃ z, q = z + 1 := ⟨q - 1, by omega⟩
    obtain ⟨s1, s2⟩ := hsz k (by omega)
    obtain ⟨k1, k2⟩ := h53 k (by omega)
    have i160 : inb (nI k) 160 = true := inb_nI (show k < 160 by omega) (by decide)
    have key : f_X10_text_L265 fu (q + 1) u (nI k) = f_X10_text_L309 (f_X10_text_L265 fu q) fu fu (sA (sA u 17 k (nI (b1 (decide (0 < sz k))))) 16 k (nI (sz k))) (nI k) 0 := by
      rw [f_X10_text_L265, h8, e48, if_neg (nI_ge (show k < 4 * tt by omega) (by omega)), if_pos i160, cl_nI (show k < 2 ^ 31 by omega), k1]
      unfold f_X10_text_L294
      rw [if_pos i160, cl_nI (show k < 2 ^ 31 by omega), if_pos isB_0, if_pos isB_1, if_pos i160, if_pos i160, if_pos i160, if_pos i160, k1]
      by_cases c : 0 < sz k
      · rw [if_neg (nI_nle c (by omega)), decide_eq_true c, if_pos i160]; rfl
      · rw [if_pos (show nI (sz k) ≤ 0 by rw [show sz k = 0 by omega]; decide), decide_eq_false c]; rfl
    obtain ⟨u1, e1, e2, e3, e4, e5⟩ := tx309 (h := h) (fu := fu) hn (f_X10_text_L265 fu q) (show k < 160 by omega) s1 s2 (sz k) fu 0 (sA (sA u 17 k (nI (b1 (decide (0 < sz k))))) 16 k (nI (sz k))) (by omega) (by omega) (by rw [sA_2i, if_pos rfl, if_pos rfl]) k2 h0 (fun j hj => absurd hj (Nat.not_lt_zero _))
    have q17 : ∀ j, u1.2 17 j = if j = k then nI (b1 (decide (0 < sz k))) else u.2 17 j := fun j => by rw [e4 17 (by decide)]; rfl
    have q16 : ∀ j, u1.2 16 j = if j = k then nI (sz k) else u.2 16 j := fun j => by rw [e4 16 (by decide)]; rfl
    obtain ⟨u', g1, g2, g3, g4⟩ := ih q (k + 1) u1 (by omega) (by omega) (by rw [e3]; exact h8) (by rw [e4 53 (by decide), e4 52 (by decide)]; exact h53) (by rw [e4 0 (by decide)]; exact h0) (fun j hj2 => by
      rw [q17, q16]
      by_cases c : j = k
      · rw [if_pos c, if_pos c, c]; exact ⟨rfl, rfl, e2⟩
      · rw [if_neg c, if_neg c]
        obtain ⟨z1, z2, z3⟩ := hj j (by omega)
        have hs9 := (hsz j (by omega)).1
        exact ⟨z1, z2, fun i hi => by rw [e5 _ (by omega)]; exact z3 i hi⟩)
    refine ⟨u', key.trans (e1.trans g1), g2, by rw [g3, e3]; rfl, fun x c1 c2 c3 => ?_⟩
    rw [g4 x c1 c2 c3, e4 x c1, sA_2, if_neg c2, sA_2, if_neg c3]
end CPY
