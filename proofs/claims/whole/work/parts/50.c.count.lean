/-! bars that aren't cut, counted -/
noncomputable def uc (on : Nat → Bool) (cf ct : Nat → Nat) (b : Nat) : Nat := @ite Nat (isC on cf ct b) (Classical.propDecidable _) 0 1
theorem uc_cut {on : Nat → Bool} {cf ct : Nat → Nat} {b : Nat} (h : isC on cf ct b) : uc on cf ct b = 0 := by unfold uc; rw [if_pos h]
theorem uc_un {on : Nat → Bool} {cf ct : Nat → Nat} {b : Nat} (h : ¬ isC on cf ct b) : uc on cf ct b = 1 := by unfold uc; rw [if_neg h]
noncomputable def cN (on : Nat → Bool) (cf ct : Nat → Nat) : Nat → Nat → Nat
  | 0, _ => 0
  | n + 1, a => uc on cf ct a + cN on cf ct n (a + 1)
section CNT
variable {on : Nat → Bool} {cf ct : Nat → Nat}
theorem cN_add (n m a : Nat) : cN on cf ct (n + m) a = cN on cf ct n a + cN on cf ct m (a + n) := by
  induction n generalizing a with
  | zero => rw [Nat.zero_add]; show _ = 0 + _; rw [Nat.zero_add]; rfl
  | succ n ih =>
    rw [show n + 1 + m = (n + m) + 1 by omega]
    show uc on cf ct a + cN on cf ct (n + m) (a + 1) = (uc on cf ct a + cN on cf ct n (a + 1)) + _
    rw [ih (a + 1), show a + 1 + n = a + (n + 1) by omega]
    omega
theorem cN_cut (n a : Nat) (h : ∀ b, a ≤ b → b < a + n → isC on cf ct b) : cN on cf ct n a = 0 := by
  induction n generalizing a with
  | zero => rfl
  | succ n ih =>
    show uc on cf ct a + cN on cf ct n (a + 1) = 0
    rw [uc_cut (h a (Nat.le_refl _) (by omega)), ih (a + 1) (fun b h1 h2 => h b (by omega) (by omega))]
theorem cN_un (n a : Nat) (h : ∀ b, a ≤ b → b < a + n → ¬ isC on cf ct b) : cN on cf ct n a = n := by
  induction n generalizing a with
  | zero => rfl
  | succ n ih =>
    show uc on cf ct a + cN on cf ct n (a + 1) = n + 1
    rw [uc_un (h a (Nat.le_refl _) (by omega)), ih (a + 1) (fun b h1 h2 => h b (by omega) (by omega))]
    omega
theorem cN_le (n a : Nat) : cN on cf ct n a ≤ n := by
  induction n generalizing a with
  | zero => exact Nat.le_refl _
  | succ n ih =>
    show uc on cf ct a + cN on cf ct n (a + 1) ≤ n + 1
    have := ih (a + 1)
    have h2 : uc on cf ct a ≤ 1 := by unfold uc; split <;> omega
    omega
end CNT
theorem imin {a b : Nat} (ha : a < 2 ^ 31) (hb : b < 2 ^ 31) : (if nI a < nI b then nI a else nI b) = nI (min a b) := by
  by_cases h : a < b
  · rw [if_pos (nI_lt h hb), Nat.min_eq_left (by omega)]
  · rw [if_neg (nI_nlt (by omega) ha), Nat.min_eq_right (by omega)]
theorem imax {a b : Nat} (ha : a < 2 ^ 31) (hb : b < 2 ^ 31) : (if nI a < nI b then nI b else nI a) = nI (max a b) := by
  by_cases h : a < b
  · rw [if_pos (nI_lt h hb), Nat.max_eq_right (by omega)]
  · rw [if_neg (nI_nlt (by omega) ha), Nat.max_eq_left (by omega)]
section CNE
variable {s0 s1 : St} {on : Nat → Bool} {cf ct : Nat → Nat}
/-- how many cuts begin behind b -/
def pn (on : Nat → Bool) (cf ct : Nat → Nat) (b : Nat) : Nat → Nat
  | 0 => 0
  | n + 1 => pn on cf ct b n + (if on n = true ∧ ct n ≠ 0 ∧ b < cf n then 1 else 0)
theorem pn_le (b n : Nat) : pn on cf ct b n ≤ n := by
  induction n with
  | zero => exact Nat.le_refl _
  | succ n ih => unfold pn; split <;> omega
theorem pn_mono {b c : Nat} (h : b ≤ c) (n : Nat) : pn on cf ct c n ≤ pn on cf ct b n := by
  induction n with
  | zero => exact Nat.le_refl _
  | succ n ih =>
    unfold pn
    by_cases h1 : on n = true ∧ ct n ≠ 0 ∧ c < cf n
    · rw [if_pos h1, if_pos ⟨h1.1, h1.2.1, by omega⟩]; omega
    · rw [if_neg h1]; split <;> omega
theorem pn_less {b k : Nat} {n : Nat} (h1 : on k = true) (h2 : ct k ≠ 0) (h3 : b < cf k) (hk : k < n) : pn on cf ct (cf k) n + 1 ≤ pn on cf ct b n := by
  induction n with
  | zero => omega
  | succ n ih =>
    unfold pn
    by_cases hkn : k = n
    · subst hkn
      rw [if_neg (by omega), if_pos ⟨h1, h2, h3⟩]
      have := pn_mono (on := on) (cf := cf) (ct := ct) (show b ≤ cf k by omega) k
      omega
    · have := ih (by omega)
      by_cases h4 : on n = true ∧ ct n ≠ 0 ∧ cf k < cf n
      · rw [if_pos h4, if_pos ⟨h4.1, h4.2.1, by omega⟩]; omega
      · rw [if_neg h4]; split <;> omega
theorem pn_pos {b k : Nat} {n : Nat} (h1 : on k = true) (h2 : ct k ≠ 0) (h3 : b < cf k) (hk : k < n) : 1 ≤ pn on cf ct b n := by
  have := pn_less h1 h2 h3 hk
  omega
theorem nL6 (h : EvC s0 s1 on cf ct) (fu : Nat) {b : Nat} (hb : b < 2 ^ 31) : ∀ (m n k x : Nat), k + m = 8 → m < n → x ≤ 1000 → ∃ r : Nat, f_X2_nextCut_L6 fu s0 s1 n (nI b) (nI x) (nI k) = some (nI r) ∧ r ≤ x ∧ (∀ j, k ≤ j → j < 8 → on j = true → ct j ≠ 0 → b < cf j → r ≤ cf j) ∧ (r = x ∨ r = 1000 ∨ ∃ j, j < 8 ∧ on j = true ∧ ct j ≠ 0 ∧ b < cf j ∧ cf j = r) := by
  intro m
  induction m with
  | zero =>
    intro n k x hk hn hx
    obtain ⟨n, rfl⟩ : ∃ n', n = n' + 1 := ⟨n - 1, by omega⟩
    rw [f_X2_nextCut_L6]
    exact ⟨x, ip (nI_le (a := 8) (by omega) (by omega)) rfl, Nat.le_refl _, fun j h1 h2 => by omega, Or.inl rfl⟩
  | succ m ih =>
    intro n k x hk hn hx
    obtain ⟨n, rfl⟩ : ∃ n', n = n' + 1 := ⟨n - 1, by omega⟩
    rw [f_X2_nextCut_L6]
    rw [if_neg (show ¬ (8 : Int32) ≤ nI k from nI_ge (a := k) (b := 8) (by omega) (by decide)), if_pos (inb_nI (show k < 8 by omega) (by decide)), cl_nI (show k < 2 ^ 31 by omega), (h k (by omega)).1, nI_1]
    obtain ⟨-, -, hc⟩ := h k (by omega)
    cases ho : on k with
    | false =>
      obtain ⟨r, h1, h2, h3, h4⟩ := ih n (k + 1) x (by omega) (by omega) hx
      refine ⟨r, ip (by decide) h1, h2, fun j g1 g2 g3 g4 g5 => ?_, h4⟩
      by_cases hj : j = k
      · subst hj; rw [ho] at g3; cases g3
      · exact h3 j (by omega) g2 g3 g4 g5
    | true =>
      rw [if_neg (show ¬ nI (b1 true) = 0 by decide)]
      have e1 := cutFirst_e h fu (show k < 8 by omega)
      by_cases h0 : ct k = 0
      · rw [if_pos h0] at e1
        by_cases hbx : 1000 ≤ b
        · obtain ⟨r, h1, h2, h3, h4⟩ := ih n (k + 1) x (by omega) (by omega) hx
          refine ⟨r, bd e1 (ip (nI_le hbx hb) h1), h2, fun j g1 g2 g3 g4 g5 => ?_, h4⟩
          by_cases hj : j = k
          · subst hj; exact absurd h0 g4
          · exact h3 j (by omega) g2 g3 g4 g5
        · obtain ⟨r, h1, h2, h3, h4⟩ := ih n (k + 1) (min 1000 x) (by omega) (by omega) (by omega)
          refine ⟨r, bd e1 (iN (nI_ge (by omega) (by decide)) (bd e1 ?_)), by omega, fun j g1 g2 g3 g4 g5 => ?_, ?_⟩
          · rw [imin (by decide) (by omega)]; exact h1
          · by_cases hj : j = k
            · subst hj; exact absurd h0 g4
            · exact h3 j (by omega) g2 g3 g4 g5
          · rcases h4 with h4 | h4
            · by_cases hx2 : x = r
              · exact Or.inl hx2.symm
              · exact Or.inr (Or.inl (by omega))
            · exact Or.inr h4
      · rw [if_neg h0] at e1
        rcases hc with hc | ⟨-, hc1, hc2⟩
        · exact absurd hc h0
        by_cases hbx : cf k ≤ b
        · obtain ⟨r, h1, h2, h3, h4⟩ := ih n (k + 1) x (by omega) (by omega) hx
          refine ⟨r, bd e1 (ip (nI_le hbx hb) h1), h2, fun j g1 g2 g3 g4 g5 => ?_, h4⟩
          by_cases hj : j = k
          · subst hj; omega
          · exact h3 j (by omega) g2 g3 g4 g5
        · obtain ⟨r, h1, h2, h3, h4⟩ := ih n (k + 1) (min (cf k) x) (by omega) (by omega) (by omega)
          refine ⟨r, bd e1 (iN (nI_ge (by omega) (by omega)) (bd e1 ?_)), by omega, fun j g1 g2 g3 g4 g5 => ?_, ?_⟩
          · rw [imin (by omega) (by omega)]; exact h1
          · by_cases hj : j = k
            · subst hj; omega
            · exact h3 j (by omega) g2 g3 g4 g5
          · rcases h4 with h4 | h4
            · by_cases hx2 : x = r
              · exact Or.inl hx2.symm
              · exact Or.inr (Or.inr ⟨k, by omega, ho, h0, by omega, by omega⟩)
            · exact Or.inr h4
theorem nextCut_e (h : EvC s0 s1 on cf ct) {fu : Nat} (hfu : 10 ≤ fu) {b : Nat} (hb : b < 2 ^ 31) : ∃ r : Nat, f_X2_nextCut fu s0 s1 (nI b) = some (nI r) ∧ r ≤ 1000 ∧ (∀ j, j < 8 → on j = true → ct j ≠ 0 → b < cf j → r ≤ cf j) ∧ (r = 1000 ∨ ∃ j, j < 8 ∧ on j = true ∧ ct j ≠ 0 ∧ b < cf j ∧ cf j = r) := by
  obtain ⟨r, h1, h2, h3, h4⟩ := nL6 h fu hb 8 fu 0 1000 rfl (by omega) (by omega)
  refine ⟨r, h1, h2, fun j g1 => h3 j (Nat.zero_le _) g1, ?_⟩
  rcases h4 with h4 | h4 | h4
  · exact Or.inl h4
  · exact Or.inl h4
  · exact Or.inr h4
theorem cL8_end (fu n to acc r : Nat) (h1 : to < 2 ^ 31) : f_X2_countedBars_L8 fu s0 s1 (n + 1) (nI to) (nI acc) (nI to) (nI r) = some (nI acc) := by
  rw [f_X2_countedBars_L8]
  by_cases h : (8 : Int32) < nI r
  · exact ip h rfl
  · exact iN h (ip (nI_le (Nat.le_refl _) h1) rfl)
theorem cL8 (h : EvC s0 s1 on cf ct) {fu to : Nat} (hfu : 10 ≤ fu) (hto : to ≤ 1000) : ∀ (m n acc b r : Nat), pn on cf ct b 8 ≤ m → r + m ≤ 8 → m + 1 < n → b < 2 ^ 31 → f_X2_countedBars_L8 fu s0 s1 n (nI to) (nI acc) (nI b) (nI r) = some (nI (acc + cN on cf ct (to - b) b)) := by
  intro m
  induction m with
  | zero =>
    intro n acc b r hp hr hn hb
    obtain ⟨n, rfl⟩ : ∃ n', n = n' + 2 := ⟨n - 2, by omega⟩
    rw [f_X2_countedBars_L8]
    refine iN (nI_nlt (a := 8) (by omega) (by decide)) ?_
    by_cases hle : to ≤ b
    · refine ip (nI_le hle hb) ?_
      rw [show to - b = 0 by omega]; rfl
    · refine iN (nI_ge (by omega) (by omega)) ?_
      obtain ⟨f, hf, f1, f2, f3, f4⟩ := behind_e h hfu hb
      refine bd hf ?_
      rw [imin (by omega) (by omega)]
      obtain ⟨x, hx, x1, x2, x3⟩ := nextCut_e h hfu (show min f to < 2 ^ 31 by omega)
      refine bd hx ?_
      have hx0 : x = 1000 := by
        rcases x3 with x3 | ⟨j, j1, j2, j3, j4, j5⟩
        · exact x3
        · have := pn_pos (cf := cf) (b := b) j2 j3 (by omega) j1
          omega
      subst hx0
      rw [imin (by decide) (by omega), pk_sub (by omega), nI_add, nI_1, show min 1000 to = to by omega]
      rw [cL8_end fu n to _ (r + 1) (by omega)]
      congr 3
      have e := cN_add (on := on) (cf := cf) (ct := ct) (min f to - b) (to - min f to) b
      rw [show min f to - b + (to - min f to) = to - b by omega, show b + (min f to - b) = min f to by omega, cN_cut (min f to - b) b (fun c g1 g2 => f3 c g1 (by omega))] at e
      rw [e, cN_un (to - min f to) (min f to) (fun c g1 g2 hcut => ?_)]
      · omega
      · obtain ⟨k, k1, k2, k3, k4⟩ := id hcut
        by_cases hkf : cf k ≤ f
        · by_cases hcf : c = f
          · rw [hcf] at hcut; exact f4 hcut
          · exact f4 ⟨k, k1, k2, hkf, by omega⟩
        · have := pn_pos (cf := cf) (b := b) (n := 8) k2 (show ct k ≠ 0 by omega) (by omega) k1
          omega
  | succ m ih =>
    intro n acc b r hp hr hn hb
    obtain ⟨n, rfl⟩ : ∃ n', n = n' + 2 := ⟨n - 2, by omega⟩
    rw [f_X2_countedBars_L8]
    refine iN (nI_nlt (a := 8) (by omega) (by decide)) ?_
    by_cases hle : to ≤ b
    · refine ip (nI_le hle hb) ?_
      rw [show to - b = 0 by omega]; rfl
    · refine iN (nI_ge (by omega) (by omega)) ?_
      obtain ⟨f, hf, f1, f2, f3, f4⟩ := behind_e h hfu hb
      refine bd hf ?_
      rw [imin (by omega) (by omega)]
      obtain ⟨x, hx, x1, x2, x3⟩ := nextCut_e h hfu (show min f to < 2 ^ 31 by omega)
      refine bd hx ?_
      have hxf : min f to < x ∨ x = 1000 := by
        rcases x3 with x3 | ⟨j, j1, j2, j3, j4, j5⟩
        · exact Or.inr x3
        · exact Or.inl (by omega)
      rw [imin (by omega) (by omega), pk_sub (by omega), nI_add, nI_1]
      have e := cN_add (on := on) (cf := cf) (ct := ct) (min f to - b) (to - min f to) b
      rw [show min f to - b + (to - min f to) = to - b by omega, show b + (min f to - b) = min f to by omega, cN_cut (min f to - b) b (fun c g1 g2 => f3 c g1 (by omega))] at e
      have hun : ∀ c, min f to ≤ c → c < min x to → ¬ isC on cf ct c := by
        intro c g1 g2 hcut
        obtain ⟨k, k1, k2, k3, k4⟩ := id hcut
        by_cases hkf : cf k ≤ f
        · by_cases hcf : c = f
          · rw [hcf] at hcut; exact f4 hcut
          · exact f4 ⟨k, k1, k2, hkf, by omega⟩
        · have := x2 k k1 k2 (by omega) (by omega)
          omega
      have e2 := cN_add (on := on) (cf := cf) (ct := ct) (min x to - min f to) (to - min x to) (min f to)
      rw [show min x to - min f to + (to - min x to) = to - min f to by omega, show min f to + (min x to - min f to) = min x to by omega, cN_un (min x to - min f to) (min f to) (fun c g1 g2 => hun c g1 (by omega))] at e2
      by_cases hxt : to ≤ x
      · rw [show min x to = to by omega] at e2 ⊢
        rw [cL8_end fu n to _ (r + 1) (by omega), e, e2, Nat.sub_self]
        congr 3
        show to - min f to = 0 + (to - min f to + 0)
        omega
      · have hj : ∃ j, j < 8 ∧ on j = true ∧ ct j ≠ 0 ∧ min f to < cf j ∧ cf j = x := by
          rcases x3 with x3 | x3
          · omega
          · exact x3
        obtain ⟨j, j1, j2, j3, j4, j5⟩ := hj
        have hpn := pn_less (cf := cf) (b := b) (n := 8) j2 j3 (by omega) j1
        rw [show min x to = x by omega] at e2 ⊢
        have hi := ih (n + 1) (acc + (x - min f to)) x (r + 1) (by rw [← j5]; omega) (by omega) (by omega) (by omega)
        rw [hi, e, e2]
        rw [show acc + (x - min f to) + cN on cf ct (to - x) x = acc + (0 + (x - min f to + cN on cf ct (to - x) x)) by omega]
theorem counted_e (h : EvC s0 s1 on cf ct) {fu a to : Nat} (hfu : 20 ≤ fu) (hto : to ≤ 1000) (ha : a < 2 ^ 31) : f_X2_countedBars fu s0 s1 (nI a) (nI to) = some (nI (cN on cf ct (to - a) a)) := by
  have := cL8 h (fu := fu) (by omega) hto 8 fu 0 a 0 (pn_le a 8) (by omega) (by omega) ha
  rw [Nat.zero_add] at this
  exact this
end CNE
section CNM
variable {M : St} {on : Nat → Bool} {cf ct : Nat → Nat}
theorem mbL15 (h : EvM M on cf ct) {fu to : Nat} (hfu : 10 ≤ fu) (hto : to ≤ 1000) : ∀ (m n acc b : Nat), to ≤ b + m → m < n → b < 2 ^ 31 → f_X10_bars_L15 fu M n (nI to) (nI acc) (nI b) = some (nI (acc + cN on cf ct (to - b) b)) := by
  intro m
  induction m with
  | zero =>
    intro n acc b hm hn hb
    obtain ⟨n, rfl⟩ : ∃ n', n = n' + 1 := ⟨n - 1, by omega⟩
    rw [f_X10_bars_L15]
    refine ip (nI_le (by omega) hb) ?_
    rw [show to - b = 0 by omega]; rfl
  | succ m ih =>
    intro n acc b hm hn hb
    obtain ⟨n, rfl⟩ : ∃ n', n = n' + 1 := ⟨n - 1, by omega⟩
    rw [f_X10_bars_L15]
    by_cases hle : to ≤ b
    · refine ip (nI_le hle hb) ?_
      rw [show to - b = 0 by omega]; rfl
    · refine iN (nI_ge (by omega) (by omega)) ?_
      obtain ⟨v, hv1, hv2⟩ := isCut_e h hfu hb
      refine bd hv1 ?_
      rw [show to - b = (to - (b + 1)) + 1 by omega]
      show _ = some (nI (acc + (uc on cf ct b + cN on cf ct (to - (b + 1)) (b + 1))))
      cases v with
      | false =>
        have hu : ¬ isC on cf ct b := fun q => by have := hv2.mpr q; cases this
        refine ip (by decide) ?_
        unfold f_X10_bars_L36
        rw [nI_1, nI_1, ih n (acc + 1) (b + 1) (by omega) (by omega) (by omega), uc_un hu, Nat.add_assoc]
      | true =>
        refine iN (by decide) ?_
        unfold f_X10_bars_L36
        rw [show nI acc + 0 = nI acc from nI_add acc 0, nI_1, ih n acc (b + 1) (by omega) (by omega) (by omega), uc_cut (hv2.mp rfl), Nat.zero_add]
theorem bars_e (h : EvM M on cf ct) {fu t k a to : Nat} (hfu : 1100 ≤ fu) (ht : t < 40) (hk : k < 40) (h1 : M.2 11 t = nI k) (h2 : M.2 9 k = nI a) (hto : to ≤ 1000) (ha : a ≤ 1000) : f_X10_bars fu M (nI t) (nI to) = some (nI (cN on cf ct (to - a) a)) := by
  unfold f_X10_bars
  refine ip (inb_nI ht (by decide)) ?_
  rw [cl_nI (show t < 2 ^ 31 by omega), h1]
  refine ip (inb_nI hk (by decide)) ?_
  rw [cl_nI (show k < 2 ^ 31 by omega), h2]
  have := mbL15 h (fu := fu) (by omega) hto 1000 fu 0 a (by omega) (by omega) (by omega)
  rw [Nat.zero_add] at this
  exact this
end CNM
