/-! cuts: the first bar that isn't cut -/
/-- what three rows say: on, to, from -/
def Ev (a o t f : Nat → Int32) (on : Nat → Bool) (cf ct : Nat → Nat) : Prop := ∀ k : Nat, k < 8 → o k = nI (b1 (on k)) ∧ t k = nI (ct k) ∧ (ct k = 0 ∨ (f k = nI (cf k) ∧ cf k < ct k ∧ ct k ≤ 999))
def isC (on : Nat → Bool) (cf ct : Nat → Nat) (b : Nat) : Prop := ∃ k : Nat, k < 8 ∧ on k = true ∧ cf k ≤ b ∧ b < ct k
/-- r is the first bar from p on that isn't cut -/
def Fu (on : Nat → Bool) (cf ct : Nat → Nat) (p r : Nat) : Prop := p ≤ r ∧ (r = p ∨ r ≤ 999) ∧ (∀ b : Nat, p ≤ b → b < r → isC on cf ct b) ∧ ¬ isC on cf ct r
theorem Fu_uniq {on : Nat → Bool} {cf ct : Nat → Nat} {p r r' : Nat} (h : Fu on cf ct p r) (h' : Fu on cf ct p r') : r = r' := by
  obtain ⟨h1, -, h2, h3⟩ := h
  obtain ⟨h1', -, h2', h3'⟩ := h'
  rcases Nat.lt_trichotomy r r' with q | q | q
  · exact absurd (h2' r h1 q) h3
  · exact q
  · exact absurd (h2 r' h1' q) h3'
theorem Fu_self {on : Nat → Bool} {cf ct : Nat → Nat} {p : Nat} (h : ¬ isC on cf ct p) : Fu on cf ct p p := ⟨Nat.le_refl _, Or.inl rfl, fun b h1 h2 => absurd h1 (by omega), h⟩
section EVC
variable {s0 s1 : St} {on : Nat → Bool} {cf ct : Nat → Nat}
abbrev EvC (s0 s1 : St) (on : Nat → Bool) (cf ct : Nat → Nat) : Prop := Ev (fun _ => 0) (s0.2 4) (s1.2 8) (s1.2 7) on cf ct
abbrev EvM (M : St) (on : Nat → Bool) (cf ct : Nat → Nat) : Prop := Ev (fun _ => 0) (M.2 18) (M.2 13) (M.2 12) on cf ct
theorem hasCut_e (h : EvC s0 s1 on cf ct) (fu : Nat) {k : Nat} (hk : k < 8) : f_X5_hasCut fu s1 (nI k) = some (if ct k = 0 then 0 else 1) := by
  obtain ⟨-, ht, hc⟩ := h k hk
  unfold f_X5_hasCut
  refine iN (nI_pos (by omega)) ?_
  refine iN (nI_ge (a := k) (b := 8) (by omega) (by decide)) ?_
  refine ip (inb_nI hk (by decide)) ?_
  rw [cl_nI (by omega)]
  have ht : s1.2 8 k = nI (ct k) := ht
  rw [ht]
  by_cases h0 : ct k = 0
  · rw [if_pos h0, h0]
    exact ip (by decide) rfl
  · rw [if_neg h0]
    exact iN (nI_nle (by omega) (by omega)) rfl
theorem cutTakes_e (h : EvC s0 s1 on cf ct) (fu : Nat) {k b : Nat} (hk : k < 8) (hb : b < 2 ^ 31) : f_X5_cutTakes fu s1 (nI k) (nI b) = some (if cf k ≤ b ∧ b < ct k then 1 else 0) := by
  unfold f_X5_cutTakes
  refine bd (hasCut_e h fu hk) ?_
  obtain ⟨-, ht, hc⟩ := h k hk
  have ht : s1.2 8 k = nI (ct k) := ht
  by_cases h0 : ct k = 0
  · rw [if_pos h0, if_neg (show ¬ (cf k ≤ b ∧ b < ct k) by omega)]
    exact ip rfl rfl
  · rw [if_neg h0]
    rcases hc with hc | ⟨hf, h1, h2⟩
    · exact absurd hc h0
    have hf : s1.2 7 k = nI (cf k) := hf
    refine iN (by decide) ?_
    refine ip (inb_nI hk (by decide)) ?_
    rw [cl_nI (by omega), hf, ht]
    by_cases hb1 : cf k ≤ b
    · refine iN (nI_nlt hb1 hb) ?_
      refine ip (inb_nI hk (by decide)) ?_
      by_cases hb2 : b < ct k
      · rw [if_pos (show cf k ≤ b ∧ b < ct k from ⟨hb1, hb2⟩)]
        exact iN (nI_ge hb2 (by omega)) rfl
      · rw [if_neg (show ¬ (cf k ≤ b ∧ b < ct k) by omega)]
        exact ip (nI_le (by omega) hb) rfl
    · rw [if_neg (show ¬ (cf k ≤ b ∧ b < ct k) by omega)]
      exact ip (nI_lt (by omega) (by omega)) rfl
theorem cutBehind_e (h : EvC s0 s1 on cf ct) (fu : Nat) {k : Nat} (hk : k < 8) : f_X5_cutBehind fu s1 (nI k) = some (nI (ct k)) := by
  unfold f_X5_cutBehind
  refine bd (hasCut_e h fu hk) ?_
  obtain ⟨-, ht, hc⟩ := h k hk
  have ht : s1.2 8 k = nI (ct k) := ht
  by_cases h0 : ct k = 0
  · rw [if_pos h0, h0]
    exact ip rfl rfl
  · rw [if_neg h0]
    refine iN (by decide) ?_
    refine ip (inb_nI hk (by decide)) ?_
    rw [cl_nI (by omega), ht]
theorem cutFirst_e (h : EvC s0 s1 on cf ct) (fu : Nat) {k : Nat} (hk : k < 8) : f_X5_cutFirst fu s1 (nI k) = some (nI (if ct k = 0 then 1000 else cf k)) := by
  unfold f_X5_cutFirst
  refine bd (hasCut_e h fu hk) ?_
  obtain ⟨-, ht, hc⟩ := h k hk
  by_cases h0 : ct k = 0
  · rw [if_pos h0, if_pos h0]
    exact ip rfl rfl
  · rw [if_neg h0, if_neg h0]
    rcases hc with hc | ⟨hf, h1, h2⟩
    · exact absurd hc h0
    have hf : s1.2 7 k = nI (cf k) := hf
    refine iN (by decide) ?_
    refine ip (inb_nI hk (by decide)) ?_
    rw [cl_nI (by omega), hf]
/-- one name's turn, and those from k on -/
def stp (on : Nat → Bool) (cf ct : Nat → Nat) (k p : Nat) : Nat := if on k = true ∧ cf k ≤ p ∧ p < ct k then ct k else p
def rnd (on : Nat → Bool) (cf ct : Nat → Nat) : Nat → Nat → Nat → Nat
  | 0, _, p => p
  | n + 1, k, p => rnd on cf ct n (k + 1) (stp on cf ct k p)
def rnds (on : Nat → Bool) (cf ct : Nat → Nat) : Nat → Nat → Nat
  | 0, p => p
  | n + 1, p => rnds on cf ct n (rnd on cf ct 8 0 p)
/-- how many names lie still ahead -/
def pen (on : Nat → Bool) (ct : Nat → Nat) (p : Nat) : Nat → Nat
  | 0 => 0
  | n + 1 => pen on ct p n + (if on n = true ∧ p < ct n then 1 else 0)
theorem pen_le (on : Nat → Bool) (ct : Nat → Nat) (p n : Nat) : pen on ct p n ≤ n := by
  induction n with
  | zero => exact Nat.le_refl _
  | succ n ih => unfold pen; split <;> omega
theorem pen_mono (on : Nat → Bool) (ct : Nat → Nat) {p q : Nat} (h : p ≤ q) (n : Nat) : pen on ct q n ≤ pen on ct p n := by
  induction n with
  | zero => exact Nat.le_refl _
  | succ n ih =>
    unfold pen
    by_cases h1 : on n = true ∧ q < ct n
    · rw [if_pos h1, if_pos ⟨h1.1, by omega⟩]; omega
    · rw [if_neg h1]; split <;> omega
theorem pen_less (on : Nat → Bool) (ct : Nat → Nat) {p q k : Nat} (h : p ≤ q) (h1 : on k = true) (h2 : p < ct k) (h3 : ct k ≤ q) {n : Nat} (hn : k < n) : pen on ct q n + 1 ≤ pen on ct p n := by
  induction n with
  | zero => omega
  | succ n ih =>
    unfold pen
    by_cases hk : k = n
    · subst hk
      rw [if_neg (by omega), if_pos ⟨h1, h2⟩]
      have := pen_mono on ct h k
      omega
    · have := ih (by omega)
      by_cases h4 : on n = true ∧ q < ct n
      · rw [if_pos h4, if_pos ⟨h4.1, by omega⟩]; omega
      · rw [if_neg h4]; split <;> omega
/-- what a turn keeps: from p0 on all is cut up to here -/
def Up (on : Nat → Bool) (cf ct : Nat → Nat) (p0 p : Nat) : Prop := p0 ≤ p ∧ (p = p0 ∨ p ≤ 999) ∧ ∀ b : Nat, p0 ≤ b → b < p → isC on cf ct b
theorem stp_up {a o t f : Nat → Int32} (h : Ev a o t f on cf ct) {p0 p k : Nat} (hk : k < 8) (hu : Up on cf ct p0 p) : Up on cf ct p0 (stp on cf ct k p) := by
  obtain ⟨h1, h2, h3⟩ := hu
  unfold stp
  by_cases hc : on k = true ∧ cf k ≤ p ∧ p < ct k
  · rw [if_pos hc]
    obtain ⟨-, -, h4⟩ := h k hk
    refine ⟨by omega, Or.inr (by omega), fun b hb1 hb2 => ?_⟩
    by_cases hb : b < p
    · exact h3 b hb1 hb
    · exact ⟨k, hk, hc.1, by omega, hb2⟩
  · rw [if_neg hc]; exact ⟨h1, h2, h3⟩
theorem stp_ge (on : Nat → Bool) (cf ct : Nat → Nat) (k p : Nat) : p ≤ stp on cf ct k p := by
  unfold stp; split <;> omega
theorem rnd_ge (on : Nat → Bool) (cf ct : Nat → Nat) (n : Nat) : ∀ k p, p ≤ rnd on cf ct n k p := by
  induction n with
  | zero => intro k p; exact Nat.le_refl _
  | succ n ih => intro k p; unfold rnd; exact Nat.le_trans (stp_ge on cf ct k p) (ih _ _)
theorem rnd_up {a o t f : Nat → Int32} (h : Ev a o t f on cf ct) {p0 : Nat} (n : Nat) : ∀ k p, k + n ≤ 8 → Up on cf ct p0 p → Up on cf ct p0 (rnd on cf ct n k p) := by
  induction n with
  | zero => intro k p _ hu; exact hu
  | succ n ih => intro k p hk hu; unfold rnd; exact ih _ _ (by omega) (stp_up h (by omega) hu)
/-- a round that moves nothing: no name from k on takes this bar -/
theorem rnd_still {a o t f : Nat → Int32} (h : Ev a o t f on cf ct) (n : Nat) : ∀ k p, rnd on cf ct n k p = p → k + n ≤ 8 → ∀ j, k ≤ j → j < k + n → ¬ (on j = true ∧ cf j ≤ p ∧ p < ct j) := by
  induction n with
  | zero => intro k p _ _ j h1 h2; omega
  | succ n ih =>
    intro k p he hk j h1 h2 hj
    unfold rnd at he
    have g1 := stp_ge on cf ct k p
    have g2 := rnd_ge on cf ct n (k + 1) (stp on cf ct k p)
    have g3 : stp on cf ct k p = p := by omega
    by_cases hjk : j = k
    · subst hjk
      unfold stp at g3
      rw [if_pos hj] at g3
      omega
    · rw [g3] at he
      exact ih (k + 1) p he (by omega) j (by omega) (by omega) hj
/-- a round that moves: a name falls behind -/
theorem rnd_moves {a o t f : Nat → Int32} (h : Ev a o t f on cf ct) (n : Nat) : ∀ k p, rnd on cf ct n k p ≠ p → k + n ≤ 8 → pen on ct (rnd on cf ct n k p) 8 + 1 ≤ pen on ct p 8 := by
  induction n with
  | zero => intro k p hne; exact absurd rfl hne
  | succ n ih =>
    intro k p hne hk
    unfold rnd at hne ⊢
    by_cases hs : stp on cf ct k p = p
    · rw [hs] at hne ⊢
      exact ih (k + 1) p hne (by omega)
    · have hs2 := hs
      unfold stp at hs2
      by_cases hc : on k = true ∧ cf k ≤ p ∧ p < ct k
      · have e : stp on cf ct k p = ct k := by unfold stp; rw [if_pos hc]
        have g := rnd_ge on cf ct n (k + 1) (stp on cf ct k p)
        exact pen_less on ct (by omega) hc.1 hc.2.2 (by omega) (by omega)
      · rw [if_neg hc] at hs2
        exact absurd rfl hs2
theorem rnds_ok {a o t f : Nat → Int32} (h : Ev a o t f on cf ct) {p0 : Nat} (n : Nat) : ∀ p, Up on cf ct p0 p → (pen on ct p 8 ≤ n ∨ ¬ isC on cf ct p) → Fu on cf ct p0 (rnds on cf ct n p) := by
  induction n with
  | zero =>
    intro p ⟨h1, h2, h3⟩ hp
    refine ⟨h1, h2, h3, fun ⟨k, hk, hk1, hk2, hk3⟩ => ?_⟩
    rcases hp with hp | hp
    · have := pen_less on ct (q := ct k) (by omega) hk1 hk3 (Nat.le_refl _) hk
      have e : rnds on cf ct 0 p = p := rfl
      rw [e] at hk3
      have := pen_less on ct (q := ct k) (by omega) hk1 hk3 (Nat.le_refl _) hk
      omega
    · exact hp ⟨k, hk, hk1, hk2, hk3⟩
  | succ n ih =>
    intro p hu hp
    unfold rnds
    refine ih _ (rnd_up h 8 0 p (by omega) hu) ?_
    by_cases hm : rnd on cf ct 8 0 p = p
    · right
      rw [hm]
      rintro ⟨k, hk, hk1, hk2, hk3⟩
      exact rnd_still h 8 0 p hm (by omega) k (by omega) (by omega) ⟨hk1, hk2, hk3⟩
    · rcases hp with hp | hp
      · left
        have := rnd_moves h 8 0 p hm (by omega)
        omega
      · exfalso
        apply hm
        have hx : ∀ n k, k + n ≤ 8 → rnd on cf ct n k p = p := by
          intro n
          induction n with
          | zero => intro k _; rfl
          | succ n ih2 =>
            intro k hk
            unfold rnd
            have e : stp on cf ct k p = p := by
              unfold stp
              rw [if_neg (fun hc => hp ⟨k, by omega, hc.1, hc.2.1, hc.2.2⟩)]
            rw [e]
            exact ih2 (k + 1) (by omega)
        exact hx 8 0 (by omega)
theorem stp_lt {a o t f : Nat → Int32} (h : Ev a o t f on cf ct) {k p : Nat} (hk : k < 8) (hp : p < 2 ^ 31) : stp on cf ct k p < 2 ^ 31 := by
  obtain ⟨-, -, h4⟩ := h k hk
  unfold stp; split <;> omega
theorem bL13 (h : EvC s0 s1 on cf ct) (fu : Nat) (K : Int32 → Int32 → Option Int32) (x3 : Int32) : ∀ (m n k p : Nat), k + m = 8 → m < n → p < 2 ^ 31 → f_X2_behindCuts_L13 K fu s0 s1 n (nI p) x3 (nI k) = K (nI (rnd on cf ct m k p)) (x3 + 1) := by
  intro m
  induction m with
  | zero =>
    intro n k p hk hn hp
    obtain ⟨n, rfl⟩ : ∃ n', n = n' + 1 := ⟨n - 1, by omega⟩
    rw [f_X2_behindCuts_L13]
    exact ip (nI_le (a := 8) (by omega) (by omega)) rfl
  | succ m ih =>
    intro n k p hk hn hp
    obtain ⟨n, rfl⟩ : ∃ n', n = n' + 1 := ⟨n - 1, by omega⟩
    rw [f_X2_behindCuts_L13]
    refine iN (nI_ge (a := k) (b := 8) (by omega) (by decide)) ?_
    refine ip (inb_nI (by omega) (by decide)) ?_
    rw [cl_nI (by omega), (h k (by omega)).1, nI_1]
    unfold rnd
    cases ho : on k with
    | false =>
      refine ip (by decide) ?_
      rw [ih n (k + 1) p (by omega) (by omega) hp]
      have e : stp on cf ct k p = p := by unfold stp; rw [if_neg (by rw [ho]; simp)]
      rw [e]
    | true =>
      refine iN (by decide) ?_
      refine bd (cutTakes_e h fu (by omega) hp) ?_
      by_cases hc : cf k ≤ p ∧ p < ct k
      · rw [if_pos hc]
        refine iN (by decide) ?_
        refine bd (cutBehind_e h fu (by omega)) ?_
        have e : stp on cf ct k p = ct k := by unfold stp; rw [if_pos ⟨ho, hc⟩]
        rw [e]
        refine ih n (k + 1) (ct k) (by omega) (by omega) ?_
        obtain ⟨-, -, h4⟩ := h k (by omega)
        omega
      · rw [if_neg hc]
        refine ip rfl ?_
        have e : stp on cf ct k p = p := by unfold stp; rw [if_neg (fun hh => hc hh.2)]
        rw [e]
        exact ih n (k + 1) p (by omega) (by omega) hp
theorem rnd_lt {a o t f : Nat → Int32} (h : Ev a o t f on cf ct) (n : Nat) : ∀ k p, k + n ≤ 8 → p < 2 ^ 31 → rnd on cf ct n k p < 2 ^ 31 := by
  induction n with
  | zero => intro k p _ hp; exact hp
  | succ n ih => intro k p hk hp; unfold rnd; exact ih _ _ (by omega) (stp_lt h (by omega) hp)
theorem bL4 (h : EvC s0 s1 on cf ct) {fu : Nat} (hfu : 10 ≤ fu) : ∀ (m n r p : Nat), r + m = 8 → m < n → p < 2 ^ 31 → f_X2_behindCuts_L4 fu s0 s1 n (nI p) (nI r) = some (nI (rnds on cf ct m p)) := by
  intro m
  induction m with
  | zero =>
    intro n r p hr hn hp
    obtain ⟨n, rfl⟩ : ∃ n', n = n' + 1 := ⟨n - 1, by omega⟩
    rw [f_X2_behindCuts_L4]
    exact ip (nI_le (a := 8) (by omega) (by omega)) rfl
  | succ m ih =>
    intro n r p hr hn hp
    obtain ⟨n, rfl⟩ : ∃ n', n = n' + 1 := ⟨n - 1, by omega⟩
    rw [f_X2_behindCuts_L4]
    refine iN (nI_ge (a := r) (b := 8) (by omega) (by decide)) ?_
    have e := bL13 h fu (f_X2_behindCuts_L4 fu s0 s1 n) (nI r) 8 fu 0 p rfl (by omega) hp
    refine e.trans ?_
    rw [nI_1]
    unfold rnds
    exact ih n (r + 1) _ (by omega) (by omega) (rnd_lt h 8 0 p (by omega) hp)
theorem behind_e (h : EvC s0 s1 on cf ct) {fu : Nat} (hfu : 10 ≤ fu) {p : Nat} (hp : p < 2 ^ 31) : ∃ r : Nat, f_X2_behindCuts fu s0 s1 (nI p) = some (nI r) ∧ Fu on cf ct p r := by
  refine ⟨rnds on cf ct 8 p, bL4 h hfu 8 fu 0 p rfl (by omega) hp, rnds_ok h 8 p ⟨Nat.le_refl _, Or.inl rfl, fun b h1 h2 => absurd h1 (by omega)⟩ (Or.inl (pen_le on ct p 8))⟩
end EVC
/-! the reference's -/
section EVM
variable {M : St} {on : Nat → Bool} {cf ct : Nat → Nat}
theorem isCut_dec (on : Nat → Bool) (cf ct : Nat → Nat) (b : Nat) : isC on cf ct b ∨ ¬ isC on cf ct b := Classical.em _
theorem mL4 (h : EvM M on cf ct) (fu : Nat) {b : Nat} (hb : b < 2 ^ 31) : ∀ (m n k : Nat) (w : Bool), k + m = 8 → m < n → ∃ v : Bool, f_X10_isCut_L4 fu M n (nI b) (nI (b1 w)) (nI k) = some (nI (b1 v)) ∧ (v = true ↔ w = true ∨ ∃ j : Nat, k ≤ j ∧ j < 8 ∧ on j = true ∧ cf j ≤ b ∧ b < ct j) := by
  intro m
  induction m with
  | zero =>
    intro n k w hk hn
    obtain ⟨n, rfl⟩ : ∃ n', n = n' + 1 := ⟨n - 1, by omega⟩
    rw [f_X10_isCut_L4]
    refine ⟨w, ip (nI_le (a := 8) (by omega) (by omega)) (ip (by cases w <;> decide) rfl), ?_⟩
    constructor
    · exact Or.inl
    · rintro (h1 | ⟨j, h1, h2, -⟩)
      · exact h1
      · omega
  | succ m ih =>
    intro n k w hk hn
    obtain ⟨n, rfl⟩ : ∃ n', n = n' + 1 := ⟨n - 1, by omega⟩
    have hone : ∀ u : Bool, (u = true ↔ w = true ∨ (on k = true ∧ cf k ≤ b ∧ b < ct k)) → ∃ v : Bool, f_X10_isCut_L4 fu M n (nI b) (nI (b1 u)) (nI k + 1) = some (nI (b1 v)) ∧ (v = true ↔ w = true ∨ ∃ j : Nat, k ≤ j ∧ j < 8 ∧ on j = true ∧ cf j ≤ b ∧ b < ct j) := by
      intro u hu
      rw [nI_1]
      obtain ⟨v, hv1, hv2⟩ := ih n (k + 1) u (by omega) (by omega)
      refine ⟨v, hv1, hv2.trans ?_⟩
      constructor
      · rintro (q | ⟨j, q1, q2⟩)
        · rcases hu.mp q with q | q
          · exact Or.inl q
          · exact Or.inr ⟨k, Nat.le_refl _, by omega, q⟩
        · exact Or.inr ⟨j, by omega, q2⟩
      · rintro (q | ⟨j, q1, q2⟩)
        · exact Or.inl (hu.mpr (Or.inl q))
        · by_cases hj : j = k
          · subst hj; exact Or.inl (hu.mpr (Or.inr q2.2))
          · exact Or.inr ⟨j, by omega, q2⟩
    rw [f_X10_isCut_L4]
    have hge : ¬ (8 : Int32) ≤ nI k := nI_ge (a := k) (b := 8) (by omega) (by decide)
    rw [if_neg hge]
    obtain ⟨ho, ht, hc⟩ := h k (by omega)
    have ho : M.2 18 k = nI (b1 (on k)) := ho
    have ht : M.2 13 k = nI (ct k) := ht
    cases w with
    | true =>
      obtain ⟨v, hv1, hv2⟩ := hone true (by simp)
      exact ⟨v, iN (by decide) hv1, hv2⟩
    | false =>
      rw [if_pos (show nI (b1 false) = 0 by decide), if_pos (inb_nI (show k < 8 by omega) (by decide)), cl_nI (show k < 2 ^ 31 by omega), ho]
      cases hon : on k with
      | false =>
        obtain ⟨v, hv1, hv2⟩ := hone false (by rw [hon]; simp)
        exact ⟨v, ip (by decide) hv1, hv2⟩
      | true =>
        rw [if_neg (show ¬ nI (b1 true) = 0 by decide), if_pos (inb_nI (show k < 8 by omega) (by decide))]
        by_cases h0 : ct k = 0
        · obtain ⟨v, hv1, hv2⟩ := hone false (by constructor <;> intro q; · simp at q
                                                 · rcases q with q | q
                                                   · simp at q
                                                   · omega)
          refine ⟨v, ?_, hv2⟩
          by_cases hlt : nI b < M.2 12 k
          · exact ip hlt hv1
          · refine iN hlt (ip (inb_nI (by omega) (by decide)) ?_)
            rw [ht, h0]
            exact ip (nI_le (by omega) hb) hv1
        · rcases hc with hc | ⟨hf, h1, h2⟩
          · exact absurd hc h0
          have hf : M.2 12 k = nI (cf k) := hf
          rw [hf, ht]
          by_cases hb1 : cf k ≤ b
          · rw [if_neg (nI_nlt hb1 hb), if_pos (inb_nI (show k < 8 by omega) (by decide))]
            by_cases hb2 : b < ct k
            · obtain ⟨v, hv1, hv2⟩ := hone true (by rw [hon]; simp [hb1, hb2])
              exact ⟨v, iN (nI_ge hb2 (by omega)) hv1, hv2⟩
            · obtain ⟨v, hv1, hv2⟩ := hone false (by constructor <;> intro q; · simp at q
                                                     · rcases q with q | q
                                                       · simp at q
                                                       · omega)
              exact ⟨v, ip (nI_le (by omega) hb) hv1, hv2⟩
          · obtain ⟨v, hv1, hv2⟩ := hone false (by constructor <;> intro q; · simp at q
                                                   · rcases q with q | q
                                                     · simp at q
                                                     · omega)
            exact ⟨v, ip (nI_lt (by omega) (by omega)) hv1, hv2⟩
theorem isCut_e (h : EvM M on cf ct) {fu : Nat} (hfu : 10 ≤ fu) {b : Nat} (hb : b < 2 ^ 31) : ∃ v : Bool, f_X10_isCut fu M (nI b) = some (nI (b1 v)) ∧ (v = true ↔ isC on cf ct b) := by
  obtain ⟨v, h1, h2⟩ := mL4 h fu hb 8 fu 0 false rfl (by omega)
  refine ⟨v, h1, h2.trans ?_⟩
  constructor
  · rintro (q | ⟨j, -, q⟩)
    · cases q
    · exact ⟨j, q⟩
  · rintro ⟨j, q⟩
    exact Or.inr ⟨j, Nat.zero_le _, q⟩
theorem EvM_sF {k : Nat} {v : Int32} (h : EvM M on cf ct) : EvM (sF M k v) on cf ct := h
theorem gL0 {fu : Nat} (hfu : 10 ≤ fu) : ∀ (m n p : Nat) (M : St), EvM M on cf ct → M.1 22 = nI p → p < 2 ^ 31 → (p + m ≥ 1000 ∨ ¬ isC on cf ct p) → m + 1 < n → ∃ r : Nat, f_X10_goesOn_L0 fu n M = some (sF M 22 (nI r)) ∧ Fu on cf ct p r := by
  intro m
  induction m with
  | zero =>
    intro n p M h hp hb hm hn
    obtain ⟨n, rfl⟩ : ∃ n', n = n' + 1 := ⟨n - 1, by omega⟩
    have hnc : ¬ isC on cf ct p := by
      rcases hm with hm | hm
      · rintro ⟨k, hk, -, -, h3⟩
        obtain ⟨-, -, h4⟩ := h k hk
        omega
      · exact hm
    obtain ⟨v, hv1, hv2⟩ := isCut_e h hfu hb
    refine ⟨p, ?_, Fu_self hnc⟩
    rw [f_X10_goesOn_L0, hp]
    refine bd hv1 ?_
    have : v = false := by cases v; rfl; exact absurd (hv2.mp rfl) hnc
    subst this
    rw [sF_self hp]
    exact ip (by decide) rfl
  | succ m ih =>
    intro n p M h hp hb hm hn
    obtain ⟨n, rfl⟩ : ∃ n', n = n' + 1 := ⟨n - 1, by omega⟩
    obtain ⟨v, hv1, hv2⟩ := isCut_e h hfu hb
    rw [f_X10_goesOn_L0, hp]
    cases v with
    | false =>
      refine ⟨p, bd hv1 ?_, Fu_self (fun q => by have := hv2.mpr q; cases this)⟩
      rw [sF_self hp]
      exact ip (by decide) rfl
    | true =>
      have hc := hv2.mp rfl
      obtain ⟨k, hk, -, -, h3⟩ := id hc
      obtain ⟨-, -, h4⟩ := h k hk
      have hm2 : p + 1 + m ≥ 1000 ∨ ¬ isC on cf ct (p + 1) := by
        rcases hm with hm | hm
        · exact Or.inl (by omega)
        · exact absurd hc hm
      obtain ⟨r, hr1, hr2, hr2', hr3, hr4⟩ := ih n (p + 1) (sF M 22 (nI p + 1)) h (by rw [sF_1, if_pos rfl, nI_1]) (by omega) hm2 (by omega)
      refine ⟨r, bd hv1 ?_, by omega, by omega, fun b q1 q2 => ?_, hr4⟩
      · rw [sF_same] at hr1
        exact iN (by decide) hr1
      · by_cases hbp : b = p
        · subst hbp; exact hc
        · exact hr3 b (by omega) q2
theorem goesOn_e (h : EvM M on cf ct) {fu : Nat} (hfu : 1010 ≤ fu) {p : Nat} (hp : M.1 22 = nI p) (hb : p < 2 ^ 31) : ∃ r : Nat, f_X10_goesOn fu M = some (sF M 22 (nI r)) ∧ Fu on cf ct p r :=
  gL0 (by omega) 1000 fu p M h hp hb (Or.inl (by omega)) (by omega)
end EVM
