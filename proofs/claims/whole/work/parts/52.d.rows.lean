/-! the reference's rows, and its lay as a whole -/
section RW
variable {W wd : Nat} {wb we : Nat → Nat} {u : St}
/-- the numbers of one page with rows of a and b words -/
def eqv (W wd : Nat) (wb we : Nat → Nat) (p i a b : Nat) : Prop := Rp W wd wb we (2 * p) (i + a + b) + pc wd wb we i a + pc wd wb we (i + a) b = Rp W wd wb we (2 * (p + 1)) i
theorem l276 (hw : Wr u W wb we) (hm : Wm W wb we) (hW2 : W ≤ 240) (hwd : wd ≤ 100) (hfit : ∀ k, k < W → we k - wb k ≤ wd) (fu : Nat) {p i a : Nat} (hp : p < 6) (hL : Lv u W wd wb we (p + 2)) (hi : i < W) (ha : i + a ≤ sp W wd wb we i) (K0 : St → Int32 → Int32 → Int32 → Option (Int32 × St)) (K : St → Int32 → Int32 → Int32 → Int32 → Int32 → Int32 → Option (Int32 × St)) (x6 : Int32) (q b : Nat) (hb : i + a + b ≤ sp W wd wb we (i + a)) :
    (¬ eqv W wd wb we p i a b → f_X10_lay_L276 K0 K fu (q + 1) u (nI wd) (nI i) (nI (p + 1)) x6 0 (nI a) (nI b) = f_X10_lay_L276 K0 K fu q u (nI wd) (nI i) (nI (p + 1)) x6 0 (nI a) (nI b + (-1))) ∧
    (eqv W wd wb we p i a b → ∀ r, r + 1 < 12 → x6 = nI r → f_X10_lay_L276 K0 K fu (q + 1) u (nI wd) (nI i) (nI (p + 1)) x6 0 (nI a) (nI b) = f_X10_lay_L276 K0 K fu q (sA (sA u 31 r (nI a)) 31 (r + 1) (nI b)) (nI wd) (nI i) (nI (p + 1)) x6 1 (nI a) (nI b + (-1))) := by
  have hsW := sp_le (W := W) (wd := wd) (wb := wb) (we := we) (show i ≤ W by omega)
  have hsW2 := sp_le (W := W) (wd := wd) (wb := wb) (we := we) (show i + a ≤ W by omega)
  have hidx : (((((254 * nI (p + 1)) - 254) + nI i) + nI a) + nI b : Int32) = nI (254 * p + (i + a + b)) := by
    rw [show (254 * nI (p + 1) : Int32) = nI (254 * (p + 1)) from pk_mul 254 (p + 1), show (nI (254 * (p + 1)) - 254 : Int32) = nI (254 * (p + 1) - 254) from pk_sub (show 254 ≤ 254 * (p + 1) by omega), nI_add, nI_add, nI_add]
    congr 1
    omega
  have hidx2 : (254 * nI (p + 1) + nI i : Int32) = nI (254 * (p + 1) + i) := by
    rw [show (254 * nI (p + 1) : Int32) = nI (254 * (p + 1)) from pk_mul 254 (p + 1), nI_add]
  have hr1 := hL p (by omega) (i + a + b) (by omega)
  have hr2 := hL (p + 1) (by omega) i (by omega)
  have g1 := Rp_le (W := W) (wd := wd) (wb := wb) (we := we) (2 * p) (i + a + b)
  have g2 := Rp_le (W := W) (wd := wd) (wb := wb) (we := we) (2 * (p + 1)) i
  have g3 := pc_le (wb := wb) (we := we) hwd i a
  have g4 := pc_le (wb := wb) (we := we) hwd (i + a) b
  have hN : NOW = 1000000 := rfl
  have hp1 := paid_e hw hm (by omega) hwd hfit fu (show i ≤ W by omega) ha
  have hp2 : f_X10_paid fu u (nI i + nI a) (nI b) (nI wd) = some (nI (pc wd wb we (i + a) b)) := by rw [nI_add]; exact paid_e hw hm (by omega) hwd hfit fu (by omega) hb
  rw [f_X10_lay_L276, if_neg (nI_pos (show b < 2 ^ 31 by omega)), if_pos rfl, hidx, if_pos (inb_nI (show 254 * p + (i + a + b) < 1778 by omega) (by decide)), cl_nI (show 254 * p + (i + a + b) < 2 ^ 31 by omega), hr1, hidx2, cl_nI (show 254 * (p + 1) + i < 2 ^ 31 by omega), hr2]
  refine ⟨fun hne => ?_, fun heq r hr hx => ?_⟩
  · refine bd hp1 (bd hp2 ?_)
    rw [if_pos (inb_nI (show 254 * (p + 1) + i < 1778 by omega) (by decide)), nI_add (Rp W wd wb we (2 * p) (i + a + b)), nI_add]
    exact iN (nI_neq (by omega) (by omega) hne) rfl
  · refine bd hp1 (bd hp2 ?_)
    rw [if_pos (inb_nI (show 254 * (p + 1) + i < 1778 by omega) (by decide)), nI_add (Rp W wd wb we (2 * p) (i + a + b)), nI_add, show Rp W wd wb we (2 * p) (i + a + b) + pc wd wb we i a + pc wd wb we (i + a) b = Rp W wd wb we (2 * (p + 1)) i from heq, if_pos rfl, hx, if_pos (inb_nI (show r < 12 by omega) (by decide)), nI_1, if_pos (inb_nI (show r + 1 < 12 by omega) (by decide)), cl_nI (show r < 2 ^ 31 by omega), cl_nI (show r + 1 < 2 ^ 31 by omega)]
theorem l276_no (hw : Wr u W wb we) (hm : Wm W wb we) (hW2 : W ≤ 240) (hwd : wd ≤ 100) (hfit : ∀ k, k < W → we k - wb k ≤ wd) (fu : Nat) {p i a : Nat} (hp : p < 6) (hL : Lv u W wd wb we (p + 2)) (hi : i < W) (ha : i + a ≤ sp W wd wb we i) (K0 : St → Int32 → Int32 → Int32 → Option (Int32 × St)) (K : St → Int32 → Int32 → Int32 → Int32 → Int32 → Int32 → Option (Int32 × St)) (x6 : Int32) :
    ∀ d q : Nat, d < q → (∀ b, b < d → i + a + b ≤ sp W wd wb we (i + a) ∧ ¬ eqv W wd wb we p i a b) → f_X10_lay_L276 K0 K fu q u (nI wd) (nI i) (nI (p + 1)) x6 0 (nI a) (nI d + (-1)) = K u (nI wd) (nI i) (nI (p + 1)) x6 0 (nI a + (-1)) := by
  intro d
  induction d with
  | zero =>
    intro q hq hb
    obtain ⟨q, rfl⟩ : ∃ q', q = q' + 1 := ⟨q - 1, by omega⟩
    rw [f_X10_lay_L276]
    exact ip m1_neg rfl
  | succ d ih =>
    intro q hq hb
    obtain ⟨q, rfl⟩ : ∃ q', q = q' + 1 := ⟨q - 1, by omega⟩
    rw [m1_nI, (l276 hw hm hW2 hwd hfit fu hp hL hi ha K0 K x6 q d (hb d (by omega)).1).1 (hb d (by omega)).2]
    exact ih q (by omega) (fun b hb2 => hb b (by omega))
theorem l276_yes (hw : Wr u W wb we) (hm : Wm W wb we) (hW2 : W ≤ 240) (hwd : wd ≤ 100) (hfit : ∀ k, k < W → we k - wb k ≤ wd) (fu : Nat) {p i a : Nat} (hp : p < 6) (hL : Lv u W wd wb we (p + 2)) (hi : i < W) (ha : i + a ≤ sp W wd wb we i) (K0 : St → Int32 → Int32 → Int32 → Option (Int32 × St)) (K : St → Int32 → Int32 → Int32 → Int32 → Int32 → Int32 → Option (Int32 × St)) {r b0 : Nat} (hr : r + 1 < 12) (hb0 : i + a + b0 ≤ sp W wd wb we (i + a)) (he : eqv W wd wb we p i a b0) :
    ∀ d q : Nat, d + b0 + 2 < q → (∀ b, b0 < b → b ≤ b0 + d → i + a + b ≤ sp W wd wb we (i + a) ∧ ¬ eqv W wd wb we p i a b) → f_X10_lay_L276 K0 K fu q u (nI wd) (nI i) (nI (p + 1)) (nI r) 0 (nI a) (nI (b0 + d)) = K (sA (sA u 31 r (nI a)) 31 (r + 1) (nI b0)) (nI wd) (nI i) (nI (p + 1)) (nI r) 1 (nI a + (-1)) := by
  intro d
  induction d with
  | zero =>
    intro q hq hb
    obtain ⟨q, rfl⟩ : ∃ q', q = q' + 2 := ⟨q - 2, by omega⟩
    rw [show b0 + 0 = b0 from rfl, (l276 hw hm hW2 hwd hfit fu hp hL hi ha K0 K (nI r) (q + 1) b0 hb0).2 he r hr rfl]
    rw [f_X10_lay_L276]
    by_cases c : (nI b0 + (-1) : Int32) < 0
    · rw [if_pos c]
    · rw [if_neg c, if_neg (by decide)]
  | succ d ih =>
    intro q hq hb
    obtain ⟨q, rfl⟩ : ∃ q', q = q' + 1 := ⟨q - 1, by omega⟩
    have h1 := hb (b0 + (d + 1)) (by omega) (Nat.le_refl _)
    rw [(l276 hw hm hW2 hwd hfit fu hp hL hi ha K0 K (nI r) q (b0 + (d + 1)) h1.1).1 h1.2, show b0 + (d + 1) = b0 + d + 1 by omega, m1_nI]
    exact ih q (by omega) (fun b hb1 hb2 => hb b hb1 (by omega))
theorem l238 (hw : Wr u W wb we) (hm : Wm W wb we) (hW2 : W ≤ 240) (hwd : wd ≤ 100) (hn : ∀ k, k < W → we k < 2 ^ 20) (hfit : ∀ k, k < W → we k - wb k ≤ wd) {fu : Nat} (hfu : 2000 ≤ fu) {p i : Nat} (hp : p < 6) (hL : Lv u W wd wb we (p + 2)) (hi : i < W) (K0 : St → Int32 → Int32 → Int32 → Option (Int32 × St)) {r a0 b0 : Nat} (hr : r + 1 < 12) (h0 : 0 < a0) (ha0 : i + a0 ≤ sp W wd wb we i) (hb0 : i + a0 + b0 ≤ sp W wd wb we (i + a0)) (he : eqv W wd wb we p i a0 b0) (hbs : ∀ b, b0 < b → i + a0 + b ≤ sp W wd wb we (i + a0) → ¬ eqv W wd wb we p i a0 b) :
    ∀ d q : Nat, d + 2 < q → i + (a0 + d) ≤ sp W wd wb we i → (∀ a b, a0 < a → a ≤ a0 + d → i + a + b ≤ sp W wd wb we (i + a) → ¬ eqv W wd wb we p i a b) → f_X10_lay_L238 K0 fu q u (nI wd) (nI i) (nI (p + 1)) (nI r) 0 (nI (a0 + d)) = K0 (sA (sA u 31 r (nI a0)) 31 (r + 1) (nI b0)) (nI wd) (nI (i + (a0 + b0))) (nI p) := by
  have hsW := sp_le (W := W) (wd := wd) (wb := wb) (we := we) (show i ≤ W by omega)
  -- what is looked at for one a
  have look : ∀ (K : St → Int32 → Int32 → Int32 → Int32 → Int32 → Int32 → Option (Int32 × St)) (a : Nat), i + a ≤ sp W wd wb we i → (if (u.1 29) ≤ (nI i + nI a) then (f_X10_lay_L276 K0 K fu fu u (nI wd) (nI i) (nI (p + 1)) (nI r) 0 (nI a) 0) else ((f_X10_fits fu u (nI i + nI a) (nI wd)).bind (fun q_267 => f_X10_lay_L276 K0 K fu fu u (nI wd) (nI i) (nI (p + 1)) (nI r) 0 (nI a) q_267))) = f_X10_lay_L276 K0 K fu fu u (nI wd) (nI i) (nI (p + 1)) (nI r) 0 (nI a) (nI (sp W wd wb we (i + a) - (i + a))) := by
    intro K a ha
    rw [hw.1, nI_add]
    have hsg := sp_ge (W := W) (wd := wd) (wb := wb) (we := we) (i + a)
    have hsW2 := sp_le (W := W) (wd := wd) (wb := wb) (we := we) (show i + a ≤ W by omega)
    by_cases c : W ≤ i + a
    · rw [if_pos (show nI W ≤ nI (i + a) from nI_le c (by omega)), show sp W wd wb we (i + a) - (i + a) = 0 by omega]
      rfl
    · rw [if_neg (show ¬ nI W ≤ nI (i + a) from nI_ge (by omega) (by omega))]
      have hf := fits_e hw hm (by omega) (show wd < 2 ^ 20 by omega) hn hfu (show i + a ≤ W by omega)
      rw [ft_fit hfit] at hf
      exact bd hf rfl
  intro d
  induction d with
  | zero =>
    intro q hq hia hno
    obtain ⟨q, rfl⟩ : ∃ q', q = q' + 2 := ⟨q - 2, by omega⟩
    have hsW2 := sp_le (W := W) (wd := wd) (wb := wb) (we := we) (show i + a0 ≤ W by omega)
    rw [show a0 + 0 = a0 from rfl, f_X10_lay_L238, if_neg (nI_nle h0 (by omega)), if_pos rfl, look _ a0 ha0, show sp W wd wb we (i + a0) - (i + a0) = b0 + (sp W wd wb we (i + a0) - (i + a0) - b0) by omega, l276_yes hw hm hW2 hwd hfit fu hp hL hi ha0 K0 _ hr hb0 he _ fu (by omega) (fun b h1 h2 => ⟨by omega, hbs b h1 (by omega)⟩)]
    have h388 : f_X10_lay_L388 K0 fu (sA (sA u 31 r (nI a0)) 31 (r + 1) (nI b0)) (nI wd) (nI i) (nI (p + 1)) (nI r) = K0 (sA (sA u 31 r (nI a0)) 31 (r + 1) (nI b0)) (nI wd) (nI (i + (a0 + b0))) (nI p) := by
      unfold f_X10_lay_L388
      rw [if_pos (inb_nI (show r < 12 by omega) (by decide)), nI_1, if_pos (inb_nI (show r + 1 < 12 by omega) (by decide)), cl_nI (show r < 2 ^ 31 by omega), cl_nI (show r + 1 < 2 ^ 31 by omega), m1_nI]
      rw [sA_2i, if_pos rfl, if_neg (by omega), sA_2i, if_pos rfl, if_pos rfl, sA_2i, if_pos rfl, if_pos rfl, nI_add, nI_add]
    rw [f_X10_lay_L238]
    by_cases c : (nI a0 + (-1) : Int32) ≤ 0
    · rw [if_pos c]; exact h388
    · rw [if_neg c, if_neg (show ¬ (1 : Int32) = 0 by decide)]; exact h388
  | succ d ih =>
    intro q hq hia hno
    obtain ⟨q, rfl⟩ : ∃ q', q = q' + 1 := ⟨q - 1, by omega⟩
    have hsg := sp_ge (W := W) (wd := wd) (wb := wb) (we := we) (i + (a0 + (d + 1)))
    have hsW2 := sp_le (W := W) (wd := wd) (wb := wb) (we := we) (show i + (a0 + (d + 1)) ≤ W by omega)
    rw [f_X10_lay_L238, if_neg (nI_nle (show 0 < a0 + (d + 1) by omega) (by omega)), if_pos rfl, look _ _ hia, ← m1_nI (sp W wd wb we (i + (a0 + (d + 1))) - (i + (a0 + (d + 1)))), l276_no hw hm hW2 hwd hfit fu hp hL hi hia K0 _ (nI r) _ fu (by omega) (fun b hb => ⟨by omega, hno _ b (by omega) (Nat.le_refl _) (by omega)⟩), show a0 + (d + 1) = a0 + d + 1 by omega, m1_nI]
    exact ih q (by omega) (by omega) (fun a b h1 h2 => hno a b h1 (by omega))
theorem l210 (hm : Wm W wb we) (hW2 : W ≤ 240) (hwd : wd ≤ 100) (hn : ∀ k, k < W → we k < 2 ^ 20) (hfit : ∀ k, k < W → we k - wb k ≤ wd) {fu : Nat} (hfu : 2000 ≤ fu) {P : Nat} (hP : P ≤ 6) (hway : Rp W wd wb we (2 * P) 0 < NOW) :
    ∀ (m q k : Nat) (u : St), k + m = P → m < q → Wr u W wb we → u.1 32 = nI P → Lv u W wd wb we (P + 1) → (∀ a, a < 2 * k → u.2 31 a = nI (pw W wd wb we (2 * P) (a + 1) - pw W wd wb we (2 * P) a)) →
      ∃ u' : St, f_X10_lay_L210 fu q u (nI wd) (nI (pw W wd wb we (2 * P) (2 * k))) (nI m) = some (1, u') ∧ (∀ a, a < 2 * P → u'.2 31 a = nI (pw W wd wb we (2 * P) (a + 1) - pw W wd wb we (2 * P) a)) ∧ u'.1 = u.1 ∧ ∀ x, x ≠ 31 → u'.2 x = u.2 x := by
  intro m
  induction m with
  | zero =>
    intro q k u hk hq hw h32 hL h31
    obtain ⟨q, rfl⟩ : ∃ q', q = q' + 1 := ⟨q - 1, by omega⟩
    refine ⟨u, ?_, fun a ha => h31 a (by omega), rfl, fun x _ => rfl⟩
    rw [f_X10_lay_L210]
    exact ip (show nI 0 ≤ 0 by decide) rfl
  | succ p ih =>
    intro q k u hk hq hw h32 hL h31
    obtain ⟨q, rfl⟩ : ∃ q', q = q' + 1 := ⟨q - 1, by omega⟩
    obtain ⟨i, hi⟩ : ∃ i, i = pw W wd wb we (2 * P) (2 * k) := ⟨_, rfl⟩
    obtain ⟨j, hj⟩ : ∃ j, j = pw W wd wb we (2 * P) (2 * k + 1) := ⟨_, rfl⟩
    obtain ⟨j2, hj2⟩ : ∃ j2, j2 = pw W wd wb we (2 * P) (2 * k + 1 + 1) := ⟨_, rfl⟩
    have ej : j = nxt W wd wb we (2 * (p + 1)) i := by
      rw [hj, hi]
      show nxt W wd wb we (2 * P - 2 * k) _ = _
      rw [show 2 * P - 2 * k = 2 * (p + 1) by omega]
    have ej2 : j2 = nxt W wd wb we (2 * p + 1) j := by
      rw [hj2, hj]
      show nxt W wd wb we (2 * P - (2 * k + 1)) _ = _
      rw [show 2 * P - (2 * k + 1) = 2 * p + 1 by omega]
    have f1 := pw_fin hway (2 * k) (by omega)
    have f2 := pw_fin hway (2 * k + 1) (by omega)
    rw [← hi, show 2 * P - 2 * k = 2 * p + 1 + 1 by omega] at f1
    rw [← hj, show 2 * P - (2 * k + 1) = 2 * p + 1 by omega] at f2
    have hiW : i ≤ W := by rw [hi]; exact Nat.le_trans (pw_le hm _) (ma_le _)
    have n1 := nxt_le (W := W) (wd := wd) (wb := wb) (we := we) (2 * (p + 1)) i
    rw [← ej] at n1
    have n2 := nxt_le (W := W) (wd := wd) (wb := wb) (we := we) (2 * p + 1) j
    rw [← ej2] at n2
    have hspW := sp_le (W := W) (wd := wd) (wb := wb) (we := we) hiW
    have v1 := nxt_val f1
    rw [show 2 * p + 1 + 1 = 2 * (p + 1) by omega, ← ej] at v1
    have v2 := nxt_val f2
    rw [← ej2] at v2
    have hij := v1.2 (by omega)
    have hiW2 : i < W := by
      rcases Nat.lt_or_ge i W with q1 | q1
      · exact q1
      · have : sp W wd wb we i = i := by unfold sp; rw [if_neg (by omega)]
        omega
    have e1 : i + (j - i) = j := by omega
    have hpc1 : pc wd wb we i (j - i) = cst wd wb we i j := by unfold pc; rw [if_neg (by omega), e1]
    have he : eqv W wd wb we p i (j - i) (j2 - j) := by
      unfold eqv
      rw [e1, show j + (j2 - j) = j2 by omega]
      omega
    have hbs : ∀ b, j2 - j < b → i + (j - i) + b ≤ sp W wd wb we (i + (j - i)) → ¬ eqv W wd wb we p i (j - i) b := by
      intro b hb1 hb2 hh
      rw [e1] at hb2
      unfold eqv at hh
      rw [e1, v1.1] at hh
      have hpb : pc wd wb we j b = cst wd wb we j (j + b) := by unfold pc; rw [if_neg (by omega)]
      rw [hpb] at hh
      exact nxt_above (s := 2 * p) (i := j) (j := j + b) (by rw [← ej2]; omega) hb2 (by omega)
    have hno : ∀ a b, j - i < a → a ≤ j - i + (sp W wd wb we i - j) → i + a + b ≤ sp W wd wb we (i + a) → ¬ eqv W wd wb we p i a b := by
      intro a b ha1 ha2 hb hh
      unfold eqv at hh
      have hna := nxt_above (W := W) (wd := wd) (wb := wb) (we := we) (s := 2 * p + 1) (i := i) (j := i + a) (by rw [show 2 * p + 1 + 1 = 2 * (p + 1) by omega, ← ej]; omega) (by omega)
      have hop : Rp W wd wb we (2 * p + 1 + 1) i ≤ cst wd wb we i (i + a) + Rp W wd wb we (2 * p + 1) (i + a) := Rp_opt (by omega) (by omega)
      have hpa : pc wd wb we i a = cst wd wb we i (i + a) := by unfold pc; rw [if_neg (by omega)]
      rw [hpa] at hh
      rw [show 2 * p + 1 + 1 = 2 * (p + 1) by omega] at hna hop
      have hlow : Rp W wd wb we (2 * p + 1) (i + a) ≤ pc wd wb we (i + a) b + Rp W wd wb we (2 * p) (i + a + b) := by
        by_cases c0 : b = 0
        · subst c0
          have := Rp_skip (W := W) (wd := wd) (wb := wb) (we := we) (s := 2 * p) (i := i + a) (by omega)
          show _ ≤ 0 + Rp W wd wb we (2 * p) (i + a)
          omega
        · have hpb : pc wd wb we (i + a) b = cst wd wb we (i + a) (i + a + b) := by unfold pc; rw [if_neg c0]
          rw [hpb]
          exact Rp_opt (by omega) hb
      omega
    have hrow : (2 * (u.1 32 - nI (p + 1)) : Int32) = nI (2 * k) := by
      rw [h32, pk_sub (show p + 1 ≤ P by omega), show P - (p + 1) = k by omega]
      exact pk_mul 2 k
    have hf := fits_e hw hm (by omega) (show wd < 2 ^ 20 by omega) hn hfu hiW
    rw [ft_fit hfit] at hf
    have hrun := l238 hw hm hW2 hwd hn hfit hfu (show p < 6 by omega) (fun g hg => hL g (by omega)) hiW2 (f_X10_lay_L210 fu q) (r := 2 * k) (by omega) (show 0 < j - i by omega) (by omega) (by rw [e1]; omega) he hbs (sp W wd wb we i - j) fu (by omega) (by omega) hno
    obtain ⟨u', g1, g2, g3, g4⟩ := ih q (k + 1) (sA (sA u 31 (2 * k) (nI (j - i))) 31 (2 * k + 1) (nI (j2 - j))) (by omega) (by omega) ⟨hw.1, fun j hj => by simpa [sA_2i] using hw.2 j hj⟩ h32 (fun g hg x hx => by simpa [sA_2i] using hL g hg x hx) (by
      intro a ha
      rw [sA_2i, if_pos rfl]
      by_cases c1 : a = 2 * k + 1
      · rw [if_pos c1, c1, ← hj2, ← hj]
      · rw [if_neg c1, sA_2i, if_pos rfl]
        by_cases c2 : a = 2 * k
        · rw [if_pos c2, c2, ← hj, ← hi]
        · rw [if_neg c2]; exact h31 a (by omega))
    refine ⟨u', ?_, g2, g3, fun x hx => by rw [g4 x hx, sA_2, if_neg hx, sA_2, if_neg hx]⟩
    rw [f_X10_lay_L210, if_neg (nI_nle (show 0 < p + 1 by omega) (by omega)), ← hi]
    refine bd hf ?_
    rw [hrow, show sp W wd wb we i - i = j - i + (sp W wd wb we i - j) by omega, hrun, show i + (j - i + (j2 - j)) = j2 by omega]
    rw [show 2 * (k + 1) = 2 * k + 1 + 1 by omega, ← hj2] at g1
    exact g1
end RW
