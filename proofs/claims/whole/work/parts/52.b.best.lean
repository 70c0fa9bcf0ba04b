/-! the reference's fits, paid, best -/
section RB
variable {W wd : Nat} {wb we : Nat → Nat} {M : St}
theorem rowLength_e (hW : Wr M W wb we) (hm : Wm W wb we) (hW7 : W ≤ 755) (fu : Nat) {i k : Nat} (hk : 0 < k) (hi : i + k ≤ W) : f_X10_rowLength fu M (nI i) (nI k) = some (nI (we (i + k - 1) - wb i)) := by
  unfold f_X10_rowLength
  have h1 := hm.wb_le (show i ≤ i + k - 1 by omega) (by omega)
  have h2 := hm.1 (i + k - 1) (by omega)
  rw [nI_add, show (nI (i + k) - 1 : Int32) = nI (i + k - 1) from pk_sub (show 1 ≤ i + k by omega), if_pos (inb_nI (show i + k - 1 < 760 by omega) (by decide)), if_pos (inb_nI (show i < 760 by omega) (by decide)), cl_nI (show i + k - 1 < 2 ^ 31 by omega), cl_nI (show i < 2 ^ 31 by omega), (hW.2 _ (show i + k - 1 < W by omega)).2, (hW.2 i (by omega)).1, pk_sub (by omega)]
/-- how many words fit in a row from word i on -/
def ft (W wd : Nat) (wb we : Nat → Nat) (i : Nat) : Nat := if i < W ∧ wd < we i - wb i then 0 else sp W wd wb we i - i
theorem fitsL2 (hW : Wr M W wb we) (hm : Wm W wb we) (hW7 : W ≤ 755) (hwd : wd < 2 ^ 20) (hn : ∀ k, k < W → we k < 2 ^ 20) (fu : Nat) {i : Nat} (hi : i < W) (hfi : we i - wb i ≤ wd) : ∀ (m q k : Nat), i + k + m = sp W wd wb we i → 0 < k → m < q → f_X10_fits_L2 fu M q (nI i) (nI wd) (nI k) = some (nI (sp W wd wb we i - i)) := by
  have hsW := sp_le (W := W) (wd := wd) (wb := wb) (we := we) (show i ≤ W by omega)
  have hsi := sp_gt (W := W) (wd := wd) (wb := wb) (we := we) hi
  intro m
  induction m with
  | zero =>
    intro q k hk hk0 hq
    obtain ⟨q, rfl⟩ : ∃ q', q = q' + 1 := ⟨q - 1, by omega⟩
    rw [f_X10_fits_L2, hW.1, nI_add]
    by_cases c : W ≤ i + k
    · rw [if_pos (nI_le c (by omega)), show sp W wd wb we i - i = k by omega]
    · rw [if_neg (show ¬ nI W ≤ nI (i + k) from nI_ge (by omega) (by omega)), nI_1]
      refine bd (rowLength_e hW hm hW7 fu (show 0 < k + 1 by omega) (by omega)) ?_
      have h1 := sp_out (wd := wd) (wb := wb) (we := we) hi (by omega)
      have h2 := hn (i + k) (by omega)
      rw [show sp W wd wb we i = i + k by omega] at h1
      rw [show i + (k + 1) - 1 = i + k by omega, if_pos (nI_lt h1 (by omega)), show sp W wd wb we i - i = k by omega]
  | succ m ih =>
    intro q k hk hk0 hq
    obtain ⟨q, rfl⟩ : ∃ q', q = q' + 1 := ⟨q - 1, by omega⟩
    have h1 : we (i + k) - wb i ≤ wd := by
      have e1 : sp W wd wb we i = spx W wd wb we i := by unfold sp; rw [if_pos hi]
      have hk2 : i + k < spx W wd wb we i := by rw [← e1]; omega
      exact (spx_in (i + k) (by omega) hk2).2
    rw [f_X10_fits_L2, hW.1, nI_add, if_neg (show ¬ nI W ≤ nI (i + k) from nI_ge (by omega) (by omega)), nI_1]
    refine bd (rowLength_e hW hm hW7 fu (show 0 < k + 1 by omega) (by omega)) ?_
    rw [show i + (k + 1) - 1 = i + k by omega, if_neg (show ¬ nI wd < nI (we (i + k) - wb i) from nI_nlt h1 (by omega))]
    exact ih q (k + 1) (by omega) (by omega) (by omega)
theorem fits_e (hW : Wr M W wb we) (hm : Wm W wb we) (hW7 : W ≤ 755) (hwd : wd < 2 ^ 20) (hn : ∀ k, k < W → we k < 2 ^ 20) {fu : Nat} (hfu : 2000 ≤ fu) {i : Nat} (hi : i ≤ W) : f_X10_fits fu M (nI i) (nI wd) = some (nI (ft W wd wb we i)) := by
  unfold f_X10_fits ft
  obtain ⟨q, rfl⟩ : ∃ q', fu = q' + 1 := ⟨fu - 1, by omega⟩
  by_cases c : i < W
  · rw [f_X10_fits_L2, hW.1, show (nI i + 0 : Int32) = nI i from nI_add i 0, if_neg (show ¬ nI W ≤ nI i from nI_ge (by omega) (by omega))]
    refine bd (show f_X10_rowLength (q + 1) M (nI i) (0 + 1) = _ from rowLength_e (k := 1) hW hm hW7 (q + 1) (by omega) (by omega)) ?_
    have h2 := hn i c
    rw [show i + 1 - 1 = i by omega]
    by_cases g : we i - wb i ≤ wd
    · rw [if_neg (show ¬ nI wd < nI (we i - wb i) from nI_nlt g (by omega)), if_neg (by omega)]
      have hsW := sp_le (W := W) (wd := wd) (wb := wb) (we := we) hi
      have hsi := sp_gt (W := W) (wd := wd) (wb := wb) (we := we) c
      exact fitsL2 hW hm hW7 hwd hn (q + 1) c g (sp W wd wb we i - i - 1) q 1 (by omega) (by omega) (by omega)
    · rw [if_pos (show nI wd < nI (we i - wb i) from nI_lt (by omega) (by omega)), if_pos (by omega)]
      rfl
  · rw [f_X10_fits_L2, hW.1, show (nI i + 0 : Int32) = nI i from nI_add i 0, if_pos (show nI W ≤ nI i from nI_le (by omega) (by omega)), if_neg (by omega)]
    unfold sp
    rw [if_neg c, Nat.sub_self]
    rfl
theorem ft_fit (hfit : ∀ k, k < W → we k - wb k ≤ wd) (i : Nat) : ft W wd wb we i = sp W wd wb we i - i := by
  unfold ft
  rw [if_neg]
  rintro ⟨h1, h2⟩
  have := hfit i h1
  omega
/-- what a row of c words from i on costs -/
def pc (wd : Nat) (wb we : Nat → Nat) (i c : Nat) : Nat := if c = 0 then 0 else cst wd wb we i (i + c)
theorem pc_le (hwd : wd ≤ 100) (i c : Nat) : pc wd wb we i c ≤ 10000 := by
  unfold pc
  split
  · omega
  · exact cst_lt hwd _ _
theorem paid_e (hW : Wr M W wb we) (hm : Wm W wb we) (hW7 : W ≤ 755) (hwd : wd ≤ 100) (hfit : ∀ k, k < W → we k - wb k ≤ wd) (fu : Nat) {i c : Nat} (hi : i ≤ W) (hc : i + c ≤ sp W wd wb we i) : f_X10_paid fu M (nI i) (nI c) (nI wd) = some (nI (pc wd wb we i c)) := by
  unfold f_X10_paid pc
  have hsW := sp_le (W := W) (wd := wd) (wb := wb) (we := we) hi
  by_cases e : c = 0
  · rw [e, if_pos (show nI 0 = 0 from rfl), if_pos rfl]; rfl
  · have hiW : i < W := by
      rcases Nat.lt_or_ge i W with q | q
      · exact q
      · have : sp W wd wb we i = i := by unfold sp; rw [if_neg (by omega)]
        omega
    have h1 := (sp_in hfit hiW (i + c - 1) (by omega) (by omega)).2
    rw [if_neg (show ¬ nI c = 0 from nI_neq (b := 0) (by omega) (by decide) e), if_neg e]
    refine bd (rowLength_e hW hm hW7 fu (by omega) (by omega)) ?_
    rw [pk_sub h1]
    unfold cst
    exact congrArg some (pk_mul _ _)
/-- the value of a page that begins with word i and has rows of a and c words -/
def vl (wd : Nat) (wb we : Nat → Nat) (R : Nat → Nat) (i a c : Nat) : Nat := if R (i + a + c) < NOW then R (i + a + c) + pc wd wb we i a + pc wd wb we (i + a) c else NOW
theorem bL62 (hW : Wr M W wb we) (hm : Wm W wb we) (hW2 : W ≤ 240) (hwd : wd ≤ 100) (hfit : ∀ k, k < W → we k - wb k ≤ wd) (K : Int32 → Int32 → Int32 → Int32 → Int32 → Int32 → Option Int32) (fu : Nat) {p i a : Nat} (R : Nat → Nat) (hp : p < 6) (hR : ∀ x, x ≤ W → M.2 30 (254 * p + x) = nI (R x) ∧ R x ≤ NOW) (hi : i < W) (ha0 : 0 < a) (ha : i + a ≤ sp W wd wb we i) (x5 : Int32) :
    ∀ (m q c b : Nat), c + m = sp W wd wb we (i + a) - (i + a) + 1 → m < q → b ≤ NOW →
      ∃ b' : Nat, f_X10_best_L62 K fu M q (nI (p + 1)) (nI i) (nI wd) (nI b) x5 (nI a) (nI (sp W wd wb we (i + a) - (i + a))) (nI c) = K (nI (p + 1)) (nI i) (nI wd) (nI b') x5 (nI a + 1) ∧ b' ≤ b ∧ (∀ d, c ≤ d → i + a + d ≤ sp W wd wb we (i + a) → b' ≤ vl wd wb we R i a d) ∧ (b' = b ∨ ∃ d, i + a + d ≤ sp W wd wb we (i + a) ∧ b' = vl wd wb we R i a d) := by
  have hsW := sp_le (W := W) (wd := wd) (wb := wb) (we := we) (show i ≤ W by omega)
  have hsW2 := sp_le (W := W) (wd := wd) (wb := wb) (we := we) (show i + a ≤ W by omega)
  have hsg := sp_ge (W := W) (wd := wd) (wb := wb) (we := we) (i + a)
  have hN : NOW = 1000000 := rfl
  intro m
  induction m with
  | zero =>
    intro q c b hc hq hb
    obtain ⟨q, rfl⟩ : ∃ q', q = q' + 1 := ⟨q - 1, by omega⟩
    refine ⟨b, ?_, Nat.le_refl _, fun d h1 h2 => by omega, Or.inl rfl⟩
    rw [f_X10_best_L62]
    exact ip (nI_lt (by omega) (by omega)) rfl
  | succ m ih =>
    intro q c b hc hq hb
    obtain ⟨q, rfl⟩ : ∃ q', q = q' + 1 := ⟨q - 1, by omega⟩
    have hidx : (((((254 * nI (p + 1)) - 254) + nI i) + nI a) + nI c : Int32) = nI (254 * p + (i + a + c)) := by
      rw [show (254 * nI (p + 1) : Int32) = nI (254 * (p + 1)) from pk_mul 254 (p + 1), show (nI (254 * (p + 1)) - 254 : Int32) = nI (254 * (p + 1) - 254) from pk_sub (show 254 ≤ 254 * (p + 1) by omega), nI_add, nI_add, nI_add]
      congr 1
      omega
    have hr := hR (i + a + c) (by omega)
    have hval : vl wd wb we R i a c ≤ NOW + 20000 := by
      unfold vl
      have g1 := pc_le (wb := wb) (we := we) hwd i a
      have g2 := pc_le (wb := wb) (we := we) hwd (i + a) c
      split <;> omega
    have step : ∃ b' : Nat, f_X10_best_L128 K (f_X10_best_L62 K fu M q) fu M (nI (p + 1)) (nI i) (nI wd) (nI b) x5 (nI a) (nI (sp W wd wb we (i + a) - (i + a))) (nI c) (nI (vl wd wb we R i a c)) = K (nI (p + 1)) (nI i) (nI wd) (nI b') x5 (nI a + 1) ∧ b' ≤ b ∧ (∀ d, c ≤ d → i + a + d ≤ sp W wd wb we (i + a) → b' ≤ vl wd wb we R i a d) ∧ (b' = b ∨ ∃ d, i + a + d ≤ sp W wd wb we (i + a) ∧ b' = vl wd wb we R i a d) := by
      unfold f_X10_best_L128
      rw [nI_1]
      by_cases g : b ≤ vl wd wb we R i a c
      · rw [if_pos (nI_le g (by omega))]
        obtain ⟨b', e1, e2, e3, e4⟩ := ih q (c + 1) b (by omega) (by omega) hb
        refine ⟨b', e1, e2, fun d h1 h2 => ?_, e4⟩
        by_cases e : d = c
        · rw [e]; omega
        · exact e3 d (by omega) h2
      · rw [if_neg (show ¬ nI b ≤ nI (vl wd wb we R i a c) from nI_ge (by omega) (by omega))]
        obtain ⟨b', e1, e2, e3, e4⟩ := ih q (c + 1) (vl wd wb we R i a c) (by omega) (by omega) (by omega)
        refine ⟨b', e1, by omega, fun d h1 h2 => ?_, ?_⟩
        · by_cases e : d = c
          · rw [e]; exact e2
          · exact e3 d (by omega) h2
        · rcases e4 with e4 | e4
          · exact Or.inr ⟨c, by omega, e4⟩
          · exact Or.inr e4
    obtain ⟨b', e1, e2⟩ := step
    refine ⟨b', ?_, e2⟩
    rw [f_X10_best_L62, if_neg (show ¬ nI (sp W wd wb we (i + a) - (i + a)) < nI c from nI_nlt (by omega) (by omega)), hidx, if_pos (inb_nI (show 254 * p + (i + a + c) < 1778 by omega) (by decide)), cl_nI (show 254 * p + (i + a + c) < 2 ^ 31 by omega), hr.1]
    unfold vl at e1
    by_cases g : R (i + a + c) < NOW
    · rw [if_pos g] at e1
      rw [if_pos (show nI (R (i + a + c)) < 1000000 from nI_lt (b := 1000000) (by omega) (by decide))]
      refine bd (paid_e hW hm (by omega) hwd hfit fu (by omega) ha) ?_
      refine bd (show f_X10_paid fu M (nI i + nI a) (nI c) (nI wd) = _ by rw [nI_add]; exact paid_e hW hm (by omega) hwd hfit fu (by omega) (by omega)) ?_
      rw [nI_add (R (i + a + c)), nI_add]
      exact e1
    · rw [if_neg g] at e1
      rw [if_neg (show ¬ nI (R (i + a + c)) < 1000000 from nI_nlt (b := 1000000) (by omega) (by omega))]
      exact e1
theorem bL26 (hW : Wr M W wb we) (hm : Wm W wb we) (hW2 : W ≤ 240) (hwd : wd ≤ 100) (hn : ∀ k, k < W → we k < 2 ^ 20) (hfit : ∀ k, k < W → we k - wb k ≤ wd) {fu : Nat} (hfu : 2000 ≤ fu) {p i : Nat} (R : Nat → Nat) (hp : p < 6) (hR : ∀ x, x ≤ W → M.2 30 (254 * p + x) = nI (R x) ∧ R x ≤ NOW) (hi : i < W) :
    ∀ (m q a b : Nat), a + m = sp W wd wb we i - i + 1 → m < q → 0 < a → b ≤ NOW →
      ∃ b' : Nat, f_X10_best_L26 fu M q (nI (p + 1)) (nI i) (nI wd) (nI b) (nI (sp W wd wb we i - i)) (nI a) = some (nI b') ∧ b' ≤ b ∧ (∀ d c, a ≤ d → i + d ≤ sp W wd wb we i → i + d + c ≤ sp W wd wb we (i + d) → b' ≤ vl wd wb we R i d c) ∧ (b' = b ∨ ∃ d c, 0 < d ∧ i + d ≤ sp W wd wb we i ∧ i + d + c ≤ sp W wd wb we (i + d) ∧ b' = vl wd wb we R i d c) := by
  have hsW := sp_le (W := W) (wd := wd) (wb := wb) (we := we) (show i ≤ W by omega)
  have hsg := sp_gt (W := W) (wd := wd) (wb := wb) (we := we) hi
  intro m
  induction m with
  | zero =>
    intro q a b ha hq ha0 hb
    obtain ⟨q, rfl⟩ : ∃ q', q = q' + 1 := ⟨q - 1, by omega⟩
    refine ⟨b, ?_, Nat.le_refl _, fun d c h1 h2 => by omega, Or.inl rfl⟩
    rw [f_X10_best_L26]
    exact ip (nI_lt (by omega) (by omega)) rfl
  | succ m ih =>
    intro q a b ha hq ha0 hb
    obtain ⟨q, rfl⟩ : ∃ q', q = q' + 1 := ⟨q - 1, by omega⟩
    have hsW2 := sp_le (W := W) (wd := wd) (wb := wb) (we := we) (show i + a ≤ W by omega)
    have hsg2 := sp_ge (W := W) (wd := wd) (wb := wb) (we := we) (i + a)
    have hax : a ≤ sp W wd wb we i - i ∧ a < 2 ^ 31 := by omega
    obtain ⟨b1, e1, e2, e3, e4⟩ := bL62 hW hm hW2 hwd hfit (f_X10_best_L26 fu M q) fu R hp hR hi ha0 (by omega) (nI (sp W wd wb we i - i)) (sp W wd wb we (i + a) - (i + a) + 1) fu 0 b (by omega) (by omega) hb
    obtain ⟨b2, g1, g2, g3, g4⟩ := ih q (a + 1) b1 (by omega) (by omega) (by omega) (by omega)
    refine ⟨b2, ?_, by omega, fun d c h1 h2 h3 => ?_, ?_⟩
    · rw [f_X10_best_L26, if_neg (show ¬ nI (sp W wd wb we i - i) < nI a from nI_nlt hax.1 (by clear e4 g4; omega)), hW.1, nI_add]
      rw [nI_1] at e1
      by_cases c : W ≤ i + a
      · rw [if_pos (show nI W ≤ nI (i + a) from nI_le c (by omega))]
        have : sp W wd wb we (i + a) - (i + a) = 0 := by omega
        rw [this] at e1
        exact e1.trans g1
      · rw [if_neg (show ¬ nI W ≤ nI (i + a) from nI_ge (by omega) (by omega))]
        have hf := fits_e hW hm (by omega) (show wd < 2 ^ 20 by omega) hn hfu (show i + a ≤ W by omega)
        rw [ft_fit hfit] at hf
        exact bd hf (e1.trans g1)
    · by_cases e : d = a
      · subst e; have := e3 c (Nat.zero_le _) h3; omega
      · exact g3 d c (by omega) h2 h3
    · rcases g4 with g4 | g4
      · rcases e4 with e4 | ⟨d, f1, f2⟩
        · exact Or.inl (by omega)
        · exact Or.inr ⟨a, d, ha0, by omega, f1, by omega⟩
      · exact Or.inr g4
theorem best_e (hW : Wr M W wb we) (hm : Wm W wb we) (hW2 : W ≤ 240) (hwd : wd ≤ 100) (hn : ∀ k, k < W → we k < 2 ^ 20) (hfit : ∀ k, k < W → we k - wb k ≤ wd) {fu : Nat} (hfu : 2000 ≤ fu) {p i : Nat} (hp : p < 6) (hR : ∀ x, x ≤ W → M.2 30 (254 * p + x) = nI (Rp W wd wb we (2 * p) x)) (hi : i ≤ W) : f_X10_best fu M (nI (p + 1)) (nI i) (nI wd) = some (nI (Rp W wd wb we (2 * (p + 1)) i)) := by
  unfold f_X10_best
  rw [hW.1]
  by_cases c : i = W
  · subst c
    rw [if_pos rfl]
    have e1 : Rp i wd wb we (2 * (p + 1)) i = NOW := by
      rw [show 2 * (p + 1) = 2 * p + 1 + 1 by omega]
      unfold Rp
      have : sp i wd wb we i = i := by unfold sp; rw [if_neg (Nat.lt_irrefl _)]
      rw [this, Nat.sub_self, if_neg (by omega)]
      rfl
    rw [e1]; rfl
  · rw [if_neg (nI_neq (by omega) (by omega) c)]
    have hi : i < W := by omega
    have hsg := sp_gt (W := W) (wd := wd) (wb := wb) (we := we) hi
    have hsW := sp_le (W := W) (wd := wd) (wb := wb) (we := we) (show i ≤ W by omega)
    have hf := fits_e hW hm (by omega) (show wd < 2 ^ 20 by omega) hn hfu (show i ≤ W by omega)
    rw [ft_fit hfit] at hf
    obtain ⟨b, e1, e2, e3, e4⟩ := bL26 hW hm hW2 hwd hn hfit hfu (Rp W wd wb we (2 * p)) hp (fun x hx => ⟨hR x hx, Rp_le _ _⟩) hi (sp W wd wb we i - i) fu 1 NOW (by omega) (by omega) (by omega) (Nat.le_refl _)
    refine bd hf (e1.trans ?_)
    congr 2
    apply Nat.le_antisymm
    · -- b ≤ Rp
      rw [show 2 * (p + 1) = 2 * p + 1 + 1 by omega]
      rcases Rp_at (W := W) (wd := wd) (wb := wb) (we := we) (2 * p + 1) i with g | ⟨g, -⟩ | ⟨j, g1, g2, g3⟩
      · omega
      · omega
      · rw [g3]
        have hjW : j ≤ W := by omega
        have hv : ∀ d, j + d ≤ sp W wd wb we j → b ≤ cst wd wb we i j + (Rp W wd wb we (2 * p) (j + d) + pc wd wb we j d) := by
          intro d hd
          have := e3 (j - i) d (by omega) (by omega) (by rw [show i + (j - i) = j by omega]; exact hd)
          unfold vl at this
          rw [show i + (j - i) = j by omega] at this
          by_cases q : Rp W wd wb we (2 * p) (j + d) < NOW
          · rw [if_pos q] at this
            have e9 : pc wd wb we i (j - i) = cst wd wb we i j := by
              unfold pc
              rw [if_neg (by omega), show i + (j - i) = j by omega]
            rw [e9] at this
            omega
          · rw [if_neg q] at this; omega
        rcases Rp_at (W := W) (wd := wd) (wb := wb) (we := we) (2 * p) j with k | ⟨-, k⟩ | ⟨j2, k1, k2, k3⟩
        · omega
        · rw [k]
          have := hv 0 (sp_ge j)
          have e9 : pc wd wb we j 0 = 0 := rfl
          rw [e9] at this
          exact this
        · rw [k3]
          have := hv (j2 - j) (by omega)
          have e9 : pc wd wb we j (j2 - j) = cst wd wb we j j2 := by
            unfold pc
            rw [if_neg (by omega), show j + (j2 - j) = j2 by omega]
          rw [e9, show j + (j2 - j) = j2 by omega] at this
          omega
    · rcases e4 with e4 | ⟨d, c, f0, f1, f2, f3⟩
      · rw [e4]; exact Rp_le _ _
      · rw [f3]
        unfold vl
        by_cases q : Rp W wd wb we (2 * p) (i + d + c) < NOW
        · rw [if_pos q]
          have h1 : Rp W wd wb we (2 * (p + 1)) i ≤ cst wd wb we i (i + d) + Rp W wd wb we (2 * p + 1) (i + d) := by
            rw [show 2 * (p + 1) = 2 * p + 1 + 1 by omega]
            exact Rp_opt (by omega) f1
          have e9 : pc wd wb we i d = cst wd wb we i (i + d) := by unfold pc; rw [if_neg (by omega)]
          rw [e9]
          by_cases c0 : c = 0
          · subst c0
            have h2 := Rp_skip (W := W) (wd := wd) (wb := wb) (we := we) (s := 2 * p) (i := i + d) (by omega)
            show _ ≤ Rp W wd wb we (2 * p) (i + d) + cst wd wb we i (i + d) + 0
            omega
          · have h2 : Rp W wd wb we (2 * p + 1) (i + d) ≤ cst wd wb we (i + d) (i + d + c) + Rp W wd wb we (2 * p) (i + d + c) := Rp_opt (by omega) f2
            have e8 : pc wd wb we (i + d) c = cst wd wb we (i + d) (i + d + c) := by unfold pc; rw [if_neg c0]
            rw [e8]
            omega
        · rw [if_neg q]; exact Rp_le _ _
end RB
