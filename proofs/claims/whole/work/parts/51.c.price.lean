/-! the breaker's prices and rows -/
section PR
variable {W wd sl : Nat} {wb we : Nat → Nat} {s0 : St}
theorem fpL12 (fu : Nat) (K : St → Int32 → Option St) (h6 : s0.1 6 = nI W) (hW : W ≤ 240) {a : Nat} (ha : a < 13) : ∀ (m q w : Nat) (u : St), w + m = W + 1 → m < q → ∃ u' : St, f_X1_forgetPrices_L12 K fu s0 q u (nI a) (nI w) = K u' (nI a + 1) ∧ (∀ x, w ≤ x → x ≤ W → u'.2 a x = nI NOW) ∧ ∀ b x, (b ≠ a ∨ x < w) → u'.2 b x = u.2 b x := by
  intro m
  induction m with
  | zero =>
    intro q w u hw hq
    obtain ⟨q, rfl⟩ : ∃ q', q = q' + 1 := ⟨q - 1, by omega⟩
    refine ⟨u, ?_, fun x h1 h2 => by omega, fun b x _ => rfl⟩
    rw [f_X1_forgetPrices_L12, h6]
    exact ip (nI_lt (by omega) (by omega)) rfl
  | succ m ih =>
    intro q w u hw hq
    obtain ⟨q, rfl⟩ : ∃ q', q = q' + 1 := ⟨q - 1, by omega⟩
    rw [f_X1_forgetPrices_L12, h6, if_neg (show ¬ nI W < nI w from nI_nlt (by omega) (by omega)), if_pos (inb_nI ha (by decide)), if_pos (inb_nI (show w < 241 by omega) (by decide)), cl_nI (show a < 2 ^ 31 by omega), cl_nI (show w < 2 ^ 31 by omega), nI_1 w]
    obtain ⟨u', e1, e2, e3⟩ := ih q (w + 1) (sA u a w 1000000) (by omega) (by omega)
    refine ⟨u', e1, fun x h1 h2 => ?_, fun b x hb => ?_⟩
    · by_cases e : x = w
      · subst e
        rw [e3 a x (Or.inr (by omega)), sA_2i]
        simp
        rfl
      · exact e2 x (by omega) h2
    · rw [e3 b x (by rcases hb with hb | hb; · exact Or.inl hb
                     · exact Or.inr (by omega)), sA_2i]
      by_cases e : b = a
      · subst e
        rcases hb with hb | hb
        · exact absurd rfl hb
        · rw [if_pos rfl, if_neg (by omega)]
      · rw [if_neg e]
theorem fpL2 {fu : Nat} (hfu : 300 ≤ fu) (h6 : s0.1 6 = nI W) (h8 : s0.1 8 = nI sl) (hW : W ≤ 240) (hsl : sl ≤ 12) : ∀ (m q a : Nat) (u : St), a + m = sl + 1 → m < q → (∀ b x, b < a → x ≤ W → u.2 b x = nI NOW) → ∃ u' : St, f_X1_forgetPrices_L2 fu s0 q u (nI a) = some u' ∧ ∀ b x, b ≤ sl → x ≤ W → u'.2 b x = nI NOW := by
  intro m
  induction m with
  | zero =>
    intro q a u ha hq hu
    obtain ⟨q, rfl⟩ : ∃ q', q = q' + 1 := ⟨q - 1, by omega⟩
    refine ⟨u, ?_, fun b x h1 h2 => hu b x (by omega) h2⟩
    rw [f_X1_forgetPrices_L2, h8]
    exact ip (nI_lt (by omega) (by omega)) rfl
  | succ m ih =>
    intro q a u ha hq hu
    obtain ⟨q, rfl⟩ : ∃ q', q = q' + 1 := ⟨q - 1, by omega⟩
    rw [f_X1_forgetPrices_L2, h8, if_neg (show ¬ nI sl < nI a from nI_nlt (by omega) (by omega))]
    obtain ⟨u', e1, e2, e3⟩ := fpL12 fu (f_X1_forgetPrices_L2 fu s0 q) h6 hW (show a < 13 by omega) (W + 1) fu 0 u (by omega) (by omega)
    have e1 : f_X1_forgetPrices_L12 (f_X1_forgetPrices_L2 fu s0 q) fu s0 fu u (nI a) 0 = f_X1_forgetPrices_L2 fu s0 q u' (nI a + 1) := e1
    rw [e1, nI_1]
    refine ih q (a + 1) u' (by omega) (by omega) (fun b x h1 h2 => ?_)
    by_cases e : b = a
    · subst e; exact e2 x (Nat.zero_le _) h2
    · rw [e3 b x (Or.inl e)]; exact hu b x (by omega) h2
/-- the table from slot a on -/
def Tb (u : St) (W wd : Nat) (wb we : Nat → Nat) (sl a : Nat) : Prop := ∀ b, a ≤ b → b ≤ sl → ∀ x, x ≤ ma W wd wb we b → u.2 b x = nI (Rp W wd wb we (sl - b) x)
/-- what stays while the prices are found -/
def Bq (s0 : St) (W wd : Nat) (wb we : Nat → Nat) (sl : Nat) : Prop := Bk s0 W wd wb we ∧ Bs s0 W wd wb we 0 ∧ (∀ j, j ≤ 12 → s0.2 4 j = nI (ma W wd wb we j)) ∧ s0.1 8 = nI sl ∧ Wm W wb we ∧ W ≤ 240 ∧ sl ≤ 12 ∧ sl % 2 = 0 ∧ wd ≤ 100 ∧ (∀ k, k < W → we k < 2 ^ 20) ∧ ∀ k, k < W → we k - wb k ≤ wd
theorem ma_mono (a : Nat) : ma W wd wb we a ≤ ma W wd wb we (a + 1) := sp_ge _
theorem cst_lt (hwd : wd ≤ 100) (i j : Nat) : cst wd wb we i j ≤ 10000 := Nat.le_trans (cst_le i j) (by
  have := Nat.mul_le_mul hwd hwd
  exact this)
theorem priceWith_e (hq : Bq s0 W wd wb we sl) (fu : Nat) {u : St} {a w j v : Nat} (ha : a + 1 < 13) (h1 : w < j) (h2 : j ≤ sp W wd wb we w) (hw : w < W) (hv : u.2 (a + 1) j = nI v) : f_X1_priceWith fu s0 u (nI a) (nI w) (nI j) = some (nI (cst wd wb we w j + v)) := by
  obtain ⟨hB, hS, hM, h8, hm, hW, hsl, hev, hwd, hn, hfit⟩ := hq
  have g2 := sp_le (W := W) (wd := wd) (wb := wb) (we := we) (show w ≤ W by omega)
  have g3 := sp_in hfit hw (j - 1) (by omega) (by omega)
  have g4 := hm.wb_le (show w ≤ j - 1 by omega) g3.1
  have g5 := hm.1 (j - 1) g3.1
  unfold f_X1_priceWith
  rw [show (nI j - 1 : Int32) = nI (j - 1) from pk_sub (show 1 ≤ j by omega), if_pos (inb_nI (show j - 1 < 240 by omega) (by decide)), if_pos (inb_nI (show w < 240 by omega) (by decide)), nI_1, if_pos (inb_nI ha (by decide)), if_pos (inb_nI (show j < 241 by omega) (by decide)), cl_nI (show j - 1 < 2 ^ 31 by omega), cl_nI (show w < 2 ^ 31 by omega), cl_nI (show a + 1 < 2 ^ 31 by omega), cl_nI (show j < 2 ^ 31 by omega), hB.2.1, (hB.2.2 (j - 1) g3.1).2, (hB.2.2 w hw).1, hv, pk_sub (show wb w ≤ we (j - 1) by omega), pk_sub g3.2, pk_mul, nI_add]
  rfl
theorem lpL38 (hq : Bq s0 W wd wb we sl) (fu : Nat) {u : St} {a w : Nat} (f : Nat → Nat) (ha : a + 1 < 13) (hw : w ≤ W) (hf : ∀ j, w < j → j ≤ sp W wd wb we w → u.2 (a + 1) j = nI (f j) ∧ f j ≤ NOW) :
    ∀ (m q j acc : Nat), j + m = sp W wd wb we w + 1 → m < q → w < j → acc ≤ NOW → f_X1_leastPrice_L38 fu s0 u q (nI a) (nI w) (nI acc) (nI j) = some (nI (lst (fun j => cst wd wb we w j + f j) m j acc)) := by
  have g2 := sp_le (W := W) (wd := wd) (wb := wb) (we := we) hw
  obtain ⟨hB, hS, hM, h8, hm, hW, hsl, hev, hwd, hn, hfit⟩ := id hq
  intro m
  induction m with
  | zero =>
    intro q j acc hj hqq hwj hacc
    obtain ⟨q, rfl⟩ : ∃ q', q = q' + 1 := ⟨q - 1, by omega⟩
    rw [f_X1_leastPrice_L38, if_pos (inb_nI (show w < 241 by omega) (by decide)), cl_nI (show w < 2 ^ 31 by omega), (hS w (Nat.zero_le _) hw).1]
    exact ip (nI_lt (by omega) (by omega)) rfl
  | succ m ih =>
    intro q j acc hj hqq hwj hacc
    obtain ⟨q, rfl⟩ : ∃ q', q = q' + 1 := ⟨q - 1, by omega⟩
    have hwW : w < W := by
      rcases Nat.lt_or_ge w W with q1 | q1
      · exact q1
      · have : sp W wd wb we w = w := by unfold sp; rw [if_neg (by omega)]
        omega
    obtain ⟨f1, f2⟩ := hf j hwj (by omega)
    rw [f_X1_leastPrice_L38, if_pos (inb_nI (show w < 241 by omega) (by decide)), cl_nI (show w < 2 ^ 31 by omega), (hS w (Nat.zero_le _) hw).1, if_neg (nI_nlt (show j ≤ sp W wd wb we w by omega) (by omega))]
    refine bd (priceWith_e hq fu ha hwj (by omega) hwW f1) ?_
    have hc := cst_lt (wb := wb) (we := we) hwd w j
    have hN : NOW = 1000000 := rfl
    rw [imin (by omega) (by omega), nI_1]
    unfold lst
    exact ih q (j + 1) _ (by omega) (by omega) (by omega) (by omega)
theorem leastPrice_e (hq : Bq s0 W wd wb we sl) {fu : Nat} (hfu : 300 ≤ fu) {u : St} {a w : Nat} (ha : a < sl) (hT : Tb u W wd wb we sl (a + 1)) (hw : w ≤ ma W wd wb we a) : f_X1_leastPrice fu s0 u (nI a) (nI w) = some (nI (Rp W wd wb we (sl - a) w)) := by
  obtain ⟨hB, hS, hM, h8, hm, hW, hsl, hev, hwd, hn, hfit⟩ := id hq
  have hmW := ma_le (W := W) (wd := wd) (wb := wb) (we := we) a
  have hspw := sp_ge (W := W) (wd := wd) (wb := wb) (we := we) w
  have hsp2 := sp_le (W := W) (wd := wd) (wb := wb) (we := we) (show w ≤ W by omega)
  have hf : ∀ j, w < j → j ≤ sp W wd wb we w → u.2 (a + 1) j = nI (Rp W wd wb we (sl - (a + 1)) j) ∧ Rp W wd wb we (sl - (a + 1)) j ≤ NOW := fun j h1 h2 => ⟨hT (a + 1) (Nat.le_refl _) (by omega) j (Nat.le_trans h2 (sp_mono hm hw hmW)), Rp_le _ _⟩
  obtain ⟨s, hs⟩ : ∃ s, sl - a = s + 1 := ⟨sl - a - 1, by omega⟩
  have hs2 : sl - (a + 1) = s := by omega
  rw [hs2] at hf
  have hgoal : ∀ acc, acc ≤ NOW → f_X1_leastPrice_L38 fu s0 u fu (nI a) (nI w) (nI acc) (nI (w + 1)) = some (nI (lst (fun j => cst wd wb we w j + Rp W wd wb we s j) (sp W wd wb we w - w) (w + 1) acc)) := fun acc hacc => lpL38 hq fu (fun j => Rp W wd wb we s j) (by omega) (by omega) hf (sp W wd wb we w - w) fu (w + 1) acc (by omega) (by omega) (by omega) hacc
  rw [hs]
  show _ = some (nI (lst (fun j => cst wd wb we w j + Rp W wd wb we s j) (sp W wd wb we w - w) (w + 1) (if (s + 1) % 2 = 1 then Rp W wd wb we s w else NOW)))
  unfold f_X1_leastPrice
  rw [if_pos (show nz 2 = true by decide), show nI a - nI a / 2 * 2 = nI (a % 2) from pk_rem (by omega) (by decide) (by decide)]
  by_cases e : a % 2 = 0
  · rw [e, if_pos (show nI 0 = 0 from rfl), if_neg (show ¬ (s + 1) % 2 = 1 by omega)]
    unfold f_X1_leastPrice_L11 f_X1_leastPrice_L31
    rw [if_pos rfl, nI_1]
    exact hgoal NOW (Nat.le_refl _)
  · rw [show a % 2 = 1 by omega, if_neg (show ¬ nI 1 = 0 by decide), if_pos (show (s + 1) % 2 = 1 by omega)]
    unfold f_X1_leastPrice_L11 f_X1_leastPrice_L31
    rw [if_neg (show ¬ (1 : Int32) = 0 by decide), nI_1, if_pos (inb_nI (show a + 1 < 13 by omega) (by decide)), if_pos (inb_nI (show w < 241 by omega) (by decide)), cl_nI (show a + 1 < 2 ^ 31 by omega), cl_nI (show w < 2 ^ 31 by omega), hT (a + 1) (Nat.le_refl _) (by omega) w (Nat.le_trans hw (ma_mono a)), hs2, nI_1]
    exact hgoal _ (Rp_le _ _)
theorem pwL33 (hq : Bq s0 W wd wb we sl) {fu : Nat} (hfu : 300 ≤ fu) (K : St → Int32 → Option St) {a : Nat} (ha : a < sl) :
    ∀ (d q : Nat) (u : St), d ≤ ma W wd wb we a + 1 → d < q → Tb u W wd wb we sl (a + 1) → (∀ x, d ≤ x → x ≤ ma W wd wb we a → u.2 a x = nI (Rp W wd wb we (sl - a) x)) → (∀ b x, b ≤ a → x ≤ W → (b < a ∨ x < d) → u.2 b x = nI NOW) →
      ∃ u' : St, f_X1_priceWays_L33 K fu s0 q u (nI a) (nI d + (-1)) = K u' (nI a + (-1)) ∧ Tb u' W wd wb we sl a ∧ ∀ b x, b < a → x ≤ W → u'.2 b x = nI NOW := by
  obtain ⟨hB, hS, hM, h8, hm, hW, hsl, hev, hwd, hn, hfit⟩ := id hq
  have hmW := ma_le (W := W) (wd := wd) (wb := wb) (we := we) a
  have close : ∀ u : St, Tb u W wd wb we sl (a + 1) → (∀ x, x ≤ ma W wd wb we a → u.2 a x = nI (Rp W wd wb we (sl - a) x)) → Tb u W wd wb we sl a := by
    intro u hT h1 b hb1 hb2 x hx
    by_cases e : b = a
    · subst e; exact h1 x hx
    · exact hT b (by omega) hb2 x hx
  intro d
  induction d with
  | zero =>
    intro q u hd hqq hT h1 h2
    obtain ⟨q, rfl⟩ : ∃ q', q = q' + 1 := ⟨q - 1, by omega⟩
    refine ⟨u, ?_, close u hT (fun x hx => h1 x (Nat.zero_le _) hx), fun b x hb hx => h2 b x (by omega) hx (Or.inl hb)⟩
    rw [f_X1_priceWays_L33]
    exact ip m1_neg rfl
  | succ d ih =>
    intro q u hd hqq hT h1 h2
    obtain ⟨q, rfl⟩ : ∃ q', q = q' + 1 := ⟨q - 1, by omega⟩
    have hg : (nI sl - nI a : Int32) = nI (sl - a) := pk_sub (by omega)
    have hgd := (hS d (Nat.zero_le _) (by omega)).2
    have hgl : grW W wd wb we d ≤ W := by
      have h9 : ∀ k i, W - i = k → grW W wd wb we i ≤ k := by
        intro k
        induction k using Nat.strongRecOn with
        | _ k ihk =>
          intro i hi
          by_cases hiW : i < W
          · rw [grW_step hiW]
            have := sp_gt (W := W) (wd := wd) (wb := wb) (we := we) hiW
            have := ihk (W - sp W wd wb we i) (by omega) _ rfl
            omega
          · rw [grW_end (by omega)]; exact Nat.zero_le _
      exact Nat.le_trans (h9 _ d rfl) (Nat.sub_le _ _)
    rw [m1_nI, f_X1_priceWays_L33, if_neg (nI_pos (show d < 2 ^ 31 by omega)), if_pos (inb_nI (show d < 241 by omega) (by decide)), cl_nI (show d < 2 ^ 31 by omega), hgd, h8, hg]
    by_cases hlt : sl - a < grW W wd wb we d
    · rw [if_pos (nI_lt hlt (by omega))]
      refine ⟨u, rfl, close u hT (fun x hx => ?_), fun b x hb hx => h2 b x (by omega) hx (Or.inl hb)⟩
      rcases Nat.lt_or_ge x (d + 1) with q1 | q1
      · rw [h2 a x (Nat.le_refl _) (by omega) (Or.inr q1)]
        have := grW_mono (wd := wd) hm (show x ≤ d by omega) (show d ≤ W by omega)
        have h5 : ¬ Rp W wd wb we (sl - a) x < NOW := fun q2 => by
          have := Rp_way hm (sl - a) x (by omega) q2
          omega
        have h6 := Rp_le (W := W) (wd := wd) (wb := wb) (we := we) (sl - a) x
        rw [show Rp W wd wb we (sl - a) x = NOW by omega]
      · exact h1 x q1 hx
    · rw [if_neg (nI_nlt (by omega) (by omega)), if_pos (inb_nI (show a < 13 by omega) (by decide))]
      have hl := leastPrice_e hq hfu ha hT (show d ≤ ma W wd wb we a by omega)
      obtain ⟨u', e1, e2, e3⟩ := ih q (sA u a d (nI (Rp W wd wb we (sl - a) d))) (by omega) (by omega) (by
        intro b hb1 hb2 x hx
        rw [sA_2i, if_neg (show b ≠ a by omega)]
        exact hT b hb1 hb2 x hx) (by
        intro x hx1 hx2
        rw [sA_2i, if_pos rfl]
        by_cases e : x = d
        · rw [if_pos e, e]
        · rw [if_neg e]; exact h1 x (by omega) hx2) (by
        intro b x hb hx hbx
        rw [sA_2i]
        by_cases e : b = a
        · rw [if_pos e, if_neg (by omega)]; subst e; exact h2 b x (Nat.le_refl _) hx (Or.inr (by omega))
        · rw [if_neg e]; exact h2 b x hb hx (Or.inl (by omega)))
      refine ⟨u', bd hl ?_, e2, e3⟩
      rw [if_pos (inb_nI (show d < 241 by omega) (by decide)), cl_nI (show a < 2 ^ 31 by omega)]
      exact e1
theorem pwL22 (hq : Bq s0 W wd wb we sl) {fu : Nat} (hfu : 300 ≤ fu) : ∀ (a q : Nat) (u : St), a ≤ sl → a < q → Tb u W wd wb we sl a → (∀ b x, b < a → x ≤ W → u.2 b x = nI NOW) → ∃ u' : St, f_X1_priceWays_L22 fu s0 q u (nI a + (-1)) = some u' ∧ Tb u' W wd wb we sl 0 := by
  obtain ⟨hB, hS, hM, h8, hm, hW, hsl, hev, hwd, hn, hfit⟩ := id hq
  intro a
  induction a with
  | zero =>
    intro q u ha hqq hT h2
    obtain ⟨q, rfl⟩ : ∃ q', q = q' + 1 := ⟨q - 1, by omega⟩
    refine ⟨u, ?_, hT⟩
    rw [f_X1_priceWays_L22]
    exact ip m1_neg rfl
  | succ a ih =>
    intro q u ha hqq hT h2
    obtain ⟨q, rfl⟩ : ∃ q', q = q' + 1 := ⟨q - 1, by omega⟩
    have hmW := ma_le (W := W) (wd := wd) (wb := wb) (we := we) a
    rw [m1_nI, f_X1_priceWays_L22, if_neg (nI_pos (show a < 2 ^ 31 by omega)), if_pos (inb_nI (show a < 13 by omega) (by decide)), cl_nI (show a < 2 ^ 31 by omega), hM a (by omega), ← m1_nI (ma W wd wb we a)]
    obtain ⟨u', e1, e2, e3⟩ := pwL33 hq hfu (f_X1_priceWays_L22 fu s0 q) (show a < sl by omega) (ma W wd wb we a + 1) fu u (Nat.le_refl _) (by omega) hT (fun x h1 h3 => by omega) (fun b x hb hx _ => h2 b x (by omega) hx)
    rw [e1]
    exact ih q u' (by omega) (by omega) e2 e3
theorem priceWays_e (hq : Bq s0 W wd wb we sl) {fu : Nat} (hfu : 300 ≤ fu) {u : St} (hu : ∀ b x, b ≤ sl → x ≤ W → u.2 b x = nI NOW) : ∃ u' : St, f_X1_priceWays fu s0 u = some u' ∧ Tb u' W wd wb we sl 0 := by
  obtain ⟨hB, hS, hM, h8, hm, hW, hsl, hev, hwd, hn, hfit⟩ := id hq
  unfold f_X1_priceWays
  rw [h8, hB.1, if_pos (inb_nI (show sl < 13 by omega) (by decide)), if_pos (inb_nI (show W < 241 by omega) (by decide)), cl_nI (show sl < 2 ^ 31 by omega), cl_nI (show W < 2 ^ 31 by omega), sub1]
  refine pwL22 hq hfu sl fu _ (Nat.le_refl _) (by omega) ?_ ?_
  · intro b h1 h2 x hx
    have : b = sl := by omega
    subst this
    rw [sA_2i, if_pos rfl, Nat.sub_self]
    show _ = nI (if x = W then 0 else NOW)
    by_cases e : x = W
    · rw [if_pos e, if_pos e]; rfl
    · rw [if_neg e, if_neg e]
      exact hu b x (Nat.le_refl _) (Nat.le_trans hx (ma_le b))
  · intro b x hb hx
    rw [sA_2i, if_neg (by omega)]
    exact hu b x (by omega) hx
/-- the last place from i + 1 to i + m with this value, else i -/
def lgs (g : Nat → Nat) (v i : Nat) : Nat → Nat
  | 0 => i
  | m + 1 => if g (i + m + 1) = v then i + m + 1 else lgs g v i m
theorem lgs_le (g : Nat → Nat) (v i m : Nat) : lgs g v i m ≤ i + m ∧ i ≤ lgs g v i m := by
  induction m with
  | zero => exact ⟨Nat.le_refl _, Nat.le_refl _⟩
  | succ m ih => unfold lgs; split <;> omega
def nxt (W wd : Nat) (wb we : Nat → Nat) (s i : Nat) : Nat := lgs (fun j => cst wd wb we i j + Rp W wd wb we (s - 1) j) (Rp W wd wb we s i) i (sp W wd wb we i - i)
theorem nxt_le (s i : Nat) : nxt W wd wb we s i ≤ sp W wd wb we i ∧ i ≤ nxt W wd wb we s i := by
  have := lgs_le (fun j => cst wd wb we i j + Rp W wd wb we (s - 1) j) (Rp W wd wb we s i) i (sp W wd wb we i - i)
  have h2 := sp_ge (W := W) (wd := wd) (wb := wb) (we := we) i
  unfold nxt
  omega
/-- the word at which a slot begins -/
def pw (W wd : Nat) (wb we : Nat → Nat) (sl : Nat) : Nat → Nat
  | 0 => 0
  | a + 1 => nxt W wd wb we (sl - a) (pw W wd wb we sl a)
theorem pw_le (hm : Wm W wb we) (a : Nat) : pw W wd wb we sl a ≤ ma W wd wb we a := by
  induction a with
  | zero => exact Nat.le_refl _
  | succ a ih => exact Nat.le_trans (nxt_le _ _).1 (sp_mono hm ih (ma_le a))
theorem lsL7 (hq : Bq s0 W wd wb we sl) (fu : Nat) {u : St} (hT : Tb u W wd wb we sl 0) {a w : Nat} (ha : a < sl) (hw : w ≤ ma W wd wb we a) : ∀ (m q : Nat), w + m ≤ sp W wd wb we w → m < q → f_X1_longestStop_L7 fu s0 u q (nI a) (nI w) (nI (w + m)) = some (nI (lgs (fun j => cst wd wb we w j + Rp W wd wb we (sl - a - 1) j) (Rp W wd wb we (sl - a) w) w m)) := by
  obtain ⟨hB, hS, hM, h8, hm, hW, hsl, hev, hwd, hn, hfit⟩ := id hq
  have hmW := ma_le (W := W) (wd := wd) (wb := wb) (we := we) a
  have hsp2 := sp_le (W := W) (wd := wd) (wb := wb) (we := we) (show w ≤ W by omega)
  intro m
  induction m with
  | zero =>
    intro q hm2 hqq
    obtain ⟨q, rfl⟩ : ∃ q', q = q' + 1 := ⟨q - 1, by omega⟩
    rw [f_X1_longestStop_L7]
    exact ip (nI_le (by omega) (by omega)) rfl
  | succ m ih =>
    intro q hm2 hqq
    obtain ⟨q, rfl⟩ : ∃ q', q = q' + 1 := ⟨q - 1, by omega⟩
    have hwW : w < W := by
      rcases Nat.lt_or_ge w W with q1 | q1
      · exact q1
      · have : sp W wd wb we w = w := by unfold sp; rw [if_neg (by omega)]
        omega
    have hv : u.2 (a + 1) (w + (m + 1)) = nI (Rp W wd wb we (sl - a - 1) (w + (m + 1))) := by
      have := hT (a + 1) (Nat.zero_le _) (by omega) (w + (m + 1)) (Nat.le_trans hm2 (sp_mono hm hw hmW))
      rw [show sl - (a + 1) = sl - a - 1 by omega] at this
      exact this
    rw [f_X1_longestStop_L7, if_neg (show ¬ nI (w + (m + 1)) ≤ nI w from nI_ge (by omega) (by omega))]
    refine bd (priceWith_e hq fu (by omega) (by omega) hm2 hwW hv) ?_
    have h1 := cst_lt (wb := wb) (we := we) hwd w (w + (m + 1))
    have h2 := Rp_le (W := W) (wd := wd) (wb := wb) (we := we) (sl - a - 1) (w + (m + 1))
    have h3 := Rp_le (W := W) (wd := wd) (wb := wb) (we := we) (sl - a) w
    have hN : NOW = 1000000 := rfl
    rw [if_pos (inb_nI (show a < 13 by omega) (by decide)), if_pos (inb_nI (show w < 241 by omega) (by decide)), cl_nI (show a < 2 ^ 31 by omega), cl_nI (show w < 2 ^ 31 by omega), hT a (Nat.zero_le _) (by omega) w hw]
    unfold lgs
    rw [show w + (m + 1) = w + m + 1 by omega]
    by_cases e : cst wd wb we w (w + m + 1) + Rp W wd wb we (sl - a - 1) (w + m + 1) = Rp W wd wb we (sl - a) w
    · rw [e, if_pos rfl, if_pos rfl]
    · rw [if_neg (nI_neq (by rw [show w + m + 1 = w + (m + 1) by omega]; omega) (by omega) e), if_neg e, m1_nI]
      exact ih q (by omega) (by omega)
theorem longestStop_e (hq : Bq s0 W wd wb we sl) {fu : Nat} (hfu : 300 ≤ fu) {u : St} (hT : Tb u W wd wb we sl 0) {a w : Nat} (ha : a < sl) (hw : w ≤ ma W wd wb we a) : f_X1_longestStop fu s0 u (nI a) (nI w) = some (nI (nxt W wd wb we (sl - a) w)) := by
  obtain ⟨hB, hS, hM, h8, hm, hW, hsl, hev, hwd, hn, hfit⟩ := id hq
  have hmW := ma_le (W := W) (wd := wd) (wb := wb) (we := we) a
  have hsp1 := sp_ge (W := W) (wd := wd) (wb := wb) (we := we) w
  have hsp2 := sp_le (W := W) (wd := wd) (wb := wb) (we := we) (show w ≤ W by omega)
  unfold f_X1_longestStop
  rw [if_pos (inb_nI (show w < 241 by omega) (by decide)), cl_nI (show w < 2 ^ 31 by omega), (hS w (Nat.zero_le _) (by omega)).1]
  have := lsL7 hq fu hT ha hw (sp W wd wb we w - w) fu (by omega) (by omega)
  rw [show w + (sp W wd wb we w - w) = sp W wd wb we w by omega] at this
  exact this
/-- where a row ends -/
def re (W wd : Nat) (wb we : Nat → Nat) (sl a : Nat) : Nat := if pw W wd wb we sl (a + 1) = 0 then 0 else we (pw W wd wb we sl (a + 1) - 1)
theorem wrL4 (hq : Bq s0 W wd wb we sl) {fu : Nat} (hfu : 300 ≤ fu) {u : St} (hT : Tb u W wd wb we sl 0) : ∀ (m q a : Nat) (v : St), a + m = sl → m < q → (∀ b, b < a → v.2 6 b = nI (re W wd wb we sl b)) → ∃ v' : St, f_X1_writeRows_L4 fu s0 u q v (nI (pw W wd wb we sl a)) (nI a) = some v' ∧ (∀ b, b < sl → v'.2 6 b = nI (re W wd wb we sl b)) ∧ v'.1 4 = nI (sl / 2) ∧ v'.1 5 = nI (Rp W wd wb we sl 0) ∧ ∀ x, x ≠ 4 → x ≠ 5 → v'.1 x = v.1 x := by
  obtain ⟨hB, hS, hM, h8, hm, hW, hsl, hev, hwd, hn, hfit⟩ := id hq
  intro m
  induction m with
  | zero =>
    intro q a v ha hqq hv
    obtain ⟨q, rfl⟩ : ∃ q', q = q' + 1 := ⟨q - 1, by omega⟩
    have ha : a = sl := by omega
    subst ha
    refine ⟨sF (sF v 4 (nI (a / 2))) 5 (nI (Rp W wd wb we a 0)), ?_, fun b hb => hv b hb, by rw [sF_1, if_neg (by decide), sF_1, if_pos rfl], by rw [sF_1, if_pos rfl], fun x h4 h5 => by rw [sF_1, if_neg h5, sF_1, if_neg h4]⟩
    have h0 := hT 0 (Nat.le_refl _) (Nat.zero_le _) 0 (Nat.zero_le _)
    rw [f_X1_writeRows_L4, h8, if_pos (show nI a ≤ nI a from nI_le (Nat.le_refl _) (by omega)), if_pos (show nz 2 = true by decide), if_pos (show inb 0 13 = true by decide), if_pos (show inb 0 241 = true by decide), show (nI a / 2 : Int32) = nI (a / 2) from pk_div (by omega) (by decide) (by decide)]
    rw [show u.2 (0 : Int32).toNatClampNeg (0 : Int32).toNatClampNeg = u.2 0 0 from rfl, h0]
    rfl
  | succ m ih =>
    intro q a v ha hqq hv
    obtain ⟨q, rfl⟩ : ∃ q', q = q' + 1 := ⟨q - 1, by omega⟩
    have hp := pw_le (sl := sl) (wd := wd) hm a
    have hp1 := pw_le (sl := sl) (wd := wd) hm (a + 1)
    have hmW := ma_le (W := W) (wd := wd) (wb := wb) (we := we) (a + 1)
    rw [f_X1_writeRows_L4, h8, if_neg (show ¬ nI sl ≤ nI a from nI_ge (by omega) (by omega))]
    have e0 : nxt W wd wb we (sl - a) (pw W wd wb we sl a) = pw W wd wb we sl (a + 1) := rfl
    have hl := longestStop_e hq hfu hT (show a < sl by omega) hp
    rw [e0] at hl
    have hset : ∀ t : Nat, f_X7_setRowEnd fu v (nI a) (nI t) = some (sA v 6 a (nI t)) := by
      intro t
      unfold f_X7_setRowEnd
      rw [if_neg (nI_pos (show a < 2 ^ 31 by omega)), if_neg (show ¬ (12 : Int32) ≤ nI a from nI_ge (a := a) (b := 12) (by omega) (by decide)), if_pos (inb_nI (show a < 12 by omega) (by decide)), cl_nI (show a < 2 ^ 31 by omega)]
    have hnext : ∃ v' : St, f_X1_writeRows_L37 (f_X1_writeRows_L4 fu s0 u q) fu s0 u v (nI (pw W wd wb we sl (a + 1))) (nI a) (nI (re W wd wb we sl a)) (nI a) = some v' ∧ (∀ b, b < sl → v'.2 6 b = nI (re W wd wb we sl b)) ∧ v'.1 4 = nI (sl / 2) ∧ v'.1 5 = nI (Rp W wd wb we sl 0) ∧ ∀ x, x ≠ 4 → x ≠ 5 → v'.1 x = v.1 x := by
      unfold f_X1_writeRows_L37
      rw [hset, nI_1]
      obtain ⟨v', e1, e2, e3, e4, e5⟩ := ih q (a + 1) (sA v 6 a (nI (re W wd wb we sl a))) (by omega) (by omega) (by
        intro b hb
        rw [sA_2i, if_pos rfl]
        by_cases e : b = a
        · rw [if_pos e, e]
        · rw [if_neg e]; exact hv b (by omega))
      exact ⟨v', e1, e2, e3, e4, e5⟩
    obtain ⟨v', e1, e2⟩ := hnext
    refine ⟨v', bd hl ?_, e2⟩
    unfold re at e1
    by_cases e : pw W wd wb we sl (a + 1) = 0
    · rw [if_pos e, e] at e1
      rw [e, if_pos (show nI 0 ≤ 0 by decide)]
      exact e1
    · rw [if_neg e] at e1
      rw [if_neg (nI_nle (show 0 < pw W wd wb we sl (a + 1) by omega) (by omega)), show (nI (pw W wd wb we sl (a + 1)) - 1 : Int32) = nI (pw W wd wb we sl (a + 1) - 1) from pk_sub (show 1 ≤ pw W wd wb we sl (a + 1) by omega), if_pos (inb_nI (show pw W wd wb we sl (a + 1) - 1 < 240 by omega) (by decide)), cl_nI (show pw W wd wb we sl (a + 1) - 1 < 2 ^ 31 by omega), (hB.2.2 _ (show pw W wd wb we sl (a + 1) - 1 < W by omega)).2]
      exact e1
end PR
