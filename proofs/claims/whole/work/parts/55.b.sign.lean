/-! signs of rows -/
section SG
variable {W wd n sl : Nat} {wb we h : Nat → Nat}
theorem pw_mono (a : Nat) : pw W wd wb we sl a ≤ pw W wd wb we sl (a + 1) := (nxt_le _ _).2
theorem pw_in (hm : Wm W wb we) (a : Nat) : pw W wd wb we sl a ≤ W := Nat.le_trans (pw_le hm a) (ma_le a)
theorem pw_pos (hway : Rp W wd wb we sl 0 < NOW) (hsl : sl % 2 = 0) (h0 : 0 < sl) (a : Nat) : 1 ≤ pw W wd wb we sl (a + 1) := by
  induction a with
  | zero =>
    obtain ⟨s, rfl⟩ : ∃ s, sl = s + 1 := ⟨sl - 1, by omega⟩
    have := (nxt_val hway).2 hsl
    show 1 ≤ nxt W wd wb we (s + 1 - 0) 0
    rw [Nat.sub_zero]
    omega
  | succ a ih => exact Nat.le_trans ih (pw_mono (a + 1))
theorem re_e (hway : Rp W wd wb we sl 0 < NOW) (hsl : sl % 2 = 0) (h0 : 0 < sl) (a : Nat) : re W wd wb we sl a = we (pw W wd wb we sl (a + 1) - 1) := by
  have := pw_pos hway hsl h0 a
  unfold re
  rw [if_neg (by omega)]
/-- where a row begins, and how long it is -/
def rb (W wd : Nat) (wb we : Nat → Nat) (sl a : Nat) : Nat := if a = 0 then 0 else re W wd wb we sl (a - 1) + 1
def rl (W wd : Nat) (wb we : Nat → Nat) (sl a : Nat) : Nat := if pw W wd wb we sl (a + 1) = pw W wd wb we sl a then 0 else we (pw W wd wb we sl (a + 1) - 1) - wb (pw W wd wb we sl a)
theorem rb_e (H : Wds h n W wb we) (hway : Rp W wd wb we sl 0 < NOW) (hsl : sl % 2 = 0) (h0 : 0 < sl) {a : Nat} (hlt : pw W wd wb we sl a < W) : rb W wd wb we sl a = wb (pw W wd wb we sl a) := by
  unfold rb
  cases a with
  | zero => rw [if_pos rfl]; exact H.2.1.symm
  | succ a =>
    rw [if_neg (by omega), show a + 1 - 1 = a by omega, re_e hway hsl h0]
    have h1 := pw_pos hway hsl h0 a
    have h2 := (H.2.2.2.2 (pw W wd wb we sl (a + 1) - 1) (by omega)).2
    rw [show pw W wd wb we sl (a + 1) - 1 + 1 = pw W wd wb we sl (a + 1) by omega] at h2
    exact h2.symm
theorem re_lt (H : Wds h n W wb we) (hway : Rp W wd wb we sl 0 < NOW) (hsl : sl % 2 = 0) (h0 : 0 < sl) (a : Nat) : re W wd wb we sl a ≤ n := by
  rw [re_e hway hsl h0]
  have h1 := pw_pos hway hsl h0 a
  have h2 := pw_in (wd := wd) (sl := sl) H.m (a + 1)
  exact (H.2.2.2.1 (pw W wd wb we sl (a + 1) - 1) (by omega)).2.1
theorem rl_e (H : Wds h n W wb we) (hway : Rp W wd wb we sl 0 < NOW) (hsl : sl % 2 = 0) (h0 : 0 < sl) (a : Nat) : rl W wd wb we sl a = re W wd wb we sl a - rb W wd wb we sl a ∧ rb W wd wb we sl a ≤ re W wd wb we sl a + 1 := by
  have h1 := pw_pos hway hsl h0 a
  have h2 := pw_in (wd := wd) (sl := sl) H.m (a + 1)
  have hmo := pw_mono (W := W) (wd := wd) (wb := wb) (we := we) (sl := sl) a
  unfold rl
  by_cases c : pw W wd wb we sl (a + 1) = pw W wd wb we sl a
  · rw [if_pos c]
    cases a with
    | zero =>
      have e0 : pw W wd wb we sl 0 = 0 := rfl
      rw [e0] at c
      omega
    | succ a =>
      have e1 : rb W wd wb we sl (a + 1) = re W wd wb we sl a + 1 := by unfold rb; rw [if_neg (by omega)]; rfl
      have e2 : re W wd wb we sl (a + 1) = re W wd wb we sl a := by rw [re_e hway hsl h0, re_e hway hsl h0, c]
      rw [e1, e2]
      omega
  · rw [if_neg c, rb_e H hway hsl h0 (show pw W wd wb we sl a < W by omega), re_e hway hsl h0]
    have h3 := H.m.wb_le (show pw W wd wb we sl a ≤ pw W wd wb we sl (a + 1) - 1 by omega) (by omega)
    have h4 := H.m.1 (pw W wd wb we sl (a + 1) - 1) (by omega)
    exact ⟨rfl, by omega⟩
theorem rowBegin_c {v : St} (fu : Nat) (hv : ∀ b, b < sl → v.2 6 b = nI (re W wd wb we sl b)) (hs : sl ≤ 12) {a : Nat} (ha : a < sl) : f_X7_rowBegin fu v (nI a) = some (nI (rb W wd wb we sl a)) := by
  unfold f_X7_rowBegin rb
  by_cases c : a = 0
  · rw [if_pos c, c]; exact ip (by decide) rfl
  · rw [if_neg c, if_neg (nI_nle (show 0 < a by omega) (by omega)), if_neg (show ¬ (12 : Int32) ≤ nI a from nI_ge (a := a) (b := 12) (by omega) (by decide)), show (nI a - 1 : Int32) = nI (a - 1) from pk_sub (show 1 ≤ a by omega), if_pos (inb_nI (show a - 1 < 12 by omega) (by decide)), cl_nI (show a - 1 < 2 ^ 31 by omega), hv _ (by omega), nI_1]
theorem rowLength_c {v : St} (H : Wds h n W wb we) (hn : n ≤ 1500) (hway : Rp W wd wb we sl 0 < NOW) (hsl : sl % 2 = 0) (h0 : 0 < sl) (fu : Nat) (hv : ∀ b, b < sl → v.2 6 b = nI (re W wd wb we sl b)) (hs : sl ≤ 12) {a : Nat} (ha : a < sl) : f_X7_rowLength fu v (nI a) = some (nI (rl W wd wb we sl a)) := by
  obtain ⟨e1, e2⟩ := rl_e H hway hsl h0 a
  have e3 := re_lt H hway hsl h0 a
  unfold f_X7_rowLength
  rw [if_neg (nI_pos (show a < 2 ^ 31 by omega)), if_neg (show ¬ (12 : Int32) ≤ nI a from nI_ge (a := a) (b := 12) (by omega) (by decide)), if_pos (inb_nI (show a < 12 by omega) (by decide)), cl_nI (show a < 2 ^ 31 by omega), hv a ha]
  refine bd (rowBegin_c fu hv hs ha) ?_
  congr 1
  rw [e1]
  by_cases c : rb W wd wb we sl a ≤ re W wd wb we sl a
  · rw [pk_sub c]
    by_cases c2 : 0 < re W wd wb we sl a - rb W wd wb we sl a
    · exact if_pos (nI_lt (a := 0) c2 (by omega))
    · rw [show re W wd wb we sl a - rb W wd wb we sl a = 0 by omega]; decide
  · have e4 : rb W wd wb we sl a = re W wd wb we sl a + 1 := by omega
    have e5 : (nI (re W wd wb we sl a) - nI (re W wd wb we sl a + 1) : Int32) = -1 := by
      rw [← nI_1, Int32.sub_eq_add_neg, Int32.neg_add, Int32.sub_eq_add_neg (-nI (re W wd wb we sl a)), ← Int32.add_assoc, Int32.add_right_neg]
      rfl
    rw [e4, e5, show re W wd wb we sl a - (re W wd wb we sl a + 1) = 0 by omega]
    decide
/-- the reference's row, from its words -/
theorem l60 {u : St} {P : Nat} (hu : ∀ a, a < P → u.2 31 a = nI (pw W wd wb we P (a + 1) - pw W wd wb we P a)) (hP : P ≤ 12) (fu : Nat) {p r : Nat} (hpr : 2 * p + r < P) (x5 : Int32) (q : Nat) : ∀ (m k : Nat), k + m = 2 * p + r → f_X10_signOf_L60 fu (q + m + 1) u (nI p) (nI r) x5 (nI (pw W wd wb we P k)) (nI k) = f_X10_signOf_L60 fu (q + 1) u (nI p) (nI r) x5 (nI (pw W wd wb we P (2 * p + r))) (nI (2 * p + r)) := by
  have e0 : (2 * nI p + nI r : Int32) = nI (2 * p + r) := by rw [show (2 * nI p : Int32) = nI (2 * p) from pk_mul 2 p, nI_add]
  intro m
  induction m with
  | zero => intro k hk; rw [show k = 2 * p + r by omega]
  | succ m ih =>
    intro k hk
    have hmo := pw_mono (W := W) (wd := wd) (wb := wb) (we := we) (sl := P) k
    rw [show q + (m + 1) + 1 = q + m + 1 + 1 by omega, f_X10_signOf_L60, e0, if_neg (show ¬ nI (2 * p + r) ≤ nI k from nI_ge (by omega) (by omega)), if_pos (inb_nI (show k < 12 by omega) (by decide)), cl_nI (show k < 2 ^ 31 by omega), hu k (by omega), nI_add, nI_1, show pw W wd wb we P k + (pw W wd wb we P (k + 1) - pw W wd wb we P k) = pw W wd wb we P (k + 1) by omega]
    exact ih (k + 1) (by omega)
end SG
section SH
variable {r1 : Nat} {b2 : Nat → Int32} {s3 : St} {F : FSt} {Lk : List Nat} {ck : Nat → Nat × (Nat → Int32)} {M : St} {tg tt im bt cn : Nat} {w v bar tm fr ns : Nat → Nat} {hs : Nat → Nat → Nat} {ch : Nat → Bool}
theorem slt_e {W wd n : Nat} {wb we h : Nat → Nat} (H : Wds h n W wb we) (hf : fitP W wd wb we) : slt W wd wb we ≤ 12 ∧ slt W wd wb we % 2 = 0 ∧ 0 < slt W wd wb we := by
  have := grW_pos (W := W) (wd := wd) (wb := wb) (we := we) H.1
  have := hf.2
  unfold slt
  omega
theorem not_lt0 {x : Int32} (h : ¬ x < 0) : ∃ k, k < 2 ^ 31 ∧ x = nI k := by
  refine ⟨x.toInt.toNat, ?_, ?_⟩
  · have := x.toInt_lt; omega
  · apply Int32.toInt_inj.mp
    rw [Int32.lt_iff_toInt_lt] at h
    have e0 : (0 : Int32).toInt = 0 := by decide
    have h2 := x.toInt_lt
    have h3 : (nI x.toInt.toNat).toInt = (x.toInt.toNat : Int) := nI_toInt (by omega)
    rw [h3]
    omega
theorem sign_core (R : Rw r1 b2 s3 F Lk ck M tg tt im bt cn w v bar tm fr ns hs ch) {fu : Nat} (hfu : 2000 ≤ fu) {t g : Nat} (ht : t < tt) (hg : g < tg) (x y z : Int32) :
    ∃ (o : Int32) (M' : St), f_X7_signAt fu (F.1 (4 * t + g)) ((ck (F.2 (4 * t + g))).1) ((ck (F.2 (4 * t + g))).2) x y z = some o ∧ f_X10_signOf fu M (nI t) (nI g) x y z = some (o, M') ∧ FrL M M' := by
  obtain ⟨f, n, h, W, wb, we, ⟨c1, c2, c3, c4, c5, c6, c7⟩, H, hf, hl, hw40, M', e1, e2, e3, e4⟩ := slot_e R hfu ht hg
  obtain ⟨s12', s2, s0⟩ := slt_e H hf
  have hway := Rp_slt H.m hw40 hf.2
  have hT : f_X10_isTitle fu M (nI t) = some 1 := by
    rcases title_e R.1 fu (nI t) with ⟨_, _, _, _, q⟩ | ⟨q, _⟩
    · exact q
    · rw [hasTitle_1 R.1 fu ht] at q; exact absurd q (by decide)
  have hG : f_X10_isTongue fu M (nI g) = some 1 := by
    rcases tongue_e R.1 fu (nI g) with ⟨_, _, _, _, q⟩ | ⟨q, _⟩
    · exact q
    · rw [hasTongue_1 R.1 fu hg] at q; exact absurd q (by decide)
  have hW2 : W ≤ 240 := by have := gr_240 H.m hw40 hf.1 W 0 rfl (Nat.zero_le _); have := hf.2; omega
  unfold f_X7_signAt f_X10_signOf
  rw [hT, hG, hl.2.1]
  by_cases q0 : x < 0
  · exact ⟨_, _, if_pos q0, bd rfl (iN (by decide) (bd rfl (iN (by decide) (if_pos q0)))), FrL.refl M⟩
  rw [if_neg q0]
  -- the reference's early ends
  by_cases y0 : y < 0
  · refine ⟨-1, M, ?_, bd rfl (iN (by decide) (bd rfl (iN (by decide) (iN q0 (if_pos y0))))), FrL.refl M⟩
    rw [if_pos y0]; exact ite_self _
  by_cases y1 : 1 < y
  · refine ⟨-1, M, ?_, bd rfl (iN (by decide) (bd rfl (iN (by decide) (iN q0 (iN y0 (if_pos y1)))))), FrL.refl M⟩
    have y2 : ¬ y < 2 := by
      rw [Int32.lt_iff_toInt_lt] at y1 ⊢
      have a1 : (1 : Int32).toInt = 1 := by decide
      have a2 : (2 : Int32).toInt = 2 := by decide
      omega
    rw [if_neg y0, if_neg y2]; exact ite_self _
  have y2 : y < 2 := by
    rw [Int32.lt_iff_toInt_lt] at y1 ⊢
    have a1 : (1 : Int32).toInt = 1 := by decide
    have a2 : (2 : Int32).toInt = 2 := by decide
    omega
  rw [if_neg y0, if_pos y2]
  by_cases z0 : z < 0
  · have z1 : ¬ 0 ≤ z := by
      rw [Int32.lt_iff_toInt_lt] at z0
      rw [Int32.le_iff_toInt_le]
      omega
    refine ⟨-1, M, ?_, bd rfl (iN (by decide) (bd rfl (iN (by decide) (iN q0 (iN y0 (iN y1 (if_neg z1))))))), FrL.refl M⟩
    rw [if_pos z0]; exact ite_self _
  have z1 : 0 ≤ z := by
    rw [Int32.lt_iff_toInt_lt] at z0
    rw [Int32.le_iff_toInt_le]
    omega
  rw [if_neg z0]
  obtain ⟨p, hp, rfl⟩ := not_lt0 q0
  obtain ⟨r, hr, rfl⟩ := nI_is (x := y) 2 (by decide) y0 (fun q => by
    rw [Int32.lt_iff_toInt_lt] at y2
    rw [Int32.le_iff_toInt_le] at q
    have : (2 : Int32).toInt = (nI 2).toInt := rfl
    omega)
  obtain ⟨k, hk, rfl⟩ := not_lt0 z0
  have tail : ∀ (o : Int32), (if nI p < M'.1 32 then f_X10_signOf_L60 fu fu M' (nI p) (nI r) (nI k) 0 0 else some (-1, M')) = some (o, M') → f_X10_signOf fu M (nI t) (nI g) (nI p) (nI r) (nI k) = some (o, M') := by
    intro o ho
    unfold f_X10_signOf
    rw [hT, hG]
    exact bd rfl (iN (by decide) (bd rfl (iN (by decide) (iN q0 (iN y0 (iN y1 (ip z1 (bd e1 ho))))))))
  unfold f_X10_signOf at tail
  rw [hT, hG] at tail
  by_cases c : slt W (wdt w g) wb we / 2 ≤ p
  · refine ⟨-1, M', if_pos (nI_le c (by omega)), tail _ (iN ?_ rfl), e3⟩
    rw [e2.1]
    exact nI_nlt c (by omega)
  rw [if_neg (show ¬ nI (slt W (wdt w g) wb we / 2) ≤ nI p from nI_ge (by omega) (by omega))]
  have hrow : 2 * p + r < slt W (wdt w g) wb we := by omega
  have ea : (nI p * 2 + nI r : Int32) = nI (2 * p + r) := by rw [show (nI p * 2 : Int32) = nI (p * 2) from pk_mul p 2, nI_add, Nat.mul_comm]
  have eb : (2 * nI p + nI r : Int32) = nI (2 * p + r) := by rw [show (2 * nI p : Int32) = nI (2 * p) from pk_mul 2 p, nI_add]
  have hrl := rowLength_c H (by omega) hway s2 s0 fu hl.1 s12' hrow
  have hrb := rowBegin_c fu hl.1 s12' hrow
  rw [ea]
  have hfu60 : f_X10_signOf_L60 fu fu M' (nI p) (nI r) (nI k) 0 0 = f_X10_signOf_L60 fu (fu - (2 * p + r) - 1 + 1) M' (nI p) (nI r) (nI k) (nI (pw W (wdt w g) wb we (slt W (wdt w g) wb we) (2 * p + r))) (nI (2 * p + r)) := by
    have := l60 e2.2.2.1 s12' fu hrow (nI k) (fu - (2 * p + r) - 1) (2 * p + r) 0 (by omega)
    rw [show fu - (2 * p + r) - 1 + (2 * p + r) + 1 = fu by omega] at this
    exact this
  have ht60 : nI p < M'.1 32 := by rw [e2.1]; exact nI_lt (by omega) (by omega)
  obtain ⟨A, hA⟩ : ∃ A, A = pw W (wdt w g) wb we (slt W (wdt w g) wb we) (2 * p + r) := ⟨_, rfl⟩
  obtain ⟨B, hB⟩ : ∃ B, B = pw W (wdt w g) wb we (slt W (wdt w g) wb we) (2 * p + r + 1) := ⟨_, rfl⟩
  have hAB : A ≤ B := by rw [hA, hB]; exact pw_mono _
  have hBW : B ≤ W := by rw [hB]; exact pw_in H.m _
  have h31 := e2.2.2.1 (2 * p + r) hrow
  rw [← hA, ← hB] at h31
  rw [← hA] at hfu60
  have hrl2 : rl W (wdt w g) wb we (slt W (wdt w g) wb we) (2 * p + r) = if B = A then 0 else we (B - 1) - wb A := by
    unfold rl
    rw [← hA, ← hB]
  rw [hrl2] at hrl
  by_cases cE : B = A
  · rw [if_pos cE] at hrl
    refine ⟨-1, M', bd hrl (iN (nI_nlt (a := k) (b := 0) (Nat.zero_le _) (by omega)) rfl), tail _ (ip ht60 ?_), e3⟩
    rw [hfu60, f_X10_signOf_L60, eb, if_pos (nI_le (Nat.le_refl _) (by omega)), if_pos (inb_nI (show 2 * p + r < 12 by omega) (by decide)), cl_nI (show 2 * p + r < 2 ^ 31 by omega), h31, cE, Nat.sub_self]
    exact ip rfl rfl
  · rw [if_neg cE] at hrl
    have hAW : A < W := by omega
    have hrl3 := rowLength_e e2.2.2.2 H.m (show W ≤ 755 by omega) fu (i := A) (k := B - A) (by omega) (by omega)
    rw [show A + (B - A) - 1 = B - 1 by omega] at hrl3
    have hwe := (H.2.2.2.1 (B - 1) (by omega)).2.1
    have hwb := H.m.wb_le (show A ≤ B - 1 by omega) (by omega)
    have hwb2 := H.m.1 (B - 1) (by omega)
    by_cases ck' : k < we (B - 1) - wb A
    · have hrbA : rb W (wdt w g) wb we (slt W (wdt w g) wb we) (2 * p + r) = wb A := by
        rw [hA]; exact rb_e H hway s2 s0 (by rw [← hA]; exact hAW)
      rw [hrbA] at hrb
      refine ⟨nI (h (wb A + k)), M', bd hrl (ip (nI_lt ck' (by omega)) (bd hrb ?_)), tail _ (ip ht60 ?_), e3⟩
      · have ep : ((F.1 (4 * t + g)).1 1 + nI (wb A) + nI k : Int32) = nI (f + (wb A + k)) := by rw [c2, nI_add, nI_add, Nat.add_assoc]
        rw [ep, if_neg (nI_pos (show f + (wb A + k) < 2 ^ 31 by omega)), if_neg (show ¬ nI (ck (F.2 (4 * t + g))).1 ≤ nI (f + (wb A + k)) from nI_ge (by omega) (by omega)), if_pos (inb_nI (show f + (wb A + k) < (ck (F.2 (4 * t + g))).1 by omega) (by omega)), cl_nI (show f + (wb A + k) < 2 ^ 31 by omega), c7 _ (by omega)]
      · rw [hfu60, f_X10_signOf_L60, eb, if_pos (nI_le (Nat.le_refl _) (by omega)), if_pos (inb_nI (show 2 * p + r < 12 by omega) (by decide)), cl_nI (show 2 * p + r < 2 ^ 31 by omega), h31, if_neg (show ¬ nI (B - A) = 0 from nI_neq (b := 0) (by omega) (by decide) (by omega))]
        refine bd hrl3 ?_
        rw [if_pos (nI_lt ck' (by omega)), if_pos (inb_nI (show A < 760 by omega) (by decide)), cl_nI (show A < 2 ^ 31 by omega), (e2.2.2.2.2 A hAW).1, nI_add, if_pos (inb_nI (show wb A + k < 1500 by omega) (by decide)), cl_nI (show wb A + k < 2 ^ 31 by omega), e4 _ (by omega)]
    · refine ⟨-1, M', bd hrl (iN (nI_nlt (by omega) (by omega)) rfl), tail _ (ip ht60 ?_), e3⟩
      rw [hfu60, f_X10_signOf_L60, eb, if_pos (nI_le (Nat.le_refl _) (by omega)), if_pos (inb_nI (show 2 * p + r < 12 by omega) (by decide)), cl_nI (show 2 * p + r < 2 ^ 31 by omega), h31, if_neg (show ¬ nI (B - A) = 0 from nI_neq (b := 0) (by omega) (by decide) (by omega))]
      exact bd hrl3 (iN (nI_nlt (by omega) (by omega)) rfl)
theorem noWord_e (h4 : (F.1 160).1 4 = 0) (fu N : Nat) (b : Nat → Int32) (x y z : Int32) : f_X7_signAt fu (F.1 160) N b x y z = some (-1) := by
  unfold f_X7_signAt
  rw [h4]
  by_cases c : x < 0
  · exact if_pos c
  · refine iN c (if_pos ?_)
    rw [Int32.lt_iff_toInt_lt] at c
    rw [Int32.le_iff_toInt_le]
    omega
end SH
theorem t_sign {fu : Nat} (hfu : 2000 ≤ fu) : T_sign Rel fu := by
  intro r1 r2 s1 s2 s3 s4 s5 s6 s9 s10 s11 s12 Lk ck M hR a b d e f
  obtain ⟨tg, tt, im, bt, cn, w, v, bar, tm, fr, ns, hs, on, ch, cf, ct, h1, R, h3, h4, h5, h6, h7⟩ := id hR
  have hmc := Rel.mc (MC_t M 0) hR
  have R0 : Rw r1 (ck r2).2 s3 s12 Lk ck (sF M 2 0) tg tt im bt cn w v bar tm fr ns hs ch := Rw.mc (MC_t M 0) ⟨R, h3, h5⟩
  have none_ : f_X0_wordingOf fu s0i s3 a b = some 160 → f_X10_signOf fu (sF M 2 0) a b d e f = some (-1, sF M 2 0) → ∃ (o : Int32) (M' : St), f_X9_sign fu s0i s3 s11 s0i s12 Lk ck a b d e f = some o ∧ f_X10_sign fu M a b d e f = some (o, M') ∧ Rel r1 r2 s1 s2 s3 s4 s5 s6 s9 s10 s11 s12 Lk ck M' := by
    intro g1 g2
    refine ⟨-1, sF M 2 0, ?_, bd g2 rfl, hmc⟩
    exact bd g1 (ip (by decide) (ip (show memb (s12.2 160) Lk = true from decide_eq_true h5.1.1) (bd (noWord_e h5.1.2 fu _ _ d e f) rfl)))
  rcases title_e R0.1 fu a with ⟨t, ht, rfl, g1, g2⟩ | ⟨g1, g2⟩
  · rcases tongue_e R0.1 fu b with ⟨g, hg, rfl, k1, k2⟩ | ⟨k1, k2⟩
    · obtain ⟨o, M', e1, e2, e3⟩ := sign_core R0 hfu ht hg d e f
      have hm := (h5.2.2 t g ht hg)
      obtain ⟨f', n', h', ⟨mm, -⟩, -⟩ := hm
      refine ⟨o, M', bd (wordingOf_1 R0.1 fu s0i ht hg) (ip (show ltb (4 * t + g) 161 = true from ?_) (ip (show memb (s12.2 (4 * t + g)) Lk = true from decide_eq_true mm) (bd e1 rfl))), bd e2 rfl, Rel.mc e3.mc hmc⟩
      have := R0.1.1.2.2.2
      have := R0.1.2.1.2.2
      exact decide_eq_true (by omega)
    · refine none_ ?_ ?_
      · exact bd (show f_X0_isThere fu s0i s3 (nI t) b = some 0 from bd g1 (iN (by decide) (bd k1 (ip rfl rfl)))) (ip rfl rfl)
      · exact bd g2 (iN (by decide) (bd k2 (ip rfl rfl)))
  · refine none_ ?_ ?_
    · exact bd (show f_X0_isThere fu s0i s3 a b = some 0 from bd g1 (ip rfl rfl)) (ip rfl rfl)
    · exact bd g2 (ip rfl rfl)
