/-! what stands too short to be read -/
def cC (pg S all p : Nat) : Nat → Nat
  | 0 => 0
  | j + 1 => cC pg S all p j + (if j * pg / S = p then (j + 1) * all / S - j * all / S else 0)
def cR (pg S all p : Nat) : Nat → Nat
  | 0 => 0
  | b + 1 => cR pg S all p b + (if sAt b all S (S - 1) * pg / S = p then 1 else 0)
theorem sAt_is {b all S j : Nat} (h1 : j * all / S ≤ b) (h2 : b < (j + 1) * all / S) : ∀ J, j ≤ J → sAt b all S J = j := by
  intro J
  induction J with
  | zero => intro h; have : j = 0 := by omega
            subst this; rfl
  | succ J ih =>
    intro h
    unfold sAt
    by_cases e : j = J + 1
    · subst e
      rw [if_neg (by omega)]
    · have hm : (j + 1) * all / S ≤ (J + 1) * all / S := Nat.div_le_div_right (Nat.mul_le_mul_right all (by omega))
      rw [if_pos (by omega)]
      exact ih (by omega)
theorem cR_run {pg S all p j : Nat} (hj : j < S) : ∀ d, j * all / S + d ≤ (j + 1) * all / S → cR pg S all p (j * all / S + d) = cR pg S all p (j * all / S) + (if j * pg / S = p then d else 0) := by
  intro d
  induction d with
  | zero => intro _; rw [Nat.add_zero]; split <;> rfl
  | succ d ih =>
    intro h
    have h1 := ih (by omega)
    rw [show j * all / S + (d + 1) = j * all / S + d + 1 by omega]
    show cR pg S all p (j * all / S + d) + (if sAt (j * all / S + d) all S (S - 1) * pg / S = p then 1 else 0) = _
    rw [h1, sAt_is (b := j * all / S + d) (j := j) (by omega) (by omega) (S - 1) (by omega)]
    by_cases c : j * pg / S = p
    · rw [if_pos c, if_pos c, if_pos c]; omega
    · rw [if_neg c, if_neg c, if_neg c]
theorem cRC (pg S all p : Nat) : ∀ j, j ≤ S → cR pg S all p (j * all / S) = cC pg S all p j := by
  intro j
  induction j with
  | zero => intro _; rw [Nat.zero_mul, Nat.zero_div]; rfl
  | succ j ih =>
    intro hj
    have hm : j * all / S ≤ (j + 1) * all / S := Nat.div_le_div_right (Nat.mul_le_mul_right all (by omega))
    have h1 := cR_run (pg := pg) (S := S) (all := all) (p := p) (show j < S by omega) ((j + 1) * all / S - j * all / S) (by omega)
    rw [show j * all / S + ((j + 1) * all / S - j * all / S) = (j + 1) * all / S by omega, ih (by omega)] at h1
    rw [h1]
    rfl
theorem cR_all {pg S all p : Nat} (hS : 0 < S) : cR pg S all p all = cC pg S all p S := by
  have := cRC pg S all p S (Nat.le_refl _)
  rw [Nat.mul_div_cancel_left all hS] at this
  exact this
theorem cR_le (pg S all p b : Nat) : cR pg S all p b ≤ b := by
  induction b with
  | zero => exact Nat.le_refl _
  | succ b ih => unfold cR; split <;> omega
theorem bpL6 (fu : Nat) {p pg S all : Nat} (hS : 0 < S) (hS2 : S ≤ 6) (hall : all ≤ 1000) (hpg : pg ≤ 6) (hp : p < 2 ^ 31) : ∀ (m q j : Nat), j + m = S → m < q → f_X0_barsOfPage_L6 fu q (nI p) (nI pg) (nI S) (nI all) (nI (cC pg S all p j)) (nI j) = some (nI (cC pg S all p S)) := by
  intro m
  induction m with
  | zero =>
    intro q j hj hq
    obtain ⟨q, rfl⟩ : ∃ q', q = q' + 1 := ⟨q - 1, by omega⟩
    rw [f_X0_barsOfPage_L6, show j = S by omega]
    exact ip (nI_le (Nat.le_refl _) (by omega)) rfl
  | succ m ih =>
    intro q j hj hq
    obtain ⟨q, rfl⟩ : ∃ q', q = q' + 1 := ⟨q - 1, by omega⟩
    have hm1 : j * pg ≤ 6 * 6 := Nat.mul_le_mul (by omega) hpg
    have hm2 : (j + 1) * all ≤ 6 * 1000 := Nat.mul_le_mul (by omega) hall
    have hm3 : j * all ≤ (j + 1) * all := Nat.mul_le_mul_right all (by omega)
    have hm4 : j * all / S ≤ (j + 1) * all / S := Nat.div_le_div_right hm3
    have hd : j * pg / S ≤ 36 := Nat.le_trans (Nat.div_le_self _ _) hm1
    have := ih q (j + 1) (by omega) (by omega)
    rw [f_X0_barsOfPage_L6, if_neg (nI_ge (show j < S by omega) (by omega))]
    refine bd (share_e fu hS (by omega) (by omega)) ?_
    have eC : cC pg S all p (j + 1) = cC pg S all p j + (if j * pg / S = p then (j + 1) * all / S - j * all / S else 0) := rfl
    rw [eC] at this
    rw [nI_1]
    by_cases c : j * pg / S = p
    · rw [if_pos c] at this
      rw [if_pos (show nI (j * pg / S) = nI p by rw [c])]
      refine bd (share_e fu hS (by omega) (by omega)) (bd (share_e fu hS (by omega) (by omega)) ?_)
      rw [pk_sub hm4, nI_add]
      exact this
    · rw [if_neg c, Nat.add_zero] at this
      rw [if_neg (nI_neq (by omega) hp c)]
      exact this
theorem barsOfPage_e {fu : Nat} (hfu : 2000 ≤ fu) {p pg S all : Nat} (hS : 0 < S) (hS2 : S ≤ 6) (hall : all ≤ 1000) (hpg : pg ≤ 6) (hp : p < 2 ^ 31) : f_X0_barsOfPage fu (nI p) (nI pg) (nI S) (nI all) = some (nI (cC pg S all p S)) := bpL6 fu hS hS2 hall hpg hp S fu 0 (by omega) (by omega)
def mx2 (y L : Int32) : Int32 := if y < L then L else y
theorem mx2_r (y L : Int32) {α : Type} (K : Int32 → α) : (if L ≤ y then K y else K L) = K (mx2 y L) := by
  unfold mx2
  by_cases c : y < L
  · rw [if_pos c, if_neg (fun q => by rw [Int32.le_iff_toInt_le] at q; rw [Int32.lt_iff_toInt_lt] at c; omega)]
  · rw [if_neg c, if_pos (by rw [Int32.le_iff_toInt_le]; rw [Int32.lt_iff_toInt_lt] at c; omega)]
/-- the lack of a page -/
def lk (sp be sh n : Nat) : Int32 := nI ((n + sp - 1) / sp) - nI (be * sh)
section S1
variable {K28 : St → Int32 → Int32 → Int32 → Int32 → Int32 → Option (Int32 × St)} {K56 : St → Int32 → Int32 → Int32 → Int32 → Int32 → Int32 → Int32 → Int32 → Option (Int32 × St)}
theorem l139 {fu : Nat} (hfu : 2000 ≤ fu) {u : St} {S all pg p g sp be n : Nat} (hS : 0 < S) (hS2 : S ≤ 6) (hall : all ≤ 1000) (hpg : pg ≤ 6) (hp : p ≤ 6) (hg : g < 4) (hsp : 1 ≤ sp) (hsp2 : sp ≤ 20) (hn : n ≤ 4000) (h5 : u.2 5 g = nI sp) (h6 : u.1 6 = nI be) (x1 y x7 : Int32) : ∀ (m q b : Nat), b + m = all → m < q → f_X10_shortOf_L139 K28 K56 fu q u x1 (nI S) (nI all) y (nI g) (nI pg) x7 (nI p) (nI n) (nI (cR pg S all p b)) (nI b) = K56 u x1 (nI S) (nI all) (mx2 y (lk sp be (cR pg S all p all) n)) (nI g) (nI pg) x7 (nI p + 1) := by
  intro m
  induction m with
  | zero =>
    intro q b hb hq
    obtain ⟨q, rfl⟩ : ∃ q', q = q' + 1 := ⟨q - 1, by omega⟩
    have : b = all := by omega
    subst this
    have hz : ¬ nI sp = 0 := nI_neq (b := 0) (by omega) (by decide) (by omega)
    rw [f_X10_shortOf_L139, if_pos (nI_le (Nat.le_refl _) (by omega)), if_pos (inb_nI hg (by decide)), if_pos (inb_nI hg (by decide)), cl_nI (show g < 2 ^ 31 by omega), h5, if_pos (show nz (nI sp) = true by unfold nz; simp [hz]), h6, nI_add, show (nI (n + sp) - 1 : Int32) = nI (n + sp - 1) from pk_sub (show 1 ≤ n + sp by omega), pk_div (by omega) (by omega) (by omega), pk_mul]
    exact mx2_r y (lk sp be (cR pg S b p b) n) (fun z => K56 u x1 (nI S) (nI b) z (nI g) (nI pg) x7 (nI p + 1))
  | succ m ih =>
    intro q b hb hq
    obtain ⟨q, rfl⟩ : ∃ q', q = q' + 1 := ⟨q - 1, by omega⟩
    have hz : ¬ nI S = 0 := nI_neq (b := 0) (by omega) (by decide) (by omega)
    have hs := sAt_le b all S (S - 1)
    have hmul : sAt b all S (S - 1) * pg ≤ 6 * 6 := Nat.mul_le_mul (by omega) hpg
    have hd : sAt b all S (S - 1) * pg / S ≤ 36 := Nat.le_trans (Nat.div_le_self _ _) hmul
    have := ih q (b + 1) (by omega) (by omega)
    have eR : cR pg S all p (b + 1) = cR pg S all p b + (if sAt b all S (S - 1) * pg / S = p then 1 else 0) := rfl
    rw [eR] at this
    rw [f_X10_shortOf_L139, if_neg (nI_ge (show b < all by omega) (by omega))]
    refine bd (stepAt_e fu hfu u hS hS2 hall (by omega)) ?_
    rw [if_pos (show nz (nI S) = true by unfold nz; simp [hz]), pk_mul, pk_div (by omega) hS (by omega)]
    unfold f_X10_shortOf_L170
    rw [nI_1]
    by_cases c : sAt b all S (S - 1) * pg / S = p
    · rw [if_pos c] at this
      rw [if_pos (show nI (sAt b all S (S - 1) * pg / S) = nI p by rw [c]), nI_1]
      exact this
    · rw [if_neg c] at this
      rw [if_neg (nI_neq (by omega) (by omega) c), show (nI (cR pg S all p b) + 0 : Int32) = nI (cR pg S all p b + 0) from nI_add _ 0, nI_1 b]
      exact this
end S1
section S2
variable {W wd sl n : Nat} {wb we h : Nat → Nat} {u : St}
theorem l72s {K28 : St → Int32 → Int32 → Int32 → Int32 → Int32 → Option (Int32 × St)} {K56 : St → Int32 → Int32 → Int32 → Int32 → Int32 → Int32 → Int32 → Int32 → Option (Int32 × St)} (hw : Wr u W wb we) (hm : Wm W wb we) (hW7 : W ≤ 755) (fu : Nat) (h31 : ∀ a, a < sl → u.2 31 a = nI (pw W wd wb we sl (a + 1) - pw W wd wb we sl a)) (hsl : sl ≤ 12) {a p acc : Nat} (ha : a < sl) (hap : a < 2 * p + 2) (hp : p ≤ 6) (q : Nat) (x1 x2 x3 x4 x5 x6 : Int32) : f_X10_shortOf_L72 K28 K56 fu (q + 1) u x1 x2 x3 x4 x5 x6 (nI (pw W wd wb we sl a)) (nI p) (nI acc) (nI a) = f_X10_shortOf_L72 K28 K56 fu q u x1 x2 x3 x4 x5 x6 (nI (pw W wd wb we sl (a + 1))) (nI p) (nI (acc + rl W wd wb we sl a)) (nI (a + 1)) := by
  have hmo := pw_mono (W := W) (wd := wd) (wb := wb) (we := we) (sl := sl) a
  have hin := pw_in (wd := wd) (sl := sl) hm (a + 1)
  have e2 : (2 * nI p + 2 : Int32) = nI (2 * p + 2) := by rw [show (2 * nI p : Int32) = nI (2 * p) from pk_mul 2 p]; exact nI_add _ 2
  rw [f_X10_shortOf_L72, e2, if_neg (nI_ge hap (by omega)), if_pos (inb_nI (show a < 12 by omega) (by decide)), cl_nI (show a < 2 ^ 31 by omega), h31 a ha]
  unfold f_X10_shortOf_L112
  rw [if_pos (inb_nI (show a < 12 by omega) (by decide)), cl_nI (show a < 2 ^ 31 by omega), h31 a ha, nI_1, nI_add, show pw W wd wb we sl a + (pw W wd wb we sl (a + 1) - pw W wd wb we sl a) = pw W wd wb we sl (a + 1) by omega]
  unfold rl
  by_cases c : pw W wd wb we sl (a + 1) = pw W wd wb we sl a
  · rw [if_pos c, c, Nat.sub_self, if_pos (show nI 0 ≤ 0 by decide), show (nI acc + 0 : Int32) = nI (acc + 0) from nI_add acc 0]
  · rw [if_neg c, if_neg (nI_nle (show 0 < pw W wd wb we sl (a + 1) - pw W wd wb we sl a by omega) (by omega)), if_pos (inb_nI (show a < 12 by omega) (by decide))]
    refine bd (rowLength_e hw hm hW7 fu (by omega) (by omega)) ?_
    rw [if_pos (inb_nI (show a < 12 by omega) (by decide)), nI_add, show pw W wd wb we sl a + (pw W wd wb we sl (a + 1) - pw W wd wb we sl a) - 1 = pw W wd wb we sl (a + 1) - 1 by omega]
/-- the greatest lack of the pages from one on -/
def yf (sp be pg S all : Nat) (sg : Nat → Nat) : Nat → Nat → Int32 → Int32
  | 0, _, y => y
  | m + 1, i, y => yf sp be pg S all sg m (i + 1) (mx2 y (lk sp be (cC pg S all i S) (sg i)))
theorem l56 {K28 : St → Int32 → Int32 → Int32 → Int32 → Int32 → Option (Int32 × St)} (hw : Wr u W wb we) (hm : Wm W wb we) (hW7 : W ≤ 755) {fu : Nat} (hfu : 2000 ≤ fu) {S all pg g sp be : Nat} (h31 : ∀ a, a < 2 * pg → u.2 31 a = nI (pw W wd wb we (2 * pg) (a + 1) - pw W wd wb we (2 * pg) a)) (hrl : ∀ a, a < 2 * pg → rl W wd wb we (2 * pg) a ≤ 1500) (hS : 0 < S) (hS2 : S ≤ 6) (hall : all ≤ 1000) (hpg : pg ≤ 6) (hg : g < 4) (hsp : 1 ≤ sp) (hsp2 : sp ≤ 20) (h5 : u.2 5 g = nI sp) (h6 : u.1 6 = nI be) (x1 : Int32) : ∀ (m q i : Nat) (y : Int32), i + m = pg → m < q → f_X10_shortOf_L56 K28 fu q u x1 (nI S) (nI all) y (nI g) (nI pg) (nI (pw W wd wb we (2 * pg) (2 * i))) (nI i) = K28 u x1 (nI S) (nI all) (yf sp be pg S all (fun i => rl W wd wb we (2 * pg) (2 * i) + rl W wd wb we (2 * pg) (2 * i + 1)) m i y) (nI g + 1) := by
  intro m
  induction m with
  | zero =>
    intro q i y hi hq
    obtain ⟨q, rfl⟩ : ∃ q', q = q' + 1 := ⟨q - 1, by omega⟩
    rw [f_X10_shortOf_L56]
    exact ip (nI_le (by omega) (by omega)) rfl
  | succ m ih =>
    intro q i y hi hq
    obtain ⟨q, rfl⟩ : ∃ q', q = q' + 1 := ⟨q - 1, by omega⟩
    have r1 := hrl (2 * i) (by omega)
    have r2 := hrl (2 * i + 1) (by omega)
    rw [f_X10_shortOf_L56, if_neg (nI_ge (show i < pg by omega) (by omega)), show (2 * nI i : Int32) = nI (2 * i) from pk_mul 2 i]
    obtain ⟨f, hf⟩ : ∃ f, fu = f + 3 := ⟨fu - 3, by omega⟩
    have s1 := l72s (K28 := K28) (K56 := f_X10_shortOf_L56 K28 fu q) hw hm hW7 fu h31 (by omega) (a := 2 * i) (p := i) (acc := 0) (by omega) (by omega) (by omega) (f + 2) x1 (nI S) (nI all) y (nI g) (nI pg)
    have s2 := l72s (K28 := K28) (K56 := f_X10_shortOf_L56 K28 fu q) hw hm hW7 fu h31 (by omega) (a := 2 * i + 1) (p := i) (acc := 0 + rl W wd wb we (2 * pg) (2 * i)) (by omega) (by omega) (by omega) (f + 1) x1 (nI S) (nI all) y (nI g) (nI pg)
    have s0 : f_X10_shortOf_L72 K28 (f_X10_shortOf_L56 K28 fu q) fu fu u x1 (nI S) (nI all) y (nI g) (nI pg) (nI (pw W wd wb we (2 * pg) (2 * i))) (nI i) 0 (nI (2 * i)) = f_X10_shortOf_L72 K28 (f_X10_shortOf_L56 K28 fu q) fu (f + 1) u x1 (nI S) (nI all) y (nI g) (nI pg) (nI (pw W wd wb we (2 * pg) (2 * i + 1 + 1))) (nI i) (nI (0 + rl W wd wb we (2 * pg) (2 * i) + rl W wd wb we (2 * pg) (2 * i + 1))) (nI (2 * i + 1 + 1)) := by
      have e9 : f_X10_shortOf_L72 K28 (f_X10_shortOf_L56 K28 fu q) fu fu = f_X10_shortOf_L72 K28 (f_X10_shortOf_L56 K28 fu q) fu (f + 2 + 1) := by rw [show f + 2 + 1 = fu by omega]
      rw [e9]
      exact s1.trans s2
    rw [s0, f_X10_shortOf_L72]
    have e2 : (2 * nI i + 2 : Int32) = nI (2 * i + 2) := by rw [show (2 * nI i : Int32) = nI (2 * i) from pk_mul 2 i]; exact nI_add _ 2
    rw [e2, if_pos (show nI (2 * i + 2) ≤ nI (2 * i + 1 + 1) from nI_le (by omega) (by omega))]
    have h139 := l139 (K28 := K28) (K56 := f_X10_shortOf_L56 K28 fu q) hfu (u := u) (pg := pg) (p := i) (n := 0 + rl W wd wb we (2 * pg) (2 * i) + rl W wd wb we (2 * pg) (2 * i + 1)) hS hS2 hall hpg (by omega) hg hsp hsp2 (by omega) h5 h6 x1 y (nI (pw W wd wb we (2 * pg) (2 * i + 1 + 1))) all fu 0 (by omega) (by omega)
    have e0 : cR pg S all i 0 = 0 := rfl
    rw [e0] at h139
    rw [show (0 : Int32) = nI 0 from rfl, h139, nI_1, cR_all hS, show 2 * i + 1 + 1 = 2 * (i + 1) by omega, Nat.zero_add]
    exact ih q (i + 1) _ (by omega) (by omega)
end S2
section S3
variable {s0 s3 : St} {F : FSt} {Lk : List Nat} {ck : Nat → Nat × (Nat → Int32)}
theorem l47 {K : Int32 → Int32 → Int32 → Int32 → Int32 → Option Int32} {fu : Nat} (hfu : 2000 ≤ fu) {z pg S all sp be : Nat} {sg : Nat → Nat} (hz : ltb z 161 = true) (hpg0 : (F.1 z).1 4 = nI pg) (hsg : ∀ i, i < pg → f_X7_signsOf fu (F.1 z) (nI i) = some (nI (sg i)) ∧ sg i ≤ 4000) (hb : f_X5_beatsOfBar fu s3 = some (nI be)) (hS : 0 < S) (hS2 : S ≤ 6) (hall : all ≤ 1000) (hpg : pg ≤ 6) (hsp : 1 ≤ sp) (hsp2 : sp ≤ 20) (x1 x5 : Int32) : ∀ (m q i : Nat) (y : Int32), i + m = pg → m < q → f_X0_shortOf_L47 K fu s0 s3 F Lk ck q x1 (nI all) (nI S) y x5 z (nI sp) (nI i) = K x1 (nI all) (nI S) (yf sp be pg S all sg m i y) (x5 + 1) := by
  intro m
  induction m with
  | zero =>
    intro q i y hi hq
    obtain ⟨q, rfl⟩ : ∃ q', q = q' + 1 := ⟨q - 1, by omega⟩
    rw [f_X0_shortOf_L47, if_pos hz, hpg0]
    exact ip (nI_le (by omega) (by omega)) rfl
  | succ m ih =>
    intro q i y hi hq
    obtain ⟨q, rfl⟩ : ∃ q', q = q' + 1 := ⟨q - 1, by omega⟩
    obtain ⟨g1, g2⟩ := hsg i (by omega)
    rw [f_X0_shortOf_L47, if_pos hz, hpg0, if_neg (nI_ge (show i < pg by omega) (by omega)), if_pos hz]
    refine bd g1 (bd (r := nI ((sg i + sp - 1) / sp)) ?_ (bd hb (ip hz (bd (barsOfPage_e hfu hS hS2 hall hpg (by omega)) ?_))))
    · rw [nI_add, show (nI (sg i + sp) - 1 : Int32) = nI (sg i + sp - 1) from pk_sub (show 1 ≤ sg i + sp by omega)]
      have := share_e fu (a := 1) (b := sg i + sp - 1) (c := sp) (by omega) (by omega) (by omega)
      rw [Nat.one_mul] at this
      exact this
    · rw [pk_mul, nI_1]
      exact ih q (i + 1) _ (by omega) (by omega)
end S3
section S4
variable {r1 : Nat} {b2 : Nat → Int32} {s3 : St} {F : FSt} {Lk : List Nat} {ck : Nat → Nat × (Nat → Int32)} {tg tt im bt cn : Nat} {w v bar tm fr ns : Nat → Nat} {hs : Nat → Nat → Nat} {ch : Nat → Bool}
theorem short_both {fu : Nat} (hfu : 2000 ≤ fu) (s0 : St) {t S all : Nat} (ht : t < tt) (hS : 0 < S) (hS2 : S ≤ 6) (hall : all ≤ 1000) : ∀ (m q q' g : Nat) (y : Int32) (M : St), Rw r1 b2 s3 F Lk ck M tg tt im bt cn w v bar tm fr ns hs ch → g + m = tg → m < q → m < q' → ∃ (o : Int32) (M' : St), f_X0_shortOf_L12 fu s0 s3 F Lk ck q (nI t) (nI all) (nI S) y (nI g) = some o ∧ f_X10_shortOf_L28 fu q' M (nI t) (nI S) (nI all) y (nI g) = some (o, M') ∧ FrL M M' := by
  intro m
  induction m with
  | zero =>
    intro q q' g y M R hg hq hq'
    obtain ⟨q, rfl⟩ : ∃ k, q = k + 1 := ⟨q - 1, by omega⟩
    obtain ⟨q', rfl⟩ : ∃ k, q' = k + 1 := ⟨q' - 1, by omega⟩
    have hg4 := R.1.1.2.2.2
    refine ⟨y, M, ?_, ?_, FrL.refl M⟩
    · rw [f_X0_shortOf_L12, R.1.1.1]
      exact ip (nI_le (by omega) (by omega)) rfl
    · rw [f_X10_shortOf_L28, R.1.1.2.1]
      exact ip (nI_le (by omega) (by omega)) rfl
  | succ m ih =>
    intro q q' g y M R hg hq hq'
    obtain ⟨q, rfl⟩ : ∃ k, q = k + 1 := ⟨q - 1, by omega⟩
    obtain ⟨q', rfl⟩ : ∃ k, q' = k + 1 := ⟨q' - 1, by omega⟩
    have hg4 := R.1.1.2.2.2
    have hgt : g < tg := by omega
    obtain ⟨f, n, h, W, wb, we, ⟨-, -, -, c4, c5, -, -⟩, H, hf, hl, hw40, M1, e1, e2, e3, -⟩ := slot_e R hfu ht hgt
    obtain ⟨sl12, sl2, sl0⟩ := slt_e H hf
    have hway := Rp_slt H.m hw40 hf.2
    have hW2 : W ≤ 240 := by have := gr_240 H.m hw40 hf.1 W 0 rfl (Nat.zero_le _); have := hf.2; omega
    obtain ⟨pg, hpg⟩ : ∃ pg, slt W (wdt w g) wb we = 2 * pg := ⟨slt W (wdt w g) wb we / 2, by omega⟩
    have R1 := Rw.mc e3.mc R
    have h5 : M1.2 5 g = nI (spd v g) := (R1.1.2.2.2.2.2.2.1 g (by omega)).2.1
    have hv20 := (R1.1.2.2.2.2.2.2.1 g (by omega)).2.2
    have hsp : 1 ≤ spd v g := by unfold spd; split <;> omega
    have hsp2 : spd v g ≤ 20 := by unfold spd; split <;> omega
    have h6 := R1.1.2.2.2.2.1.2.1
    have hrl : ∀ a, rl W (wdt w g) wb we (2 * pg) a ≤ 1500 := by
      intro a
      have := re_lt H hway sl2 sl0 a
      have := (rl_e H hway sl2 sl0 a).1
      rw [← hpg]
      omega
    have hl1 := hl.1
    have hl2 := hl.2.1
    have e31 := e2.2.2.1
    have e32 := e2.1
    have hwr := e2.2.2.2
    rw [hpg] at hl1 hl2 e31 e32 hway sl2 sl0 sl12
    rw [show 2 * pg / 2 = pg by omega] at hl2 e32
    obtain ⟨o, M2, k1, k2, k3⟩ := ih q q' (g + 1) (yf (spd v g) (if bt = 0 then 4 else bt) pg S all (fun i => rl W (wdt w g) wb we (2 * pg) (2 * i) + rl W (wdt w g) wb we (2 * pg) (2 * i + 1)) pg 0 y) M1 R1 (by omega) (by omega) (by omega)
    refine ⟨o, M2, ?_, ?_, e3.trans k3⟩
    · rw [f_X0_shortOf_L12, R.1.1.1, if_neg (nI_ge hgt (by omega))]
      refine bd (wordingOf_1 R.1 fu s0 ht hgt) (bd (speedOf_e R.1 fu hgt) ?_)
      have hsg : ∀ i, i < pg → f_X7_signsOf fu (F.1 (4 * t + g)) (nI i) = some (nI (rl W (wdt w g) wb we (2 * pg) (2 * i) + rl W (wdt w g) wb we (2 * pg) (2 * i + 1))) ∧ rl W (wdt w g) wb we (2 * pg) (2 * i) + rl W (wdt w g) wb we (2 * pg) (2 * i + 1) ≤ 4000 := by
        intro i hi
        refine ⟨?_, by have := hrl (2 * i); have := hrl (2 * i + 1); omega⟩
        unfold f_X7_signsOf
        have ea : (nI i * 2 : Int32) = nI (2 * i) := by rw [show (nI i * 2 : Int32) = nI (i * 2) from pk_mul i 2, Nat.mul_comm]
        rw [if_neg (nI_pos (show i < 2 ^ 31 by omega)), hl2, if_pos (nI_lt hi (by omega)), ea, nI_1]
        refine bd (rowLength_c H (by omega) hway sl2 sl0 fu hl1 sl12 (by omega)) (bd (rowLength_c H (by omega) hway sl2 sl0 fu hl1 sl12 (by omega)) ?_)
        rw [nI_add]
      have := l47 (K := f_X0_shortOf_L12 fu s0 s3 F Lk ck q) (s0 := s0) (s3 := s3) (F := F) (Lk := Lk) (ck := ck) hfu (sg := fun i => rl W (wdt w g) wb we (2 * pg) (2 * i) + rl W (wdt w g) wb we (2 * pg) (2 * i + 1)) (ltb161 R.1 ht hgt) hl2 hsg (beats_e R.1 fu) hS hS2 hall (by omega) hsp hsp2 (nI t) (nI g) pg fu 0 y (by omega) (by omega)
      rw [nI_1] at this
      exact this.trans k1
    · rw [f_X10_shortOf_L28, R.1.1.2.1, if_neg (nI_ge hgt (by omega))]
      refine bd e1 ?_
      rw [e32]
      have := l56 (K28 := f_X10_shortOf_L28 fu q') hwr H.m (by omega) hfu e31 (fun a _ => hrl a) hS hS2 hall (by omega) (show g < 4 by omega) hsp hsp2 h5 h6 (nI t) pg fu 0 y (by omega) (by omega)
      rw [nI_1] at this
      exact this.trans k2
end S4
