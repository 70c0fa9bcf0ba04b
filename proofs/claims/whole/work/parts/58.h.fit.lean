/-! whether a title's strings fit, on both sides -/
theorem t156 {fu tt : Nat} (ht : tt < 40) : ∀ (m q t : Nat) (M : St), t + m = 4 → m < q → M.1 46 = nI tt → ∃ M' : St, f_X10_title_L156 fu q M (nI t) = (if (M'.1 36) = 5 then (f_X10_title_L204 fu fu M' (-1) 0) else ((f_X10_wrong fu M' 1 (M'.1 38)).bind (fun q_195 => if isB q_195.1 = true then (some (q_195.1, q_195.2)) else none))) ∧ M'.1 = M.1 ∧ (∀ x, x ≠ 53 → M'.2 x = M.2 x) ∧ ∀ z, M'.2 53 z = if 4 * tt + t ≤ z ∧ z < 4 * tt + 4 then 0 else M.2 53 z := by
  intro m
  induction m with
  | zero =>
    intro q t M hm hq h46
    obtain ⟨q, rfl⟩ : ∃ z, q = z + 1 := ⟨q - 1, by omega⟩
    refine ⟨M, ?_, rfl, fun _ _ => rfl, fun z => by rw [if_neg (by omega)]⟩
    rw [f_X10_title_L156, if_pos (show (4 : Int32) ≤ nI t from nI_le (a := 4) (by omega) (by omega))]
  | succ m ih =>
    intro q t M hm hq h46
    obtain ⟨q, rfl⟩ : ∃ z, q = z + 1 := ⟨q - 1, by omega⟩
    have eκ : (4 * nI tt + nI t : Int32) = nI (4 * tt + t) := by
      rw [show (4 * nI tt : Int32) = nI (4 * tt) from pk_mul 4 tt, nI_add]
    obtain ⟨M', e1, e2, e3, e4⟩ := ih q (t + 1) (sA M 53 (4 * tt + t) 0) (by omega) (by omega) h46
    refine ⟨M', ?_, e2, fun x hx => by rw [e3 x hx, sA_2, if_neg hx], fun z => ?_⟩
    · rw [f_X10_title_L156, if_neg (show ¬ (4 : Int32) ≤ nI t from nI_ge (a := t) (b := 4) (by omega) (by decide)), h46, eκ, if_pos (inb_nI (show 4 * tt + t < 160 by omega) (by decide)), cl_nI (show 4 * tt + t < 2 ^ 31 by omega), nI_1]
      exact e1
    · rw [e4 z, sA_2i, if_pos rfl]
      by_cases c : z = 4 * tt + t
      · rw [if_neg (by omega), if_pos c, if_pos (by omega)]
      · rw [if_neg c]
        by_cases c2 : 4 * tt + t ≤ z ∧ z < 4 * tt + 4
        · rw [if_pos c2, if_pos (by omega)]
        · rw [if_neg c2, if_neg (by omega)]
/-- a string that fits its width -/
def Fit (h : Nat → Nat) (w : Nat → Nat) (fr ns g : Nat) : Prop := ∃ (W : Nat) (wb we : Nat → Nat), Wds (fun i => h (fr + i)) ns W wb we ∧ fitP W (wdt w g) wb we
section FIT
variable {h : Nat → Nat} {n : Nat} {b : Nat → Int32} {fu : Nat}
theorem t248 {M0 : St} (T : TM h n M0) (hn : n ≤ 1500) {κ g fr ns wg : Nat} (hκ : κ < 160) (hg : g < 4) (hfn : fr + ns ≤ n) (h53 : M0.2 53 κ = nI ns) (h52 : M0.2 52 κ = nI fr) (h42 : M0.2 42 g = nI wg) (hw : wg ≤ 40) (Kx : St → Int32 → Int32 → Option (Int32 × St)) (x3 : Int32) :
    ∀ (m q i : Nat) (u : St), i + m = ns → m < q → u.1 = M0.1 → (∀ x, x ≠ 26 → u.2 x = M0.2 x) → (∀ j, j < i → u.2 26 j = nI (h (fr + j))) → ∃ u' : St, f_X10_title_L248 Kx fu q u x3 (nI g) (nI κ) (nI i) = f_X10_title_L318 Kx fu u' x3 (nI g) (nI κ) (nI (if wg = 0 then 20 else wg)) (nI ns) ∧ (∀ j, j < ns → u'.2 26 j = nI (h (fr + j))) ∧ u'.1 = M0.1 ∧ ∀ x, x ≠ 26 → u'.2 x = M0.2 x := by
  intro m
  induction m with
  | zero =>
    intro q i u hi hq h1 h2 h3
    obtain ⟨q, rfl⟩ : ∃ z, q = z + 1 := ⟨q - 1, by omega⟩
    refine ⟨u, ?_, fun j hj => h3 j (by omega), h1, h2⟩
    rw [f_X10_title_L248, if_pos (inb_nI hκ (by decide)), cl_nI (show κ < 2 ^ 31 by omega), h2 53 (by decide), h53, if_pos (nI_le (show ns ≤ i by omega) (by omega)), if_pos (inb_nI hκ (by decide)), if_pos (inb_nI hg (by decide)), cl_nI (show g < 2 ^ 31 by omega), h2 42 (by decide), h42]
    by_cases c : wg = 0
    · rw [if_pos c, c, if_pos (show nI 0 ≤ 0 by decide)]; rfl
    · rw [if_neg c, if_neg (nI_nle (by omega) (by omega)), if_pos (inb_nI hg (by decide))]
  | succ m ih =>
    intro q i u hi hq h1 h2 h3
    obtain ⟨q, rfl⟩ : ∃ z, q = z + 1 := ⟨q - 1, by omega⟩
    obtain ⟨u', e1, e2, e3, e4⟩ := ih q (i + 1) (sA u 26 i (nI (h (fr + i)))) (by omega) (by omega) h1 (fun x hx => by rw [sA_2, if_neg hx]; exact h2 x hx) (fun j hj => by
      rw [sA_2i, if_pos rfl]
      by_cases c : j = i
      · rw [if_pos c, c]
      · rw [if_neg c]; exact h3 j (by omega))
    refine ⟨u', ?_, e2, e3, e4⟩
    rw [f_X10_title_L248, if_pos (inb_nI hκ (by decide)), cl_nI (show κ < 2 ^ 31 by omega), h2 53 (by decide), h53, if_neg (nI_ge (show i < ns by omega) (by omega)), if_pos (inb_nI hκ (by decide)), h2 52 (by decide), h52, nI_add, if_pos (inb_nI (show fr + i < 1500 by omega) (by decide)), if_pos (inb_nI (show i < 1500 by omega) (by decide)), cl_nI (show fr + i < 2 ^ 31 by omega), cl_nI (show i < 2 ^ 31 by omega), h2 0 (by decide), T.2.1 _ (show fr + i < n by omega), nI_1]
    exact e1
theorem fit_loop (C : CX h n b) (hfu : 2000 ≤ fu) {r d : St} {tg bt tt : Nat} {w v fr ns : Nat → Nat} (ht : tt < 40) (s1 : St) : ∀ (m q q' g : Nat) (M : St) (bad : Int32), g + m = tg → m < q → m < q' → TM h n M → PA d M tg bt w v → M.1 46 = nI tt → ST h n d M tt 4 fr ns → (bad = -1 ∨ ∃ p, bad = nI p ∧ p < 2000) → (bad = -1 → ∀ g', g' < g → Fit h w (fr g') (ns g') g') →
    ∃ M' : St, FrL M M' ∧ (((∀ g', g' < tg → Fit h w (fr g') (ns g') g') ∧ f_X3_stringsFit_L14 fu s1 b d q r (nI tt) bad (nI g) = some (1, r) ∧ f_X10_title_L204 fu q' M bad (nI g) = (if inb (M'.1 45) 40 = true then ((f_X10_take fu (sF (sF (sA M' 48 ((M'.1 45).toNatClampNeg) (M'.1 46)) 46 ((M'.1 46) + 1)) 45 ((M'.1 45) + 1))).bind (fun q_402 => some (1, q_402))) else none)) ∨
      ∃ p, f_X3_stringsFit_L14 fu s1 b d q r (nI tt) bad (nI g) = some (0, sF (sF r 0 4) 1 (nI p)) ∧ f_X10_title_L204 fu q' M bad (nI g) = some (0, sF (sF M' 39 4) 40 (nI p))) := by
  obtain ⟨hn, hb⟩ := id C
  intro m
  induction m with
  | zero =>
    intro q q' g M bad hm hq hq' T hA h46 hS hbad hfit
    obtain ⟨q, rfl⟩ : ∃ z, q = z + 1 := ⟨q - 1, by omega⟩
    obtain ⟨q', rfl⟩ : ∃ z, q' = z + 1 := ⟨q' - 1, by omega⟩
    have hg := hA.1
    have : g = tg := by omega
    subst this
    refine ⟨M, ⟨fun _ _ _ _ => rfl, fun _ _ _ _ _ _ => rfl⟩, ?_⟩
    rw [f_X3_stringsFit_L14, f_X10_title_L204, hg.1, hg.2.1, if_pos (nI_le (Nat.le_refl _) (by omega)), if_pos (nI_le (Nat.le_refl _) (by omega))]
    rcases hbad with e | ⟨p, e, hp⟩
    · exact Or.inl ⟨hfit e, if_pos e, if_pos (by rw [e]; decide)⟩
    · rw [e]
      exact Or.inr ⟨p, iN (nI_ne_m1 (by omega)) (bd rfl (ip rfl rfl)), iN (nI_pos (by omega)) (bd rfl (ip isB_0 rfl))⟩
  | succ m ih =>
    intro q q' g M bad hm hq hq' T hA h46 hS hbad hfit
    obtain ⟨q, rfl⟩ : ∃ z, q = z + 1 := ⟨q - 1, by omega⟩
    obtain ⟨q', rfl⟩ : ∃ z, q' = z + 1 := ⟨q' - 1, by omega⟩
    have hg := hA.1
    have hgt : g < tg := by omega
    obtain ⟨⟨s11, s12⟩, ⟨sn, s1'⟩, sP⟩ := hS.1 g (by omega)
    obtain ⟨w1, w2, w3⟩ := hA.2.2.1 g (by omega)
    have hwd : wdt w g ≤ 40 := by unfold wdt; split <;> omega
    obtain ⟨W, wb, we, H⟩ := Wds_ex _ _ sP.p
    have hh' : ∀ i, i < ns g → (fun i => h (fr g + i)) i < 256 := fun i hi => (hb _ (by omega)).1
    have FE := fit_e (fr := fr g) (b := b) (fu := fu) H hwd (by omega) hh' (fun i hi => by rw [(hb _ (show fr g + i < n by omega)).2]; exact sb_lo (sP.lt i hi)) hfu
    -- where the reference looks
    have hκ : ∃ κ, κ < 160 ∧ M.2 53 κ = nI (ns g) ∧ M.2 52 κ = nI (fr g) ∧ ∀ Kx, (if inb ((4 * (M.1 46)) + nI g) 160 = true then (if (M.2 53 ((4 * (M.1 46)) + nI g).toNatClampNeg) ≤ 0 then (f_X10_title_L242 Kx fu M bad (nI g) 0 (4 * (M.1 46))) else (f_X10_title_L242 Kx fu M bad (nI g) (nI g) (4 * (M.1 46)))) else none) = f_X10_title_L248 Kx fu fu M bad (nI g) (nI κ) (nI 0) := by
      have eκ : (4 * nI tt + nI g : Int32) = nI (4 * tt + g) := by
        rw [show (4 * nI tt : Int32) = nI (4 * tt) from pk_mul 4 tt, nI_add]
      have eκ0 : (4 * nI tt + 0 : Int32) = nI (4 * tt) := by
        rw [show (4 * nI tt : Int32) = nI (4 * tt) from pk_mul 4 tt]; exact nI_add (4 * tt) 0
      have h0 : M.2 53 (4 * tt) = nI (ns 0) ∧ M.2 52 (4 * tt) = nI (fr 0) := by
        rcases hS.2.1 0 (by omega) with q | ⟨-, -, -, q⟩
        · exact q
        · exact absurd rfl q
      rcases hS.2.1 g (by omega) with ⟨a1, a2⟩ | ⟨a1, a2, a3, a4⟩
      · refine ⟨4 * tt + g, by omega, a1, a2, fun Kx => ?_⟩
        unfold f_X10_title_L242
        rw [h46, eκ, if_pos (inb_nI (show 4 * tt + g < 160 by omega) (by decide)), cl_nI (show 4 * tt + g < 2 ^ 31 by omega), a1, if_neg (nI_nle sP.2.1 (by omega))]
        rfl
      · refine ⟨4 * tt, by omega, by rw [h0.1, a3], by rw [h0.2, a2], fun Kx => ?_⟩
        unfold f_X10_title_L242
        rw [h46, eκ, eκ0, if_pos (inb_nI (show 4 * tt + g < 160 by omega) (by decide)), cl_nI (show 4 * tt + g < 2 ^ 31 by omega), a1, if_pos (show (0 : Int32) ≤ 0 by decide)]
        rfl
    obtain ⟨κ, k1, k2, k3, k4⟩ := hκ
    rw [f_X3_stringsFit_L14, f_X10_title_L204, hg.1, hg.2.1, if_neg (nI_ge hgt (by omega)), if_neg (nI_ge hgt (by omega)), k4, strFrom_e fu d ht (by omega), strLen_e fu d ht (by omega), obs, obs, s11, s12, widthOf_P hA fu hgt, obs, nI_1]
    obtain ⟨u, c1, c2, c3, c4⟩ := t248 (fu := fu) T hn k1 (show g < 4 by omega) sn k2 k3 w2 w3 (f_X10_title_L204 fu q') bad (ns g) fu 0 M (by omega) (by omega) rfl (fun _ _ => rfl) (fun j hj => absurd hj (Nat.not_lt_zero _))
    have LE := lay_e H (by omega) hh' hwd hfu c2
    have fru : FrL M u := ⟨fun x _ _ _ => by rw [c3], fun x hx _ _ _ _ => c4 x hx⟩
    have ewd : (if w g = 0 then 20 else w g) = wdt w g := rfl
    rw [c1, ewd]
    unfold f_X10_title_L318
    -- what goes on
    have go : ∀ (M2 : St) (bad2 : Int32), FrL M M2 → (bad2 = -1 ∨ ∃ p, bad2 = nI p ∧ p < 2000) → (bad2 = -1 → ∀ g', g' < g + 1 → Fit h w (fr g') (ns g') g') →
        ∃ M' : St, FrL M M' ∧ (((∀ g', g' < tg → Fit h w (fr g') (ns g') g') ∧ f_X3_stringsFit_L14 fu s1 b d q r (nI tt) bad2 (nI (g + 1)) = some (1, r) ∧ f_X10_title_L204 fu q' M2 bad2 (nI (g + 1)) = (if inb (M'.1 45) 40 = true then ((f_X10_take fu (sF (sF (sA M' 48 ((M'.1 45).toNatClampNeg) (M'.1 46)) 46 ((M'.1 46) + 1)) 45 ((M'.1 45) + 1))).bind (fun q_402 => some (1, q_402))) else none)) ∨
          ∃ p, f_X3_stringsFit_L14 fu s1 b d q r (nI tt) bad2 (nI (g + 1)) = some (0, sF (sF r 0 4) 1 (nI p)) ∧ f_X10_title_L204 fu q' M2 bad2 (nI (g + 1)) = some (0, sF (sF M' 39 4) 40 (nI p))) := by
      intro M2 bad2 hf2 hb2 hfit2
      have nf := hf2.nf
      have hS2 : ST h n d M2 tt 4 fr ns := by
        refine ⟨hS.1, ?_, hS.2.2⟩
        rw [nf.2 53 (by omega), nf.2 52 (by omega)]
        exact hS.2.1
      obtain ⟨M', z1, z2⟩ := ih q q' (g + 1) M2 bad2 (by omega) (by omega) (by omega) (T.p nf.pf) (PA.n nf hA) ((nf.1 46 (by omega)).trans h46) hS2 hb2 hfit2
      exact ⟨M', FrL.trans hf2 z1, z2⟩
    by_cases hf : fitP W (wdt w g) wb we
    · obtain ⟨M2, m1, -, m2, -⟩ := LE.1 hf
      rw [FE.1 hf, m1, obs, obs, if_neg n10, if_neg n10, nI_1]
      dsimp only
      refine go M2 bad (FrL.trans fru m2) hbad (fun e g' hg' => ?_)
      by_cases cg : g' = g
      · rw [cg]; exact ⟨W, wb, we, H, hf⟩
      · exact hfit e g' (by omega)
    · obtain ⟨M2, m1, m2⟩ := LE.2 hf
      have fr2 := FrL.trans fru m2
      have h52 : M2.2 52 κ = nI (fr g) := by rw [fr2.nf.2 52 (by omega)]; exact k3
      have e1 : (nI (fr g) - 1 : Int32) = nI (fr g - 1) := pk_sub (b := 1) s1'
      have w341 : f_X10_title_L341 (f_X10_title_L204 fu q') fu M2 (nI g) (nI κ) = f_X10_title_L204 fu q' M2 (nI (fr g - 1)) (nI (g + 1)) := by
        unfold f_X10_title_L341
        rw [if_pos (inb_nI k1 (by decide)), cl_nI (show κ < 2 ^ 31 by omega), h52, e1, nI_1]
      have w89 : f_X3_stringsFit_L89 (f_X3_stringsFit_L14 fu s1 b d q) fu s1 b d r (nI tt) (nI g) (nI (fr g) - 1) = f_X3_stringsFit_L14 fu s1 b d q r (nI tt) (nI (fr g - 1)) (nI (g + 1)) := by
        unfold f_X3_stringsFit_L89
        rw [e1, nI_1]
      have new : ∃ M' : St, FrL M M' ∧ _ := go M2 (nI (fr g - 1)) fr2 (Or.inr ⟨_, rfl, by omega⟩) (fun e => absurd e (nI_ne_m1 (by omega)))
      rw [FE.2 hf, m1, obs, obs, if_pos z00, if_pos z00]
      dsimp only
      rw [w341, w89, if_pos (inb_nI k1 (by decide)), cl_nI (show κ < 2 ^ 31 by omega), h52, e1, nI_1]
      rcases hbad with e | ⟨p, e, hp⟩
      · rw [e, if_pos rfl, if_pos (show (-1 : Int32) < 0 by decide)]
        exact new
      · rw [e, if_neg (nI_ne_m1 (by omega)), if_neg (nI_pos (by omega))]
        by_cases cp : p ≤ fr g - 1
        · rw [if_pos (nI_le cp (by omega)), if_pos (nI_le cp (by omega))]
          exact go M2 (nI p) fr2 (Or.inr ⟨p, rfl, hp⟩) (fun e => absurd e (nI_ne_m1 (by omega)))
        · rw [if_neg (nI_ge (show fr g - 1 < p by omega) (by omega)), if_neg (nI_ge (show fr g - 1 < p by omega) (by omega))]
          exact new
end FIT
