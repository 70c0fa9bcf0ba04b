/-! a slot: the class's wording and the reference's layTongue -/
theorem lt26 (fu : Nat) {κ n : Nat} {h : Nat → Nat} (hκ : κ < 160) (hn : n ≤ 492) (x2 : Int32) : ∀ (m q i : Nat) (u : St), i + m = n → m < q → (∀ j, j < i → u.2 26 j = nI (h j)) → (∀ j, j < n → u.2 20 (500 * κ + j) = nI (h j)) → ∃ u' : St, f_X10_layTongue_L26 fu q u x2 (nI κ) (nI n) (nI i) = f_X10_layTongue_L126 fu u' x2 (nI n) ∧ (∀ j, j < n → u'.2 26 j = nI (h j)) ∧ u'.1 = u.1 ∧ ∀ x, x ≠ 26 → u'.2 x = u.2 x := by
  intro m
  induction m with
  | zero =>
    intro q i u hi hq h1 h2
    obtain ⟨q, rfl⟩ : ∃ q', q = q' + 1 := ⟨q - 1, by omega⟩
    refine ⟨u, ?_, fun j hj => h1 j (by omega), rfl, fun x _ => rfl⟩
    rw [f_X10_layTongue_L26]
    exact ip (nI_le (by omega) (by omega)) rfl
  | succ m ih =>
    intro q i u hi hq h1 h2
    obtain ⟨q, rfl⟩ : ∃ q', q = q' + 1 := ⟨q - 1, by omega⟩
    have e : (500 * nI κ + nI i : Int32) = nI (500 * κ + i) := by
      rw [show (500 * nI κ : Int32) = nI (500 * κ) from pk_mul 500 κ, nI_add]
    rw [f_X10_layTongue_L26, if_neg (show ¬ nI n ≤ nI i from nI_ge (by omega) (by omega)), e, if_pos (inb_nI (show 500 * κ + i < 80000 by omega) (by decide)), if_pos (inb_nI (show i < 1500 by omega) (by decide)), cl_nI (show 500 * κ + i < 2 ^ 31 by omega), cl_nI (show i < 2 ^ 31 by omega), h2 i (by omega), nI_1]
    obtain ⟨u', e1, e2, e3, e4⟩ := ih q (i + 1) (sA u 26 i (nI (h i))) (by omega) (by omega) (by
      intro j hj
      rw [sA_2i, if_pos rfl]
      by_cases c : j = i
      · rw [if_pos c, c]
      · rw [if_neg c]; exact h1 j (by omega)) (by
      intro j hj
      rw [sA_2i, if_neg (by decide)]
      exact h2 j hj)
    exact ⟨u', e1, e2, e3, fun x hx => by rw [e4 x hx, sA_2, if_neg hx]⟩
theorem lt92 (fu : Nat) {κ n : Nat} {h : Nat → Nat} (hκ : κ < 160) (hn : n ≤ 492) (x2 : Int32) : ∀ (m q i : Nat) (u : St), i + m = n → m < q → (∀ j, j < i → u.2 26 j = nI (h j)) → (∀ j, j < n → u.2 15 (500 * κ + j) = nI (h j)) → ∃ u' : St, f_X10_layTongue_L92 fu q u x2 (nI n) (nI κ) (nI i) = f_X10_layTongue_L126 fu u' x2 (nI n) ∧ (∀ j, j < n → u'.2 26 j = nI (h j)) ∧ u'.1 = u.1 ∧ ∀ x, x ≠ 26 → u'.2 x = u.2 x := by
  intro m
  induction m with
  | zero =>
    intro q i u hi hq h1 h2
    obtain ⟨q, rfl⟩ : ∃ q', q = q' + 1 := ⟨q - 1, by omega⟩
    refine ⟨u, ?_, fun j hj => h1 j (by omega), rfl, fun x _ => rfl⟩
    rw [f_X10_layTongue_L92]
    exact ip (nI_le (by omega) (by omega)) rfl
  | succ m ih =>
    intro q i u hi hq h1 h2
    obtain ⟨q, rfl⟩ : ∃ q', q = q' + 1 := ⟨q - 1, by omega⟩
    have e : (500 * nI κ + nI i : Int32) = nI (500 * κ + i) := by
      rw [show (500 * nI κ : Int32) = nI (500 * κ) from pk_mul 500 κ, nI_add]
    rw [f_X10_layTongue_L92, if_neg (show ¬ nI n ≤ nI i from nI_ge (by omega) (by omega)), e, if_pos (inb_nI (show 500 * κ + i < 80000 by omega) (by decide)), if_pos (inb_nI (show i < 1500 by omega) (by decide)), cl_nI (show 500 * κ + i < 2 ^ 31 by omega), cl_nI (show i < 2 ^ 31 by omega), h2 i (by omega), nI_1]
    obtain ⟨u', e1, e2, e3, e4⟩ := ih q (i + 1) (sA u 26 i (nI (h i))) (by omega) (by omega) (by
      intro j hj
      rw [sA_2i, if_pos rfl]
      by_cases c : j = i
      · rw [if_pos c, c]
      · rw [if_neg c]; exact h1 j (by omega)) (by
      intro j hj
      rw [sA_2i, if_neg (by decide)]
      exact h2 j hj)
    exact ⟨u', e1, e2, e3, fun x hx => by rw [e4 x hx, sA_2, if_neg hx]⟩
/-- the part of the relation that shown words need -/
def Rw (r1 : Nat) (b2 : Nat → Int32) (s3 : St) (F : FSt) (Lk : List Nat) (ck : Nat → Nat × (Nat → Int32)) (M : St) (tg tt im bt cn : Nat) (w v bar tm fr ns : Nat → Nat) (hs : Nat → Nat → Nat) (ch : Nat → Bool) : Prop := RS s3 M tg tt im bt cn w v bar tm ∧ RX b2 s3 M tg tt w fr ns hs ∧ RW r1 F Lk ck M tg tt w ns hs ch
section SL
variable {r1 : Nat} {b2 : Nat → Int32} {s3 : St} {F : FSt} {Lk : List Nat} {ck : Nat → Nat × (Nat → Int32)} {M : St} {tg tt im bt cn : Nat} {w v bar tm fr ns : Nat → Nat} {hs : Nat → Nat → Nat} {ch : Nat → Bool}
theorem Rw.mc {M' : St} (m : MC M M') (h : Rw r1 b2 s3 F Lk ck M tg tt im bt cn w v bar tm fr ns hs ch) : Rw r1 b2 s3 F Lk ck M' tg tt im bt cn w v bar tm fr ns hs ch := ⟨RS.mc m h.1, RX.mc m h.2.1, RW.mc m h.2.2⟩
theorem slot_e (R : Rw r1 b2 s3 F Lk ck M tg tt im bt cn w v bar tm fr ns hs ch) {fu : Nat} (hfu : 2000 ≤ fu) {t g : Nat} (ht : t < tt) (hg : g < tg) :
    ∃ (f n : Nat) (h : Nat → Nat) (W : Nat) (wb we : Nat → Nat), (F.2 (4 * t + g) ∈ Lk ∧ (F.1 (4 * t + g)).1 1 = nI f ∧ (F.1 (4 * t + g)).1 2 = nI n ∧ f + n ≤ (ck (F.2 (4 * t + g))).1 ∧ (ck (F.2 (4 * t + g))).1 ≤ 1500 ∧ PrpA h n ∧ (∀ i, i < n → (ck (F.2 (4 * t + g))).2 (f + i) = nI (h i))) ∧ Wds h n W wb we ∧ fitP W (wdt w g) wb we ∧ Lw (F.1 (4 * t + g)) W (wdt w g) wb we ∧ wdt w g ≤ 40 ∧
      ∃ M' : St, f_X10_layTongue fu M (nI t) (nI g) = some M' ∧ Ld M' W (wdt w g) wb we ∧ FrL M M' ∧ ∀ i, i < n → M'.2 26 i = nI (h i) := by
  obtain ⟨R1, R2, R3⟩ := R
  have hg4 : tg ≤ 4 := R1.1.2.2.2
  have ht4 : tt ≤ 40 := R1.2.1.2.2
  have hw4 := (R1.2.2.2.2.2.1 g (by omega)).2.1
  have hw40 : wdt w g ≤ 40 := by
    have := (R1.2.2.2.2.2.1 g (by omega)).2.2
    unfold wdt
    split <;> omega
  obtain ⟨f, n, h, ⟨m1, m2⟩, ⟨a1, a2, a3⟩, ⟨b1', b2', b3, b4⟩, ⟨W, wb, we, H, hf, hl⟩, hch⟩ := R3.2.2 t g ht hg
  have hch19 := (R3.2.1 (4 * t + g) (by omega)).1
  refine ⟨f, n, h, W, wb, we, ⟨m1, a1, a2, b1', b2', b3, b4⟩, H, hf, hl, hw40, ?_⟩
  have hn := n_500 H hw40 hf
  have hidx : (4 * nI t + nI g : Int32) = nI (4 * t + g) := by
    rw [show (4 * nI t : Int32) = nI (4 * t) from pk_mul 4 t, nI_add]
  have hidx0 : (4 * nI t : Int32) = nI (4 * t) := pk_mul 4 t
  -- the laying
  have fin : ∀ u : St, (∀ j, j < n → u.2 26 j = nI (h j)) → u.1 = M.1 → (∀ x, x ≠ 26 → u.2 x = M.2 x) → ∃ M' : St, f_X10_layTongue_L126 fu u (nI g) (nI n) = some M' ∧ Ld M' W (wdt w g) wb we ∧ FrL M M' ∧ ∀ i, i < n → M'.2 26 i = nI (h i) := by
    intro u h1 h2 h3
    obtain ⟨M', e1, e2, e3, e4⟩ := (lay_e H (by omega) (fun i hi => by have := b3.lt i hi; omega) hw40 hfu h1).1 hf
    refine ⟨M', ?_, e2, FrL.trans ⟨fun x _ _ _ => by rw [h2], fun x hx _ _ _ _ => h3 x hx⟩ e3, fun i hi => by rw [e4]; exact h1 i hi⟩
    unfold f_X10_layTongue_L126
    rw [if_pos (inb_nI (show g < 4 by omega) (by decide)), cl_nI (show g < 2 ^ 31 by omega), h3 4 (by decide), hw4]
    exact bd e1 rfl
  unfold f_X10_layTongue
  rw [hidx, if_pos (inb_nI (show 4 * t + g < 160 by omega) (by decide)), cl_nI (show 4 * t + g < 2 ^ 31 by omega), hch19]
  rcases hch with ⟨c1, c2, c3⟩ | ⟨c1, c2, c3⟩
  · rw [c1, if_pos (show nI (b1 false) = 0 from rfl), if_pos (inb_nI (show 4 * t + g < 160 by omega) (by decide))]
    obtain ⟨-, x2, x3, x4, κ, k1, k2, k3, k4⟩ := R2 t g ht hg
    obtain ⟨u, e1, e2, e3, e4⟩ := lt92 fu (κ := κ) (n := n) (h := h) k1 hn (nI g) n fu 0 M (by omega) (by omega) (fun j hj => absurd hj (Nat.not_lt_zero _)) (fun j hj => by rw [k4 j (by omega), c3 j hj])
    have hL78 : f_X10_layTongue_L78 fu M (nI g) (nI κ) = f_X10_layTongue_L126 fu u (nI g) (nI n) := by
      unfold f_X10_layTongue_L78
      rw [if_pos (inb_nI k1 (by decide)), cl_nI (show κ < 2 ^ 31 by omega), k3, ← c2]
      exact e1
    obtain ⟨M', g1, g2⟩ := fin u e2 e3 e4
    refine ⟨M', ?_, g2⟩
    by_cases c : M.2 17 (4 * t + g) = 0
    · rw [if_pos c] at k2
      rw [if_pos c, hidx0, ← k2, hL78]
      exact g1
    · rw [if_neg c] at k2
      rw [if_neg c, ← k2, hL78]
      exact g1
  · rw [c1, if_neg (show ¬ nI (b1 true) = 0 by decide), if_pos (inb_nI (show 4 * t + g < 160 by omega) (by decide)), c2]
    obtain ⟨u, e1, e2, e3, e4⟩ := lt26 fu (κ := 4 * t + g) (n := n) (h := h) (by omega) hn (nI g) n fu 0 M (by omega) (by omega) (fun j hj => absurd hj (Nat.not_lt_zero _)) c3
    obtain ⟨M', g1, g2⟩ := fin u e2 e3 e4
    exact ⟨M', e1.trans g1, g2⟩
/-- pages of a slot -/
def pgs (F : FSt) (κ : Nat) : Nat := ((F.1 κ).1 4).toNatClampNeg
theorem slot_pp (R : Rw r1 b2 s3 F Lk ck M tg tt im bt cn w v bar tm fr ns hs ch) {fu : Nat} (hfu : 2000 ≤ fu) {t g : Nat} (ht : t < tt) (hg : g < tg) :
    (F.1 (4 * t + g)).1 4 = nI (pgs F (4 * t + g)) ∧ 1 ≤ pgs F (4 * t + g) ∧ pgs F (4 * t + g) ≤ 6 ∧ ∃ M' : St, f_X10_layTongue fu M (nI t) (nI g) = some M' ∧ M'.1 32 = nI (pgs F (4 * t + g)) ∧ M'.1 33 = (F.1 (4 * t + g)).1 5 ∧ FrL M M' := by
  obtain ⟨f, n, h, W, wb, we, -, H, hf, hl, hw40, M', e1, e2, e3, -⟩ := slot_e R hfu ht hg
  have hs : slt W (wdt w g) wb we / 2 ≤ 6 := by unfold slt; have := hf.2; omega
  have hs1 : 1 ≤ slt W (wdt w g) wb we / 2 := by
    have := grW_pos (W := W) (wd := wdt w g) (wb := wb) (we := we) H.1
    unfold slt; omega
  have e4 : pgs F (4 * t + g) = slt W (wdt w g) wb we / 2 := by unfold pgs; rw [hl.2.1]; exact cl_nI (by omega)
  rw [e4]
  exact ⟨hl.2.1, hs1, hs, M', e1, e2.1, by rw [e2.2.1, hl.2.2], e3⟩
end SL
theorem t_pages {fu : Nat} (hfu : 2000 ≤ fu) : T_pages Rel fu := by
  intro r1 r2 s1 s2 s3 s4 s5 s6 s9 s10 s11 s12 Lk ck M hR a b
  obtain ⟨tg, tt, im, bt, cn, w, v, bar, tm, fr, ns, hs, on, ch, cf, ct, h1, R, h3, h4, h5, h6, h7⟩ := id hR
  have hmc := Rel.mc (MC_t M 0) hR
  have R0 : Rw r1 (ck r2).2 s3 s12 Lk ck (sF M 2 0) tg tt im bt cn w v bar tm fr ns hs ch := Rw.mc (MC_t M 0) ⟨R, h3, h5⟩
  unfold f_X10_pages f_X9_pagesN f_X9_refuseUnknownN f_X9_refuseX1 f_X9_refuseX2
  rcases title_e R0.1 fu a with ⟨t, ht, rfl, g1, g2⟩ | ⟨g1, g2⟩
  · rcases tongue_e R0.1 fu b with ⟨g, hg, rfl, k1, k2⟩ | ⟨k1, k2⟩
    · obtain ⟨p1, p2, p3, M', e1, e2, e3, e4⟩ := slot_pp R0 hfu ht hg
      refine Or.inl ⟨_, M', bd (bd g1 (iN (by decide) (bd k1 (iN (by decide) rfl)))) (bd (wordingOf_1 R0.1 fu s0i ht hg) (ip (show ltb (4 * t + g) 161 = true from ?_) rfl)), bd g2 (iN (by decide) (bd k2 (iN (by decide) (bd e1 (by rw [e2, p1]))))), ?_, Rel.mc (e4.mc) hmc⟩
      · have := R0.1.1.2.2.2
        have := R0.1.2.1.2.2
        exact decide_eq_true (by omega)
      · unfold f_X10_thrown
        rw [e4.1 2 (by decide) (by decide) (by decide)]
        rfl
    · exact Or.inr (Or.inr ⟨0, sF (sF M 2 0) 2 2, bd g1 (iN (by decide) (bd k1 (ip rfl rfl))), bd g2 (iN (by decide) (bd k2 (ip rfl rfl))), rfl, Rel.mc (MC_t _ 2) hmc⟩)
  · exact Or.inr (Or.inl ⟨0, sF (sF M 2 0) 2 1, bd g1 (ip rfl rfl), bd g2 (ip rfl rfl), rfl, Rel.mc (MC_t _ 1) hmc⟩)
theorem t_price {fu : Nat} (hfu : 2000 ≤ fu) : T_price Rel fu := by
  intro r1 r2 s1 s2 s3 s4 s5 s6 s9 s10 s11 s12 Lk ck M hR a b
  obtain ⟨tg, tt, im, bt, cn, w, v, bar, tm, fr, ns, hs, on, ch, cf, ct, h1, R, h3, h4, h5, h6, h7⟩ := id hR
  have hmc := Rel.mc (MC_t M 0) hR
  have R0 : Rw r1 (ck r2).2 s3 s12 Lk ck (sF M 2 0) tg tt im bt cn w v bar tm fr ns hs ch := Rw.mc (MC_t M 0) ⟨R, h3, h5⟩
  unfold f_X10_price f_X9_priceN f_X9_refuseUnknownN f_X9_refuseX1 f_X9_refuseX2
  rcases title_e R0.1 fu a with ⟨t, ht, rfl, g1, g2⟩ | ⟨g1, g2⟩
  · rcases tongue_e R0.1 fu b with ⟨g, hg, rfl, k1, k2⟩ | ⟨k1, k2⟩
    · obtain ⟨p1, p2, p3, M', e1, e2, e3, e4⟩ := slot_pp R0 hfu ht hg
      refine Or.inl ⟨_, M', bd (bd g1 (iN (by decide) (bd k1 (iN (by decide) rfl)))) (bd (wordingOf_1 R0.1 fu s0i ht hg) (ip (show ltb (4 * t + g) 161 = true from ?_) rfl)), bd g2 (iN (by decide) (bd k2 (iN (by decide) (bd e1 (by rw [e3]))))), ?_, Rel.mc (e4.mc) hmc⟩
      · have := R0.1.1.2.2.2
        have := R0.1.2.1.2.2
        exact decide_eq_true (by omega)
      · unfold f_X10_thrown
        rw [e4.1 2 (by decide) (by decide) (by decide)]
        rfl
    · exact Or.inr (Or.inr ⟨0, sF (sF M 2 0) 2 2, bd g1 (iN (by decide) (bd k1 (ip rfl rfl))), bd g2 (iN (by decide) (bd k2 (ip rfl rfl))), rfl, Rel.mc (MC_t _ 2) hmc⟩)
  · exact Or.inr (Or.inl ⟨0, sF (sF M 2 0) 2 1, bd g1 (ip rfl rfl), bd g2 (ip rfl rfl), rfl, Rel.mc (MC_t _ 1) hmc⟩)
