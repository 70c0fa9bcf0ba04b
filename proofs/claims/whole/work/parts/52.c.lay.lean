/-! the reference's lay -/
theorem lgs_above (g : Nat → Nat) (v i m : Nat) : ∀ k, lgs g v i m < k → k ≤ i + m → g k ≠ v := by
  induction m with
  | zero => intro k h1 h2; unfold lgs at h1; omega
  | succ m ih =>
    intro k h1 h2
    unfold lgs at h1
    by_cases c : g (i + m + 1) = v
    · rw [if_pos c] at h1; omega
    · rw [if_neg c] at h1
      by_cases e : k = i + m + 1
      · rw [e]; exact c
      · exact ih k h1 (by omega)
theorem lgs_at (g : Nat → Nat) (v i m : Nat) : i < lgs g v i m → g (lgs g v i m) = v := by
  induction m with
  | zero => intro h; unfold lgs at h; omega
  | succ m ih =>
    intro h
    unfold lgs at h ⊢
    by_cases c : g (i + m + 1) = v
    · rw [if_pos c]; exact c
    · rw [if_neg c] at h ⊢; exact ih h
section LY
variable {W wd : Nat} {wb we : Nat → Nat}
theorem nxt_above {s i j : Nat} (h1 : nxt W wd wb we (s + 1) i < j) (h2 : j ≤ sp W wd wb we i) : cst wd wb we i j + Rp W wd wb we s j ≠ Rp W wd wb we (s + 1) i := by
  have h3 := sp_ge (W := W) (wd := wd) (wb := wb) (we := we) i
  exact lgs_above (fun j => cst wd wb we i j + Rp W wd wb we (s + 1 - 1) j) _ i (sp W wd wb we i - i) j h1 (by omega)
theorem nxt_val {s i : Nat} (h : Rp W wd wb we (s + 1) i < NOW) : Rp W wd wb we (s + 1) i = pc wd wb we i (nxt W wd wb we (s + 1) i - i) + Rp W wd wb we s (nxt W wd wb we (s + 1) i) ∧ ((s + 1) % 2 = 0 → i < nxt W wd wb we (s + 1) i) := by
  have hn := nxt_le (W := W) (wd := wd) (wb := wb) (we := we) (s + 1) i
  by_cases c : i < nxt W wd wb we (s + 1) i
  · have h1 : cst wd wb we i (nxt W wd wb we (s + 1) i) + Rp W wd wb we s (nxt W wd wb we (s + 1) i) = Rp W wd wb we (s + 1) i := lgs_at (fun j => cst wd wb we i j + Rp W wd wb we (s + 1 - 1) j) (Rp W wd wb we (s + 1) i) i (sp W wd wb we i - i) c
    refine ⟨?_, fun _ => c⟩
    unfold pc
    rw [if_neg (by omega), show i + (nxt W wd wb we (s + 1) i - i) = nxt W wd wb we (s + 1) i by omega]
    exact h1.symm
  · have e : nxt W wd wb we (s + 1) i = i := by omega
    rcases Rp_at (W := W) (wd := wd) (wb := wb) (we := we) s i with g | ⟨g1, g2⟩ | ⟨j, g1, g2, g3⟩
    · omega
    · rw [e, Nat.sub_self]
      refine ⟨?_, fun q => by omega⟩
      show _ = 0 + _
      omega
    · exact absurd g3.symm (nxt_above (by omega) g2)
/-- there is a way -/
theorem Rp_fin (hm : Wm W wb we) (s : Nat) : ∀ i, i ≤ W → grW W wd wb we i ≤ s → s ≤ grW W wd wb we i + 1 → Rp W wd wb we s i ≤ s * (wd * wd) := by
  induction s with
  | zero =>
    intro i hi h1 h2
    unfold Rp
    rcases Nat.lt_or_ge i W with q | q
    · have := grW_pos (W := W) (wd := wd) (wb := wb) (we := we) q; omega
    · rw [if_pos (by omega)]; exact Nat.zero_le _
  | succ s ih =>
    intro i hi h1 h2
    have hmul : (s + 1) * (wd * wd) = s * (wd * wd) + wd * wd := Nat.succ_mul _ _
    have take : i < W → Rp W wd wb we (s + 1) i ≤ (s + 1) * (wd * wd) := by
      intro q
      have g1 := sp_gt (W := W) (wd := wd) (wb := wb) (we := we) q
      have g2 := sp_le (W := W) (wd := wd) (wb := wb) (we := we) hi
      have g3 := grW_step (W := W) (wd := wd) (wb := wb) (we := we) q
      have g4 := ih (sp W wd wb we i) g2 (by omega) (by omega)
      have g5 : Rp W wd wb we (s + 1) i ≤ cst wd wb we i (sp W wd wb we i) + Rp W wd wb we s (sp W wd wb we i) := Rp_opt g1 (Nat.le_refl _)
      have g6 := cst_le (wd := wd) (wb := wb) (we := we) i (sp W wd wb we i)
      omega
    by_cases q : i < W
    · exact take q
    · have h0 : grW W wd wb we i = 0 := grW_end (by omega)
      have hs : s = 0 := by omega
      subst hs
      have := Rp_skip (W := W) (wd := wd) (wb := wb) (we := we) (s := 0) (i := i) (by decide)
      have := ih i hi (by omega) (by omega)
      omega
theorem Rp_slt (hm : Wm W wb we) (hwd : wd ≤ 40) (hg : grW W wd wb we 0 ≤ 12) : Rp W wd wb we (slt W wd wb we) 0 < NOW := by
  have h1 := Rp_fin hm (wd := wd) (slt W wd wb we) 0 (Nat.zero_le _) (by unfold slt; omega) (by unfold slt; omega)
  have h2 : wd * wd ≤ 40 * 40 := Nat.mul_le_mul hwd hwd
  have h3 : slt W wd wb we * (wd * wd) ≤ 12 * (40 * 40) := Nat.mul_le_mul (by unfold slt; omega) h2
  have hN : NOW = 1000000 := rfl
  omega
/-- along the way the price stays -/
theorem pw_fin {sl : Nat} (h : Rp W wd wb we sl 0 < NOW) : ∀ a, a ≤ sl → Rp W wd wb we (sl - a) (pw W wd wb we sl a) < NOW := by
  intro a
  induction a with
  | zero => intro _; exact h
  | succ a ih =>
    intro ha
    have h1 := ih (by omega)
    obtain ⟨t, ht⟩ : ∃ t, sl - a = t + 1 := ⟨sl - a - 1, by omega⟩
    have e1 : pw W wd wb we sl (a + 1) = nxt W wd wb we (sl - a) (pw W wd wb we sl a) := rfl
    rw [e1, ht, show sl - (a + 1) = t by omega]
    rw [ht] at h1
    have := (nxt_val h1).1
    omega
theorem pw_W (hm : Wm W wb we) {sl : Nat} (h : Rp W wd wb we sl 0 < NOW) : pw W wd wb we sl sl = W := by
  have h1 := pw_fin h sl (Nat.le_refl _)
  rw [Nat.sub_self] at h1
  unfold Rp at h1
  by_cases c : pw W wd wb we sl sl = W
  · exact c
  · rw [if_neg c] at h1; omega
/-- the reference's prices by page -/
def Lv (M : St) (W wd : Nat) (wb we : Nat → Nat) (p : Nat) : Prop := ∀ g, g < p → ∀ x, x ≤ W → M.2 30 (254 * g + x) = nI (Rp W wd wb we (2 * g) x)
theorem lyL121 (hm : Wm W wb we) (hW2 : W ≤ 240) (hwd : wd ≤ 100) (hn : ∀ k, k < W → we k < 2 ^ 20) (hfit : ∀ k, k < W → we k - wb k ≤ wd) {fu : Nat} (hfu : 2000 ≤ fu) (K : St → Int32 → Int32 → Option (Int32 × St)) {p : Nat} (hp : p ≤ 6) :
    ∀ (d q : Nat) (u : St), d ≤ W + 1 → d < q → Wr u W wb we → Lv u W wd wb we p → (∀ x, d ≤ x → x ≤ W → u.2 30 (254 * p + x) = nI (Rp W wd wb we (2 * p) x)) →
      ∃ u' : St, f_X10_lay_L121 K fu q u (nI wd) (nI p) (nI d + (-1)) = K u' (nI wd) (nI (p + 1)) ∧ Lv u' W wd wb we (p + 1) ∧ u'.1 = u.1 ∧ ∀ x, x ≠ 30 → u'.2 x = u.2 x := by
  intro d
  induction d with
  | zero =>
    intro q u hd hq hw hL hx
    obtain ⟨q, rfl⟩ : ∃ q', q = q' + 1 := ⟨q - 1, by omega⟩
    refine ⟨u, ?_, ?_, rfl, fun x _ => rfl⟩
    · rw [f_X10_lay_L121, nI_1]
      exact ip m1_neg rfl
    · intro g hg x hxW
      by_cases e : g = p
      · subst e; exact hx x (Nat.zero_le _) hxW
      · exact hL g (by omega) x hxW
  | succ d ih =>
    intro q u hd hq hw hL hx
    obtain ⟨q, rfl⟩ : ∃ q', q = q' + 1 := ⟨q - 1, by omega⟩
    have hi : (254 * nI p + nI d : Int32) = nI (254 * p + d) := by
      rw [show (254 * nI p : Int32) = nI (254 * p) from pk_mul 254 p, nI_add]
    obtain ⟨u', e1, e2, e3, e4⟩ := ih q (sA u 30 (254 * p + d) (nI (Rp W wd wb we (2 * p) d))) (by omega) (by omega) ⟨hw.1, fun j hj => by simpa [sA_2i] using hw.2 j hj⟩ (by
      intro g hg x hxW
      rw [sA_2i, if_pos rfl, if_neg (by omega)]
      exact hL g hg x hxW) (by
      intro x h1 h2
      rw [sA_2i, if_pos rfl]
      by_cases e : x = d
      · rw [e, if_pos rfl]
      · rw [if_neg (by omega)]; exact hx x (by omega) h2)
    have hw171 : f_X10_lay_L171 K (f_X10_lay_L121 K fu q) fu u (nI wd) (nI p) (nI d) (nI (Rp W wd wb we (2 * p) d)) (254 * nI p + nI d) = K u' (nI wd) (nI (p + 1)) := by
      unfold f_X10_lay_L171
      rw [hi, if_pos (inb_nI (show 254 * p + d < 1778 by omega) (by decide)), cl_nI (show 254 * p + d < 2 ^ 31 by omega)]
      exact e1
    refine ⟨u', ?_, e2, e3, fun x hx => by rw [e4 x hx, sA_2, if_neg hx]⟩
    rw [m1_nI, f_X10_lay_L121, if_neg (nI_pos (show d < 2 ^ 31 by omega))]
    by_cases c : p = 0
    · subst c
      rw [if_pos (show nI 0 = 0 from rfl), hw.1]
      by_cases c2 : d = W
      · subst c2
        rw [if_pos rfl]
        have e9 : Rp d wd wb we (2 * 0) d = 0 := by show (if d = d then 0 else NOW) = 0; rw [if_pos rfl]
        rw [e9] at hw171
        exact hw171
      · rw [if_neg (nI_neq (by omega) (by omega) c2)]
        have e9 : Rp W wd wb we (2 * 0) d = NOW := by show (if d = W then 0 else NOW) = NOW; rw [if_neg c2]
        rw [e9] at hw171
        exact hw171
    · rw [if_neg (show ¬ nI p = 0 from nI_neq (b := 0) (by omega) (by decide) c)]
      obtain ⟨p', rfl⟩ : ∃ p', p = p' + 1 := ⟨p - 1, by omega⟩
      exact bd (best_e hw hm hW2 hwd hn hfit hfu (by omega) (hL p' (by omega)) (by omega)) hw171
theorem lyL106 (hm : Wm W wb we) (hW2 : W ≤ 240) (hwd : wd ≤ 100) (hn : ∀ k, k < W → we k < 2 ^ 20) (hfit : ∀ k, k < W → we k - wb k ≤ wd) {fu : Nat} (hfu : 2000 ≤ fu) {P : Nat} (hP : P ≤ 6) :
    ∀ (m q p : Nat) (u : St), p + m = P + 1 → m < q → Wr u W wb we → u.1 32 = nI P → Lv u W wd wb we p →
      ∃ u' : St, f_X10_lay_L106 fu q u (nI wd) (nI p) = f_X10_lay_L210 fu fu (sF u' 33 (nI (Rp W wd wb we (2 * P) 0))) (nI wd) 0 (nI P) ∧ Lv u' W wd wb we (P + 1) ∧ u'.1 = u.1 ∧ ∀ x, x ≠ 30 → u'.2 x = u.2 x := by
  intro m
  induction m with
  | zero =>
    intro q p u hp hq hw h32 hL
    obtain ⟨q, rfl⟩ : ∃ q', q = q' + 1 := ⟨q - 1, by omega⟩
    have : p = P + 1 := by omega
    subst this
    refine ⟨u, ?_, hL, rfl, fun x _ => rfl⟩
    have h0 := hL P (by omega) 0 (Nat.zero_le _)
    rw [f_X10_lay_L106, h32, if_pos (nI_lt (by omega) (by omega)), show (254 * nI P : Int32) = nI (254 * P) from pk_mul 254 P, if_pos (inb_nI (show 254 * P < 1778 by omega) (by decide)), cl_nI (show 254 * P < 2 ^ 31 by omega), show u.2 30 (254 * P) = _ from h0]
  | succ m ih =>
    intro q p u hp hq hw h32 hL
    obtain ⟨q, rfl⟩ : ∃ q', q = q' + 1 := ⟨q - 1, by omega⟩
    obtain ⟨u1, e1, e2, e3, e4⟩ := lyL121 hm hW2 hwd hn hfit hfu (f_X10_lay_L106 fu q) (show p ≤ 6 by omega) (W + 1) fu u (Nat.le_refl _) (by omega) hw hL (fun x h1 h2 => by omega)
    obtain ⟨u2, g1, g2, g3, g4⟩ := ih q (p + 1) u1 (by omega) (by omega) ⟨by rw [e3]; exact hw.1, fun j hj => by rw [e4 27 (by decide), e4 28 (by decide)]; exact hw.2 j hj⟩ (by rw [e3]; exact h32) e2
    refine ⟨u2, ?_, g2, g3.trans e3, fun x hx => (g4 x hx).trans (e4 x hx)⟩
    rw [f_X10_lay_L106, h32, if_neg (show ¬ nI P < nI p from nI_nlt (by omega) (by omega)), hw.1, ← m1_nI W]
    exact e1.trans g1
end LY
