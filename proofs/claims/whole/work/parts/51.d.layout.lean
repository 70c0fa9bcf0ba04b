/-! the class's layOut -/
def slt (W wd : Nat) (wb we : Nat → Nat) : Nat := 2 * ((grW W wd wb we 0 + 1) / 2)
/-- a wording as laid out: its string by fr, n; its rows -/
def Lw (v : St) (W wd : Nat) (wb we : Nat → Nat) : Prop := (∀ b, b < slt W wd wb we → v.2 6 b = nI (re W wd wb we (slt W wd wb we) b)) ∧ v.1 4 = nI (slt W wd wb we / 2) ∧ v.1 5 = nI (Rp W wd wb we (slt W wd wb we) 0)
theorem layOut_e {h : Nat → Nat} {n W wd : Nat} {wb we : Nat → Nat} {v : St} {n2 fr : Nat} {b2 : Nat → Int32} (H : Wds h n W wb we) (hW : W ≤ 240) (hf : v.1 1 = nI fr) (hl : v.1 2 = nI n) (hb : ∀ i, i < n → b2 (fr + i) = nI (h i)) (hn2 : fr + n ≤ n2) (hn3 : n2 ≤ 1500) (hh : ∀ i, i < n → h i < 256) (hwd : wd ≤ 100) (hfit : ∀ k, k < W → we k - wb k ≤ wd) (hg : grW W wd wb we 0 ≤ 12) {fu : Nat} (hfu : 2000 ≤ fu) (s0 s1 : St) :
    ∃ (t0 t1 v' : St), f_X1_layOut fu n2 b2 s0 s1 v (nI wd) = some (t0, t1, v') ∧ Lw v' W wd wb we ∧ ∀ x, x ≠ 4 → x ≠ 5 → v'.1 x = v.1 x := by
  obtain ⟨u1, e1, e2, e3, e4⟩ := findWords_e H hW hf hl hb hn2 (by omega) hh (show n + 2 < fu by omega) (sF s0 7 (nI wd))
  have hwe : ∀ k, k < W → we k < 2 ^ 20 := fun k hk => by have := (H.2.2.2.1 k hk).2.1; omega
  have h7 : u1.1 7 = nI wd := by rw [e4 7 (by decide), sF_1, if_pos rfl]
  obtain ⟨u2, g1, g2, g3, g4, g5⟩ := fillRows_e (wd := wd) H.m H.1 hW (by omega) hwe (show 300 ≤ fu by omega) s1 u1 ⟨e2, h7, e3⟩
  have h0 := (g3 0 (Nat.le_refl _) (Nat.zero_le _)).2
  have hs : slt W wd wb we ≤ 12 := by unfold slt; omega
  have hsl : (if (((((u2.2 3 (0 : Int32).toNatClampNeg) + 2) - 1) / 2) * 2) < 12 then (((((u2.2 3 (0 : Int32).toNatClampNeg) + 2) - 1) / 2) * 2) else 12) = nI (slt W wd wb we) := by
    have a1 : ((((u2.2 3 (0 : Int32).toNatClampNeg) + 2) - 1) / 2) * 2 = nI (slt W wd wb we) := by
      rw [show (0 : Int32).toNatClampNeg = 0 from rfl, h0, show (nI (grW W wd wb we 0) + 2 : Int32) = nI (grW W wd wb we 0 + 2) from nI_add _ _, show (nI (grW W wd wb we 0 + 2) - 1 : Int32) = nI (grW W wd wb we 0 + 1) from pk_sub (show 1 ≤ grW W wd wb we 0 + 2 by omega), show (nI (grW W wd wb we 0 + 1) / 2 : Int32) = nI ((grW W wd wb we 0 + 1) / 2) from pk_div (by omega) (by decide) (by decide)]
      unfold slt
      rw [Nat.mul_comm 2]
      exact pk_mul _ 2
    rw [a1]
    by_cases c : slt W wd wb we < 12
    · exact if_pos (nI_lt (b := 12) c (by decide))
    · rw [if_neg (show ¬ nI (slt W wd wb we) < 12 from nI_nlt (b := 12) (by omega) (by omega)), show slt W wd wb we = 12 by omega]; rfl
  obtain ⟨w0, hw0⟩ : ∃ w0, w0 = sF u2 8 (nI (slt W wd wb we)) := ⟨_, rfl⟩
  have hq : Bq w0 W wd wb we (slt W wd wb we) := by
    rw [hw0]
    refine ⟨⟨by rw [sF_1, if_neg (by decide)]; exact g2.1, by rw [sF_1, if_neg (by decide)]; exact g2.2.1, g2.2.2⟩, g3, g4, by rw [sF_1, if_pos rfl], H.m, hW, hs, by unfold slt; omega, hwd, hwe, hfit⟩
  obtain ⟨u3, k1, k2⟩ := fpL2 (s0 := w0) (W := W) (sl := slt W wd wb we) (show 300 ≤ fu by omega) hq.1.1 hq.2.2.2.1 hW hs (slt W wd wb we + 1) fu 0 s1 (by omega) (by omega) (fun b x hb _ => absurd hb (Nat.not_lt_zero _))
  obtain ⟨u4, l1, l2⟩ := priceWays_e hq (show 300 ≤ fu by omega) k2
  obtain ⟨v', m1, m2, m3, m4, m5⟩ := wrL4 hq (show 300 ≤ fu by omega) l2 (slt W wd wb we) fu 0 v (by omega) (by omega) (fun b hb => absurd hb (Nat.not_lt_zero _))
  refine ⟨w0, u4, v', ?_, ⟨m2, m3, m4⟩, m5⟩
  unfold f_X1_layOut
  refine bd e1 (bd g1 ?_)
  rw [if_pos (show inb (0 : Int32) 241 = true by decide), if_pos (show nz 2 = true by decide), hsl, ← hw0]
  refine bd (show f_X1_forgetPrices fu w0 s1 = some u3 from k1) (bd l1 (bd (show f_X1_writeRows fu w0 u4 v = some v' from m1) rfl))
