/-! look-ups, and the calls that only lead the evening -/
section CC
variable {M M' : St}
theorem RT.c {b : Nat → Int32} {s : St} (e1 : M'.1 1 = M.1 1) (e2 : M'.2 0 = M.2 0) (h : RT b s M) : RT b s M' := by
  unfold RT at *
  rw [e1, e2]
  exact h
theorem RS.c {s : St} {tg tt im bt cn : Nat} {w v bar tm : Nat → Nat} (e1 : M'.1 3 = M.1 3) (e2 : M'.1 8 = M.1 8) (e3 : M'.1 14 = M.1 14) (e4 : M'.1 7 = M.1 7) (e5 : M'.1 6 = M.1 6) (e6 : M'.2 4 = M.2 4) (e7 : M'.2 5 = M.2 5) (e8 : M'.2 9 = M.2 9) (e9 : M'.2 10 = M.2 10) (e10 : M'.2 11 = M.2 11) (h : RS s M tg tt im bt cn w v bar tm) : RS s M' tg tt im bt cn w v bar tm := by
  unfold RS at *
  rw [e1, e2, e3, e4, e5, e6, e7, e8, e9, e10]
  exact h
theorem RX.c {b : Nat → Int32} {s : St} {tg tt : Nat} {w fr ns : Nat → Nat} {hs : Nat → Nat → Nat} (e1 : M'.2 15 = M.2 15) (e2 : M'.2 16 = M.2 16) (e3 : M'.2 17 = M.2 17) (h : RX b s M tg tt w fr ns hs) : RX b s M' tg tt w fr ns hs := by
  unfold RX at *
  rw [e1, e2, e3]
  exact h
theorem RW.c {r1 : Nat} {F : FSt} {Lk : List Nat} {ck : Nat → Nat × (Nat → Int32)} {tg tt : Nat} {w ns : Nat → Nat} {hs : Nat → Nat → Nat} {ch : Nat → Bool} (e1 : M'.2 19 = M.2 19) (e2 : M'.2 20 = M.2 20) (e3 : M'.2 21 = M.2 21) (h : RW r1 F Lk ck M tg tt w ns hs ch) : RW r1 F Lk ck M' tg tt w ns hs ch := by
  unfold RW at *
  rw [e1, e2, e3]
  exact h
theorem RF.c {s : St} (e1 : M'.1 39 = M.1 39) (e2 : M'.1 40 = M.1 40) (h : RF s M) : RF s M' := by
  unfold RF at *
  rw [e1, e2]
  exact h
theorem RR.c {r1 r2 : Nat} {Lk : List Nat} {ck : Nat → Nat × (Nat → Int32)} (e1 : M'.2 54 = M.2 54) (h : RR r1 r2 Lk ck M) : RR r1 r2 Lk ck M' := by
  unfold RR at *
  rw [e1]
  exact h
end CC
theorem nI_is {x : Int32} (L : Nat) (hL : L < 2 ^ 31) (h0 : ¬ x < 0) (h : ¬ nI L ≤ x) : ∃ j, j < L ∧ x = nI j := by
  obtain ⟨j, h1, h2, -⟩ := pk_mu h0 h hL
  exact ⟨j, h1, h2⟩
section LK
variable {s M : St} {tg tt im bt cn : Nat} {w v bar tm : Nat → Nat}
theorem tongue_e (R : RS s M tg tt im bt cn w v bar tm) (fu : Nat) (x : Int32) : (∃ g, g < tg ∧ x = nI g ∧ f_X5_hasTongue fu s x = some 1 ∧ f_X10_isTongue fu M x = some 1) ∨ (f_X5_hasTongue fu s x = some 0 ∧ f_X10_isTongue fu M x = some 0) := by
  obtain ⟨⟨h1, h2, h3, h4⟩, -⟩ := R
  unfold f_X5_hasTongue f_X10_isTongue
  rw [h1, h2]
  by_cases c0 : x < 0
  · exact Or.inr ⟨if_pos c0, if_pos c0⟩
  · by_cases c1 : nI tg ≤ x
    · exact Or.inr ⟨iN c0 (if_pos c1), iN c0 (if_pos c1)⟩
    · obtain ⟨g, g1, rfl⟩ := nI_is tg (by omega) c0 c1
      exact Or.inl ⟨g, g1, rfl, iN c0 (iN c1 (if_neg (nI_ge (a := g) (b := 4) (by omega) (by decide)))), iN c0 (if_neg c1)⟩
theorem title_e (R : RS s M tg tt im bt cn w v bar tm) (fu : Nat) (x : Int32) : (∃ t, t < tt ∧ x = nI t ∧ f_X5_hasTitle fu s x = some 1 ∧ f_X10_isTitle fu M x = some 1) ∨ (f_X5_hasTitle fu s x = some 0 ∧ f_X10_isTitle fu M x = some 0) := by
  obtain ⟨-, ⟨h1, h2, h3⟩, -⟩ := R
  unfold f_X5_hasTitle f_X10_isTitle
  rw [h1, h2]
  by_cases c0 : x < 0
  · exact Or.inr ⟨if_pos c0, if_pos c0⟩
  · by_cases c1 : nI tt ≤ x
    · exact Or.inr ⟨iN c0 (if_pos c1), iN c0 (if_pos c1)⟩
    · obtain ⟨g, g1, rfl⟩ := nI_is tt (by omega) c0 c1
      exact Or.inl ⟨g, g1, rfl, iN c0 (iN c1 (if_neg (nI_ge (a := g) (b := 40) (by omega) (by decide)))), iN c0 (if_neg c1)⟩
theorem hasTongue_1 (R : RS s M tg tt im bt cn w v bar tm) (fu : Nat) {g : Nat} (hg : g < tg) : f_X5_hasTongue fu s (nI g) = some 1 := by
  obtain ⟨⟨h1, h2, h3, h4⟩, -⟩ := R
  unfold f_X5_hasTongue
  rw [h1]
  exact iN (nI_pos (by omega)) (iN (nI_ge hg (by omega)) (if_neg (nI_ge (a := g) (b := 4) (by omega) (by decide))))
theorem hasTitle_1 (R : RS s M tg tt im bt cn w v bar tm) (fu : Nat) {t : Nat} (ht : t < tt) : f_X5_hasTitle fu s (nI t) = some 1 := by
  obtain ⟨-, ⟨h1, h2, h3⟩, -⟩ := R
  unfold f_X5_hasTitle
  rw [h1]
  exact iN (nI_pos (by omega)) (iN (nI_ge ht (by omega)) (if_neg (nI_ge (a := t) (b := 40) (by omega) (by decide))))
theorem widthOf_e (R : RS s M tg tt im bt cn w v bar tm) (fu : Nat) {g : Nat} (hg : g < tg) : f_X5_widthOf fu s (nI g) = some (nI (wdt w g)) := by
  have hg4 : tg ≤ 4 := R.1.2.2.2
  obtain ⟨-, -, -, -, -, h, -⟩ := id R
  have h1 := (h g (by omega)).1
  have h2 := (h g (by omega)).2.2
  unfold f_X5_widthOf f_X5_tellsW
  rw [hasTongue_1 R fu hg]
  unfold wdt
  by_cases c : w g = 0
  · refine bd (r := 0) (bd rfl (iN (by decide) (iN (nI_ge (a := g) (b := 4) (by omega) (by decide)) ?_))) ?_
    · rw [if_pos (inb_nI (show g < 4 by omega) (by decide)), cl_nI (show g < 2 ^ 31 by omega), h1, c]
      exact ip (by decide) rfl
    · rw [if_pos c]; exact ip rfl rfl
  · refine bd (r := 1) (bd rfl (iN (by decide) (iN (nI_ge (a := g) (b := 4) (by omega) (by decide)) ?_))) ?_
    · rw [if_pos (inb_nI (show g < 4 by omega) (by decide)), cl_nI (show g < 2 ^ 31 by omega), h1]
      exact iN (nI_nle (by omega) (by omega)) rfl
    · rw [if_neg c, if_neg (by decide), if_pos (inb_nI (show g < 4 by omega) (by decide)), cl_nI (show g < 2 ^ 31 by omega), h1]
def spd (v : Nat → Nat) (g : Nat) : Nat := if v g = 0 then 4 else v g
theorem speedOf_e (R : RS s M tg tt im bt cn w v bar tm) (fu : Nat) {g : Nat} (hg : g < tg) : f_X5_speedOf fu s (nI g) = some (nI (spd v g)) := by
  have hg4 : tg ≤ 4 := R.1.2.2.2
  obtain ⟨-, -, -, -, -, -, h, -⟩ := id R
  have h1 := (h g (by omega)).1
  have h2 := (h g (by omega)).2.2
  unfold f_X5_speedOf f_X5_tellsS
  rw [hasTongue_1 R fu hg]
  unfold spd
  by_cases c : v g = 0
  · refine bd (r := 0) (bd rfl (iN (by decide) (iN (nI_ge (a := g) (b := 4) (by omega) (by decide)) ?_))) ?_
    · rw [if_pos (inb_nI (show g < 4 by omega) (by decide)), cl_nI (show g < 2 ^ 31 by omega), h1, c]
      exact ip (by decide) rfl
    · rw [if_pos c]; exact ip rfl rfl
  · refine bd (r := 1) (bd rfl (iN (by decide) (iN (nI_ge (a := g) (b := 4) (by omega) (by decide)) ?_))) ?_
    · rw [if_pos (inb_nI (show g < 4 by omega) (by decide)), cl_nI (show g < 2 ^ 31 by omega), h1]
      exact iN (nI_nle (by omega) (by omega)) rfl
    · rw [if_neg c, if_neg (by decide), if_pos (inb_nI (show g < 4 by omega) (by decide)), cl_nI (show g < 2 ^ 31 by omega), h1]
theorem beats_e (R : RS s M tg tt im bt cn w v bar tm) (fu : Nat) : f_X5_beatsOfBar fu s = some (nI (if bt = 0 then 4 else bt)) := by
  obtain ⟨-, -, -, -, ⟨h1, h2, h3⟩, -⟩ := R
  unfold f_X5_beatsOfBar f_X5_tellsBeats
  rw [h1]
  by_cases c : bt = 0
  · rw [if_pos c, c]; exact bd (if_pos (by decide)) (ip rfl rfl)
  · rw [if_neg c]; exact bd (if_neg (nI_nle (by omega) (by omega))) (iN (by decide) rfl)
theorem barOf_e (R : RS s M tg tt im bt cn w v bar tm) (fu : Nat) {t : Nat} (ht : t < tt) : f_X5_barOf fu s (nI t) = some (nI (bar (tm t))) := by
  obtain ⟨-, ⟨-, -, hn⟩, -, ⟨h1, h2, h3⟩, -, -, -, hb, -, htm, -⟩ := id R
  have g1 := htm t ht
  have g2 := hb (tm t) g1.2.2.1
  unfold f_X5_barOf f_X5_barOfMark
  rw [hasTitle_1 R fu ht]
  refine bd rfl (iN (by decide) ?_)
  rw [if_pos (inb_nI (show t < 40 by omega) (by decide)), cl_nI (show t < 2 ^ 31 by omega), g1.1, h1]
  refine bd (iN (nI_pos (by omega)) (iN (nI_ge g1.2.2.1 (by omega)) (iN (nI_ge (a := tm t) (b := 40) (by omega) (by decide)) ?_))) rfl
  rw [if_pos (inb_nI (show tm t < 40 by omega) (by decide)), cl_nI (show tm t < 2 ^ 31 by omega), g2.1]
/-- where a title ends -/
def eN (im : Nat) (bar : Nat → Nat) (k : Nat) : Nat := if k + 1 < im then bar (k + 1) else 1000
theorem eN_le (R : RS s M tg tt im bt cn w v bar tm) (k : Nat) : eN im bar k ≤ 1000 := by
  obtain ⟨-, -, -, -, -, -, -, hb, -⟩ := R
  unfold eN
  by_cases c : k + 1 < im
  · rw [if_pos c]; have := (hb (k + 1) c).2.2; omega
  · rw [if_neg c]; exact Nat.le_refl _
theorem endOf_e (R : RS s M tg tt im bt cn w v bar tm) (fu : Nat) {t : Nat} (ht : t < tt) : f_X5_endOf fu s (nI t) = some (nI (eN im bar (tm t))) := by
  obtain ⟨-, ⟨-, -, hn⟩, -, ⟨h1, h2, h3⟩, -, -, -, hb, -, htm, -⟩ := id R
  have g1 := htm t ht
  unfold f_X5_endOf f_X5_barOfMark
  rw [hasTitle_1 R fu ht]
  refine bd rfl (iN (by decide) ?_)
  rw [if_pos (inb_nI (show t < 40 by omega) (by decide)), cl_nI (show t < 2 ^ 31 by omega), g1.1, h1, nI_1]
  unfold eN
  by_cases c : tm t + 1 < im
  · have g2 := hb (tm t + 1) c
    refine bd (iN (nI_pos (by omega)) (iN (nI_ge c (by omega)) (iN (nI_ge (a := tm t + 1) (b := 40) (by omega) (by decide)) ?_))) rfl
    rw [if_pos (inb_nI (show tm t + 1 < 40 by omega) (by decide)), cl_nI (show tm t + 1 < 2 ^ 31 by omega), g2.1, if_pos c]
  · refine bd (iN (nI_pos (by omega)) (ip (nI_le (by omega) (by omega)) rfl)) ?_
    rw [if_neg c]; rfl
theorem endOfM_e (R : RS s M tg tt im bt cn w v bar tm) (fu : Nat) {t : Nat} (ht : t < tt) : f_X10_endOf fu M (nI (tm t)) = some (nI (eN im bar (tm t))) := by
  obtain ⟨-, ⟨-, -, hn⟩, -, ⟨h1, h2, h3⟩, -, -, -, hb, -, htm, -⟩ := id R
  have g1 := htm t ht
  unfold f_X10_endOf eN
  rw [h2, nI_1]
  by_cases c : tm t + 1 < im
  · rw [if_neg (nI_ge c (by omega)), if_pos (inb_nI (show tm t + 1 < 40 by omega) (by decide)), cl_nI (show tm t + 1 < 2 ^ 31 by omega), (hb (tm t + 1) c).2.1, if_pos c]
  · rw [if_pos (nI_le (by omega) (by omega)), if_neg c]; rfl
theorem isThere_1 (R : RS s M tg tt im bt cn w v bar tm) (fu : Nat) (s0 : St) {t g : Nat} (ht : t < tt) (hg : g < tg) : f_X0_isThere fu s0 s (nI t) (nI g) = some 1 := by
  unfold f_X0_isThere
  rw [hasTitle_1 R fu ht, hasTongue_1 R fu hg]
  exact bd rfl (iN (by decide) (bd rfl (iN (by decide) rfl)))
theorem wordingOf_1 (R : RS s M tg tt im bt cn w v bar tm) (fu : Nat) (s0 : St) {t g : Nat} (ht : t < tt) (hg : g < tg) : f_X0_wordingOf fu s0 s (nI t) (nI g) = some (4 * t + g) := by
  have hg4 : tg ≤ 4 := R.1.2.2.2
  have ht4 : tt ≤ 40 := R.2.1.2.2
  unfold f_X0_wordingOf
  rw [isThere_1 R fu s0 ht hg]
  refine bd rfl (iN (by decide) ?_)
  have e : (nI t * 4 + nI g : Int32) = nI (4 * t + g) := by
    rw [show (nI t * 4 : Int32) = nI (t * 4) from pk_mul t 4, nI_add, Nat.mul_comm t 4]
  rw [e, if_pos (inb_nI (show 4 * t + g < 160 by omega) (by decide)), cl_nI (show 4 * t + g < 2 ^ 31 by omega)]
end LK
theorem t_fault (fu : Nat) : T_fault Rel fu := by
  intro r1 r2 s1 s2 s3 s4 s5 s6 s9 s10 s11 s12 Lk ck M hR a
  obtain ⟨tg, tt, im, bt, cn, w, v, bar, tm, fr, ns, hs, on, ch, cf, ct, h1, h2, h3, h4, h5, h6, h7⟩ := id hR
  have hm := Rel.mc (MC_t M 0) hR
  unfold f_X9_fault f_X10_fault
  by_cases c0 : a = 0
  · exact ⟨_, _, if_pos c0, by rw [if_pos c0, h6.1], hm⟩
  · by_cases c1 : a = 1
    · exact ⟨_, _, iN c0 (if_pos c1), by rw [if_neg c0, if_pos c1, h6.2], hm⟩
    · exact ⟨_, _, iN c0 (if_neg c1), iN c0 (if_neg c1), hm⟩
theorem t_count (fu : Nat) : T_count Rel fu := by
  intro r1 r2 s1 s2 s3 s4 s5 s6 s9 s10 s11 s12 Lk ck M hR a
  obtain ⟨tg, tt, im, bt, cn, w, v, bar, tm, fr, ns, hs, on, ch, cf, ct, h1, R, h3, ⟨-, -, ⟨p, p1, p2, -⟩, f, d, f1, f2, d1, d2, -⟩, h5, h6, h7⟩ := id hR
  have hm := Rel.mc (MC_t M 0) hR
  have hw := widthOf_e R fu (show 0 < tg from R.1.2.2.1)
  have hv := speedOf_e R fu (show 0 < tg from R.1.2.2.1)
  have hb := beats_e R fu
  obtain ⟨⟨a1, a2, -⟩, ⟨b1', b2, -⟩, ⟨c1, c2⟩, -, ⟨-, e2, -⟩, w5, v5, -⟩ := id R
  unfold f_X9_count f_X10_count
  rw [a1, a2, b1', b2, c1, c2, p1, p2, f1, f2, d1, d2, e2]
  by_cases q0 : a = 0
  · exact ⟨_, _, if_pos q0, if_pos q0, hm⟩
  rw [if_neg q0, if_neg q0]
  by_cases q1 : a = 1
  · exact ⟨_, _, if_pos q1, if_pos q1, hm⟩
  rw [if_neg q1, if_neg q1]
  by_cases q2 : a = 2
  · exact ⟨_, _, if_pos q2, if_pos q2, hm⟩
  rw [if_neg q2, if_neg q2]
  by_cases q3 : a = 3
  · exact ⟨_, _, if_pos q3, if_pos q3, hm⟩
  rw [if_neg q3, if_neg q3]
  by_cases q4 : a = 4
  · rw [if_pos q4, if_pos q4]
    by_cases qf : nI (b1 f) = 0
    · exact ⟨_, _, if_pos qf, if_pos qf, hm⟩
    · exact ⟨_, _, if_neg qf, if_neg qf, hm⟩
  rw [if_neg q4, if_neg q4]
  by_cases q5 : a = 5
  · exact ⟨_, _, if_pos q5, if_pos q5, hm⟩
  rw [if_neg q5, if_neg q5]
  by_cases q6 : a = 6
  · exact ⟨_, _, ip q6 (bd hw rfl), ip q6 (ip (by decide) (by rw [show (0 : Int32).toNatClampNeg = 0 from rfl, (w5 0 (by decide)).2.1])), hm⟩
  rw [if_neg q6, if_neg q6]
  by_cases q7 : a = 7
  · exact ⟨_, _, ip q7 (bd hv rfl), ip q7 (ip (by decide) (by rw [show (0 : Int32).toNatClampNeg = 0 from rfl, (v5 0 (by decide)).2.1]; rfl)), hm⟩
  rw [if_neg q7, if_neg q7]
  by_cases q8 : a = 8
  · exact ⟨_, _, ip q8 (bd hb rfl), if_pos q8, hm⟩
  rw [if_neg q8, if_neg q8]
  exact ⟨_, _, rfl, rfl, hm⟩
