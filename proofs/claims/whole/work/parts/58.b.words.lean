/-! the seven words on both sides -/
def wls : List (List Nat) := [[116, 111, 110, 103, 117, 101, 115], [119, 105, 100, 116, 104], [115, 112, 101, 101, 100], [98, 101, 97, 116, 115], [97, 116], [98, 108, 97, 110, 107], [99, 117, 116]]
def wch (j i : Nat) : Nat := (wls.getD j []).getD i 0
def woff (j : Nat) : Nat := ([0, 8, 14, 20, 26, 29, 35, 39] : List Nat).getD j 0
theorem w_byt {j i : Nat} (hj : j < 7) (hi : i < slen j) : sbyt j i = nI (wch j i) ∧ wch j i < 128 := by
  have key : ∀ j : Fin 7, ∀ i : Fin 8, i.val < slen j.val → sbyt j.val i.val = nI (wch j.val i.val) ∧ wch j.val i.val < 128 := by decide +kernel
  have hs : ∀ j : Fin 7, slen j.val ≤ 7 := by decide +kernel
  have := hs ⟨j, hj⟩
  exact key ⟨j, hj⟩ ⟨i, by simp only at this; omega⟩ hi
theorem w_len {j : Nat} (hj : j < 7) : 0 < slen j ∧ slen j ≤ 7 ∧ woff (j + 1) = woff j + slen j + 1 ∧ woff (j + 1) ≤ 39 := by
  have hs : ∀ j : Fin 7, 0 < slen j.val ∧ slen j.val ≤ 7 ∧ woff (j.val + 1) = woff j.val + slen j.val + 1 ∧ woff (j.val + 1) ≤ 39 := by decide +kernel
  exact hs ⟨j, hj⟩
theorem w_row {j i : Nat} (hj : j < 7) (hi : i ≤ slen j) : s10i.2 54 (woff j + i) = nI (if i < slen j then wch j i else 32) ∧ (i < slen j → wch j i ≠ 32) := by
  have key : ∀ j : Fin 7, ∀ i : Fin 8, i.val ≤ slen j.val → s10i.2 54 (woff j.val + i.val) = nI (if i.val < slen j.val then wch j.val i.val else 32) ∧ (i.val < slen j.val → wch j.val i.val ≠ 32) := by decide +kernel
  have hs := (w_len hj).2.1
  exact key ⟨j, hj⟩ ⟨i, by omega⟩ hi
/-- the word j stands from pl up to bh -/
def isW (h : Nat → Nat) (pl bh j : Nat) : Prop := bh - pl = slen j ∧ ∀ i, i < slen j → h (pl + i) = wch j i
theorem isW_one {h : Nat → Nat} {pl bh j k : Nat} (hj : j < 7) (hk : k < 7) (a : isW h pl bh j) (b : isW h pl bh k) : j = k := by
  have key : ∀ j k : Fin 7, j.val ≠ k.val → slen j.val ≠ slen k.val ∨ ∃ i : Fin 7, i.val < slen j.val ∧ i.val < slen k.val ∧ wch j.val i.val ≠ wch k.val i.val := by decide +kernel
  rcases Nat.decEq j k with c | c
  · rcases key ⟨j, hj⟩ ⟨k, hk⟩ c with q | ⟨i, q1, q2, q3⟩
    · exact absurd (a.1.symm.trans b.1) q
    · exact absurd ((a.2 i.val q1).symm.trans (b.2 i.val q2)) q3
  · exact c
section WRD
variable {h : Nat → Nat} {n : Nat} {b : Nat → Int32} {fu : Nat}
theorem isWordL28 (C : CX h n b) {u : St} {pl bh j : Nat} (h2 : u.1 2 = nI pl) (hj : j < 7) (hbh : bh ≤ n) (hl : bh - pl = slen j) (hpl : pl < bh) : ∀ (m q i : Nat), i + m = slen j → m < q → (∀ k, k < i → h (pl + k) = wch j k) → (isW h pl bh j → f_X4_isWord_L28 fu j u b q (nI i) = some 1) ∧ (¬ isW h pl bh j → f_X4_isWord_L28 fu j u b q (nI i) = some 0) := by
  obtain ⟨hn, hb⟩ := C
  have hs := (w_len hj).2.1
  intro m
  induction m with
  | zero =>
    intro q i hi hq hk
    obtain ⟨q, rfl⟩ : ∃ q', q = q' + 1 := ⟨q - 1, by omega⟩
    rw [f_X4_isWord_L28, if_pos (nI_le (show slen j ≤ i by omega) (by omega))]
    exact ⟨fun _ => rfl, fun g => absurd ⟨hl, fun k hk2 => hk k (by omega)⟩ g⟩
  | succ m ih =>
    intro q i hi hq hk
    obtain ⟨q, rfl⟩ : ∃ q', q = q' + 1 := ⟨q - 1, by omega⟩
    have hhb := hb (pl + i) (by omega)
    have hw := w_byt hj (show i < slen j by omega)
    rw [f_X4_isWord_L28, if_neg (nI_ge (show i < slen j by omega) (by omega)), h2, nI_add, if_pos (inb_nI (show pl + i < 1500 by omega) (by decide)), if_pos (inb_nI (show i < slen j by omega) (by omega)), cl_nI (show pl + i < 2 ^ 31 by omega), cl_nI (show i < 2 ^ 31 by omega), hhb.2, hw.1, nI_1]
    by_cases c : h (pl + i) = wch j i
    · rw [if_pos ((sb_eq hhb.1 hw.2).mpr c)]
      exact ih q (i + 1) (by omega) (by omega) (fun k hk2 => by
        by_cases e : k = i
        · rw [e]; exact c
        · exact hk k (by omega))
    · rw [if_neg (fun e => c ((sb_eq hhb.1 hw.2).mp e))]
      exact ⟨fun g => absurd (g.2 i (by omega)) c, fun _ => rfl⟩
theorem isWord_e (C : CX h n b) {u : St} {pl bh j : Nat} (hfu : 2000 ≤ fu) (h1 : u.1 1 = 1) (h2 : u.1 2 = nI pl) (h5 : u.1 5 = nI bh) (hj : j < 7) (hbh : bh ≤ n) (hpl : pl < bh) : (isW h pl bh j → f_X4_isWord fu j u b = some 1) ∧ (¬ isW h pl bh j → f_X4_isWord fu j u b = some 0) := by
  have hn := C.1
  have hs := (w_len hj).2.1
  unfold f_X4_isWord
  rw [if_pos h1, h5, h2, pk_sub (by omega)]
  by_cases c : bh - pl = slen j
  · rw [if_pos (show nI (bh - pl) = nI (slen j) by rw [c])]
    exact isWordL28 C h2 hj hbh c hpl (slen j) fu 0 (by omega) (by omega) (fun k hk => absurd hk (Nat.not_lt_zero _))
  · rw [if_neg (nI_neq (by omega) (by omega) c)]
    exact ⟨fun g => absurd g.1 c, fun _ => rfl⟩
theorem wordAtL57 (hn : n ≤ 1500) (hh : ∀ i, i < n → h i < 256) {M : St} (T : TM h n M) {pl bh j : Nat} (hj : j < 7) (hbh : bh ≤ n) (hl : bh - pl = slen j) (hpl : pl < bh) (K : Int32 → Int32 → Int32 → Int32 → Option Int32) (x3 : Int32) : ∀ (m q i : Nat), i + m = slen j → m < q → (∀ k, k < i → h (pl + k) = wch j k) → (isW h pl bh j → f_X10_wordAt_L57 K fu M q (nI pl) (nI bh) x3 (nI (woff j)) (nI (slen j)) 1 (nI i) = some x3) ∧ (¬ isW h pl bh j → f_X10_wordAt_L57 K fu M q (nI pl) (nI bh) x3 (nI (woff j)) (nI (slen j)) 1 (nI i) = K (nI pl) (nI bh) (x3 + 1) (nI (woff (j + 1)))) := by
  obtain ⟨-, h0, h54⟩ := T
  have hs := w_len hj
  have hk4 : (nI (woff j) + (nI (slen j) + 1) : Int32) = nI (woff (j + 1)) := by
    rw [nI_1, nI_add, hs.2.2.1]; congr 1
  intro m
  induction m with
  | zero =>
    intro q i hi hq hk
    obtain ⟨q, rfl⟩ : ∃ q', q = q' + 1 := ⟨q - 1, by omega⟩
    rw [f_X10_wordAt_L57, if_pos (nI_le (show slen j ≤ i by omega) (by omega))]
    unfold f_X10_wordAt_L104
    rw [if_neg (show ¬ (1 : Int32) = 0 by decide)]
    exact ⟨fun _ => rfl, fun g => absurd ⟨hl, fun k hk2 => hk k (by omega)⟩ g⟩
  | succ m ih =>
    intro q i hi hq hk
    obtain ⟨q, rfl⟩ : ∃ q', q = q' + 1 := ⟨q - 1, by omega⟩
    have hw := w_byt hj (show i < slen j by omega)
    have hr := (w_row hj (show i ≤ slen j by omega)).1
    have h9 := hh (pl + i) (by omega)
    rw [if_pos (show i < slen j by omega)] at hr
    rw [f_X10_wordAt_L57, if_neg (nI_ge (show i < slen j by omega) (by omega)), if_neg (show ¬ (1 : Int32) = 0 by decide), nI_add, nI_add, if_pos (inb_nI (show woff j + i < 39 by omega) (by decide)), if_pos (inb_nI (show pl + i < 1500 by omega) (by decide)), cl_nI (show pl + i < 2 ^ 31 by omega), cl_nI (show woff j + i < 2 ^ 31 by omega), h54, hr, h0 _ (show pl + i < n by omega), nI_1]
    by_cases c : h (pl + i) = wch j i
    · rw [if_pos (show nI (wch j i) = nI (h (pl + i)) by rw [c])]
      exact ih q (i + 1) (by omega) (by omega) (fun k hk2 => by
        by_cases e : k = i
        · rw [e]; exact c
        · exact hk k (by omega))
    · rw [if_neg (nI_neq (by omega) (by omega) (fun e => c e.symm))]
      refine ⟨fun g => absurd (g.2 i (by omega)) c, fun _ => ?_⟩
      obtain ⟨q, rfl⟩ : ∃ q', q = q' + 1 := ⟨q - 1, by omega⟩
      rw [f_X10_wordAt_L57]
      unfold f_X10_wordAt_L104
      rw [if_pos (show (0 : Int32) = 0 from rfl), if_pos (show (0 : Int32) = 0 from rfl), hk4]
      split <;> rfl
theorem wordAtL18 (hn : n ≤ 1500) (hh : ∀ i, i < n → h i < 256) {M : St} (T : TM h n M) {pl bh j : Nat} (hfu : 2000 ≤ fu) (hj : j < 7) (hbh : bh ≤ n) (hpl : pl < bh) (K : Int32 → Int32 → Int32 → Int32 → Option Int32) (x3 : Int32) : ∀ (m q i : Nat), i + m = slen j → m < q → (isW h pl bh j → f_X10_wordAt_L18 K fu M q (nI pl) (nI bh) x3 (nI (woff j)) (nI i) = some x3) ∧ (¬ isW h pl bh j → f_X10_wordAt_L18 K fu M q (nI pl) (nI bh) x3 (nI (woff j)) (nI i) = K (nI pl) (nI bh) (x3 + 1) (nI (woff (j + 1)))) := by
  obtain ⟨-, h0, h54⟩ := id T
  have hs := w_len hj
  have hk4 : (nI (woff j) + (nI (slen j) + 1) : Int32) = nI (woff (j + 1)) := by
    rw [nI_1, nI_add, hs.2.2.1]; congr 1
  intro m
  induction m with
  | zero =>
    intro q i hi hq
    obtain ⟨q, rfl⟩ : ∃ q', q = q' + 1 := ⟨q - 1, by omega⟩
    have hie : i = slen j := by omega
    subst hie
    have hr := (w_row hj (Nat.le_refl (slen j))).1
    rw [if_neg (Nat.lt_irrefl _)] at hr
    rw [f_X10_wordAt_L18, nI_add, if_pos (inb_nI (show woff j + slen j < 39 by omega) (by decide)), cl_nI (show woff j + slen j < 2 ^ 31 by omega), h54, hr, if_pos (show nI 32 = 32 from rfl), pk_sub (show pl ≤ bh by omega)]
    by_cases c : bh - pl = slen j
    · rw [if_pos (show nI (slen j) = nI (bh - pl) by rw [c])]
      exact wordAtL57 hn hh T hj hbh c hpl K x3 (slen j) fu 0 (by omega) (by omega) (fun k hk => absurd hk (Nat.not_lt_zero _))
    · rw [if_neg (nI_neq (by omega) (by omega) (fun e => c e.symm))]
      refine ⟨fun g => absurd g.1 c, fun _ => ?_⟩
      obtain ⟨f, rfl⟩ : ∃ f, fu = f + 1 := ⟨fu - 1, by omega⟩
      rw [f_X10_wordAt_L57, if_neg (show ¬ nI (slen j) ≤ 0 from nI_nle hs.1 (by omega)), if_pos (show (0 : Int32) = 0 from rfl)]
      unfold f_X10_wordAt_L104
      rw [if_pos (show (0 : Int32) = 0 from rfl), hk4]
  | succ m ih =>
    intro q i hi hq
    obtain ⟨q, rfl⟩ : ∃ q', q = q' + 1 := ⟨q - 1, by omega⟩
    have hr := w_row hj (show i ≤ slen j by omega)
    have hr1 := hr.1
    have hw := w_byt hj (show i < slen j by omega)
    rw [if_pos (show i < slen j by omega)] at hr1
    rw [f_X10_wordAt_L18, nI_add, if_pos (inb_nI (show woff j + i < 39 by omega) (by decide)), cl_nI (show woff j + i < 2 ^ 31 by omega), h54, hr1, if_neg (show ¬ nI (wch j i) = 32 from nI_neq (b := 32) (by omega) (by decide) (hr.2 (by omega))), nI_1]
    exact ih q (i + 1) (by omega) (by omega)
theorem wordAtL5 (hn : n ≤ 1500) (hh : ∀ i, i < n → h i < 256) {M : St} (T : TM h n M) {pl bh : Nat} (hfu : 2000 ≤ fu) (hbh : bh ≤ n) (hpl : pl < bh) : ∀ (m q j : Nat), j + m = 7 → m < q → (∀ k, k < 7 → isW h pl bh k → j ≤ k → f_X10_wordAt_L5 fu M q (nI pl) (nI bh) (nI (j + 1)) (nI (woff j)) = some (nI (k + 1))) ∧ ((∀ k, k < 7 → j ≤ k → ¬ isW h pl bh k) → f_X10_wordAt_L5 fu M q (nI pl) (nI bh) (nI (j + 1)) (nI (woff j)) = some (-1)) := by
  intro m
  induction m with
  | zero =>
    intro q j hj hq
    obtain ⟨q, rfl⟩ : ∃ q', q = q' + 1 := ⟨q - 1, by omega⟩
    have : j = 7 := by omega
    subst this
    refine ⟨fun k hk _ h7 => absurd hk (by omega), fun _ => ?_⟩
    rw [f_X10_wordAt_L5]
    exact if_pos (by decide)
  | succ m ih =>
    intro q j hj hq
    obtain ⟨q, rfl⟩ : ∃ q', q = q' + 1 := ⟨q - 1, by omega⟩
    have hs := w_len (show j < 7 by omega)
    have A := wordAtL18 hn hh T hfu (show j < 7 by omega) hbh hpl (f_X10_wordAt_L5 fu M q) (nI (j + 1)) (slen j) fu 0 (by omega) (by omega)
    have B := ih q (j + 1) (by omega) (by omega)
    rw [f_X10_wordAt_L5, if_neg (show ¬ (39 : Int32) ≤ nI (woff j) from nI_ge (a := woff j) (b := 39) (by omega) (by decide))]
    rw [nI_1] at A
    refine ⟨fun k hk hw hjk => ?_, fun hno => ?_⟩
    · by_cases c : isW h pl bh j
      · have := isW_one (show j < 7 by omega) hk c hw
        subst this
        exact A.1 c
      · have hne : j ≠ k := fun e => c (e ▸ hw)
        exact (A.2 c).trans (B.1 k hk hw (by omega))
    · exact (A.2 (hno j (by omega) (Nat.le_refl _))).trans (B.2 (fun k hk hjk => hno k hk (by omega)))
end WRD
