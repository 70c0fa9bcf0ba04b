/-! the class's breaker computes them -/
def Wds (h : Nat → Nat) (n W : Nat) (wb we : Nat → Nat) : Prop := 0 < W ∧ wb 0 = 0 ∧ we (W - 1) = n ∧ (∀ k, k < W → wb k < we k ∧ we k ≤ n ∧ ∀ i, wb k ≤ i → i < we k → h i ≠ 32) ∧ ∀ k, k + 1 < W → h (we k) = 32 ∧ wb (k + 1) = we k + 1
theorem Wds.m {h : Nat → Nat} {n W : Nat} {wb we : Nat → Nat} (H : Wds h n W wb we) : Wm W wb we := ⟨fun k hk => (H.2.2.2.1 k hk).1, fun k hk => by have := (H.2.2.2.2 k hk).2; omega⟩
theorem m1_nI (c : Nat) : nI (c + 1) + (-1) = nI c := pk_m1 c
theorem m1_neg : (nI 0 + (-1) : Int32) < 0 := by decide
theorem sub1 (a : Int32) : a - 1 = a + (-1) := Int32.sub_eq_add_neg a 1
section FW
variable {h : Nat → Nat} {n W : Nat} {wb we : Nat → Nat} {s1 : St} {n2 fr : Nat} {b2 : Nat → Int32}
theorem fwL9 (H : Wds h n W wb we) (hW : W ≤ 240) (hf : s1.1 1 = nI fr) (hl : s1.1 2 = nI n) (hb : ∀ i, i < n → b2 (fr + i) = nI (h i)) (hn2 : fr + n ≤ n2) (hn3 : n2 < 2 ^ 30) (hh : ∀ i, i < n → h i < 256) (fu : Nat) :
    ∀ (m q k i : Nat) (u0 : St), i + m = n + 1 → m < q → k < W → wb k ≤ i → i ≤ we k → u0.1 6 = nI k → (∀ j, j < k → u0.2 0 j = nI (wb j) ∧ u0.2 1 j = nI (we j)) →
      ∃ u : St, f_X1_findWords_L9 fu s1 n2 b2 q u0 (nI (wb k)) (nI i) = some u ∧ u.1 6 = nI W ∧ (∀ j, j < W → u.2 0 j = nI (wb j) ∧ u.2 1 j = nI (we j)) ∧ ∀ x, x ≠ 6 → u.1 x = u0.1 x := by
  obtain ⟨hW0, hb0, heW, hwd, hsp⟩ := H
  intro m
  induction m with
  | zero =>
    intro q k i u0 hi hq hk h1 h2
    have := (hwd k hk).2.1
    omega
  | succ m ih =>
    intro q k i u0 hi hq hk h1 h2 hu hj
    obtain ⟨q, rfl⟩ : ∃ q', q = q' + 1 := ⟨q - 1, by omega⟩
    have hwk := hwd k hk
    -- what a push gives
    have push : i = we k → ∃ u : St, f_X1_findWords_L82 (f_X1_findWords_L9 fu s1 n2 b2 q) fu s1 n2 b2 u0 (nI (wb k)) (nI i) = some u ∧ u.1 6 = nI W ∧ (∀ j, j < W → u.2 0 j = nI (wb j) ∧ u.2 1 j = nI (we j)) ∧ ∀ x, x ≠ 6 → u.1 x = u0.1 x := by
      intro he
      obtain ⟨u1, hu1⟩ : ∃ u1, u1 = sF (sA (sA u0 0 k (nI (wb k))) 1 k (nI i)) 6 (nI k + 1) := ⟨_, rfl⟩
      have e6 : u1.1 6 = nI (k + 1) := by rw [hu1, sF_1, if_pos rfl, nI_1]
      have ex : ∀ x, x ≠ 6 → u1.1 x = u0.1 x := fun x hx => by rw [hu1, sF_1, if_neg hx]; rfl
      have ej : ∀ j, j < k + 1 → u1.2 0 j = nI (wb j) ∧ u1.2 1 j = nI (we j) := by
        intro j hjk
        rw [hu1]
        by_cases e : j = k
        · subst e; rw [he]; simp [sF_2, sA_2i]
        · have := hj j (by omega)
          simp [sF_2, sA_2i, e, this]
      have hcall : f_X1_findWords_L82 (f_X1_findWords_L9 fu s1 n2 b2 q) fu s1 n2 b2 u0 (nI (wb k)) (nI i) = f_X1_findWords_L9 fu s1 n2 b2 q u1 (nI (i + 1)) (nI (i + 1)) := by
        unfold f_X1_findWords_L82
        rw [hu, cl_nI (show k < 2 ^ 31 by omega), if_pos (inb_nI (show k < 240 by omega) (by decide)), if_pos (inb_nI (show k < 240 by omega) (by decide)), hu1, nI_1 i]
      rw [hcall]
      by_cases hkW : k + 1 < W
      · have hs := hsp k hkW
        have := ih q (k + 1) (i + 1) u1 (by omega) (by omega) hkW (by omega) (by have := (hwd (k + 1) hkW).1; omega) e6 ej
        rw [hs.2, ← he] at this
        obtain ⟨u, g1, g2, g3, g4⟩ := this
        exact ⟨u, g1, g2, g3, fun x hx => (g4 x hx).trans (ex x hx)⟩
      · have hkk : k + 1 = W := by omega
        have hin : i = n := by rw [he, ← heW, show W - 1 = k by omega]
        obtain ⟨q, rfl⟩ : ∃ q', q = q' + 1 := ⟨q - 1, by omega⟩
        refine ⟨u1, ?_, by rw [e6, hkk], fun j hjW => ej j (by omega), ex⟩
        rw [f_X1_findWords_L9, hl]
        exact ip (nI_lt (by omega) (by omega)) rfl
    rw [f_X1_findWords_L9, hl, hf, hu]
    rw [if_neg (show ¬ nI n < nI i from nI_nlt (by omega) (by omega)), if_neg (show ¬ (240 : Int32) ≤ nI k from nI_ge (a := k) (b := 240) (by omega) (by decide)), nI_add]
    by_cases hin : i = n
    · rw [if_pos (show nI n ≤ nI i from nI_le (by omega) (by omega))]
      unfold f_X1_findWords_L62 f_X1_findWords_L63
      rw [if_pos rfl]
      exact push (by omega)
    · rw [if_neg (show ¬ nI n ≤ nI i from nI_ge (by omega) (by omega)), if_neg (show ¬ nI (fr + i) < 0 from nI_pos (by omega)), if_neg (show ¬ nI n2 ≤ nI (fr + i) from nI_ge (by omega) (by omega))]
      unfold f_X1_findWords_L63
      rw [if_neg (show ¬ (1 : Int32) = 0 by decide), if_pos (inb_nI (show fr + i < n2 by omega) (by omega)), cl_nI (show fr + i < 2 ^ 31 by omega), hb i (by omega)]
      have hlt := hh i (by omega)
      by_cases hs : h i = 32
      · rw [hs, if_pos (show nI 32 = 32 from rfl)]
        refine push ?_
        rcases Nat.lt_or_ge i (we k) with q1 | q1
        · exact absurd hs (hwk.2.2 i h1 q1)
        · omega
      · rw [if_neg (show ¬ nI (h i) = 32 from nI_neq (b := 32) (by omega) (by decide) hs), nI_1]
        have hik : i ≠ we k := by
          intro he
          by_cases hkW : k + 1 < W
          · exact hs (by rw [he]; exact (hsp k hkW).1)
          · have : we k = n := by rw [← heW, show W - 1 = k by omega]
            omega
        exact ih q k (i + 1) u0 (by omega) (by omega) hk (by omega) (by omega) hu hj
theorem findWords_e (H : Wds h n W wb we) (hW : W ≤ 240) (hf : s1.1 1 = nI fr) (hl : s1.1 2 = nI n) (hb : ∀ i, i < n → b2 (fr + i) = nI (h i)) (hn2 : fr + n ≤ n2) (hn3 : n2 < 2 ^ 30) (hh : ∀ i, i < n → h i < 256) {fu : Nat} (hfu : n + 2 < fu) (s0 : St) :
    ∃ u : St, f_X1_findWords fu s1 n2 b2 s0 = some u ∧ u.1 6 = nI W ∧ (∀ j, j < W → u.2 0 j = nI (wb j) ∧ u.2 1 j = nI (we j)) ∧ ∀ x, x ≠ 6 → u.1 x = s0.1 x := by
  obtain ⟨u, g1, g2, g3, g4⟩ := fwL9 H hW hf hl hb hn2 hn3 hh fu (n + 1) fu 0 0 (sF s0 6 0) (by omega) (by omega) H.1 (by rw [H.2.1]; exact Nat.le_refl _) (Nat.zero_le _) (by rw [sF_1, if_pos rfl]; rfl) (fun j hj => by omega)
  rw [H.2.1] at g1
  exact ⟨u, g1, g2, g3, fun x hx => (g4 x hx).trans (by rw [sF_1, if_neg hx])⟩
end FW
/-! stops, least rows -/
/-- what the breaker knows of the words -/
def Bk (u : St) (W wd : Nat) (wb we : Nat → Nat) : Prop := u.1 6 = nI W ∧ u.1 7 = nI wd ∧ ∀ j, j < W → u.2 0 j = nI (wb j) ∧ u.2 1 j = nI (we j)
section FR
variable {W wd n : Nat} {wb we : Nat → Nat}
theorem frL38 (hm : Wm W wb we) (hW : W ≤ 240) (hwd : wd < 2 ^ 20) (hn : ∀ k, k < W → we k < 2 ^ 20) (K : St → Int32 → Option St) (fu : Nat) (s1 u : St) (hB : Bk u W wd wb we) {w : Nat} (hw : w < W) :
    ∀ (m q j : Nat), W ≤ j + m → m < q → w < j → j ≤ W → f_X1_fillRows_L38 K fu s1 q u (nI w) (nI j) = f_X1_fillRows_L72 K fu s1 u (nI w) (nI (spf W wd wb we w m j)) := by
  intro m
  induction m with
  | zero =>
    intro q j h1 h2 h3 h4
    obtain ⟨q, rfl⟩ : ∃ q', q = q' + 1 := ⟨q - 1, by omega⟩
    rw [f_X1_fillRows_L38, hB.1]
    exact ip (nI_le (by omega) (by omega)) rfl
  | succ m ih =>
    intro q j h1 h2 h3 h4
    obtain ⟨q, rfl⟩ : ∃ q', q = q' + 1 := ⟨q - 1, by omega⟩
    rw [f_X1_fillRows_L38, hB.1]
    unfold spf
    by_cases hj : j < W
    · rw [if_neg (show ¬ nI W ≤ nI j from nI_ge (by omega) (by omega)), if_pos (inb_nI (show j < 240 by omega) (by decide)), if_pos (inb_nI (show w < 240 by omega) (by decide)), cl_nI (show j < 2 ^ 31 by omega), cl_nI (show w < 2 ^ 31 by omega), hB.2.1, (hB.2.2 j hj).2, (hB.2.2 w hw).1]
      have g1 := hm.wb_le (show w ≤ j by omega) hj
      have g2 := hm.1 j hj
      have g3 := hn j hj
      rw [pk_sub (show wb w ≤ we j by omega)]
      by_cases hc : we j - wb w ≤ wd
      · rw [if_neg (show ¬ nI wd < nI (we j - wb w) from nI_nlt hc (by omega)), if_pos ⟨hj, hc⟩, nI_1]
        exact ih q (j + 1) (by omega) (by omega) (by omega) (by omega)
      · rw [if_pos (show nI wd < nI (we j - wb w) from nI_lt (by omega) (by omega)), if_neg (fun q => hc q.2)]
    · rw [if_pos (show nI W ≤ nI j from nI_le (by omega) (by omega)), if_neg (fun q => hj q.1)]
/-- the rows' stops and the least rows from word w on -/
def Bs (u : St) (W wd : Nat) (wb we : Nat → Nat) (w : Nat) : Prop := ∀ i, w ≤ i → i ≤ W → u.2 2 i = nI (sp W wd wb we i) ∧ u.2 3 i = nI (grW W wd wb we i)
theorem frL30 (hm : Wm W wb we) (hW : W ≤ 240) (hwd : wd < 2 ^ 20) (hn : ∀ k, k < W → we k < 2 ^ 20) {fu : Nat} (hfu : 300 ≤ fu) (s1 : St) :
    ∀ (c q : Nat) (u : St), c ≤ W → c < q → Bk u W wd wb we → Bs u W wd wb we c → ∃ u' : St, f_X1_fillRows_L30 fu s1 q u (nI c + (-1)) = f_X1_fillRows_L108 fu s1 fu (sA u' 4 0 0) 0 ∧ Bk u' W wd wb we ∧ Bs u' W wd wb we 0 ∧ u'.1 = u.1 := by
  intro c
  induction c with
  | zero =>
    intro q u hc hq hB hS
    obtain ⟨q, rfl⟩ : ∃ q', q = q' + 1 := ⟨q - 1, by omega⟩
    refine ⟨u, ?_, hB, hS, rfl⟩
    rw [f_X1_fillRows_L30]
    exact ip m1_neg (ip (by decide) rfl)
  | succ c ih =>
    intro q u hc hq hB hS
    obtain ⟨q, rfl⟩ : ∃ q', q = q' + 1 := ⟨q - 1, by omega⟩
    rw [m1_nI, f_X1_fillRows_L30, if_neg (nI_pos (show c < 2 ^ 31 by omega)), nI_1]
    rw [frL38 hm hW hwd hn _ fu s1 u hB (show c < W by omega) W fu (c + 1) (by omega) (by omega) (by omega) (by omega)]
    have hsp : spf W wd wb we c W (c + 1) = sp W wd wb we c := by unfold sp spx; rw [if_pos (show c < W by omega)]
    rw [hsp]
    have g1 := sp_gt (W := W) (wd := wd) (wb := wb) (we := we) (show c < W by omega)
    have g2 := sp_le (W := W) (wd := wd) (wb := wb) (we := we) (show c ≤ W by omega)
    unfold f_X1_fillRows_L72
    rw [if_pos (inb_nI (show c < 241 by omega) (by decide)), if_pos (inb_nI (show sp W wd wb we c < 241 by omega) (by decide)), if_pos (inb_nI (show c < 241 by omega) (by decide)), cl_nI (show c < 2 ^ 31 by omega), cl_nI (show sp W wd wb we c < 2 ^ 31 by omega), (hS (sp W wd wb we c) (by omega) g2).2, nI_1]
    obtain ⟨u', e1, e2, e3, e4⟩ := ih q (sA (sA u 2 c (nI (sp W wd wb we c))) 3 c (nI (grW W wd wb we (sp W wd wb we c) + 1))) (by omega) (by omega) ⟨hB.1, hB.2.1, fun j hj => by simpa [sA_2i] using hB.2.2 j hj⟩ (by
      intro i h1 h2
      by_cases e : i = c
      · subst e
        rw [grW_step (show i < W by omega), Nat.add_comm 1]
        simp [sA_2i]
      · have := hS i (by omega) h2
        simp [sA_2i, e, this])
    exact ⟨u', e1, e2, e3, e4⟩
/-- the most words ahead of a slot -/
def ma (W wd : Nat) (wb we : Nat → Nat) : Nat → Nat
  | 0 => 0
  | s + 1 => sp W wd wb we (ma W wd wb we s)
theorem ma_le (s : Nat) : ma W wd wb we s ≤ W := by
  induction s with
  | zero => exact Nat.zero_le _
  | succ s ih => exact sp_le ih
theorem frL108 (hW : W ≤ 240) (fu : Nat) (s1 : St) : ∀ (m q k : Nat) (u : St), k + m = 12 → m < q → Bs u W wd wb we 0 → (∀ j, j ≤ k → u.2 4 j = nI (ma W wd wb we j)) → ∃ u' : St, f_X1_fillRows_L108 fu s1 q u (nI k) = some u' ∧ (∀ j, j ≤ 12 → u'.2 4 j = nI (ma W wd wb we j)) ∧ u'.1 = u.1 ∧ ∀ x, x ≠ 4 → u'.2 x = u.2 x := by
  intro m
  induction m with
  | zero =>
    intro q k u hk hq hS hm
    obtain ⟨q, rfl⟩ : ∃ q', q = q' + 1 := ⟨q - 1, by omega⟩
    refine ⟨u, ?_, fun j hj => hm j (by omega), rfl, fun x _ => rfl⟩
    rw [f_X1_fillRows_L108]
    exact ip (nI_le (a := 12) (by omega) (by omega)) rfl
  | succ m ih =>
    intro q k u hk hq hS hm
    obtain ⟨q, rfl⟩ : ∃ q', q = q' + 1 := ⟨q - 1, by omega⟩
    have hle := ma_le (W := W) (wd := wd) (wb := wb) (we := we) k
    rw [f_X1_fillRows_L108, if_neg (show ¬ (12 : Int32) ≤ nI k from nI_ge (a := k) (b := 12) (by omega) (by decide)), if_pos (inb_nI (show k < 13 by omega) (by decide)), cl_nI (show k < 2 ^ 31 by omega), hm k (Nat.le_refl _), if_pos (inb_nI (show ma W wd wb we k < 241 by omega) (by decide)), nI_1, if_pos (inb_nI (show k + 1 < 13 by omega) (by decide)), cl_nI (show k + 1 < 2 ^ 31 by omega), cl_nI (show ma W wd wb we k < 2 ^ 31 by omega), (hS _ (Nat.zero_le _) hle).1]
    obtain ⟨u', e1, e2, e3, e4⟩ := ih q (k + 1) (sA u 4 (k + 1) (nI (sp W wd wb we (ma W wd wb we k)))) (by omega) (by omega) (by intro i h1 h2; simpa [sA_2i] using hS i h1 h2) (by
      intro j hj
      by_cases e : j = k + 1
      · subst e; simp [sA_2i]; rfl
      · simp [sA_2i, e, hm j (by omega)])
    exact ⟨u', e1, e2, e3, fun x hx => by rw [e4 x hx, sA_2, if_neg hx]⟩
theorem fillRows_e (hm : Wm W wb we) (hW0 : 0 < W) (hW : W ≤ 240) (hwd : wd < 2 ^ 20) (hn : ∀ k, k < W → we k < 2 ^ 20) {fu : Nat} (hfu : 300 ≤ fu) (s1 u : St) (hB : Bk u W wd wb we) : ∃ u' : St, f_X1_fillRows fu s1 u = some u' ∧ Bk u' W wd wb we ∧ Bs u' W wd wb we 0 ∧ (∀ j, j ≤ 12 → u'.2 4 j = nI (ma W wd wb we j)) ∧ u'.1 = u.1 := by
  unfold f_X1_fillRows
  rw [hB.1, if_pos (inb_nI (show W < 241 by omega) (by decide)), if_pos (inb_nI (show W < 241 by omega) (by decide)), cl_nI (show W < 2 ^ 31 by omega), sub1]
  obtain ⟨u1, e1, e2, e3, e4⟩ := frL30 hm hW hwd hn hfu s1 W fu (sA (sA u 2 W (nI W)) 3 W 0) (Nat.le_refl _) (by omega) ⟨hB.1, hB.2.1, fun j hj => by simpa [sA_2i] using hB.2.2 j hj⟩ (by
    intro i h1 h2
    have : i = W := by omega
    subst this
    rw [grW_end (Nat.le_refl _)]
    have e9 : sp i wd wb we i = i := by unfold sp; rw [if_neg (Nat.lt_irrefl _)]
    rw [e9]
    refine ⟨by simp [sA_2i], ?_⟩
    simp [sA_2i]
    rfl)
  rw [e1]
  obtain ⟨u2, g1, g2, g3, g4⟩ := frL108 (W := W) (wd := wd) (wb := wb) (we := we) hW fu s1 12 fu 0 (sA u1 4 0 0) rfl (by omega) (by intro i h1 h2; simpa [sA_2i] using e3 i h1 h2) (by
    intro j hj
    have : j = 0 := by omega
    subst this
    simp [sA_2i]; rfl)
  refine ⟨u2, g1, ⟨?_, ?_, fun j hj => ?_⟩, ?_, g2, ?_⟩
  · rw [g3]; exact e2.1
  · rw [g3]; exact e2.2.1
  · rw [g4 0 (by decide), g4 1 (by decide)]; simpa [sA_2i] using e2.2.2 j hj
  · intro i h1 h2
    rw [g4 2 (by decide), g4 3 (by decide)]; simpa [sA_2i] using e3 i h1 h2
  · rw [g3]; show u1.1 = u.1; rw [e4]; rfl
end FR
