/-! rows, pages, prices: what both sides compute, over words by their begins and ends -/
/-- words 0..W-1: word k lies at wb k up to we k -/
def Wm (W : Nat) (wb we : Nat → Nat) : Prop := (∀ k, k < W → wb k < we k) ∧ ∀ k, k + 1 < W → we k < wb (k + 1)
section LAY
variable {W wd : Nat} {wb we : Nat → Nat}
theorem Wm.we_le (h : Wm W wb we) {i j : Nat} (hij : i ≤ j) (hj : j < W) : we i ≤ we j := by
  induction j with
  | zero => have : i = 0 := by omega
            subst this; exact Nat.le_refl _
  | succ j ih =>
    by_cases e : i = j + 1
    · subst e; exact Nat.le_refl _
    · have h1 := ih (by omega) (by omega)
      have h2 := h.2 j hj
      have h3 := h.1 (j + 1) hj
      omega
theorem Wm.wb_le (h : Wm W wb we) {i j : Nat} (hij : i ≤ j) (hj : j < W) : wb i ≤ wb j := by
  induction j with
  | zero => have : i = 0 := by omega
            subst this; exact Nat.le_refl _
  | succ j ih =>
    by_cases e : i = j + 1
    · subst e; exact Nat.le_refl _
    · have h1 := ih (by omega) (by omega)
      have h2 := h.2 j hj
      have h3 := h.1 j (by omega)
      omega
/-- from word i the first word that has no room in its row, looked for from j on -/
def spf (W wd : Nat) (wb we : Nat → Nat) (i : Nat) : Nat → Nat → Nat
  | 0, j => j
  | m + 1, j => if j < W ∧ we j - wb i ≤ wd then spf W wd wb we i m (j + 1) else j
def spx (W wd : Nat) (wb we : Nat → Nat) (i : Nat) : Nat := spf W wd wb we i W (i + 1)
theorem spf_ge (i m j : Nat) : j ≤ spf W wd wb we i m j := by
  induction m generalizing j with
  | zero => exact Nat.le_refl _
  | succ m ih => unfold spf; split; · exact Nat.le_trans (by omega) (ih (j + 1))
                 · exact Nat.le_refl _
theorem spf_le (i m j : Nat) (hj : j ≤ W) : spf W wd wb we i m j ≤ W := by
  induction m generalizing j with
  | zero => exact hj
  | succ m ih => unfold spf; split; · rename_i h; exact ih (j + 1) (by omega)
                 · exact hj
theorem spf_in (i m j : Nat) : ∀ k, j ≤ k → k < spf W wd wb we i m j → k < W ∧ we k - wb i ≤ wd := by
  induction m generalizing j with
  | zero => intro k h1 h2; unfold spf at h2; omega
  | succ m ih =>
    intro k h1 h2
    unfold spf at h2
    by_cases hc : j < W ∧ we j - wb i ≤ wd
    · rw [if_pos hc] at h2
      by_cases e : k = j
      · subst e; exact hc
      · exact ih (j + 1) k (by omega) h2
    · rw [if_neg hc] at h2; omega
theorem spf_out (i m j : Nat) (hm : W ≤ j + m) : ¬ (spf W wd wb we i m j < W ∧ we (spf W wd wb we i m j) - wb i ≤ wd) := by
  induction m generalizing j with
  | zero => unfold spf; omega
  | succ m ih =>
    unfold spf
    by_cases hc : j < W ∧ we j - wb i ≤ wd
    · rw [if_pos hc]; exact ih (j + 1) (by omega)
    · rw [if_neg hc]; exact hc
theorem spx_gt (i : Nat) : i < spx W wd wb we i := spf_ge i W (i + 1)
theorem spx_le {i : Nat} (h : i < W) : spx W wd wb we i ≤ W := spf_le i W (i + 1) (by omega)
theorem spx_in {i : Nat} : ∀ k, i < k → k < spx W wd wb we i → k < W ∧ we k - wb i ≤ wd := fun k h1 h2 => spf_in i W (i + 1) k h1 h2
theorem spx_out (i : Nat) : ¬ (spx W wd wb we i < W ∧ we (spx W wd wb we i) - wb i ≤ wd) := spf_out i W (i + 1) (by omega)
/-- the stop of word i; W's is W -/
def sp (W wd : Nat) (wb we : Nat → Nat) (i : Nat) : Nat := if i < W then spx W wd wb we i else i
theorem sp_gt {i : Nat} (h : i < W) : i < sp W wd wb we i := by unfold sp; rw [if_pos h]; exact spx_gt i
theorem sp_ge (i : Nat) : i ≤ sp W wd wb we i := by
  by_cases h : i < W
  · exact Nat.le_of_lt (sp_gt h)
  · unfold sp; rw [if_neg h]; exact Nat.le_refl _
theorem sp_le {i : Nat} (h : i ≤ W) : sp W wd wb we i ≤ W := by
  unfold sp
  by_cases h2 : i < W
  · rw [if_pos h2]; exact spx_le h2
  · rw [if_neg h2]; exact h
theorem sp_out {i : Nat} (hi : i < W) (h : sp W wd wb we i < W) : wd < we (sp W wd wb we i) - wb i := by
  have := spx_out (W := W) (wd := wd) (wb := wb) (we := we) i
  unfold sp at h ⊢
  rw [if_pos hi] at h ⊢
  omega
theorem sp_in {i : Nat} (hw : ∀ k, k < W → we k - wb k ≤ wd) (hi : i < W) : ∀ k, i ≤ k → k < sp W wd wb we i → k < W ∧ we k - wb i ≤ wd := by
  intro k h1 h2
  unfold sp at h2
  rw [if_pos hi] at h2
  by_cases e : k = i
  · subst e; exact ⟨hi, hw k hi⟩
  · exact spx_in k (by omega) h2
theorem sp_mono (h : Wm W wb we) {i j : Nat} (hij : i ≤ j) (hj : j ≤ W) : sp W wd wb we i ≤ sp W wd wb we j := by
  by_cases e : j = W
  · subst e
    refine Nat.le_trans (sp_le (by omega)) ?_
    unfold sp; rw [if_neg (by omega)]; exact Nat.le_refl _
  · rcases Nat.lt_or_ge (sp W wd wb we j) (sp W wd wb we i) with q | q
    · exfalso
      have h1 := sp_gt (W := W) (wd := wd) (wb := wb) (we := we) (show j < W by omega)
      have h2 := sp_le (W := W) (wd := wd) (wb := wb) (we := we) (show i ≤ W by omega)
      have h3 := sp_out (W := W) (wd := wd) (wb := wb) (we := we) (show j < W by omega) (by omega)
      have h4 : we (sp W wd wb we j) - wb i ≤ wd := by
        have q2 := q
        unfold sp at q2
        rw [if_pos (show i < W by omega)] at q2
        have e1 : sp W wd wb we j = if j < W then spx W wd wb we j else j := rfl
        rw [← e1] at q2
        exact (spx_in _ (by omega) q2).2
      have h5 := h.wb_le hij (show j < W by omega)
      omega
    · exact q
/-- greedy rows from word i on -/
def gr (W wd : Nat) (wb we : Nat → Nat) : Nat → Nat → Nat
  | 0, _ => 0
  | m + 1, i => if i < W then 1 + gr W wd wb we m (sp W wd wb we i) else 0
theorem gr_fuel (m n i : Nat) (h1 : W ≤ i + m) (h2 : W ≤ i + n) : gr W wd wb we m i = gr W wd wb we n i := by
  induction m generalizing n i with
  | zero =>
    cases n with
    | zero => rfl
    | succ n => unfold gr; rw [if_neg (by omega)]
  | succ m ih =>
    cases n with
    | zero => unfold gr; rw [if_neg (by omega)]
    | succ n =>
      unfold gr
      by_cases h : i < W
      · rw [if_pos h, if_pos h]
        have := sp_gt (W := W) (wd := wd) (wb := wb) (we := we) h
        rw [ih n _ (by omega) (by omega)]
      · rw [if_neg h, if_neg h]
def grW (W wd : Nat) (wb we : Nat → Nat) (i : Nat) : Nat := gr W wd wb we W i
theorem grW_end {i : Nat} (h : W ≤ i) : grW W wd wb we i = 0 := by
  unfold grW
  cases W with
  | zero => rfl
  | succ n => unfold gr; rw [if_neg (by omega)]
theorem grW_step {i : Nat} (h : i < W) : grW W wd wb we i = 1 + grW W wd wb we (sp W wd wb we i) := by
  unfold grW
  obtain ⟨n, hn⟩ : ∃ n, W = n + 1 := ⟨W - 1, by omega⟩
  have e1 : gr W wd wb we W i = gr W wd wb we (n + 1) i := by rw [hn]
  rw [e1]
  show (if i < W then 1 + gr W wd wb we n (sp W wd wb we i) else 0) = _
  rw [if_pos h]
  have := sp_gt (W := W) (wd := wd) (wb := wb) (we := we) h
  rw [gr_fuel n W _ (by omega) (by omega)]
theorem grW_mono (h : Wm W wb we) {i j : Nat} (hij : i ≤ j) (hj : j ≤ W) : grW W wd wb we j ≤ grW W wd wb we i := by
  obtain ⟨d, hd⟩ : ∃ d, d = W - i := ⟨_, rfl⟩
  induction d using Nat.strongRecOn generalizing i j with
  | _ d ih =>
    by_cases hjW : j < W
    · have hi : i < W := by omega
      rw [grW_step hi, grW_step hjW]
      have h1 := sp_gt (W := W) (wd := wd) (wb := wb) (we := we) hi
      have h2 := sp_mono (wd := wd) h hij hj
      have := ih (W - sp W wd wb we i) (by omega) h2 (sp_le hj) rfl
      omega
    · rw [grW_end (by omega)]; exact Nat.zero_le _
theorem grW_pos {i : Nat} (h : i < W) : 1 ≤ grW W wd wb we i := by rw [grW_step h]; omega
/-- prices -/
abbrev NOW : Nat := 1000000
def cst (wd : Nat) (wb we : Nat → Nat) (i j : Nat) : Nat := (wd - (we (j - 1) - wb i)) * (wd - (we (j - 1) - wb i))
theorem cst_le (i j : Nat) : cst wd wb we i j ≤ wd * wd := Nat.mul_le_mul (Nat.sub_le _ _) (Nat.sub_le _ _)
/-- the least of f over m places from j on, and of acc -/
def lst (f : Nat → Nat) : Nat → Nat → Nat → Nat
  | 0, _, acc => acc
  | m + 1, j, acc => lst f m (j + 1) (min (f j) acc)
theorem lst_le_acc (f : Nat → Nat) (m j acc : Nat) : lst f m j acc ≤ acc := by
  induction m generalizing j acc with
  | zero => exact Nat.le_refl _
  | succ m ih => unfold lst; exact Nat.le_trans (ih _ _) (Nat.min_le_right _ _)
theorem lst_le (f : Nat → Nat) (m j acc : Nat) : ∀ k, j ≤ k → k < j + m → lst f m j acc ≤ f k := by
  induction m generalizing j acc with
  | zero => intro k h1 h2; omega
  | succ m ih =>
    intro k h1 h2
    unfold lst
    by_cases e : k = j
    · subst e; exact Nat.le_trans (lst_le_acc f m _ _) (Nat.min_le_left _ _)
    · exact ih (j + 1) _ k (by omega) (by omega)
theorem lst_at (f : Nat → Nat) (m j acc : Nat) : lst f m j acc = acc ∨ ∃ k, j ≤ k ∧ k < j + m ∧ lst f m j acc = f k := by
  induction m generalizing j acc with
  | zero => exact Or.inl rfl
  | succ m ih =>
    unfold lst
    rcases ih (j + 1) (min (f j) acc) with h | ⟨k, h1, h2, h3⟩
    · rcases Nat.le_total (f j) acc with q | q
      · exact Or.inr ⟨j, Nat.le_refl _, by omega, by rw [h, Nat.min_eq_left q]⟩
      · exact Or.inl (by rw [h, Nat.min_eq_right q])
    · exact Or.inr ⟨k, by omega, by omega, h3⟩
theorem lst_cong {f g : Nat → Nat} (m j acc : Nat) (h : ∀ k, j ≤ k → k < j + m → f k = g k) : lst f m j acc = lst g m j acc := by
  induction m generalizing j acc with
  | zero => rfl
  | succ m ih =>
    unfold lst
    rw [h j (Nat.le_refl _) (by omega)]
    exact ih (j + 1) _ (fun k h1 h2 => h k (by omega) (by omega))
/-- the least price of words i.. in s slots; in every second slot from the end on (s odd) there may be no word -/
def Rp (W wd : Nat) (wb we : Nat → Nat) : Nat → Nat → Nat
  | 0, i => if i = W then 0 else NOW
  | s + 1, i => lst (fun j => cst wd wb we i j + Rp W wd wb we s j) (sp W wd wb we i - i) (i + 1) (if (s + 1) % 2 = 1 then Rp W wd wb we s i else NOW)
theorem Rp_le (s i : Nat) : Rp W wd wb we s i ≤ NOW := by
  induction s generalizing i with
  | zero => unfold Rp; split <;> simp [NOW]
  | succ s ih =>
    unfold Rp
    refine Nat.le_trans (lst_le_acc _ _ _ _) ?_
    split
    · exact ih i
    · exact Nat.le_refl _
theorem Rp_opt {s i j : Nat} (h1 : i < j) (h2 : j ≤ sp W wd wb we i) : Rp W wd wb we (s + 1) i ≤ cst wd wb we i j + Rp W wd wb we s j := by
  have h3 : Rp W wd wb we (s + 1) i = lst (fun j => cst wd wb we i j + Rp W wd wb we s j) (sp W wd wb we i - i) (i + 1) (if (s + 1) % 2 = 1 then Rp W wd wb we s i else NOW) := rfl
  rw [h3]
  exact lst_le (fun j => cst wd wb we i j + Rp W wd wb we s j) _ _ _ j (by omega) (by omega)
theorem Rp_skip {s i : Nat} (h : (s + 1) % 2 = 1) : Rp W wd wb we (s + 1) i ≤ Rp W wd wb we s i := by
  have h3 : Rp W wd wb we (s + 1) i = lst (fun j => cst wd wb we i j + Rp W wd wb we s j) (sp W wd wb we i - i) (i + 1) (if (s + 1) % 2 = 1 then Rp W wd wb we s i else NOW) := rfl
  rw [h3, if_pos h]
  exact lst_le_acc _ _ _ _
theorem Rp_at (s i : Nat) : Rp W wd wb we (s + 1) i = NOW ∨ ((s + 1) % 2 = 1 ∧ Rp W wd wb we (s + 1) i = Rp W wd wb we s i) ∨ ∃ j, i < j ∧ j ≤ sp W wd wb we i ∧ Rp W wd wb we (s + 1) i = cst wd wb we i j + Rp W wd wb we s j := by
  have h3 : Rp W wd wb we (s + 1) i = lst (fun j => cst wd wb we i j + Rp W wd wb we s j) (sp W wd wb we i - i) (i + 1) (if (s + 1) % 2 = 1 then Rp W wd wb we s i else NOW) := rfl
  rcases lst_at (fun j => cst wd wb we i j + Rp W wd wb we s j) (sp W wd wb we i - i) (i + 1) (if (s + 1) % 2 = 1 then Rp W wd wb we s i else NOW) with h | ⟨k, g1, g2, g3⟩
  · rw [← h3] at h
    by_cases e : (s + 1) % 2 = 1
    · rw [if_pos e] at h; exact Or.inr (Or.inl ⟨e, h⟩)
    · rw [if_neg e] at h; exact Or.inl h
  · rw [← h3] at g3
    exact Or.inr (Or.inr ⟨k, by omega, by omega, g3⟩)
/-- a way needs the greedy rows -/
theorem Rp_way (hm : Wm W wb we) (s : Nat) : ∀ i, i ≤ W → Rp W wd wb we s i < NOW → grW W wd wb we i ≤ s := by
  induction s with
  | zero =>
    intro i hi h
    unfold Rp at h
    by_cases e : i = W
    · rw [grW_end (by omega)]; exact Nat.le_refl _
    · rw [if_neg e] at h; omega
  | succ s ih =>
    intro i hi h
    rcases Rp_at (W := W) (wd := wd) (wb := wb) (we := we) s i with g | ⟨-, g⟩ | ⟨j, g1, g2, g3⟩
    · omega
    · have := ih i hi (by omega); omega
    · have hj : j ≤ W := Nat.le_trans g2 (sp_le hi)
      have h1 := ih j hj (by omega)
      have h2 : i < W := by omega
      rw [grW_step h2]
      have := grW_mono (wd := wd) hm g2 (sp_le hi)
      omega
end LAY
