/-! scanning on both sides -/
theorem sF_comm (σ : St) {j k : Nat} (h : j ≠ k) (a b : Int32) : sF (sF σ j a) k b = sF (sF σ k b) j a := by
  refine Prod.ext (funext fun i => ?_) rfl
  show (sF (sF σ j a) k b).1 i = (sF (sF σ k b) j a).1 i
  simp only [sF_1]
  by_cases c1 : i = k
  · rw [if_pos c1, if_neg (fun e => h (e.symm.trans c1)), if_pos c1]
  · rw [if_neg c1]
    by_cases c2 : i = j
    · rw [if_pos c2, if_pos c2]
    · rw [if_neg c2, if_neg c2, if_neg c1]
/-- p' is the first place from p on where P ends -/
def Sc (P : Nat → Bool) (h : Nat → Nat) (n p p' : Nat) : Prop := p ≤ p' ∧ p' ≤ n ∧ (∀ i, p ≤ i → i < p' → P (h i) = true) ∧ (p' < n → P (h p') = false)
theorem Sc_ex (P : Nat → Bool) (h : Nat → Nat) (n : Nat) : ∀ (m p : Nat), p + m = n → ∃ p', Sc P h n p p' := by
  intro m
  induction m with
  | zero => intro p hp; exact ⟨p, Nat.le_refl _, by omega, fun i h1 h2 => absurd h1 (by omega), fun h1 => absurd h1 (by omega)⟩
  | succ m ih =>
    intro p hp
    cases hP : P (h p) with
    | false => exact ⟨p, Nat.le_refl _, by omega, fun i h1 h2 => absurd h1 (by omega), fun _ => hP⟩
    | true =>
      obtain ⟨p', h1, h2, h3, h4⟩ := ih (p + 1) (by omega)
      refine ⟨p', by omega, h2, fun i g1 g2 => ?_, h4⟩
      by_cases c : i = p
      · rw [c]; exact hP
      · exact h3 i (by omega) g2
theorem scan {α : Type} {P : Nat → Bool} {h : Nat → Nat} {n : Nat} (F : Nat → St → α) (E : St → α) (g : Nat → St) (hs : ∀ q p, p < n → P (h p) = true → F (q + 1) (g p) = F q (g (p + 1))) (he : ∀ q p, p ≤ n → (p < n → P (h p) = false) → F (q + 1) (g p) = E (g p)) : ∀ (m q p : Nat), m < q → Sc P h n p (p + m) → F q (g p) = E (g (p + m)) := by
  intro m
  induction m with
  | zero =>
    intro q p hq hS
    obtain ⟨q, rfl⟩ : ∃ q', q = q' + 1 := ⟨q - 1, by omega⟩
    exact he q p hS.2.1 hS.2.2.2
  | succ m ih =>
    intro q p hq hS
    obtain ⟨q, rfl⟩ : ∃ q', q = q' + 1 := ⟨q - 1, by omega⟩
    have h2 := hS.2.1
    rw [hs q p (by omega) (hS.2.2.1 p (Nat.le_refl _) (by omega)), ih q (p + 1) (by omega) ⟨by omega, by omega, fun i h1 h2 => hS.2.2.1 i (by omega) (by omega), fun h1 => by
      have := hS.2.2.2 (by omega)
      rw [show p + 1 + m = p + (m + 1) by omega]; exact this⟩, show p + 1 + m = p + (m + 1) by omega]
theorem scan' {α : Type} {P : Nat → Bool} {h : Nat → Nat} {n : Nat} (F : Nat → St → α) (E : St → α) (g : Nat → St) (hs : ∀ q p, p < n → P (h p) = true → F (q + 1) (g p) = F q (g (p + 1))) (he : ∀ q p, p ≤ n → (p < n → P (h p) = false) → F (q + 1) (g p) = E (g p)) {p p' q : Nat} (hq : n < q) (hS : Sc P h n p p') : F q (g p) = E (g p') := by
  have h1 := hS.1
  have h2 := hS.2.1
  have := scan F E g hs he (p' - p) q p (by omega) (by rw [show p + (p' - p) = p' by omega]; exact hS)
  rw [show p + (p' - p) = p' by omega] at this
  exact this
def pB (x : Nat) : Bool := x == 10 || x == 32
def pW (x : Nat) : Bool := 97 ≤ x && x ≤ 122
def pD (x : Nat) : Bool := 48 ≤ x && x ≤ 57
def pS (x : Nat) : Bool := 32 ≤ x && x ≤ 126 && !(x == 34)
theorem pB_t {x : Nat} : pB x = true ↔ x = 10 ∨ x = 32 := by unfold pB; simp
theorem pW_t {x : Nat} : pW x = true ↔ 97 ≤ x ∧ x ≤ 122 := by unfold pW; simp
theorem pD_t {x : Nat} : pD x = true ↔ 48 ≤ x ∧ x ≤ 57 := by unfold pD; simp
theorem pS_t {x : Nat} : pS x = true ↔ 32 ≤ x ∧ x ≤ 126 ∧ x ≠ 34 := by unfold pS; simp [and_assoc]
theorem pF {P : Nat → Bool} {x : Nat} {Q : Prop} (h : P x = true ↔ Q) (hf : P x = false) : ¬ Q := fun q => by rw [h.mpr q] at hf; exact absurd hf (by decide)
theorem pT {P : Nat → Bool} {x : Nat} {Q : Prop} (h : P x = true ↔ Q) (hf : ¬ Q) : P x = false := by
  cases hq : P x with
  | true => exact absurd (h.mp hq) hf
  | false => rfl
/-- the bytes that are read: the class's row, the reference's tape -/
def CX (h : Nat → Nat) (n : Nat) (b : Nat → Int32) : Prop := n ≤ 1500 ∧ ∀ i, i < n → h i < 256 ∧ b i = sb (h i)
def TM (h : Nat → Nat) (n : Nat) (M : St) : Prop := M.1 34 = nI n ∧ (∀ i, i < n → M.2 0 i = nI (h i)) ∧ M.2 54 = s10i.2 54
section SCN
variable {h : Nat → Nat} {n : Nat} {b : Nat → Int32} {fu : Nat}
/-- the class's blanks -/
theorem stepL8 (C : CX h n b) {u : St} (h4 : u.1 4 = nI n) {p p' q : Nat} (hq : n < q) (hS : Sc pB h n p p') : f_X4_step_L8 fu b q (sF u 2 (nI p)) = f_X4_step_L60 fu b (sF u 2 (nI p')) := by
  obtain ⟨hn, hb⟩ := C
  refine scan' (fun q u => f_X4_step_L8 fu b q u) (fun u => f_X4_step_L60 fu b u) (fun p => sF u 2 (nI p)) ?_ ?_ hq hS
  · intro q p hp hP
    have e4 : (sF u 2 (nI p)).1 4 = nI n := h4
    have e2 : (sF u 2 (nI p)).1 2 = nI p := rfl
    have hh := (hb p hp).1
    show f_X4_step_L8 fu b (q + 1) (sF u 2 (nI p)) = _
    rw [f_X4_step_L8, e4, e2, if_neg (nI_ge hp (by omega)), if_pos (inb_nI (show p < 1500 by omega) (by decide)), cl_nI (show p < 2 ^ 31 by omega), (hb p hp).2, if_pos (inb_nI (show p < 1500 by omega) (by decide))]
    unfold f_X4_step_L47
    rw [e2, nI_1, sF_same]
    rcases pB_t.mp hP with c | c
    · rw [if_neg (show ¬ sb (h p) = 32 from fun e => by have := (sb_eq (k := 32) hh (by decide)).mp e; omega), if_pos (show sb (h p) = 10 from (sb_eq (k := 10) hh (by decide)).mpr c)]
    · rw [if_pos (show sb (h p) = 32 from (sb_eq (k := 32) hh (by decide)).mpr c)]
  · intro q p hp hP
    have e4 : (sF u 2 (nI p)).1 4 = nI n := h4
    have e2 : (sF u 2 (nI p)).1 2 = nI p := rfl
    show f_X4_step_L8 fu b (q + 1) (sF u 2 (nI p)) = _
    rw [f_X4_step_L8, e4, e2]
    by_cases c : p < n
    · have hh := (hb p c).1
      have := pF pB_t (hP c)
      rw [if_neg (nI_ge c (by omega)), if_pos (inb_nI (show p < 1500 by omega) (by decide)), cl_nI (show p < 2 ^ 31 by omega), (hb p c).2, if_pos (inb_nI (show p < 1500 by omega) (by decide)), if_neg (show ¬ sb (h p) = 32 from fun e => this (Or.inr ((sb_eq (k := 32) hh (by decide)).mp e))), if_neg (show ¬ sb (h p) = 10 from fun e => this (Or.inl ((sb_eq (k := 10) hh (by decide)).mp e)))]
    · rw [if_pos (nI_le (by omega) (by omega))]
/-- the reference's blanks -/
theorem takeL0 (hn : n ≤ 1500) (hh : ∀ i, i < n → h i < 256) {M : St} (T : TM h n M) {p p' q : Nat} (hq : n < q) (hS : Sc pB h n p p') : f_X10_take_L0 fu q (sF M 35 (nI p)) = f_X10_take_L52 fu (sF M 35 (nI p')) := by
  obtain ⟨h34, h0, -⟩ := T
  refine scan' (fun q u => f_X10_take_L0 fu q u) (fun u => f_X10_take_L52 fu u) (fun p => sF M 35 (nI p)) ?_ ?_ hq hS
  · intro q p hp hP
    have e4 : (sF M 35 (nI p)).1 34 = nI n := h34
    have e2 : (sF M 35 (nI p)).1 35 = nI p := rfl
    have e0 : (sF M 35 (nI p)).2 0 p = nI (h p) := h0 p hp
    have hh := hh p hp
    show f_X10_take_L0 fu (q + 1) (sF M 35 (nI p)) = _
    rw [f_X10_take_L0, e4, e2, if_neg (nI_ge hp (by omega)), if_pos (inb_nI (show p < 1500 by omega) (by decide)), cl_nI (show p < 2 ^ 31 by omega), e0, if_pos (inb_nI (show p < 1500 by omega) (by decide))]
    unfold f_X10_take_L39
    rw [e2, nI_1, sF_same]
    rcases pB_t.mp hP with c | c
    · rw [if_pos (show nI (h p) = 10 by rw [c]; rfl)]
    · rw [if_neg (show ¬ nI (h p) = 10 from nI_neq (b := 10) (by omega) (by decide) (by omega)), if_pos (show nI (h p) = 32 by rw [c]; rfl)]
  · intro q p hp hP
    have e4 : (sF M 35 (nI p)).1 34 = nI n := h34
    have e2 : (sF M 35 (nI p)).1 35 = nI p := rfl
    show f_X10_take_L0 fu (q + 1) (sF M 35 (nI p)) = _
    rw [f_X10_take_L0, e4, e2]
    by_cases c : p < n
    · have hh := hh p c
      have := pF pB_t (hP c)
      have e0 : (sF M 35 (nI p)).2 0 p = nI (h p) := h0 p c
      rw [if_neg (nI_ge c (by omega)), if_pos (inb_nI (show p < 1500 by omega) (by decide)), cl_nI (show p < 2 ^ 31 by omega), e0, if_pos (inb_nI (show p < 1500 by omega) (by decide)), if_neg (show ¬ nI (h p) = 10 from nI_neq (b := 10) (by omega) (by decide) (fun e => this (Or.inl e))), if_neg (show ¬ nI (h p) = 32 from nI_neq (b := 32) (by omega) (by decide) (fun e => this (Or.inr e)))]
    · rw [if_pos (nI_le (by omega) (by omega))]
/-- the class's word -/
theorem wordL5 (C : CX h n b) {u : St} (h4 : u.1 4 = nI n) {p p' q : Nat} (hq : n < q) (hS : Sc pW h n p p') : f_X4_takeWord_L5 fu b q (sF u 5 (nI p)) = some (sF u 5 (nI p')) := by
  obtain ⟨hn, hb⟩ := C
  refine scan' (fun q u => f_X4_takeWord_L5 fu b q u) (fun u => some u) (fun p => sF u 5 (nI p)) ?_ ?_ hq hS
  · intro q p hp hP
    have e4 : (sF u 5 (nI p)).1 4 = nI n := h4
    have e2 : (sF u 5 (nI p)).1 5 = nI p := rfl
    have hh := (hb p hp).1
    have := pW_t.mp hP
    show f_X4_takeWord_L5 fu b (q + 1) (sF u 5 (nI p)) = _
    rw [f_X4_takeWord_L5, e4, e2, if_neg (nI_ge hp (by omega)), if_pos (inb_nI (show p < 1500 by omega) (by decide)), cl_nI (show p < 2 ^ 31 by omega), (hb p hp).2, if_pos (inb_nI (show p < 1500 by omega) (by decide)), nI_1, sF_same, if_neg (show ¬ sb (h p) < 97 from fun e => by have := (sb_lt (k := 97) hh (by decide)).mp e; omega), if_neg (show ¬ 122 < sb (h p) from fun e => by have := (sb_gt (k := 122) hh (by decide)).mp e; omega)]
  · intro q p hp hP
    have e4 : (sF u 5 (nI p)).1 4 = nI n := h4
    have e2 : (sF u 5 (nI p)).1 5 = nI p := rfl
    show f_X4_takeWord_L5 fu b (q + 1) (sF u 5 (nI p)) = _
    rw [f_X4_takeWord_L5, e4, e2]
    by_cases c : p < n
    · have hh := (hb p c).1
      have := pF pW_t (hP c)
      rw [if_neg (nI_ge c (by omega)), if_pos (inb_nI (show p < 1500 by omega) (by decide)), cl_nI (show p < 2 ^ 31 by omega), (hb p c).2, if_pos (inb_nI (show p < 1500 by omega) (by decide))]
      by_cases c1 : sb (h p) < 97
      · rw [if_pos c1]
      · rw [if_neg c1, if_pos (show 122 < sb (h p) from (sb_gt (k := 122) hh (by decide)).mpr (by
          have : ¬ (h p < 97 ∨ 128 ≤ h p) := fun e => c1 ((sb_lt (k := 97) hh (by decide)).mpr e)
          omega))]
    · rw [if_pos (nI_le (by omega) (by omega))]
/-- the reference's looks -/
theorem small_e (hn : n ≤ 1500) (hh : ∀ i, i < n → h i < 256) {M : St} (T : TM h n M) {p : Nat} (hp : p ≤ n) : f_X10_isSmall fu M (nI p) = some (if p < n ∧ pW (h p) = true then 1 else 0) := by
  obtain ⟨h34, h0, -⟩ := T
  unfold f_X10_isSmall
  rw [h34]
  by_cases c : p < n
  · have hh := hh p c
    rw [if_neg (nI_ge c (by omega)), if_pos (inb_nI (show p < 1500 by omega) (by decide)), cl_nI (show p < 2 ^ 31 by omega), h0 p c, if_pos (inb_nI (show p < 1500 by omega) (by decide))]
    by_cases c1 : h p < 97
    · rw [if_pos (show nI (h p) < 97 from nI_lt (b := 97) c1 (by decide)), if_neg (fun q => by have := pW_t.mp q.2; omega)]
    · rw [if_neg (show ¬ nI (h p) < 97 from nI_nlt (b := 97) (by omega) (by omega))]
      by_cases c2 : 122 < h p
      · rw [if_pos (show 122 < nI (h p) from nI_lt (a := 122) c2 (by omega)), if_neg (fun q => by have := pW_t.mp q.2; omega)]
      · rw [if_neg (show ¬ 122 < nI (h p) from nI_nlt (a := 122) (by omega) (by decide)), if_pos ⟨c, pW_t.mpr (by omega)⟩]
  · rw [if_pos (nI_le (by omega) (by omega)), if_neg (fun q => c q.1)]
theorem digit_e (hn : n ≤ 1500) (hh : ∀ i, i < n → h i < 256) {M : St} (T : TM h n M) {p : Nat} (hp : p ≤ n) : f_X10_isDigit fu M (nI p) = some (if p < n ∧ pD (h p) = true then 1 else 0) := by
  obtain ⟨h34, h0, -⟩ := T
  unfold f_X10_isDigit
  rw [h34]
  by_cases c : p < n
  · have hh := hh p c
    rw [if_neg (nI_ge c (by omega)), if_pos (inb_nI (show p < 1500 by omega) (by decide)), cl_nI (show p < 2 ^ 31 by omega), h0 p c, if_pos (inb_nI (show p < 1500 by omega) (by decide))]
    by_cases c1 : h p < 48
    · rw [if_pos (show nI (h p) < 48 from nI_lt (b := 48) c1 (by decide)), if_neg (fun q => by have := pD_t.mp q.2; omega)]
    · rw [if_neg (show ¬ nI (h p) < 48 from nI_nlt (b := 48) (by omega) (by omega))]
      by_cases c2 : 57 < h p
      · rw [if_pos (show 57 < nI (h p) from nI_lt (a := 57) c2 (by omega)), if_neg (fun q => by have := pD_t.mp q.2; omega)]
      · rw [if_neg (show ¬ 57 < nI (h p) from nI_nlt (a := 57) (by omega) (by decide)), if_pos ⟨c, pD_t.mpr (by omega)⟩]
  · rw [if_pos (nI_le (by omega) (by omega)), if_neg (fun q => c q.1)]
theorem TM.f {M : St} (T : TM h n M) {k : Nat} {v : Int32} (hk : k ≠ 34) : TM h n (sF M k v) := ⟨by rw [sF_1, if_neg (Ne.symm hk)]; exact T.1, T.2.1, T.2.2⟩
/-- the reference's word -/
theorem takeL90 (hn : n ≤ 1500) (hh : ∀ i, i < n → h i < 256) {M : St} (T : TM h n M) {p p' q : Nat} (hq : n < q) (hS : Sc pW h n p p') : f_X10_take_L90 fu q (sF M 35 (nI p)) = (f_X10_wordAt fu (sF M 35 (nI p')) (M.1 38) (nI p')).bind (fun q_124 => if 0 ≤ q_124 then (f_X10_take_L144 fu (sF (sF M 35 (nI p')) 37 q_124) 1) else (f_X10_take_L144 fu (sF (sF M 35 (nI p')) 37 q_124) 6)) := by
  refine scan' (fun q u => f_X10_take_L90 fu q u) (fun u => (f_X10_wordAt fu u (M.1 38) (u.1 35)).bind (fun q_124 => if 0 ≤ q_124 then (f_X10_take_L144 fu (sF u 37 q_124) 1) else (f_X10_take_L144 fu (sF u 37 q_124) 6))) (fun p => sF M 35 (nI p)) ?_ ?_ hq hS
  · intro q p hp hP
    have e2 : (sF M 35 (nI p)).1 35 = nI p := rfl
    show f_X10_take_L90 fu (q + 1) (sF M 35 (nI p)) = _
    rw [f_X10_take_L90, e2, nI_1, sF_same]
    exact bd (r := 1) ((small_e hn hh (T.f (by decide)) (by omega)).trans (by rw [if_pos ⟨hp, hP⟩])) (if_neg (by decide))
  · intro q p hp hP
    have e2 : (sF M 35 (nI p)).1 35 = nI p := rfl
    show f_X10_take_L90 fu (q + 1) (sF M 35 (nI p)) = _
    rw [f_X10_take_L90, e2]
    exact bd (r := 0) ((small_e hn hh (T.f (by decide)) (by omega)).trans (by rw [if_neg (fun g => by rw [hP g.1] at g; exact absurd g.2 (by decide))])) (if_pos rfl)
/-- the class's string -/
theorem strL10 (C : CX h n b) {u : St} (h4 : u.1 4 = nI n) {p p' q : Nat} (hq : n < q) (hS : Sc pS h n p p') : f_X4_takeString_L10 fu b q (sF u 5 (nI p)) = f_X4_takeString_L76 fu b (sF u 5 (nI p')) := by
  obtain ⟨hn, hb⟩ := C
  refine scan' (fun q u => f_X4_takeString_L10 fu b q u) (fun u => f_X4_takeString_L76 fu b u) (fun p => sF u 5 (nI p)) ?_ ?_ hq hS
  · intro q p hp hP
    have e4 : (sF u 5 (nI p)).1 4 = nI n := h4
    have e2 : (sF u 5 (nI p)).1 5 = nI p := rfl
    have hh := (hb p hp).1
    have := pS_t.mp hP
    show f_X4_takeString_L10 fu b (q + 1) (sF u 5 (nI p)) = _
    rw [f_X4_takeString_L10, e4, e2, if_neg (nI_ge hp (by omega)), if_pos (inb_nI (show p < 1500 by omega) (by decide)), cl_nI (show p < 2 ^ 31 by omega), (hb p hp).2, if_pos (inb_nI (show p < 1500 by omega) (by decide)), if_pos (inb_nI (show p < 1500 by omega) (by decide)), nI_1, sF_same, if_neg (show ¬ sb (h p) < 32 from fun e => by have := (sb_lt (k := 32) hh (by decide)).mp e; omega), if_neg (show ¬ 126 < sb (h p) from fun e => by have := (sb_gt (k := 126) hh (by decide)).mp e; omega), if_neg (show ¬ sb (h p) = 34 from fun e => by have := (sb_eq (k := 34) hh (by decide)).mp e; omega)]
  · intro q p hp hP
    have e4 : (sF u 5 (nI p)).1 4 = nI n := h4
    have e2 : (sF u 5 (nI p)).1 5 = nI p := rfl
    show f_X4_takeString_L10 fu b (q + 1) (sF u 5 (nI p)) = _
    rw [f_X4_takeString_L10, e4, e2]
    by_cases c : p < n
    · have hh := (hb p c).1
      have := pF pS_t (hP c)
      rw [if_neg (nI_ge c (by omega)), if_pos (inb_nI (show p < 1500 by omega) (by decide)), cl_nI (show p < 2 ^ 31 by omega), (hb p c).2, if_pos (inb_nI (show p < 1500 by omega) (by decide)), if_pos (inb_nI (show p < 1500 by omega) (by decide))]
      by_cases c1 : sb (h p) < 32
      · rw [if_pos c1]
      · rw [if_neg c1]
        by_cases c2 : 126 < sb (h p)
        · rw [if_pos c2]
        · rw [if_neg c2, if_pos (show sb (h p) = 34 from (sb_eq (k := 34) hh (by decide)).mpr (by
            have g1 : ¬ (h p < 32 ∨ 128 ≤ h p) := fun e => c1 ((sb_lt (k := 32) hh (by decide)).mpr e)
            have g2 : ¬ (126 < h p ∧ h p < 128) := fun e => c2 ((sb_gt (k := 126) hh (by decide)).mpr e)
            omega))]
    · rw [if_pos (nI_le (by omega) (by omega))]
/-- the reference's string -/
theorem strL0 (hn : n ≤ 1500) (hh : ∀ i, i < n → h i < 256) {M : St} (T : TM h n M) {p p' q : Nat} (hq : n < q) (hS : Sc pS h n p p') : f_X10_string_L0 fu q (sF M 35 (nI p)) = f_X10_string_L66 fu (sF M 35 (nI p')) := by
  obtain ⟨h34, h0, -⟩ := T
  refine scan' (fun q u => f_X10_string_L0 fu q u) (fun u => f_X10_string_L66 fu u) (fun p => sF M 35 (nI p)) ?_ ?_ hq hS
  · intro q p hp hP
    have e4 : (sF M 35 (nI p)).1 34 = nI n := h34
    have e2 : (sF M 35 (nI p)).1 35 = nI p := rfl
    have e0 : (sF M 35 (nI p)).2 0 p = nI (h p) := h0 p hp
    have hh := hh p hp
    have := pS_t.mp hP
    show f_X10_string_L0 fu (q + 1) (sF M 35 (nI p)) = _
    rw [f_X10_string_L0, e4, e2, if_neg (nI_ge hp (by omega)), if_pos (inb_nI (show p < 1500 by omega) (by decide)), cl_nI (show p < 2 ^ 31 by omega), e0, if_pos (inb_nI (show p < 1500 by omega) (by decide)), if_pos (inb_nI (show p < 1500 by omega) (by decide)), nI_1, sF_same, if_neg (show ¬ nI (h p) < 32 from nI_nlt (b := 32) (by omega) (by omega)), if_neg (show ¬ 126 < nI (h p) from nI_nlt (a := 126) (by omega) (by decide)), if_neg (show ¬ nI (h p) = 34 from nI_neq (b := 34) (by omega) (by decide) (by omega))]
  · intro q p hp hP
    have e4 : (sF M 35 (nI p)).1 34 = nI n := h34
    have e2 : (sF M 35 (nI p)).1 35 = nI p := rfl
    show f_X10_string_L0 fu (q + 1) (sF M 35 (nI p)) = _
    rw [f_X10_string_L0, e4, e2]
    by_cases c : p < n
    · have hh := hh p c
      have := pF pS_t (hP c)
      have e0 : (sF M 35 (nI p)).2 0 p = nI (h p) := h0 p c
      rw [if_neg (nI_ge c (by omega)), if_pos (inb_nI (show p < 1500 by omega) (by decide)), cl_nI (show p < 2 ^ 31 by omega), e0, if_pos (inb_nI (show p < 1500 by omega) (by decide)), if_pos (inb_nI (show p < 1500 by omega) (by decide))]
      by_cases c1 : h p < 32
      · rw [if_pos (show nI (h p) < 32 from nI_lt (b := 32) c1 (by decide))]
      · rw [if_neg (show ¬ nI (h p) < 32 from nI_nlt (b := 32) (by omega) (by omega))]
        by_cases c2 : 126 < h p
        · rw [if_pos (show 126 < nI (h p) from nI_lt (a := 126) c2 (by omega))]
        · rw [if_neg (show ¬ 126 < nI (h p) from nI_nlt (a := 126) (by omega) (by decide)), if_pos (show nI (h p) = 34 by rw [show h p = 34 by omega]; rfl)]
    · rw [if_pos (nI_le (by omega) (by omega))]
/-- a number's value on both sides -/
def NR (x y : Nat) : Prop := x ≤ 100000 ∧ y ≤ 999999 ∧ (x = y ∨ (99999 < x ∧ 99999 < y))
theorem numL10 (C : CX h n b) {u : St} (h4 : u.1 4 = nI n) {M : St} (T : TM h n M) : ∀ (m q p x y : Nat), m < q → Sc pD h n p (p + m) → NR x y → ∃ x' y', NR x' y' ∧ f_X4_takeNumber_L10 fu b q (sF (sF u 3 (nI x)) 5 (nI p)) = some (sF (sF u 3 (nI x')) 5 (nI (p + m))) ∧ f_X10_take_L171 fu q (sF (sF M 37 (nI y)) 35 (nI p)) = some (sF (sF M 37 (nI y')) 35 (nI (p + m))) := by
  obtain ⟨hn, hb⟩ := C
  obtain ⟨h34, h0, h54⟩ := T
  intro m
  induction m with
  | zero =>
    intro q p x y hq hS hN
    obtain ⟨q, rfl⟩ : ∃ q', q = q' + 1 := ⟨q - 1, by omega⟩
    rw [Nat.add_zero] at hS ⊢
    have hp := hS.2.1
    refine ⟨x, y, hN, ?_, ?_⟩
    · have e4 : (sF (sF u 3 (nI x)) 5 (nI p)).1 4 = nI n := h4
      have e2 : (sF (sF u 3 (nI x)) 5 (nI p)).1 5 = nI p := rfl
      rw [f_X4_takeNumber_L10, e4, e2]
      by_cases c : p < n
      · have hh := (hb p c).1
        have := pF pD_t (hS.2.2.2 c)
        rw [if_neg (nI_ge c (by omega)), if_pos (inb_nI (show p < 1500 by omega) (by decide)), cl_nI (show p < 2 ^ 31 by omega), (hb p c).2, if_pos (inb_nI (show p < 1500 by omega) (by decide))]
        by_cases c1 : sb (h p) < 48
        · exact if_pos c1
        · rw [if_neg c1]
          refine if_pos ((sb_gt (k := 57) hh (by decide)).mpr ?_)
          have : ¬ (h p < 48 ∨ 128 ≤ h p) := fun e => c1 ((sb_lt (k := 48) hh (by decide)).mpr e)
          omega
      · exact if_pos (nI_le (by omega) (by omega))
    · have e2 : (sF (sF M 37 (nI y)) 35 (nI p)).1 35 = nI p := rfl
      have T' : TM h n (sF (sF M 37 (nI y)) 35 (nI p)) := ⟨h34, h0, h54⟩
      rw [f_X10_take_L171, e2]
      exact bd (r := 0) ((digit_e hn (fun i hi => (hb i hi).1) T' (by omega)).trans (by rw [if_neg (fun g => by rw [hS.2.2.2 g.1] at g; exact absurd g.2 (by decide))])) (if_pos rfl)
  | succ m ih =>
    intro q p x y hq hS hN
    obtain ⟨q, rfl⟩ : ∃ q', q = q' + 1 := ⟨q - 1, by omega⟩
    have hp2 := hS.2.1
    have hp : p < n := by omega
    have hP := hS.2.2.1 p (Nat.le_refl _) (by omega)
    have hD := pD_t.mp hP
    have hh := (hb p hp).1
    obtain ⟨n1, n2, n3⟩ := id hN
    have hS' : Sc pD h n (p + 1) (p + 1 + m) := ⟨by omega, by omega, fun i h1 h2 => hS.2.2.1 i (by omega) (by omega), fun h1 => by
      have := hS.2.2.2 (by omega)
      rw [show p + 1 + m = p + (m + 1) by omega]; exact this⟩
    obtain ⟨x', y', k1, k2, k3⟩ := ih q (p + 1) (if 10 * x + h p - 48 < 100000 then 10 * x + h p - 48 else 100000) (if y ≤ 99999 then 10 * y + h p - 48 else y) (by omega) hS' (by
      unfold NR
      split <;> split <;> omega)
    rw [show p + 1 + m = p + (m + 1) by omega] at k2 k3
    refine ⟨x', y', k1, ?_, ?_⟩
    · have e4 : (sF (sF u 3 (nI x)) 5 (nI p)).1 4 = nI n := h4
      have e2 : (sF (sF u 3 (nI x)) 5 (nI p)).1 5 = nI p := rfl
      have e3 : (sF (sF u 3 (nI x)) 5 (nI p)).1 3 = nI x := rfl
      have ev : (nI x * 10 + sb (h p) - 48 : Int32) = nI (10 * x + h p - 48) := by
        rw [sb_lo (show h p < 128 by omega), show (nI x * 10 : Int32) = nI (x * 10) from pk_mul x 10, nI_add, show (nI (x * 10 + h p) - 48 : Int32) = nI (x * 10 + h p - 48) from pk_sub (b := 48) (by omega), Nat.mul_comm]
      have es : ∀ v, sF (sF (sF (sF u 3 (nI x)) 5 (nI p)) 3 v) 5 (nI (p + 1)) = sF (sF u 3 v) 5 (nI (p + 1)) := by
        intro v
        rw [sF_comm _ (show (5 : Nat) ≠ 3 by decide), sF_same, sF_same]
      rw [f_X4_takeNumber_L10, e4, e2, if_neg (nI_ge hp (by omega)), if_pos (inb_nI (show p < 1500 by omega) (by decide)), cl_nI (show p < 2 ^ 31 by omega), (hb p hp).2, if_pos (inb_nI (show p < 1500 by omega) (by decide)), if_pos (inb_nI (show p < 1500 by omega) (by decide)), e3, ev, nI_1, if_neg (show ¬ sb (h p) < 48 from fun e => by have := (sb_lt (k := 48) hh (by decide)).mp e; omega), if_neg (show ¬ 57 < sb (h p) from fun e => by have := (sb_gt (k := 57) hh (by decide)).mp e; omega), es]
      by_cases c : 10 * x + h p - 48 < 100000
      · rw [if_pos (show nI (10 * x + h p - 48) < 100000 from nI_lt (b := 100000) c (by decide))]
        rw [if_pos c] at k2
        exact k2
      · rw [if_neg (show ¬ nI (10 * x + h p - 48) < 100000 from nI_nlt (b := 100000) (by omega) (by omega))]
        rw [if_neg c] at k2
        exact k2
    · have e2 : (sF (sF M 37 (nI y)) 35 (nI p)).1 35 = nI p := rfl
      have e3 : (sF (sF M 37 (nI y)) 35 (nI p)).1 37 = nI y := rfl
      have e0 : (sF (sF M 37 (nI y)) 35 (nI p)).2 0 p = nI (h p) := h0 p hp
      have T' : TM h n (sF (sF M 37 (nI y)) 35 (nI p)) := ⟨h34, h0, h54⟩
      have ev : (10 * nI y + nI (h p) - 48 : Int32) = nI (10 * y + h p - 48) := by
        rw [show (10 * nI y : Int32) = nI (10 * y) from pk_mul 10 y, nI_add, show (nI (10 * y + h p) - 48 : Int32) = nI (10 * y + h p - 48) from pk_sub (b := 48) (by omega)]
      have es : ∀ v, sF (sF (sF (sF M 37 (nI y)) 35 (nI p)) 37 v) 35 (nI (p + 1)) = sF (sF M 37 v) 35 (nI (p + 1)) := by
        intro v
        rw [sF_comm _ (show (35 : Nat) ≠ 37 by decide), sF_same, sF_same]
      rw [f_X10_take_L171, e2]
      refine bd (r := 1) ((digit_e hn (fun i hi => (hb i hi).1) T' (by omega)).trans (by rw [if_pos ⟨hp, hP⟩])) (iN (by decide) ?_)
      unfold f_X10_take_L219
      rw [e3, e2, nI_1, cl_nI (show p < 2 ^ 31 by omega), e0, ev, es, es, if_pos (inb_nI (show p < 1500 by omega) (by decide))]
      by_cases c : y ≤ 99999
      · rw [if_pos (show nI y ≤ 99999 from nI_le (b := 99999) c (by decide))]
        rw [if_pos c] at k3
        exact k3
      · rw [if_neg (show ¬ nI y ≤ 99999 from nI_ge (a := 99999) (by omega) (by omega))]
        rw [if_neg c] at k3
        exact k3
end SCN
