/-! the reference's feed -/
def wd5 (a b c d e : Int32) (k : Nat) : Int32 := if k < 4 then a else if k < 8 then b else if k < 12 then c else if k < 16 then d else e
theorem fdL23 (fu : Nat) {n : Nat} (h15 : n + 20 ≤ 1500) (a b c d e : Int32) : ∀ (m q k : Nat) (u : St), k + m = 20 → m < q → u.1 1 = nI n → (∀ j, j < k → u.2 0 (n + j) = nI (byk (wd5 a b c d e j) (j % 4))) → ∃ u' : St, f_X10_feed_L23 fu q u a b c d e (nI k) = some (nI (n + 20), sF u' 1 (nI (n + 20))) ∧ (∀ j, j < 20 → u'.2 0 (n + j) = nI (byk (wd5 a b c d e j) (j % 4))) ∧ (∀ j, j < n → u'.2 0 j = u.2 0 j) ∧ u'.1 = u.1 ∧ ∀ x, x ≠ 0 → u'.2 x = u.2 x := by
  intro m
  induction m with
  | zero =>
    intro q k u hk hq hu hj
    obtain ⟨q, rfl⟩ : ∃ q', q = q' + 1 := ⟨q - 1, by omega⟩
    refine ⟨u, ?_, fun j h => hj j (by omega), fun j _ => rfl, rfl, fun x _ => rfl⟩
    rw [f_X10_feed_L23, hu, show (nI n + 20 : Int32) = nI (n + 20) from nI_add n 20]
    exact ip (nI_le (a := 20) (by omega) (by omega)) rfl
  | succ m ih =>
    intro q k u hk hq hu hj
    obtain ⟨q, rfl⟩ : ∃ q', q = q' + 1 := ⟨q - 1, by omega⟩
    have hsh : (nI k - nI k / 4 * 4 : Int32) = nI (k % 4) := by
      rw [show (nI k / 4 : Int32) = nI (k / 4) from pk_div (by omega) (by decide) (by decide), show (nI (k / 4) * 4 : Int32) = nI (k / 4 * 4) from pk_mul _ 4, pk_sub (by omega)]
      congr 1
      omega
    have st : ∀ w : Int32, w = wd5 a b c d e k → ∃ u' : St, f_X10_feed_L76 (f_X10_feed_L23 fu q) fu u a b c d e (nI k) w = some (nI (n + 20), sF u' 1 (nI (n + 20))) ∧ (∀ j, j < 20 → u'.2 0 (n + j) = nI (byk (wd5 a b c d e j) (j % 4))) ∧ (∀ j, j < n → u'.2 0 j = u.2 0 j) ∧ u'.1 = u.1 ∧ ∀ x, x ≠ 0 → u'.2 x = u.2 x := by
      intro w hw
      unfold f_X10_feed_L76
      rw [if_pos (show nz 4 = true by decide), hu, nI_add, if_pos (inb_nI (show n + k < 1500 by omega) (by decide)), cl_nI (show n + k < 2 ^ 31 by omega), hsh, (by8_e _).2, nI_1]
      obtain ⟨u', e1, e2, e3, e4, e5⟩ := ih q (k + 1) (sA u 0 (n + k) (nI (byk w (k % 4)))) (by omega) (by omega) hu (by
        intro j hjk
        rw [sA_2i, if_pos rfl]
        by_cases e9 : j = k
        · rw [if_pos (by omega), e9, hw]
        · rw [if_neg (by omega)]; exact hj j (by omega))
      refine ⟨u', e1, e2, fun j hj2 => ?_, e4, fun x hx => by rw [e5 x hx, sA_2, if_neg hx]⟩
      rw [e3 j hj2, sA_2i, if_pos rfl, if_neg (by omega)]
    rw [f_X10_feed_L23, if_neg (show ¬ (20 : Int32) ≤ nI k from nI_ge (a := k) (b := 20) (by omega) (by decide))]
    have dec : ∀ L : Nat, L < 100 → ((nI L ≤ nI k) ↔ ¬ k < L) := fun L hL => ⟨fun h1 h2 => nI_ge h2 (by omega) h1, fun h1 => nI_le (by omega) (by omega)⟩
    by_cases c4 : k < 4
    · rw [if_neg (show ¬ (4 : Int32) ≤ nI k from fun h1 => (dec 4 (by decide)).mp h1 c4)]; exact st a (by unfold wd5; rw [if_pos c4])
    rw [if_pos (show (4 : Int32) ≤ nI k from (dec 4 (by decide)).mpr c4)]
    by_cases c8 : k < 8
    · rw [if_neg (show ¬ (8 : Int32) ≤ nI k from fun h1 => (dec 8 (by decide)).mp h1 c8)]; exact st b (by unfold wd5; rw [if_neg c4, if_pos c8])
    rw [if_pos (show (8 : Int32) ≤ nI k from (dec 8 (by decide)).mpr c8)]
    by_cases c12 : k < 12
    · rw [if_neg (show ¬ (12 : Int32) ≤ nI k from fun h1 => (dec 12 (by decide)).mp h1 c12)]; exact st c (by unfold wd5; rw [if_neg c4, if_neg c8, if_pos c12])
    rw [if_pos (show (12 : Int32) ≤ nI k from (dec 12 (by decide)).mpr c12)]
    by_cases c16 : k < 16
    · rw [if_neg (show ¬ (16 : Int32) ≤ nI k from fun h1 => (dec 16 (by decide)).mp h1 c16)]; exact st d (by unfold wd5; rw [if_neg c4, if_neg c8, if_neg c12, if_pos c16])
    rw [if_pos (show (16 : Int32) ≤ nI k from (dec 16 (by decide)).mpr c16)]
    exact st e (by unfold wd5; rw [if_neg c4, if_neg c8, if_neg c12, if_neg c16])
