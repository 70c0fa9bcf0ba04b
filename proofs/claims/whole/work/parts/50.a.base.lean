/-! TIER 2: the pure functions, without the machine. Tools -/
theorem ip {α : Type} {c : Prop} [Decidable c] {x y v : α} (hc : c) (h : x = v) : (if c then x else y) = v := (if_pos hc).trans h
theorem iN {α : Type} {c : Prop} [Decidable c] {x y v : α} (hc : ¬ c) (h : y = v) : (if c then x else y) = v := (if_neg hc).trans h
theorem bd {α β : Type} {x : Option α} {k : α → Option β} {r : α} {v : Option β} (h : x = some r) (hk : k r = v) : x.bind k = v := by rw [h]; exact hk
theorem inb_nI {n N : Nat} (h : n < N) (hN : N < 2 ^ 31) : inb (nI n) N = true := in_inb (vp_in_nI h hN)
theorem nI_neq {a b : Nat} (ha : a < 2 ^ 31) (hb : b < 2 ^ 31) (h : a ≠ b) : ¬ nI a = nI b := fun e => h ((nI_eq ha hb).mp e)
theorem cl_nI {n : Nat} (h : n < 2 ^ 31) : (nI n).toNatClampNeg = n := nI_clamp h
theorem fa_upd_twice9 (f : Nat → Int32) (i : Nat) (x y : Int32) : upd (upd f i x) i y = upd f i y := funext fun j => by
  by_cases hj : j = i
  · subst hj; rw [pk_us, pk_us]
  · rw [pk_un hj, pk_un hj, pk_un hj]
theorem sF_same (σ : St) (k : Nat) (v w : Int32) : sF (sF σ k v) k w = sF σ k w := by
  unfold sF
  congr 1
  exact fa_upd_twice9 σ.1 k v w
theorem sF_self {σ : St} {k : Nat} {v : Int32} (h : σ.1 k = v) : sF σ k v = σ := by
  unfold sF
  have e : upd σ.1 k v = σ.1 := funext fun j => by
    by_cases hj : j = k
    · subst hj; rw [pk_us, h]
    · rw [pk_un hj]
  rw [e]
theorem sF_1 {σ : St} {k j : Nat} {v : Int32} : (sF σ k v).1 j = if j = k then v else σ.1 j := by
  unfold sF
  by_cases hj : j = k
  · subst hj; rw [if_pos rfl]; exact pk_us
  · rw [if_neg hj]; exact pk_un hj
theorem sF_2 {σ : St} {k : Nat} {v : Int32} : (sF σ k v).2 = σ.2 := rfl
theorem sA_1 {σ : St} {k i : Nat} {v : Int32} : (sA σ k i v).1 = σ.1 := rfl
theorem sA_2 {σ : St} {k i j : Nat} {v : Int32} : (sA σ k i v).2 j = if j = k then upd (σ.2 k) i v else σ.2 j := rfl
theorem sA_2i {σ : St} {k i j n : Nat} {v : Int32} : (sA σ k i v).2 j n = if j = k then (if n = i then v else σ.2 k n) else σ.2 j n := by
  rw [sA_2]
  by_cases hj : j = k
  · rw [if_pos hj, if_pos hj]
    by_cases hn : n = i
    · subst hn; rw [if_pos rfl]; exact pk_us
    · rw [if_neg hn]; exact pk_un hn
  · rw [if_neg hj, if_neg hj]
def b1 (b : Bool) : Nat := if b then 1 else 0
theorem b1_lt (b : Bool) : b1 b < 2 := by cases b <;> decide
theorem b1_0 {b : Bool} : b1 b = 0 ↔ b = false := by cases b <;> decide
theorem b1_1 {b : Bool} : b1 b = 1 ↔ b = true := by cases b <;> decide
