/-! a byte of a number, on both sides -/
def by8 (y : Int32) : Nat := (y &&& 255).toNatClampNeg
theorem and255 (y : Int32) : ∃ h, h < 256 ∧ y &&& 255 = nI h := by
  refine ⟨(y.toBitVec &&& 255#32).toNat, ?_, ?_⟩
  · rw [BitVec.toNat_and]
    exact Nat.lt_of_le_of_lt Nat.and_le_right (by decide)
  · apply Int32.toBitVec_inj.mp
    rw [Int32.toBitVec_and]
    apply BitVec.eq_of_toNat_eq
    have e : (nI (y.toBitVec &&& 255#32).toNat).toBitVec = BitVec.ofNat 32 (y.toBitVec &&& 255#32).toNat := rfl
    rw [e, BitVec.toNat_ofNat, Nat.mod_eq_of_lt (BitVec.isLt _)]
    rfl
theorem by8_e (y : Int32) : by8 y < 256 ∧ y &&& 255 = nI (by8 y) := by
  obtain ⟨h, h1, h2⟩ := and255 y
  have e : by8 y = h := by unfold by8; rw [h2]; exact cl_nI (by omega)
  rw [e]
  exact ⟨h1, h2⟩
theorem by8_s (y : Int32) : y.toInt8.toInt32 = sb (by8 y) := by
  unfold sb
  rw [← (by8_e y).2]
  congr 1
  apply Int8.toBitVec_inj.mp
  show y.toBitVec.signExtend 8 = (y &&& 255).toBitVec.signExtend 8
  rw [Int32.toBitVec_and]
  have k : ∀ v : BitVec 32, v.signExtend 8 = (v &&& 255#32).signExtend 8 := by
    intro v
    rw [BitVec.signExtend_eq_setWidth_of_le _ (by decide), BitVec.signExtend_eq_setWidth_of_le _ (by decide), BitVec.setWidth_and]
    rw [show BitVec.setWidth 8 255#32 = BitVec.allOnes 8 by decide, BitVec.and_allOnes]
  exact k _
theorem ap_s (fu q : Nat) {u : St} {n : Nat} (hn : u.1 1 = nI n) (h15 : n < 1500) (x s : Int32) (hs : ¬ s < 0) : f_X6_append_L3 fu (q + 1) u x s = f_X6_append_L3 fu q (sF (sA u 0 n (sb (by8 (x >>> (s &&& 31))))) 1 (nI (n + 1))) x (s + (-8)) := by
  rw [f_X6_append_L3, if_neg hs, hn, if_neg (show ¬ (1500 : Int32) ≤ nI n from nI_ge (a := n) (b := 1500) h15 (by decide)), if_pos (inb_nI h15 (by decide)), cl_nI (show n < 2 ^ 31 by omega), nI_1, vp_nar_byte, Int8.toInt8_toInt32, by8_s]
/-- the byte of a number at place k -/
def byk (x : Int32) (k : Nat) : Nat := by8 (x >>> ((24 - 8 * nI k) &&& 31))
theorem append_e {fu : Nat} (hfu : 10 ≤ fu) {u : St} {n : Nat} (hn : u.1 1 = nI n) (h15 : n + 4 ≤ 1500) (x : Int32) : ∃ u' : St, f_X6_append fu u x = some u' ∧ u'.1 1 = nI (n + 4) ∧ (∀ j, j < n → u'.2 0 j = u.2 0 j) ∧ ∀ k, k < 4 → u'.2 0 (n + k) = sb (byk x k) := by
  obtain ⟨f, rfl⟩ : ∃ f, fu = f + 5 := ⟨fu - 5, by omega⟩
  obtain ⟨u1, e1⟩ : ∃ u1, u1 = sF (sA u 0 n (sb (by8 (x >>> ((24 : Int32) &&& 31))))) 1 (nI (n + 1)) := ⟨_, rfl⟩
  obtain ⟨u2, e2⟩ : ∃ u2, u2 = sF (sA u1 0 (n + 1) (sb (by8 (x >>> (((24 : Int32) + -8) &&& 31))))) 1 (nI (n + 1 + 1)) := ⟨_, rfl⟩
  obtain ⟨u3, e3⟩ : ∃ u3, u3 = sF (sA u2 0 (n + 1 + 1) (sb (by8 (x >>> (((24 : Int32) + -8 + -8) &&& 31))))) 1 (nI (n + 1 + 1 + 1)) := ⟨_, rfl⟩
  obtain ⟨u4, e4⟩ : ∃ u4, u4 = sF (sA u3 0 (n + 1 + 1 + 1) (sb (by8 (x >>> (((24 : Int32) + -8 + -8 + -8) &&& 31))))) 1 (nI (n + 1 + 1 + 1 + 1)) := ⟨_, rfl⟩
  have g1 : u1.1 1 = nI (n + 1) := by rw [e1]; rfl
  have g2 : u2.1 1 = nI (n + 1 + 1) := by rw [e2]; rfl
  have g3 : u3.1 1 = nI (n + 1 + 1 + 1) := by rw [e3]; rfl
  refine ⟨u4, ?_, by rw [e4]; rfl, ?_, ?_⟩
  · unfold f_X6_append
    rw [ap_s _ (f + 4) hn (by omega) x 24 (by decide), ← e1, ap_s _ (f + 3) g1 (by omega) x _ (by decide), ← e2, ap_s _ (f + 2) g2 (by omega) x _ (by decide), ← e3, ap_s _ (f + 1) g3 (by omega) x _ (by decide), ← e4, f_X6_append_L3]
    exact ip (by decide) rfl
  · intro j hj
    rw [e4, sF_2, sA_2i, if_pos rfl, if_neg (by omega), e3, sF_2, sA_2i, if_pos rfl, if_neg (by omega), e2, sF_2, sA_2i, if_pos rfl, if_neg (by omega), e1, sF_2, sA_2i, if_pos rfl, if_neg (by omega)]
  · intro k hk
    have h4 : k = 0 ∨ k = 1 ∨ k = 2 ∨ k = 3 := by omega
    rcases h4 with rfl | rfl | rfl | rfl
    · rw [e4, sF_2, sA_2i, if_pos rfl, if_neg (by omega), e3, sF_2, sA_2i, if_pos rfl, if_neg (by omega), e2, sF_2, sA_2i, if_pos rfl, if_neg (by omega), e1, sF_2, sA_2i, if_pos rfl, if_pos (by omega)]
      rfl
    · rw [e4, sF_2, sA_2i, if_pos rfl, if_neg (by omega), e3, sF_2, sA_2i, if_pos rfl, if_neg (by omega), e2, sF_2, sA_2i, if_pos rfl, if_pos (by omega)]
      rfl
    · rw [e4, sF_2, sA_2i, if_pos rfl, if_neg (by omega), e3, sF_2, sA_2i, if_pos rfl, if_pos (by omega)]
      rfl
    · rw [e4, sF_2, sA_2i, if_pos rfl, if_pos (by omega)]
      rfl
