/-! T_init -/
theorem t_init : T_init Rel := by
  intro t1 t2 hne
  have nz9 : ∀ i : Nat, i < 0 → False := fun i hi => Nat.not_lt_zero _ hi
  refine ⟨1, 0, 0, 0, 0, fun _ => 0, fun _ => 0, fun _ => 0, fun _ => 0, fun _ => 0, fun _ => 0, fun _ _ => 0, fun _ => false, fun _ => false, fun _ => 0, fun _ => 0, ?_, ?_, ?_, ?_, ?_, ?_, ?_⟩
  · exact ⟨0, fun _ => 0, by omega, rfl, rfl, fun i hi => (nz9 i hi).elim⟩
  · refine ⟨⟨rfl, rfl, by decide, by decide⟩, ⟨rfl, rfl, by decide⟩, ⟨rfl, rfl⟩, ⟨rfl, rfl, by decide⟩, ⟨rfl, rfl, by decide⟩, fun t ht => ⟨rfl, ?_, Nat.zero_le _⟩, fun t ht => ⟨rfl, ?_, Nat.zero_le _⟩, fun k hk => (nz9 k hk).elim, fun k hk => absurd hk (by omega), fun k hk => (nz9 k hk).elim, fun k hk => (nz9 k hk).elim⟩
    · have h4 : t = 0 ∨ t = 1 ∨ t = 2 ∨ t = 3 := by omega
      rcases h4 with rfl | rfl | rfl | rfl <;> rfl
    · have h4 : t = 0 ∨ t = 1 ∨ t = 2 ∨ t = 3 := by omega
      rcases h4 with rfl | rfl | rfl | rfl <;> rfl
  · exact fun t g ht _ => (nz9 t ht).elim
  · refine ⟨fun k _ => ⟨rfl, rfl, Or.inl rfl⟩, fun k _ => ⟨rfl, rfl, Or.inl rfl⟩, ⟨0, rfl, rfl, by decide, fun q => ?_⟩, true, 0, rfl, rfl, rfl, rfl, by decide, fun _ => by decide, fun q => absurd q (by decide)⟩
    obtain ⟨k, -, h, -⟩ := q
    exact absurd h Bool.false_ne_true
  · exact ⟨⟨List.mem_cons_of_mem _ List.mem_cons_self, rfl⟩, fun κ _ => ⟨rfl, fun q => absurd q Bool.false_ne_true⟩, fun t g ht _ => (nz9 t ht).elim⟩
  · exact ⟨rfl, rfl⟩
  · exact ⟨hne, List.mem_cons_self, List.mem_cons_of_mem _ List.mem_cons_self, rfl, rfl, rfl⟩
