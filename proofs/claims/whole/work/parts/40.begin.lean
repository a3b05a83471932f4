/-! the two fresh objects are coupled -/
section ZP18
variable {c m : zSt}
theorem zR_init (h0 : ∀ j, 11 ≤ j → j ≤ 15 → c.1 0 j = 0) (hS : ∀ k j, k < 4 → c.1 (14 + k) j = 0) (hO : ∀ k, k < 4 → c.1 (18 + k) 0 = 0 ∧ c.1 (18 + k) 1 = -1) (h9 : c.1 9 0 = 0 ∧ c.1 9 1 = -1) (h10 : c.1 10 0 = 0 ∧ c.1 10 1 = -1) (h5 : ∀ i, i < 10 → c.1 5 i = -1) (h6 : ∀ i, i < 6 → c.1 6 i = 0 ∧ c.1 7 i = 0) (hG : ∀ k, k < 24 → c.1 (34 + k) 6 = 0 ∧ c.1 (34 + k) 7 = 0 ∧ c.1 (34 + k) 8 = -1 ∧ c.1 (34 + k) 10 = 0) (hB : ∀ k, k < 40 → c.1 (58 + k) 4 = -1 ∧ c.1 (58 + k) 6 = 0 ∧ c.1 (58 + k) 11 = 0) (hA : ∀ j, j < 3 → c.2 8 j = 0) (hm : ∀ q j, q ≤ 38 → m.1 q j = 0) (hm2 : ∀ j, m.2 0 j = 0) : zR c m := by
  have zz : (0 : Int32) = nI 0 := rfl
  refine ⟨0, 0, 0, 0, 0, ⟨⟨?_, ?_, ?_, ?_, ?_⟩, ⟨?_, ?_, ?_, ?_, ?_⟩, by omega, by omega, by omega, by omega, by omega⟩, fun k hk => ⟨⟨?_, ?_, ?_, ?_, ?_, ?_, ?_⟩, Or.inl ⟨(hO k hk).1, (hO k hk).2, hm _ _ (by omega)⟩, 0, by omega, hS k 6 hk⟩, fun k hk => absurd hk (Nat.not_lt_zero _), ⟨Or.inl ⟨h9.1, h9.2, hm _ _ (by omega)⟩, Or.inl ⟨h10.1, h10.2, hm _ _ (by omega)⟩⟩, fun k hk => absurd hk (Nat.not_lt_zero _), fun k d _ _ => hm _ _ (by omega), fun i hi => ⟨?_, ?_, 0, 0, by omega, by omega, (h6 i hi).1, (h6 i hi).2⟩, fun i hi => ⟨?_, Or.inl (h5 i hi)⟩, fun k hk => absurd hk (Nat.not_lt_zero _), fun k hk => absurd hk (Nat.not_lt_zero _), fun i j hij hj => absurd hj (Nat.not_lt_zero _), fun k _ hk => ⟨hG k hk, hm _ _ (by omega), hm _ _ (by omega), hm _ _ (by omega)⟩, fun k hk => absurd hk (Nat.not_lt_zero _), fun k hk => absurd hk (Nat.not_lt_zero _), fun k _ hk => ⟨hB k hk, hm _ _ (by omega), hm _ _ (by omega), hm _ _ (by omega)⟩, (hm2 _).trans (hA 0 (by omega)).symm, (hm2 _).trans (hA 1 (by omega)).symm, (hm2 _).trans (hA 2 (by omega)).symm⟩
  · exact h0 11 (by omega) (by omega)
  · exact h0 12 (by omega) (by omega)
  · exact h0 13 (by omega) (by omega)
  · exact h0 14 (by omega) (by omega)
  · exact h0 15 (by omega) (by omega)
  · exact hm _ _ (by omega)
  · exact hm _ _ (by omega)
  · exact hm _ _ (by omega)
  · exact hm _ _ (by omega)
  · exact hm _ _ (by omega)
  · rw [hm _ _ (by omega), hS k _ hk]
  · rw [hm _ _ (by omega), hS k _ hk]
  · rw [hm _ _ (by omega), hS k _ hk]
  · rw [hm _ _ (by omega), hS k _ hk]
  · rw [hm _ _ (by omega), hS k _ hk]
  · rw [hm _ _ (by omega), hS k _ hk]
  · rw [hm _ _ (by omega), hS k _ hk]
  · rw [hm _ _ (by omega), (h6 i hi).1]
  · rw [hm _ _ (by omega), (h6 i hi).2]
  · rw [hm _ _ (by omega), h5 i hi]
    decide
end ZP18
