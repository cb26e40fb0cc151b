/-! the rule's text, sign by sign -/
theorem zy_po_S {cd : Nat → Option Value} {N k n : Nat} (h : (zy_po cd (N + 1) k n).isSome = true) : ∃ (c : Int32) (m : Nat), cd k = some (.int c) ∧ zy_hs n c = some m ∧ (zy_po cd N (k + 1) m).isSome = true := by
  unfold zy_po at h
  split at h
  · rename_i c hc
    split at h
    · rename_i m hm
      exact ⟨c, m, hc, hm, h⟩
    · cases h
  · cases h
theorem zy_hs_c {n m : Nat} {c : Int32} (h : zy_hs n c = some m) : (c = 126 ∧ 1 ≤ n ∧ m = n) ∨ ((97 ≤ c ∧ c ≤ 122) ∧ n < 59 ∧ m = n + 1) ∨ (c ≠ 126 ∧ ¬ (97 ≤ c ∧ c ≤ 122) ∧ 2 ≤ n ∧ m = n - 1) := by
  unfold zy_hs at h
  split at h
  · rename_i h1
    split at h
    · rename_i h2
      exact Or.inl ⟨h1, h2, (Option.some.inj h).symm⟩
    · cases h
  · rename_i h1
    split at h
    · rename_i h2
      split at h
      · rename_i h3
        exact Or.inr (Or.inl ⟨h2, h3, (Option.some.inj h).symm⟩)
      · cases h
    · rename_i h2
      split at h
      · rename_i h3
        exact Or.inr (Or.inr ⟨h1, h2, h3, (Option.some.inj h).symm⟩)
      · cases h
