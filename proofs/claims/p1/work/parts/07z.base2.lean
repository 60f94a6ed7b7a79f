theorem zsh {k : Nat} (h : k < 6) : (0 : Int32) >>> nI k = 0 := by
  rcases (show k = 0 ∨ k = 1 ∨ k = 2 ∨ k = 3 ∨ k = 4 ∨ k = 5 by omega) with rfl | rfl | rfl | rfl | rfl | rfl <;> decide +kernel
theorem i012b {x : Int32} (h1 : ¬ x < 0) (h2 : ¬ 2 < x) : x = 0 ∨ x = 1 ∨ x = 2 := by
  obtain ⟨j, hj, rfl⟩ := nI_of h1
  have h3 : j ≤ 2 := Nat.le_of_not_lt (fun h => h2 (nI_lt h hj))
  rcases (show j = 0 ∨ j = 1 ∨ j = 2 by omega) with rfl | rfl | rfl
  · exact Or.inl rfl
  · exact Or.inr (Or.inl rfl)
  · exact Or.inr (Or.inr rfl)
