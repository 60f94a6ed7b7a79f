theorem zsh2 {k : Nat} (h : k < 6) : (0 : Int32) >>> (nI k &&& 31) = 0 := by
  rcases (show k = 0 ∨ k = 1 ∨ k = 2 ∨ k = 3 ∨ k = 4 ∨ k = 5 by omega) with rfl | rfl | rfl | rfl | rfl | rfl <;> decide +kernel
