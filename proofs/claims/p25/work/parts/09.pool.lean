/-! THE TASKS OF A WHEEL: a pool of ten cells, in the middle of a world -/
def tk (ta : Nat → Nat) (F : Nat → List Value) : va_W := (List.range 10).map (fun j => (ta j, .inr (8, F j)))
theorem tk_len (ta : Nat → Nat) (F : Nat → List Value) : (tk ta F).length = 10 := by simp [tk]
theorem tk_at (ta : Nat → Nat) (F : Nat → List Value) {k : Nat} (h : k < 10) : (tk ta F)[k]? = some (ta k, .inr (8, F k)) := by
  simp [tk, h]
theorem tk_get (X Y : va_W) (ta : Nat → Nat) (F : Nat → List Value) {k : Nat} (h : k < 10) : (X ++ (tk ta F ++ Y))[X.length + k]? = some (ta k, .inr (8, F k)) := by
  rw [List.getElem?_append_right (Nat.le_add_right _ _), Nat.add_sub_cancel_left, List.getElem?_append_left (by rw [tk_len]; exact h)]
  exact tk_at ta F h
theorem tk_up (ta : Nat → Nat) (F : Nat → List Value) {k : Nat} (h : k < 10) (v : List Value) : (tk ta F).set k (ta k, .inr (8, v)) = tk ta (va_up F k v) := by
  refine List.ext_getElem? (fun i => ?_)
  by_cases hi : i < 10
  · rw [tk_at ta _ hi]
    by_cases hk : i = k
    · subst hk
      rw [List.getElem?_set_self (by rw [tk_len]; exact hi)]
      simp [va_up]
    · rw [List.getElem?_set_ne (fun e => hk e.symm), tk_at ta F hi]
      simp [va_up, hk]
  · rw [List.getElem?_eq_none (by rw [List.length_set, tk_len]; omega), List.getElem?_eq_none (by rw [tk_len]; omega)]
theorem tk_set (X Y : va_W) (ta : Nat → Nat) (F : Nat → List Value) {k : Nat} (h : k < 10) (v : List Value) : (X ++ (tk ta F ++ Y)).set (X.length + k) (ta k, .inr (8, v)) = X ++ (tk ta (va_up F k v) ++ Y) := by
  rw [List.set_append_right _ _ (Nat.le_add_right _ _), Nat.add_sub_cancel_left, List.set_append_left _ _ (by rw [tk_len]; exact h), tk_up ta F h v]
