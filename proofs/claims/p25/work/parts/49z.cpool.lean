/-! THE CONSTRUCTORS: a new Wheel's Tasks as a pool -/
theorem arrV_cg {cI : ClassId} {N : Nat} {f g : Nat → Value} (h : ∀ j, j < N → f j = g j) : arrV cI N f = arrV cI N g := by
  unfold arrV
  rw [show (fun j : Fin N => f j.val) = (fun j : Fin N => g j.val) from funext fun j => h j.val j.isLt]
theorem va_P.tkc {D : va_G} {cl : List vw_C} {H : Heap} {a N : Nat} {cA : ClassId} {f g : Nat → Option Nat} {X : va_W} (h : va_P D cl ((a, .inl (cA, N, .inr (.inr (.inr (.inr f))))) :: X) H) (e : ∀ j, j < N → f j = g j) : va_P D cl ((a, .inl (cA, N, .inr (.inr (.inr (.inr g))))) :: X) H := by
  intro k q hk
  cases k with
  | zero =>
    cases hk
    have := h 0 _ rfl
    show H[a]? = some (arrV cA N (fun j => va_rf (g j)))
    rw [← arrV_cg (cI := cA) (N := N) (f := fun j => va_rf (f j)) (g := fun j => va_rf (g j)) (fun j hj => by rw [e j hj])]
    exact this
  | succ k => exact h (k + 1) q hk
theorem va_D.tkc {A : Nat → Prop} {a : Nat} {x y : va_E} {X : va_W} (h : va_D A ((a, x) :: X)) : va_D A ((a, y) :: X) := by
  obtain ⟨h1, h2⟩ := va_D_to h
  refine va_D_of ?_ (fun q hq => ?_)
  · exact h1
  · rcases List.mem_cons.mp hq with e | e
    · subst e; exact h2 (a, x) List.mem_cons_self
    · exact h2 q (List.mem_cons_of_mem _ e)
theorem mk_pool {D : va_G} {H : Heap} {A : Nat → Prop} {ca : Nat → ClassId} {tk : Nat} {f : Nat → Option Nat} {X : va_W} {ta : Nat → Nat} {w : Nat → Nat × va_E} (hf : ∀ j, j < 10 → f j = some (ta j)) (hP : va_P D vwCl ((tk, .inl (ca 5, 10, .inr (.inr (.inr (.inr f))))) :: (wx w [] ++ X)) H) (hD : va_D A ((tk, .inl (ca 5, 10, .inr (.inr (.inr (.inr f))))) :: (wx w [] ++ X))) :
    va_P D vwCl (wq ((tk, .inl (ca 5, 10, .inr (.inr (.inr (.inr (fun j => some (ta j))))))) :: X) [wx w []]) H ∧ va_D A (wq ((tk, .inl (ca 5, 10, .inr (.inr (.inr (.inr (fun j => some (ta j))))))) :: X) [wx w []]) := by
  have e : List.Perm ((tk, (.inl (ca 5, 10, .inr (.inr (.inr (.inr (fun j => some (ta j)))))) : va_E)) :: (wx w [] ++ X)) (wq ((tk, .inl (ca 5, 10, .inr (.inr (.inr (.inr (fun j => some (ta j))))))) :: X) [wx w []]) := by
    show List.Perm (_ :: (wx w [] ++ X)) (_ :: (X ++ (wx w [] ++ [])))
    rw [List.append_nil]
    exact List.Perm.cons _ List.perm_append_comm
  exact ⟨(hP.tkc hf).perm e, (va_D.tkc hD).perm e⟩
theorem hok_6 {f : Nat → Int32} : hok (upd (upd (upd (upd (upd (upd f 0 (-1)) 1 (-1)) 2 (-1)) 3 (-1)) 4 (-1)) 5 (-1)) := by
  intro k hk
  rcases (show k = 0 ∨ k = 1 ∨ k = 2 ∨ k = 3 ∨ k = 4 ∨ k = 5 by omega) with rfl | rfl | rfl | rfl | rfl | rfl <;> exact Or.inl rfl
theorem sok_0 : sok (fun _ => 0) := fun k _ => ⟨0, by omega, rfl⟩
