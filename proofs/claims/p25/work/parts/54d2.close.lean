theorem close_c {X C A : va_W} {PL : List va_W} (h : A = X ++ C) : (wq A PL).Perm (wq X (C :: PL)) := by
  subst h
  exact (open_c (List.Perm.refl _)).symm
theorem close_g {X C A : va_W} {PL P S : List va_W} (h : A = X ++ C) (h2 : S = PL ++ P) : (wq A S).Perm (wq X (wq C P :: PL)) := by
  subst h
  subst h2
  exact (open_g (List.Perm.refl _)).symm
theorem sgR' {X R : va_W} {PL S : List va_W} (h : S = PL ++ [R]) : (wq X S).Perm (ap (wq X PL) R) := by
  subst h
  exact sgR.symm
