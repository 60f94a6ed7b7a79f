theorem dX5_isBlank_0 : decode cX5_isBlank 0 = .ok (.iload_n 0, 1) := by decide +kernel
theorem dX5_isBlank_1 : decode cX5_isBlank 1 = .ok (.bipush 32, 2) := by decide +kernel
theorem dX5_isBlank_3 : decode cX5_isBlank 3 = .ok (.if_icmp .eq 9, 3) := by decide +kernel
theorem dX5_isBlank_6 : decode cX5_isBlank 6 = .ok (.iload_n 0, 1) := by decide +kernel
theorem dX5_isBlank_7 : decode cX5_isBlank 7 = .ok (.bipush 10, 2) := by decide +kernel
theorem dX5_isBlank_9 : decode cX5_isBlank 9 = .ok (.if_icmp .ne 7, 3) := by decide +kernel
theorem dX5_isBlank_12 : decode cX5_isBlank 12 = .ok (.iconst 1, 1) := by decide +kernel
theorem dX5_isBlank_13 : decode cX5_isBlank 13 = .ok (.goto 4, 3) := by decide +kernel
theorem dX5_isBlank_16 : decode cX5_isBlank 16 = .ok (.iconst 0, 1) := by decide +kernel
theorem dX5_isBlank_17 : decode cX5_isBlank 17 = .ok (.ireturn, 1) := by decide +kernel
theorem dX5_isLetter_0 : decode cX5_isLetter 0 = .ok (.iload_n 0, 1) := by decide +kernel
theorem dX5_isLetter_1 : decode cX5_isLetter 1 = .ok (.bipush 97, 2) := by decide +kernel
theorem dX5_isLetter_3 : decode cX5_isLetter 3 = .ok (.if_icmp .lt 13, 3) := by decide +kernel
theorem dX5_isLetter_6 : decode cX5_isLetter 6 = .ok (.iload_n 0, 1) := by decide +kernel
theorem dX5_isLetter_7 : decode cX5_isLetter 7 = .ok (.bipush 122, 2) := by decide +kernel
theorem dX5_isLetter_9 : decode cX5_isLetter 9 = .ok (.if_icmp .gt 7, 3) := by decide +kernel
theorem dX5_isLetter_12 : decode cX5_isLetter 12 = .ok (.iconst 1, 1) := by decide +kernel
theorem dX5_isLetter_13 : decode cX5_isLetter 13 = .ok (.goto 4, 3) := by decide +kernel
theorem dX5_isLetter_16 : decode cX5_isLetter 16 = .ok (.iconst 0, 1) := by decide +kernel
theorem dX5_isLetter_17 : decode cX5_isLetter 17 = .ok (.ireturn, 1) := by decide +kernel
theorem dX5_isDigit_0 : decode cX5_isDigit 0 = .ok (.iload_n 0, 1) := by decide +kernel
theorem dX5_isDigit_1 : decode cX5_isDigit 1 = .ok (.bipush 48, 2) := by decide +kernel
theorem dX5_isDigit_3 : decode cX5_isDigit 3 = .ok (.if_icmp .lt 13, 3) := by decide +kernel
theorem dX5_isDigit_6 : decode cX5_isDigit 6 = .ok (.iload_n 0, 1) := by decide +kernel
theorem dX5_isDigit_7 : decode cX5_isDigit 7 = .ok (.bipush 57, 2) := by decide +kernel
theorem dX5_isDigit_9 : decode cX5_isDigit 9 = .ok (.if_icmp .gt 7, 3) := by decide +kernel
theorem dX5_isDigit_12 : decode cX5_isDigit 12 = .ok (.iconst 1, 1) := by decide +kernel
theorem dX5_isDigit_13 : decode cX5_isDigit 13 = .ok (.goto 4, 3) := by decide +kernel
theorem dX5_isDigit_16 : decode cX5_isDigit 16 = .ok (.iconst 0, 1) := by decide +kernel
theorem dX5_isDigit_17 : decode cX5_isDigit 17 = .ok (.ireturn, 1) := by decide +kernel
theorem dX5_begin_0 : decode cX5_begin 0 = .ok (.aload_n 0, 1) := by decide +kernel
theorem dX5_begin_1 : decode cX5_begin 1 = .ok (.iconst 0, 1) := by decide +kernel
theorem dX5_begin_2 : decode cX5_begin 2 = .ok (.putfield 15, 3) := by decide +kernel
theorem dX5_begin_5 : decode cX5_begin 5 = .ok (.return_, 1) := by decide +kernel
set_option maxRecDepth 20000 in
theorem ggX5_passLetters_X5_isLetter : GoodIn wsX5_passLetters wsX5_isLetter := goodIn_r _ [15] (by decide +kernel) (by decide +kernel)
set_option maxRecDepth 20000 in
theorem gX5_passLetters_X5_isLetter : GoodIn wsX5_passLetters (va_wsS RX5 37 yX5_isLetter wsX5_isLetter) := goodIn_app (goodIn_of _ (by decide +kernel)) ggX5_passLetters_X5_isLetter
set_option maxRecDepth 20000 in
theorem ggX5_passLetters_X7_at : GoodIn wsX5_passLetters wsX7_at := goodIn_r _ [9, 10, 11, 22, 23] (by decide +kernel) (by decide +kernel)
set_option maxRecDepth 20000 in
theorem gX5_passLetters_X7_at : GoodIn wsX5_passLetters (wsV RX5 24 RX7 yX7_at wsX7_at) := goodIn_app (goodIn_of _ (by decide +kernel)) ggX5_passLetters_X7_at
theorem dX5_passLetters_0 : decode cX5_passLetters 0 = .ok (.aload_n 0, 1) := by decide +kernel
theorem dX5_passLetters_1 : decode cX5_passLetters 1 = .ok (.lconst 0, 1) := by decide +kernel
theorem dX5_passLetters_2 : decode cX5_passLetters 2 = .ok (.putfield 52, 3) := by decide +kernel
theorem dX5_passLetters_5 : decode cX5_passLetters 5 = .ok (.aload_n 0, 1) := by decide +kernel
theorem dX5_passLetters_6 : decode cX5_passLetters 6 = .ok (.getfield 15, 3) := by decide +kernel
theorem dX5_passLetters_9 : decode cX5_passLetters 9 = .ok (.aload_n 0, 1) := by decide +kernel
theorem dX5_passLetters_10 : decode cX5_passLetters 10 = .ok (.getfield 9, 3) := by decide +kernel
theorem dX5_passLetters_13 : decode cX5_passLetters 13 = .ok (.getfield 19, 3) := by decide +kernel
theorem dX5_passLetters_16 : decode cX5_passLetters 16 = .ok (.if_icmp .ge 57, 3) := by decide +kernel
theorem dX5_passLetters_19 : decode cX5_passLetters 19 = .ok (.aload_n 0, 1) := by decide +kernel
theorem dX5_passLetters_20 : decode cX5_passLetters 20 = .ok (.getfield 9, 3) := by decide +kernel
theorem dX5_passLetters_23 : decode cX5_passLetters 23 = .ok (.aload_n 0, 1) := by decide +kernel
theorem dX5_passLetters_24 : decode cX5_passLetters 24 = .ok (.getfield 15, 3) := by decide +kernel
theorem dX5_passLetters_27 : decode cX5_passLetters 27 = .ok (.invokevirtual 24, 3) := by decide +kernel
theorem dX5_passLetters_30 : decode cX5_passLetters 30 = .ok (.invokestatic 37, 3) := by decide +kernel
theorem dX5_passLetters_33 : decode cX5_passLetters 33 = .ok (.ifCond .eq 40, 3) := by decide +kernel
theorem dX5_passLetters_36 : decode cX5_passLetters 36 = .ok (.aload_n 0, 1) := by decide +kernel
theorem dX5_passLetters_37 : decode cX5_passLetters 37 = .ok (.aload_n 0, 1) := by decide +kernel
theorem dX5_passLetters_38 : decode cX5_passLetters 38 = .ok (.getfield 52, 3) := by decide +kernel
theorem dX5_passLetters_41 : decode cX5_passLetters 41 = .ok (.bipush 8, 2) := by decide +kernel
theorem dX5_passLetters_43 : decode cX5_passLetters 43 = .ok (.lshl, 1) := by decide +kernel
theorem dX5_passLetters_44 : decode cX5_passLetters 44 = .ok (.aload_n 0, 1) := by decide +kernel
theorem dX5_passLetters_45 : decode cX5_passLetters 45 = .ok (.getfield 9, 3) := by decide +kernel
theorem dX5_passLetters_48 : decode cX5_passLetters 48 = .ok (.aload_n 0, 1) := by decide +kernel
theorem dX5_passLetters_49 : decode cX5_passLetters 49 = .ok (.getfield 15, 3) := by decide +kernel
theorem dX5_passLetters_52 : decode cX5_passLetters 52 = .ok (.invokevirtual 24, 3) := by decide +kernel
theorem dX5_passLetters_55 : decode cX5_passLetters 55 = .ok (.i2l, 1) := by decide +kernel
theorem dX5_passLetters_56 : decode cX5_passLetters 56 = .ok (.lor, 1) := by decide +kernel
theorem dX5_passLetters_57 : decode cX5_passLetters 57 = .ok (.putfield 52, 3) := by decide +kernel
theorem dX5_passLetters_60 : decode cX5_passLetters 60 = .ok (.aload_n 0, 1) := by decide +kernel
theorem dX5_passLetters_61 : decode cX5_passLetters 61 = .ok (.dup, 1) := by decide +kernel
theorem dX5_passLetters_62 : decode cX5_passLetters 62 = .ok (.getfield 15, 3) := by decide +kernel
theorem dX5_passLetters_65 : decode cX5_passLetters 65 = .ok (.iconst 1, 1) := by decide +kernel
theorem dX5_passLetters_66 : decode cX5_passLetters 66 = .ok (.iadd, 1) := by decide +kernel
theorem dX5_passLetters_67 : decode cX5_passLetters 67 = .ok (.putfield 15, 3) := by decide +kernel
theorem dX5_passLetters_70 : decode cX5_passLetters 70 = .ok (.goto (-65), 3) := by decide +kernel
theorem dX5_passLetters_73 : decode cX5_passLetters 73 = .ok (.return_, 1) := by decide +kernel
set_option maxRecDepth 20000 in
theorem ggX5_scanNumber_X5_isDigit : GoodIn wsX5_scanNumber wsX5_isDigit := goodIn_r _ [17] (by decide +kernel) (by decide +kernel)
set_option maxRecDepth 20000 in
theorem gX5_scanNumber_X5_isDigit : GoodIn wsX5_scanNumber (va_wsS RX5 46 yX5_isDigit wsX5_isDigit) := goodIn_app (goodIn_of _ (by decide +kernel)) ggX5_scanNumber_X5_isDigit
set_option maxRecDepth 20000 in
theorem ggX5_scanNumber_X5_isLetter : GoodIn wsX5_scanNumber wsX5_isLetter := goodIn_r _ [20] (by decide +kernel) (by decide +kernel)
set_option maxRecDepth 20000 in
theorem gX5_scanNumber_X5_isLetter : GoodIn wsX5_scanNumber (va_wsS RX5 37 yX5_isLetter wsX5_isLetter) := goodIn_app (goodIn_of _ (by decide +kernel)) ggX5_scanNumber_X5_isLetter
set_option maxRecDepth 20000 in
theorem ggX5_scanNumber_X7_at : GoodIn wsX5_scanNumber wsX7_at := goodIn_r _ [11, 12, 13, 27, 28] (by decide +kernel) (by decide +kernel)
set_option maxRecDepth 20000 in
theorem gX5_scanNumber_X7_at : GoodIn wsX5_scanNumber (wsV RX5 24 RX7 yX7_at wsX7_at) := goodIn_app (goodIn_of _ (by decide +kernel)) ggX5_scanNumber_X7_at
theorem dX5_scanNumber_0 : decode cX5_scanNumber 0 = .ok (.aload_n 0, 1) := by decide +kernel
theorem dX5_scanNumber_1 : decode cX5_scanNumber 1 = .ok (.iconst 0, 1) := by decide +kernel
theorem dX5_scanNumber_2 : decode cX5_scanNumber 2 = .ok (.putfield 56, 3) := by decide +kernel
theorem dX5_scanNumber_5 : decode cX5_scanNumber 5 = .ok (.aload_n 0, 1) := by decide +kernel
theorem dX5_scanNumber_6 : decode cX5_scanNumber 6 = .ok (.getfield 15, 3) := by decide +kernel
theorem dX5_scanNumber_9 : decode cX5_scanNumber 9 = .ok (.aload_n 0, 1) := by decide +kernel
theorem dX5_scanNumber_10 : decode cX5_scanNumber 10 = .ok (.getfield 9, 3) := by decide +kernel
theorem dX5_scanNumber_13 : decode cX5_scanNumber 13 = .ok (.getfield 19, 3) := by decide +kernel
theorem dX5_scanNumber_16 : decode cX5_scanNumber 16 = .ok (.if_icmp .ge 59, 3) := by decide +kernel
theorem dX5_scanNumber_19 : decode cX5_scanNumber 19 = .ok (.aload_n 0, 1) := by decide +kernel
theorem dX5_scanNumber_20 : decode cX5_scanNumber 20 = .ok (.getfield 9, 3) := by decide +kernel
theorem dX5_scanNumber_23 : decode cX5_scanNumber 23 = .ok (.aload_n 0, 1) := by decide +kernel
theorem dX5_scanNumber_24 : decode cX5_scanNumber 24 = .ok (.getfield 15, 3) := by decide +kernel
theorem dX5_scanNumber_27 : decode cX5_scanNumber 27 = .ok (.invokevirtual 24, 3) := by decide +kernel
theorem dX5_scanNumber_30 : decode cX5_scanNumber 30 = .ok (.invokestatic 46, 3) := by decide +kernel
theorem dX5_scanNumber_33 : decode cX5_scanNumber 33 = .ok (.ifCond .eq 42, 3) := by decide +kernel
theorem dX5_scanNumber_36 : decode cX5_scanNumber 36 = .ok (.aload_n 0, 1) := by decide +kernel
theorem dX5_scanNumber_37 : decode cX5_scanNumber 37 = .ok (.aload_n 0, 1) := by decide +kernel
theorem dX5_scanNumber_38 : decode cX5_scanNumber 38 = .ok (.getfield 56, 3) := by decide +kernel
theorem dX5_scanNumber_41 : decode cX5_scanNumber 41 = .ok (.bipush 10, 2) := by decide +kernel
theorem dX5_scanNumber_43 : decode cX5_scanNumber 43 = .ok (.imul, 1) := by decide +kernel
theorem dX5_scanNumber_44 : decode cX5_scanNumber 44 = .ok (.aload_n 0, 1) := by decide +kernel
theorem dX5_scanNumber_45 : decode cX5_scanNumber 45 = .ok (.getfield 9, 3) := by decide +kernel
theorem dX5_scanNumber_48 : decode cX5_scanNumber 48 = .ok (.aload_n 0, 1) := by decide +kernel
theorem dX5_scanNumber_49 : decode cX5_scanNumber 49 = .ok (.getfield 15, 3) := by decide +kernel
theorem dX5_scanNumber_52 : decode cX5_scanNumber 52 = .ok (.invokevirtual 24, 3) := by decide +kernel
theorem dX5_scanNumber_55 : decode cX5_scanNumber 55 = .ok (.iadd, 1) := by decide +kernel
theorem dX5_scanNumber_56 : decode cX5_scanNumber 56 = .ok (.bipush 48, 2) := by decide +kernel
theorem dX5_scanNumber_58 : decode cX5_scanNumber 58 = .ok (.isub, 1) := by decide +kernel
theorem dX5_scanNumber_59 : decode cX5_scanNumber 59 = .ok (.putfield 56, 3) := by decide +kernel
theorem dX5_scanNumber_62 : decode cX5_scanNumber 62 = .ok (.aload_n 0, 1) := by decide +kernel
theorem dX5_scanNumber_63 : decode cX5_scanNumber 63 = .ok (.dup, 1) := by decide +kernel
theorem dX5_scanNumber_64 : decode cX5_scanNumber 64 = .ok (.getfield 15, 3) := by decide +kernel
theorem dX5_scanNumber_67 : decode cX5_scanNumber 67 = .ok (.iconst 1, 1) := by decide +kernel
theorem dX5_scanNumber_68 : decode cX5_scanNumber 68 = .ok (.iadd, 1) := by decide +kernel
theorem dX5_scanNumber_69 : decode cX5_scanNumber 69 = .ok (.putfield 15, 3) := by decide +kernel
theorem dX5_scanNumber_72 : decode cX5_scanNumber 72 = .ok (.goto (-67), 3) := by decide +kernel
theorem dX5_scanNumber_75 : decode cX5_scanNumber 75 = .ok (.aload_n 0, 1) := by decide +kernel
theorem dX5_scanNumber_76 : decode cX5_scanNumber 76 = .ok (.getfield 15, 3) := by decide +kernel
theorem dX5_scanNumber_79 : decode cX5_scanNumber 79 = .ok (.aload_n 0, 1) := by decide +kernel
theorem dX5_scanNumber_80 : decode cX5_scanNumber 80 = .ok (.getfield 31, 3) := by decide +kernel
theorem dX5_scanNumber_83 : decode cX5_scanNumber 83 = .ok (.isub, 1) := by decide +kernel
theorem dX5_scanNumber_84 : decode cX5_scanNumber 84 = .ok (.iconst 4, 1) := by decide +kernel
theorem dX5_scanNumber_85 : decode cX5_scanNumber 85 = .ok (.if_icmp .gt 24, 3) := by decide +kernel
theorem dX5_scanNumber_88 : decode cX5_scanNumber 88 = .ok (.aload_n 0, 1) := by decide +kernel
theorem dX5_scanNumber_89 : decode cX5_scanNumber 89 = .ok (.getfield 9, 3) := by decide +kernel
theorem dX5_scanNumber_92 : decode cX5_scanNumber 92 = .ok (.aload_n 0, 1) := by decide +kernel
theorem dX5_scanNumber_93 : decode cX5_scanNumber 93 = .ok (.getfield 15, 3) := by decide +kernel
theorem dX5_scanNumber_96 : decode cX5_scanNumber 96 = .ok (.invokevirtual 24, 3) := by decide +kernel
theorem dX5_scanNumber_99 : decode cX5_scanNumber 99 = .ok (.invokestatic 37, 3) := by decide +kernel
theorem dX5_scanNumber_102 : decode cX5_scanNumber 102 = .ok (.ifCond .ne 7, 3) := by decide +kernel
theorem dX5_scanNumber_105 : decode cX5_scanNumber 105 = .ok (.iconst 1, 1) := by decide +kernel
theorem dX5_scanNumber_106 : decode cX5_scanNumber 106 = .ok (.goto 4, 3) := by decide +kernel
theorem dX5_scanNumber_109 : decode cX5_scanNumber 109 = .ok (.iconst 0, 1) := by decide +kernel
theorem dX5_scanNumber_110 : decode cX5_scanNumber 110 = .ok (.istore_n 1, 1) := by decide +kernel
theorem dX5_scanNumber_111 : decode cX5_scanNumber 111 = .ok (.aload_n 0, 1) := by decide +kernel
theorem dX5_scanNumber_112 : decode cX5_scanNumber 112 = .ok (.iload_n 1, 1) := by decide +kernel
theorem dX5_scanNumber_113 : decode cX5_scanNumber 113 = .ok (.ifCond .eq 8, 3) := by decide +kernel
theorem dX5_scanNumber_116 : decode cX5_scanNumber 116 = .ok (.bipush 19, 2) := by decide +kernel
theorem dX5_scanNumber_118 : decode cX5_scanNumber 118 = .ok (.goto 5, 3) := by decide +kernel
theorem dX5_scanNumber_121 : decode cX5_scanNumber 121 = .ok (.bipush 22, 2) := by decide +kernel
theorem dX5_scanNumber_123 : decode cX5_scanNumber 123 = .ok (.putfield 34, 3) := by decide +kernel
theorem dX5_scanNumber_126 : decode cX5_scanNumber 126 = .ok (.return_, 1) := by decide +kernel
set_option maxHeartbeats 4000000 in
set_option maxRecDepth 100000 in
theorem s_X5_isBlank (l : Launch) (D : va_G) (ca : Nat → ClassId) (sz : Nat) (x1 : Int32) : Met l yX5_isBlank wsX5_isBlank ({ frames := 0, cells := 0, slots := 0, locals := 0 }) (PC [.int x1] sz D ca []) (QI (fun (r : Int32) (u : Unit) => r = 0 ∨ r = 1) (fun (_ : Unit) => []) [] sz D) 0 0 (va_A [] sz) := by
  refine Met.ofW (cc := cX5_isBlank) (maxL := 1) (ret := (some .boolean)) (by decide +kernel) rfl ?_
  intro p e s m args below meth c s₁ B hml hv
  obtain ⟨rfl, hsz, hP, hC, hD0⟩ := hv
  have hx := B.exec
  have hb := B.bytes
  have hr := B.returns
  have hts := atoms_spec (ws := wsX5_isBlank) B.pre
  have hown : s.vm.findClass RX5 = some m.cls := findClass_of_methodNamed B.named
  have hlocks := B.notSynchronized
  subst hsz
  have hD := hD0.self (sz := s.heap.size)
  dsimp only [QV, QI, QL, BQ]
  generalize hAe : va_A [] s.heap.size = A at hD ⊢
  have hA : ∀ q : Nat, s.heap.size ≤ q → A q := fun q h => by rw [← hAe]; exact Or.inr h
  have hDA : ∀ {w : va_W}, va_D A w → va_D (va_A [] s.heap.size) w := fun h => by rw [hAe]; exact h
  have hS : va_S A s.heap s.heap [] := va_S.rf
  have hP : va_P D vwCl [] s.heap := hP
  have hl := lv_entry ([.int x1]) (n := 1) (Nat.le_of_ble_eq_true rfl)
  rw [lg_entry_eq]
  generalize (lg_sl ([.int x1]) ++ List.replicate (1 - (lg_sl ([.int x1])).length) Slot.unset).toArray = ls at hl ⊢
  have hl : lv_has ls 1 [(0, .int x1)] := hl
  refine lv_iload_n hx hb dX5_isBlank_0 rfl (lv_at hl 0 rfl) ?_
  refine lv_bipush (v := 32) hx hb dX5_isBlank_1 (by decide +kernel) ?_
  refine lv_icmp_eq (tgt := 12) hx hb dX5_isBlank_3 (by decide +kernel) (fun c_1 => ?_) (fun c_1 => ?_)
  · refine lv_iconst (v := 1) hx hb dX5_isBlank_12 (by decide +kernel) ?_
    refine lv_goto (tgt := 17) hx hb dX5_isBlank_13 (by decide +kernel) ?_
    exact W.zret (v := 1) hx hb hr (rfl) (fun t ht hW => ⟨⟨1, (), rfl, (Or.inr rfl), by rw [ht]; exact hP.sub [] rfl, hDA (hD.sub [] (by decide +kernel) rfl)⟩, hS.F ht⟩) hS.2.2 dX5_isBlank_17
  · refine lv_iload_n hx hb dX5_isBlank_6 rfl (lv_at hl 0 rfl) ?_
    refine lv_bipush (v := 10) hx hb dX5_isBlank_7 (by decide +kernel) ?_
    refine lv_icmp_ne (tgt := 16) hx hb dX5_isBlank_9 (by decide +kernel) (fun c_2 => ?_) (fun c_2 => ?_)
    · refine lv_iconst (v := 0) hx hb dX5_isBlank_16 (by decide +kernel) ?_
      exact W.zret (v := 0) hx hb hr (rfl) (fun t ht hW => ⟨⟨0, (), rfl, (Or.inl rfl), by rw [ht]; exact hP.sub [] rfl, hDA (hD.sub [] (by decide +kernel) rfl)⟩, hS.F ht⟩) hS.2.2 dX5_isBlank_17
    · refine lv_iconst (v := 1) hx hb dX5_isBlank_12 (by decide +kernel) ?_
      refine lv_goto (tgt := 17) hx hb dX5_isBlank_13 (by decide +kernel) ?_
      exact W.zret (v := 1) hx hb hr (rfl) (fun t ht hW => ⟨⟨1, (), rfl, (Or.inr rfl), by rw [ht]; exact hP.sub [] rfl, hDA (hD.sub [] (by decide +kernel) rfl)⟩, hS.F ht⟩) hS.2.2 dX5_isBlank_17
set_option maxHeartbeats 4000000 in
set_option maxRecDepth 100000 in
theorem s_X5_isLetter (l : Launch) (D : va_G) (ca : Nat → ClassId) (sz : Nat) (x1 : Int32) : Met l yX5_isLetter wsX5_isLetter ({ frames := 0, cells := 0, slots := 0, locals := 0 }) (PC [.int x1] sz D ca []) (QI (fun (r : Int32) (u : Unit) => r = 0 ∨ r = 1) (fun (_ : Unit) => []) [] sz D) 0 0 (va_A [] sz) := by
  refine Met.ofW (cc := cX5_isLetter) (maxL := 1) (ret := (some .boolean)) (by decide +kernel) rfl ?_
  intro p e s m args below meth c s₁ B hml hv
  obtain ⟨rfl, hsz, hP, hC, hD0⟩ := hv
  have hx := B.exec
  have hb := B.bytes
  have hr := B.returns
  have hts := atoms_spec (ws := wsX5_isLetter) B.pre
  have hown : s.vm.findClass RX5 = some m.cls := findClass_of_methodNamed B.named
  have hlocks := B.notSynchronized
  subst hsz
  have hD := hD0.self (sz := s.heap.size)
  dsimp only [QV, QI, QL, BQ]
  generalize hAe : va_A [] s.heap.size = A at hD ⊢
  have hA : ∀ q : Nat, s.heap.size ≤ q → A q := fun q h => by rw [← hAe]; exact Or.inr h
  have hDA : ∀ {w : va_W}, va_D A w → va_D (va_A [] s.heap.size) w := fun h => by rw [hAe]; exact h
  have hS : va_S A s.heap s.heap [] := va_S.rf
  have hP : va_P D vwCl [] s.heap := hP
  have hl := lv_entry ([.int x1]) (n := 1) (Nat.le_of_ble_eq_true rfl)
  rw [lg_entry_eq]
  generalize (lg_sl ([.int x1]) ++ List.replicate (1 - (lg_sl ([.int x1])).length) Slot.unset).toArray = ls at hl ⊢
  have hl : lv_has ls 1 [(0, .int x1)] := hl
  refine lv_iload_n hx hb dX5_isLetter_0 rfl (lv_at hl 0 rfl) ?_
  refine lv_bipush (v := 97) hx hb dX5_isLetter_1 (by decide +kernel) ?_
  refine lv_icmp_lt (tgt := 16) hx hb dX5_isLetter_3 (by decide +kernel) (fun c_1 => ?_) (fun c_1 => ?_)
  · refine lv_iconst (v := 0) hx hb dX5_isLetter_16 (by decide +kernel) ?_
    exact W.zret (v := 0) hx hb hr (rfl) (fun t ht hW => ⟨⟨0, (), rfl, (Or.inl rfl), by rw [ht]; exact hP.sub [] rfl, hDA (hD.sub [] (by decide +kernel) rfl)⟩, hS.F ht⟩) hS.2.2 dX5_isLetter_17
  · refine lv_iload_n hx hb dX5_isLetter_6 rfl (lv_at hl 0 rfl) ?_
    refine lv_bipush (v := 122) hx hb dX5_isLetter_7 (by decide +kernel) ?_
    refine lv_icmp_gt (tgt := 16) hx hb dX5_isLetter_9 (by decide +kernel) (fun c_2 => ?_) (fun c_2 => ?_)
    · refine lv_iconst (v := 0) hx hb dX5_isLetter_16 (by decide +kernel) ?_
      exact W.zret (v := 0) hx hb hr (rfl) (fun t ht hW => ⟨⟨0, (), rfl, (Or.inl rfl), by rw [ht]; exact hP.sub [] rfl, hDA (hD.sub [] (by decide +kernel) rfl)⟩, hS.F ht⟩) hS.2.2 dX5_isLetter_17
    · refine lv_iconst (v := 1) hx hb dX5_isLetter_12 (by decide +kernel) ?_
      refine lv_goto (tgt := 17) hx hb dX5_isLetter_13 (by decide +kernel) ?_
      exact W.zret (v := 1) hx hb hr (rfl) (fun t ht hW => ⟨⟨1, (), rfl, (Or.inr rfl), by rw [ht]; exact hP.sub [] rfl, hDA (hD.sub [] (by decide +kernel) rfl)⟩, hS.F ht⟩) hS.2.2 dX5_isLetter_17
set_option maxHeartbeats 4000000 in
set_option maxRecDepth 100000 in
theorem s_X5_isDigit (l : Launch) (D : va_G) (ca : Nat → ClassId) (sz : Nat) (x1 : Int32) : Met l yX5_isDigit wsX5_isDigit ({ frames := 0, cells := 0, slots := 0, locals := 0 }) (PC [.int x1] sz D ca []) (QI (fun (r : Int32) (u : Unit) => r = 0 ∨ r = 1) (fun (_ : Unit) => []) [] sz D) 0 0 (va_A [] sz) := by
  refine Met.ofW (cc := cX5_isDigit) (maxL := 1) (ret := (some .boolean)) (by decide +kernel) rfl ?_
  intro p e s m args below meth c s₁ B hml hv
  obtain ⟨rfl, hsz, hP, hC, hD0⟩ := hv
  have hx := B.exec
  have hb := B.bytes
  have hr := B.returns
  have hts := atoms_spec (ws := wsX5_isDigit) B.pre
  have hown : s.vm.findClass RX5 = some m.cls := findClass_of_methodNamed B.named
  have hlocks := B.notSynchronized
  subst hsz
  have hD := hD0.self (sz := s.heap.size)
  dsimp only [QV, QI, QL, BQ]
  generalize hAe : va_A [] s.heap.size = A at hD ⊢
  have hA : ∀ q : Nat, s.heap.size ≤ q → A q := fun q h => by rw [← hAe]; exact Or.inr h
  have hDA : ∀ {w : va_W}, va_D A w → va_D (va_A [] s.heap.size) w := fun h => by rw [hAe]; exact h
  have hS : va_S A s.heap s.heap [] := va_S.rf
  have hP : va_P D vwCl [] s.heap := hP
  have hl := lv_entry ([.int x1]) (n := 1) (Nat.le_of_ble_eq_true rfl)
  rw [lg_entry_eq]
  generalize (lg_sl ([.int x1]) ++ List.replicate (1 - (lg_sl ([.int x1])).length) Slot.unset).toArray = ls at hl ⊢
  have hl : lv_has ls 1 [(0, .int x1)] := hl
  refine lv_iload_n hx hb dX5_isDigit_0 rfl (lv_at hl 0 rfl) ?_
  refine lv_bipush (v := 48) hx hb dX5_isDigit_1 (by decide +kernel) ?_
  refine lv_icmp_lt (tgt := 16) hx hb dX5_isDigit_3 (by decide +kernel) (fun c_1 => ?_) (fun c_1 => ?_)
  · refine lv_iconst (v := 0) hx hb dX5_isDigit_16 (by decide +kernel) ?_
    exact W.zret (v := 0) hx hb hr (rfl) (fun t ht hW => ⟨⟨0, (), rfl, (Or.inl rfl), by rw [ht]; exact hP.sub [] rfl, hDA (hD.sub [] (by decide +kernel) rfl)⟩, hS.F ht⟩) hS.2.2 dX5_isDigit_17
  · refine lv_iload_n hx hb dX5_isDigit_6 rfl (lv_at hl 0 rfl) ?_
    refine lv_bipush (v := 57) hx hb dX5_isDigit_7 (by decide +kernel) ?_
    refine lv_icmp_gt (tgt := 16) hx hb dX5_isDigit_9 (by decide +kernel) (fun c_2 => ?_) (fun c_2 => ?_)
    · refine lv_iconst (v := 0) hx hb dX5_isDigit_16 (by decide +kernel) ?_
      exact W.zret (v := 0) hx hb hr (rfl) (fun t ht hW => ⟨⟨0, (), rfl, (Or.inl rfl), by rw [ht]; exact hP.sub [] rfl, hDA (hD.sub [] (by decide +kernel) rfl)⟩, hS.F ht⟩) hS.2.2 dX5_isDigit_17
    · refine lv_iconst (v := 1) hx hb dX5_isDigit_12 (by decide +kernel) ?_
      refine lv_goto (tgt := 17) hx hb dX5_isDigit_13 (by decide +kernel) ?_
      exact W.zret (v := 1) hx hb hr (rfl) (fun t ht hW => ⟨⟨1, (), rfl, (Or.inr rfl), by rw [ht]; exact hP.sub [] rfl, hDA (hD.sub [] (by decide +kernel) rfl)⟩, hS.F ht⟩) hS.2.2 dX5_isDigit_17
theorem iw_X5_begin_5 : ∀ w ∈ u_ws RX5 TX5 6, w ∈ wsX5_begin := by decide +kernel
set_option maxHeartbeats 4000000 in
set_option maxRecDepth 100000 in
theorem s_X5_begin (l : Launch) (D : va_G) (ca : Nat → ClassId) (sz : Nat) (h0 : Nat) (tp : Nat) (xa : Int32) (xs : Int32) (xc : Int32) (xv : Int32) (xl : Int64) : Met l yX5_begin wsX5_begin ({ frames := 0, cells := 0, slots := 0, locals := 0 }) (PC [.ref h0] sz D ca [(h0, .inr (5, [.ref tp, .int xa, .int xs, .int xc, .long xl, .int xv]))]) (QV (fun (u : Unit) => True) (fun (_ : Unit) => [(h0, .inr (5, [.ref tp, .int 0, .int xs, .int xc, .long xl, .int xv]))]) [(h0, .inr (5, [.ref tp, .int xa, .int xs, .int xc, .long xl, .int xv]))] sz D) 0 0 (va_A [(h0, .inr (5, [.ref tp, .int xa, .int xs, .int xc, .long xl, .int xv]))] sz) := by
  refine Met.ofW (cc := cX5_begin) (maxL := 1) (ret := none) (by decide +kernel) rfl ?_
  intro p e s m args below meth c s₁ B hml hv
  obtain ⟨rfl, hsz, hP, hC, hD0⟩ := hv
  have hx := B.exec
  have hb := B.bytes
  have hr := B.returns
  have hts := atoms_spec (ws := wsX5_begin) B.pre
  have hown : s.vm.findClass RX5 = some m.cls := findClass_of_methodNamed B.named
  have hlocks := B.notSynchronized
  subst hsz
  have hD := hD0.self (sz := s.heap.size)
  dsimp only [QV, QI, QL, BQ]
  generalize hAe : va_A [(h0, .inr (5, [.ref tp, .int xa, .int xs, .int xc, .long xl, .int xv]))] s.heap.size = A at hD ⊢
  have hA : ∀ q : Nat, s.heap.size ≤ q → A q := fun q h => by rw [← hAe]; exact Or.inr h
  have hDA : ∀ {w : va_W}, va_D A w → va_D (va_A [(h0, .inr (5, [.ref tp, .int xa, .int xs, .int xc, .long xl, .int xv]))] s.heap.size) w := fun h => by rw [hAe]; exact h
  have hS : va_S A s.heap s.heap [] := va_S.rf
  have hP : va_P D vwCl [(h0, .inr (5, [.ref tp, .int xa, .int xs, .int xc, .long xl, .int xv]))] s.heap := hP
  have hl := lv_entry ([.ref h0]) (n := 1) (Nat.le_of_ble_eq_true rfl)
  rw [lg_entry_eq]
  generalize (lg_sl ([.ref h0]) ++ List.replicate (1 - (lg_sl ([.ref h0])).length) Slot.unset).toArray = ls at hl ⊢
  have hl : lv_has ls 1 [(0, .ref h0)] := hl
  refine lv_aload_n hx hb dX5_begin_0 rfl (lv_at hl 0 rfl) ?_
  refine lv_iconst (v := 0) hx hb dX5_begin_1 (by decide +kernel) ?_
  refine va_put (D := D) (ci := 5) (v := .int 0) (ty := .int) (C := RX5) (T := TX5) (N := 6) hx hb hts iw_X5_begin_5 tyX5 tyX5_ok nmX5 hown hC.1 hP hD hS 0 rfl rfl 1 (by decide +kernel) (hts (.fieldLink RX5 15 "FairWheel$Scanner" "at" "I") (by decide +kernel)) (fun _ h9 => h9) rfl (by decide +kernel) rfl rfl (Nat.le_of_ble_eq_true rfl) dX5_begin_2 (fun H locs hP hD hS => ?_)
  have hP : va_P D vwCl [(h0, .inr (5, [.ref tp, .int 0, .int xs, .int xc, .long xl, .int xv]))] H := hP
  have hD : va_D A [(h0, .inr (5, [.ref tp, .int 0, .int xs, .int xc, .long xl, .int xv]))] := hD
  exact W.vret hx hb hr (fun t ht hW => ⟨⟨(), rfl, trivial, by rw [ht]; exact hP.sub [0] rfl, hDA (hD.sub [0] (by decide +kernel) rfl)⟩, hS.F ht⟩) hS.2.2 dX5_begin_5
theorem iw_X5_passLetters_5 : ∀ w ∈ u_ws RX5 TX5 6, w ∈ wsX5_passLetters := by decide +kernel
theorem iw_X5_passLetters_7 : ∀ w ∈ u_ws RX7 TX7 2, w ∈ wsX5_passLetters := by decide +kernel
set_option maxHeartbeats 4000000 in
set_option maxRecDepth 100000 in
theorem s_X5_passLetters (l : Launch) (D : va_G) (ca : Nat → ClassId) (sz : Nat) (h0 : Nat) (tp : Nat) (tb : Nat) (ka : Nat) (kt : Nat) (xs : Int32) (xc : Int32) (xv : Int32) (xl : Int64) (fb : Nat → Int32) (hn : kt ≤ 1700) (ha : ka ≤ kt) : Met l yX5_passLetters wsX5_passLetters ({ frames := 1, cells := 0, slots := 0, locals := 21 }) (PC [.ref h0] sz D ca [(h0, .inr (5, [.ref tp, .int (nI ka), .int xs, .int xc, .long xl, .int xv])), (tp, .inr (7, [.ref tb, .int (nI kt)])), (tb, .inl (ca 0, 1700, .inl fb))]) (QV (fun (u : Nat × Int64) => u.1 ≤ kt) (fun (u : Nat × Int64) => [(h0, .inr (5, [.ref tp, .int (nI u.1), .int xs, .int xc, .long u.2, .int xv])), (tp, .inr (7, [.ref tb, .int (nI kt)])), (tb, .inl (ca 0, 1700, .inl fb))]) [(h0, .inr (5, [.ref tp, .int (nI ka), .int xs, .int xc, .long xl, .int xv])), (tp, .inr (7, [.ref tb, .int (nI kt)])), (tb, .inl (ca 0, 1700, .inl fb))] sz D) 0 0 (va_A [(h0, .inr (5, [.ref tp, .int (nI ka), .int xs, .int xc, .long xl, .int xv])), (tp, .inr (7, [.ref tb, .int (nI kt)])), (tb, .inl (ca 0, 1700, .inl fb))] sz) := by
  refine Met.ofW (cc := cX5_passLetters) (maxL := 1) (ret := none) (by decide +kernel) rfl ?_
  intro p e s m args below meth c s₁ B hml hv
  obtain ⟨rfl, hsz, hP, hC, hD0⟩ := hv
  have hx := B.exec
  have hb := B.bytes
  have hr := B.returns
  have hts := atoms_spec (ws := wsX5_passLetters) B.pre
  have hown : s.vm.findClass RX5 = some m.cls := findClass_of_methodNamed B.named
  have hlocks := B.notSynchronized
  subst hsz
  have hD := hD0.self (sz := s.heap.size)
  dsimp only [QV, QI, QL, BQ]
  generalize hAe : va_A [(h0, .inr (5, [.ref tp, .int (nI ka), .int xs, .int xc, .long xl, .int xv])), (tp, .inr (7, [.ref tb, .int (nI kt)])), (tb, .inl (ca 0, 1700, .inl fb))] s.heap.size = A at hD ⊢
  have hA : ∀ q : Nat, s.heap.size ≤ q → A q := fun q h => by rw [← hAe]; exact Or.inr h
  have hDA : ∀ {w : va_W}, va_D A w → va_D (va_A [(h0, .inr (5, [.ref tp, .int (nI ka), .int xs, .int xc, .long xl, .int xv])), (tp, .inr (7, [.ref tb, .int (nI kt)])), (tb, .inl (ca 0, 1700, .inl fb))] s.heap.size) w := fun h => by rw [hAe]; exact h
  have hS : va_S A s.heap s.heap [] := va_S.rf
  have hP : va_P D vwCl [(h0, .inr (5, [.ref tp, .int (nI ka), .int xs, .int xc, .long xl, .int xv])), (tp, .inr (7, [.ref tb, .int (nI kt)])), (tb, .inl (ca 0, 1700, .inl fb))] s.heap := hP
  have hl := lv_entry ([.ref h0]) (n := 1) (Nat.le_of_ble_eq_true rfl)
  rw [lg_entry_eq]
  generalize (lg_sl ([.ref h0]) ++ List.replicate (1 - (lg_sl ([.ref h0])).length) Slot.unset).toArray = ls at hl ⊢
  have hl : lv_has ls 1 [(0, .ref h0)] := hl
  refine lv_aload_n hx hb dX5_passLetters_0 rfl (lv_at hl 0 rfl) ?_
  refine lv_lconst (v := 0) hx hb dX5_passLetters_1 (by decide +kernel) ?_
  refine va_put (D := D) (ci := 5) (v := .long 0) (ty := .long) (C := RX5) (T := TX5) (N := 6) hx hb hts iw_X5_passLetters_5 tyX5 tyX5_ok nmX5 hown hC.1 hP hD hS 0 rfl rfl 4 (by decide +kernel) (hts (.fieldLink RX5 52 "FairWheel$Scanner" "letters" "J") (by decide +kernel)) (fun _ h9 => h9) rfl (by decide +kernel) rfl rfl (Nat.le_of_ble_eq_true rfl) dX5_passLetters_2 (fun H locs hP hD hS => ?_)
  have hP : va_P D vwCl [(h0, .inr (5, [.ref tp, .int (nI ka), .int xs, .int xc, .long 0, .int xv])), (tp, .inr (7, [.ref tb, .int (nI kt)])), (tb, .inl (ca 0, 1700, .inl fb))] H := hP
  have hD : va_D A [(h0, .inr (5, [.ref tp, .int (nI ka), .int xs, .int xc, .long 0, .int xv])), (tp, .inr (7, [.ref tb, .int (nI kt)])), (tb, .inl (ca 0, 1700, .inl fb))] := hD
  refine lp_ind (I := fun (n : Nat) H locs ls => ∃ (ja : Nat) (jl : Int64), ja ≤ kt ∧ ja + n = kt + 1 ∧ lv_has ls 1 [(0, .ref h0)] ∧ va_P D vwCl [(h0, .inr (5, [.ref tp, .int (nI ja), .int xs, .int xc, .long jl, .int xv])), (tp, .inr (7, [.ref tb, .int (nI kt)])), (tb, .inl (ca 0, 1700, .inl fb))] H ∧ va_D A [(h0, .inr (5, [.ref tp, .int (nI ja), .int xs, .int xc, .long jl, .int xv])), (tp, .inr (7, [.ref tb, .int (nI kt)])), (tb, .inl (ca 0, 1700, .inl fb))] ∧ va_S A s.heap H locs) (Wf := fun H locs ls => W p l e _ s m _ below meth c H locs _ _ _ (F0 m 5 ls [])) (kt + 1 - ka) ⟨ka, 0, (by omega), (by omega), hl, hP, hD, hS⟩ ?_ ?_
  · intro H locs ls hI
    obtain ⟨ja, jl, hja, hm, -⟩ := hI
    omega
  intro n ih_1 H locs ls hI
  obtain ⟨ja, jl, hja, hm, hl, hP, hD, hS⟩ := hI
  refine lv_aload_n hx hb dX5_passLetters_5 rfl (lv_at hl 0 rfl) ?_
  refine va_get (D := D) (ci := 5) (v := .int (nI ja)) (C := RX5) (T := TX5) (N := 6) hx hb hts iw_X5_passLetters_5 hown hC.1 hP 0 rfl rfl 1 (by decide +kernel) (hts (.fieldLink RX5 15 "FairWheel$Scanner" "at" "I") (by decide +kernel)) (fun _ h9 => h9) rfl dX5_passLetters_6 ?_
  refine lv_aload_n hx hb dX5_passLetters_9 rfl (lv_at hl 0 rfl) ?_
  refine va_get (D := D) (ci := 5) (v := .ref tp) (C := RX5) (T := TX5) (N := 6) hx hb hts iw_X5_passLetters_5 hown hC.1 hP 0 rfl rfl 0 (by decide +kernel) (hts (.fieldLink RX5 9 "FairWheel$Scanner" "tape" "LFairWheel$Tape;") (by decide +kernel)) (fun _ h9 => h9) rfl dX5_passLetters_10 ?_
  refine va_get (D := D) (ci := 7) (v := .int (nI kt)) (C := RX7) (T := TX7) (N := 2) hx hb hts iw_X5_passLetters_7 hown hC.1 hP 1 rfl rfl 1 (by decide +kernel) (hts (.fieldLink RX5 19 "FairWheel$Tape" "size" "I") (by decide +kernel)) (fun _ h9 => h9) rfl dX5_passLetters_13 ?_
  refine lv_icmp_ge (tgt := 73) hx hb dX5_passLetters_16 (by decide +kernel) (fun c_2 => ?_) (fun c_2 => ?_)
  · have nc_2 : kt ≤ ja := (nI_leI (a := kt) (b := ja) (by omega) (by omega)).mp c_2
    exact W.vret hx hb hr (fun t ht hW => ⟨⟨(ja, jl), rfl, (by dsimp only; omega), by rw [ht]; exact hP.sub [0, 1, 2] rfl, hDA (hD.sub [0, 1, 2] (by decide +kernel) rfl)⟩, hS.F ht⟩) hS.2.2 dX5_passLetters_73
  · have nc_2 : ¬ (kt ≤ ja) := fun h => c_2 ((nI_leI (a := kt) (b := ja) (by omega) (by omega)).mpr h)
    refine lv_aload_n hx hb dX5_passLetters_19 rfl (lv_at hl 0 rfl) ?_
    refine va_get (D := D) (ci := 5) (v := .ref tp) (C := RX5) (T := TX5) (N := 6) hx hb hts iw_X5_passLetters_5 hown hC.1 hP 0 rfl rfl 0 (by decide +kernel) (hts (.fieldLink RX5 9 "FairWheel$Scanner" "tape" "LFairWheel$Tape;") (by decide +kernel)) (fun _ h9 => h9) rfl dX5_passLetters_20 ?_
    refine lv_aload_n hx hb dX5_passLetters_23 rfl (lv_at hl 0 rfl) ?_
    refine va_get (D := D) (ci := 5) (v := .int (nI ja)) (C := RX5) (T := TX5) (N := 6) hx hb hts iw_X5_passLetters_5 hown hC.1 hP 0 rfl rfl 1 (by decide +kernel) (hts (.fieldLink RX5 15 "FairWheel$Scanner" "at" "I") (by decide +kernel)) (fun _ h9 => h9) rfl dX5_passLetters_24 ?_
    refine kc_i (wr := [(h0, .inr (5, [.ref tp, .int (nI ja), .int xs, .int xc, .long jl, .int xv]))]) (va_runV (As := [.int (nI ja)]) (rest := []) ⟨hx, hb, hml, hown, hts⟩ (s_X7_at l D ca H.size tp tb kt fb (nI ja) (by omega)) (cwV 1 hts gX5_passLetters_X7_at rfl rfl rfl (by decide +kernel) ⟨(Nat.le_of_ble_eq_true rfl), (Nat.le_of_ble_eq_true rfl)⟩) (PC.preV (ci := 7) hC hP hD [1, 2] rfl (by decide +kernel) rfl rfl) rfl rfl hl.1 rfl (lv_room (Nat.le_of_ble_eq_true rfl)) dX5_passLetters_27 ⟨(Nat.le_of_ble_eq_true rfl), (Nat.le_of_ble_eq_true rfl)⟩) hP hD hS hA [1, 2] [0] rfl rfl (by decide +kernel) (by decide +kernel) (fun r_3 u_5 H locs hw_4 hP hD hS => ?_)
    have hP : va_P D vwCl [(h0, .inr (5, [.ref tp, .int (nI ja), .int xs, .int xc, .long jl, .int xv])), (tp, .inr (7, [.ref tb, .int (nI kt)])), (tb, .inl (ca 0, 1700, .inl fb))] H := hP
    have hD : va_D A [(h0, .inr (5, [.ref tp, .int (nI ja), .int xs, .int xc, .long jl, .int xv])), (tp, .inr (7, [.ref tb, .int (nI kt)])), (tb, .inl (ca 0, 1700, .inl fb))] := hD
    refine kc_i (wr := [(h0, .inr (5, [.ref tp, .int (nI ja), .int xs, .int xc, .long jl, .int xv])), (tp, .inr (7, [.ref tb, .int (nI kt)])), (tb, .inl (ca 0, 1700, .inl fb))]) (va_runS (As := [.int r_3]) (rest := []) ⟨hx, hb, hml, hown, hts⟩ (s_X5_isLetter l D ca H.size r_3) (va_cwS 1 hts gX5_passLetters_X5_isLetter rfl rfl rfl (by decide +kernel) ⟨(Nat.le_of_ble_eq_true rfl), (Nat.le_of_ble_eq_true rfl)⟩) (PC.preS hC hP hD [] rfl (by decide +kernel)) rfl rfl hl.1 rfl (lv_room (Nat.le_of_ble_eq_true rfl)) dX5_passLetters_30 ⟨(Nat.le_of_ble_eq_true rfl), (Nat.le_of_ble_eq_true rfl)⟩) hP hD hS hA [] [0, 1, 2] rfl rfl (by decide +kernel) (by decide +kernel) (fun r_6 u_8 H locs hw_7 hP hD hS => ?_)
    have hu_9 := hw_7
    have hP : va_P D vwCl [(h0, .inr (5, [.ref tp, .int (nI ja), .int xs, .int xc, .long jl, .int xv])), (tp, .inr (7, [.ref tb, .int (nI kt)])), (tb, .inl (ca 0, 1700, .inl fb))] H := hP
    have hD : va_D A [(h0, .inr (5, [.ref tp, .int (nI ja), .int xs, .int xc, .long jl, .int xv])), (tp, .inr (7, [.ref tb, .int (nI kt)])), (tb, .inl (ca 0, 1700, .inl fb))] := hD
    refine lv_if_eq (tgt := 73) hx hb dX5_passLetters_33 (by decide +kernel) (fun c_10 => ?_) (fun c_10 => ?_)
    ·
      exact W.vret hx hb hr (fun t ht hW => ⟨⟨(ja, jl), rfl, (by dsimp only; omega), by rw [ht]; exact hP.sub [0, 1, 2] rfl, hDA (hD.sub [0, 1, 2] (by decide +kernel) rfl)⟩, hS.F ht⟩) hS.2.2 dX5_passLetters_73
    · refine lv_aload_n hx hb dX5_passLetters_36 rfl (lv_at hl 0 rfl) ?_
      refine lv_aload_n hx hb dX5_passLetters_37 rfl (lv_at hl 0 rfl) ?_
      refine va_get (D := D) (ci := 5) (v := .long jl) (C := RX5) (T := TX5) (N := 6) hx hb hts iw_X5_passLetters_5 hown hC.1 hP 0 rfl rfl 4 (by decide +kernel) (hts (.fieldLink RX5 52 "FairWheel$Scanner" "letters" "J") (by decide +kernel)) (fun _ h9 => h9) rfl dX5_passLetters_38 ?_
      refine lv_bipush (v := 8) hx hb dX5_passLetters_41 (by decide +kernel) ?_
      refine lv_lshl hx hb dX5_passLetters_43 rfl ?_
      refine lv_topl (fun y_11 ey_11 => ?_)
      refine lv_aload_n hx hb dX5_passLetters_44 rfl (lv_at hl 0 rfl) ?_
      refine va_get (D := D) (ci := 5) (v := .ref tp) (C := RX5) (T := TX5) (N := 6) hx hb hts iw_X5_passLetters_5 hown hC.1 hP 0 rfl rfl 0 (by decide +kernel) (hts (.fieldLink RX5 9 "FairWheel$Scanner" "tape" "LFairWheel$Tape;") (by decide +kernel)) (fun _ h9 => h9) rfl dX5_passLetters_45 ?_
      refine lv_aload_n hx hb dX5_passLetters_48 rfl (lv_at hl 0 rfl) ?_
      refine va_get (D := D) (ci := 5) (v := .int (nI ja)) (C := RX5) (T := TX5) (N := 6) hx hb hts iw_X5_passLetters_5 hown hC.1 hP 0 rfl rfl 1 (by decide +kernel) (hts (.fieldLink RX5 15 "FairWheel$Scanner" "at" "I") (by decide +kernel)) (fun _ h9 => h9) rfl dX5_passLetters_49 ?_
      refine kc_i (wr := [(h0, .inr (5, [.ref tp, .int (nI ja), .int xs, .int xc, .long jl, .int xv]))]) (va_runV (As := [.int (nI ja)]) (rest := [.long y_11, .ref h0]) ⟨hx, hb, hml, hown, hts⟩ (s_X7_at l D ca H.size tp tb kt fb (nI ja) (by omega)) (cwV 1 hts gX5_passLetters_X7_at rfl rfl rfl (by decide +kernel) ⟨(Nat.le_of_ble_eq_true rfl), (Nat.le_of_ble_eq_true rfl)⟩) (PC.preV (ci := 7) hC hP hD [1, 2] rfl (by decide +kernel) rfl rfl) rfl rfl hl.1 rfl (lv_room (Nat.le_of_ble_eq_true rfl)) dX5_passLetters_52 ⟨(Nat.le_of_ble_eq_true rfl), (Nat.le_of_ble_eq_true rfl)⟩) hP hD hS hA [1, 2] [0] rfl rfl (by decide +kernel) (by decide +kernel) (fun r_12 u_14 H locs hw_13 hP hD hS => ?_)
      have hP : va_P D vwCl [(h0, .inr (5, [.ref tp, .int (nI ja), .int xs, .int xc, .long jl, .int xv])), (tp, .inr (7, [.ref tb, .int (nI kt)])), (tb, .inl (ca 0, 1700, .inl fb))] H := hP
      have hD : va_D A [(h0, .inr (5, [.ref tp, .int (nI ja), .int xs, .int xc, .long jl, .int xv])), (tp, .inr (7, [.ref tb, .int (nI kt)])), (tb, .inl (ca 0, 1700, .inl fb))] := hD
      refine lv_i2l hx hb dX5_passLetters_55 rfl ?_
      refine lv_topl (fun y_15 ey_15 => ?_)
      refine lv_lor hx hb dX5_passLetters_56 ?_
      refine lv_topl (fun y_16 ey_16 => ?_)
      refine va_put (D := D) (ci := 5) (v := .long y_16) (ty := .long) (C := RX5) (T := TX5) (N := 6) hx hb hts iw_X5_passLetters_5 tyX5 tyX5_ok nmX5 hown hC.1 hP hD hS 0 rfl rfl 4 (by decide +kernel) (hts (.fieldLink RX5 52 "FairWheel$Scanner" "letters" "J") (by decide +kernel)) (fun _ h9 => h9) rfl (by decide +kernel) rfl rfl (Nat.le_of_ble_eq_true rfl) dX5_passLetters_57 (fun H locs hP hD hS => ?_)
      have hP : va_P D vwCl [(h0, .inr (5, [.ref tp, .int (nI ja), .int xs, .int xc, .long y_16, .int xv])), (tp, .inr (7, [.ref tb, .int (nI kt)])), (tb, .inl (ca 0, 1700, .inl fb))] H := hP
      have hD : va_D A [(h0, .inr (5, [.ref tp, .int (nI ja), .int xs, .int xc, .long y_16, .int xv])), (tp, .inr (7, [.ref tb, .int (nI kt)])), (tb, .inl (ca 0, 1700, .inl fb))] := hD
      refine lv_aload_n hx hb dX5_passLetters_60 rfl (lv_at hl 0 rfl) ?_
      refine lv_dup hx hb dX5_passLetters_61 rfl ?_
      refine va_get (D := D) (ci := 5) (v := .int (nI ja)) (C := RX5) (T := TX5) (N := 6) hx hb hts iw_X5_passLetters_5 hown hC.1 hP 0 rfl rfl 1 (by decide +kernel) (hts (.fieldLink RX5 15 "FairWheel$Scanner" "at" "I") (by decide +kernel)) (fun _ h9 => h9) rfl dX5_passLetters_62 ?_
      refine lv_iconst (v := 1) hx hb dX5_passLetters_65 (by decide +kernel) ?_
      refine lv_iadd hx hb dX5_passLetters_66 ?_
      refine nt_i (nI (ja + 1)) (nI_add ja 1) ?_
      refine va_put (D := D) (ci := 5) (v := .int (nI (ja + 1))) (ty := .int) (C := RX5) (T := TX5) (N := 6) hx hb hts iw_X5_passLetters_5 tyX5 tyX5_ok nmX5 hown hC.1 hP hD hS 0 rfl rfl 1 (by decide +kernel) (hts (.fieldLink RX5 15 "FairWheel$Scanner" "at" "I") (by decide +kernel)) (fun _ h9 => h9) rfl (by decide +kernel) rfl rfl (Nat.le_of_ble_eq_true rfl) dX5_passLetters_67 (fun H locs hP hD hS => ?_)
      have hP : va_P D vwCl [(h0, .inr (5, [.ref tp, .int (nI (ja + 1)), .int xs, .int xc, .long y_16, .int xv])), (tp, .inr (7, [.ref tb, .int (nI kt)])), (tb, .inl (ca 0, 1700, .inl fb))] H := hP
      have hD : va_D A [(h0, .inr (5, [.ref tp, .int (nI (ja + 1)), .int xs, .int xc, .long y_16, .int xv])), (tp, .inr (7, [.ref tb, .int (nI kt)])), (tb, .inl (ca 0, 1700, .inl fb))] := hD
      refine lv_goto (tgt := 5) hx hb dX5_passLetters_70 (by decide +kernel) ?_
      exact ih_1 _ _ _ ⟨(ja + 1), y_16, (by omega), (by omega), lv_sub hl [0] rfl, hP, hD, hS⟩
theorem iw_X5_scanNumber_5 : ∀ w ∈ u_ws RX5 TX5 6, w ∈ wsX5_scanNumber := by decide +kernel
theorem iw_X5_scanNumber_7 : ∀ w ∈ u_ws RX7 TX7 2, w ∈ wsX5_scanNumber := by decide +kernel
set_option maxHeartbeats 4000000 in
set_option maxRecDepth 100000 in
theorem s_X5_scanNumber (l : Launch) (D : va_G) (ca : Nat → ClassId) (sz : Nat) (h0 : Nat) (tp : Nat) (tb : Nat) (ka : Nat) (kt : Nat) (xs : Int32) (xc : Int32) (xv : Int32) (xl : Int64) (fb : Nat → Int32) (hn : kt ≤ 1700) (ha : ka ≤ kt) : Met l yX5_scanNumber wsX5_scanNumber ({ frames := 1, cells := 0, slots := 0, locals := 21 }) (PC [.ref h0] sz D ca [(h0, .inr (5, [.ref tp, .int (nI ka), .int xs, .int xc, .long xl, .int xv])), (tp, .inr (7, [.ref tb, .int (nI kt)])), (tb, .inl (ca 0, 1700, .inl fb))]) (QV (fun (u : Nat × Int32 × Int32) => u.1 ≤ kt) (fun (u : Nat × Int32 × Int32) => [(h0, .inr (5, [.ref tp, .int (nI u.1), .int xs, .int u.2.1, .long xl, .int u.2.2])), (tp, .inr (7, [.ref tb, .int (nI kt)])), (tb, .inl (ca 0, 1700, .inl fb))]) [(h0, .inr (5, [.ref tp, .int (nI ka), .int xs, .int xc, .long xl, .int xv])), (tp, .inr (7, [.ref tb, .int (nI kt)])), (tb, .inl (ca 0, 1700, .inl fb))] sz D) 0 0 (va_A [(h0, .inr (5, [.ref tp, .int (nI ka), .int xs, .int xc, .long xl, .int xv])), (tp, .inr (7, [.ref tb, .int (nI kt)])), (tb, .inl (ca 0, 1700, .inl fb))] sz) := by
  refine Met.ofW (cc := cX5_scanNumber) (maxL := 2) (ret := none) (by decide +kernel) rfl ?_
  intro p e s m args below meth c s₁ B hml hv
  obtain ⟨rfl, hsz, hP, hC, hD0⟩ := hv
  have hx := B.exec
  have hb := B.bytes
  have hr := B.returns
  have hts := atoms_spec (ws := wsX5_scanNumber) B.pre
  have hown : s.vm.findClass RX5 = some m.cls := findClass_of_methodNamed B.named
  have hlocks := B.notSynchronized
  subst hsz
  have hD := hD0.self (sz := s.heap.size)
  dsimp only [QV, QI, QL, BQ]
  generalize hAe : va_A [(h0, .inr (5, [.ref tp, .int (nI ka), .int xs, .int xc, .long xl, .int xv])), (tp, .inr (7, [.ref tb, .int (nI kt)])), (tb, .inl (ca 0, 1700, .inl fb))] s.heap.size = A at hD ⊢
  have hA : ∀ q : Nat, s.heap.size ≤ q → A q := fun q h => by rw [← hAe]; exact Or.inr h
  have hDA : ∀ {w : va_W}, va_D A w → va_D (va_A [(h0, .inr (5, [.ref tp, .int (nI ka), .int xs, .int xc, .long xl, .int xv])), (tp, .inr (7, [.ref tb, .int (nI kt)])), (tb, .inl (ca 0, 1700, .inl fb))] s.heap.size) w := fun h => by rw [hAe]; exact h
  have hS : va_S A s.heap s.heap [] := va_S.rf
  have hP : va_P D vwCl [(h0, .inr (5, [.ref tp, .int (nI ka), .int xs, .int xc, .long xl, .int xv])), (tp, .inr (7, [.ref tb, .int (nI kt)])), (tb, .inl (ca 0, 1700, .inl fb))] s.heap := hP
  have hl := lv_entry ([.ref h0]) (n := 2) (Nat.le_of_ble_eq_true rfl)
  rw [lg_entry_eq]
  generalize (lg_sl ([.ref h0]) ++ List.replicate (2 - (lg_sl ([.ref h0])).length) Slot.unset).toArray = ls at hl ⊢
  have hl : lv_has ls 2 [(0, .ref h0)] := hl
  refine lv_aload_n hx hb dX5_scanNumber_0 rfl (lv_at hl 0 rfl) ?_
  refine lv_iconst (v := 0) hx hb dX5_scanNumber_1 (by decide +kernel) ?_
  refine va_put (D := D) (ci := 5) (v := .int 0) (ty := .int) (C := RX5) (T := TX5) (N := 6) hx hb hts iw_X5_scanNumber_5 tyX5 tyX5_ok nmX5 hown hC.1 hP hD hS 0 rfl rfl 5 (by decide +kernel) (hts (.fieldLink RX5 56 "FairWheel$Scanner" "value" "I") (by decide +kernel)) (fun _ h9 => h9) rfl (by decide +kernel) rfl rfl (Nat.le_of_ble_eq_true rfl) dX5_scanNumber_2 (fun H locs hP hD hS => ?_)
  have hP : va_P D vwCl [(h0, .inr (5, [.ref tp, .int (nI ka), .int xs, .int xc, .long xl, .int 0])), (tp, .inr (7, [.ref tb, .int (nI kt)])), (tb, .inl (ca 0, 1700, .inl fb))] H := hP
  have hD : va_D A [(h0, .inr (5, [.ref tp, .int (nI ka), .int xs, .int xc, .long xl, .int 0])), (tp, .inr (7, [.ref tb, .int (nI kt)])), (tb, .inl (ca 0, 1700, .inl fb))] := hD
  refine lp_ind (I := fun (n : Nat) H locs ls => ∃ (ja : Nat) (jv : Int32), ja ≤ kt ∧ ja + n = kt + 1 ∧ lv_has ls 2 [(0, .ref h0)] ∧ va_P D vwCl [(h0, .inr (5, [.ref tp, .int (nI ja), .int xs, .int xc, .long xl, .int jv])), (tp, .inr (7, [.ref tb, .int (nI kt)])), (tb, .inl (ca 0, 1700, .inl fb))] H ∧ va_D A [(h0, .inr (5, [.ref tp, .int (nI ja), .int xs, .int xc, .long xl, .int jv])), (tp, .inr (7, [.ref tb, .int (nI kt)])), (tb, .inl (ca 0, 1700, .inl fb))] ∧ va_S A s.heap H locs) (Wf := fun H locs ls => W p l e _ s m _ below meth c H locs _ _ _ (F0 m 5 ls [])) (kt + 1 - ka) ⟨ka, 0, (by omega), (by omega), hl, hP, hD, hS⟩ ?_ ?_
  · intro H locs ls hI
    obtain ⟨ja, jv, hja, hm, -⟩ := hI
    omega
  intro n ih_1 H locs ls hI
  obtain ⟨ja, jv, hja, hm, hl, hP, hD, hS⟩ := hI
  refine lv_aload_n hx hb dX5_scanNumber_5 rfl (lv_at hl 0 rfl) ?_
  refine va_get (D := D) (ci := 5) (v := .int (nI ja)) (C := RX5) (T := TX5) (N := 6) hx hb hts iw_X5_scanNumber_5 hown hC.1 hP 0 rfl rfl 1 (by decide +kernel) (hts (.fieldLink RX5 15 "FairWheel$Scanner" "at" "I") (by decide +kernel)) (fun _ h9 => h9) rfl dX5_scanNumber_6 ?_
  refine lv_aload_n hx hb dX5_scanNumber_9 rfl (lv_at hl 0 rfl) ?_
  refine va_get (D := D) (ci := 5) (v := .ref tp) (C := RX5) (T := TX5) (N := 6) hx hb hts iw_X5_scanNumber_5 hown hC.1 hP 0 rfl rfl 0 (by decide +kernel) (hts (.fieldLink RX5 9 "FairWheel$Scanner" "tape" "LFairWheel$Tape;") (by decide +kernel)) (fun _ h9 => h9) rfl dX5_scanNumber_10 ?_
  refine va_get (D := D) (ci := 7) (v := .int (nI kt)) (C := RX7) (T := TX7) (N := 2) hx hb hts iw_X5_scanNumber_7 hown hC.1 hP 1 rfl rfl 1 (by decide +kernel) (hts (.fieldLink RX5 19 "FairWheel$Tape" "size" "I") (by decide +kernel)) (fun _ h9 => h9) rfl dX5_scanNumber_13 ?_
  refine lv_icmp_ge (tgt := 75) hx hb dX5_scanNumber_16 (by decide +kernel) (fun c_2 => ?_) (fun c_2 => ?_)
  · have nc_2 : kt ≤ ja := (nI_leI (a := kt) (b := ja) (by omega) (by omega)).mp c_2
    refine lv_aload_n hx hb dX5_scanNumber_75 rfl (lv_at hl 0 rfl) ?_
    refine va_get (D := D) (ci := 5) (v := .int (nI ja)) (C := RX5) (T := TX5) (N := 6) hx hb hts iw_X5_scanNumber_5 hown hC.1 hP 0 rfl rfl 1 (by decide +kernel) (hts (.fieldLink RX5 15 "FairWheel$Scanner" "at" "I") (by decide +kernel)) (fun _ h9 => h9) rfl dX5_scanNumber_76 ?_
    refine lv_aload_n hx hb dX5_scanNumber_79 rfl (lv_at hl 0 rfl) ?_
    refine va_get (D := D) (ci := 5) (v := .int xs) (C := RX5) (T := TX5) (N := 6) hx hb hts iw_X5_scanNumber_5 hown hC.1 hP 0 rfl rfl 2 (by decide +kernel) (hts (.fieldLink RX5 31 "FairWheel$Scanner" "start" "I") (by decide +kernel)) (fun _ h9 => h9) rfl dX5_scanNumber_80 ?_
    refine lv_isub hx hb dX5_scanNumber_83 ?_
    refine lv_topi (fun y_3 ey_3 => ?_)
    refine lv_iconst (v := 4) hx hb dX5_scanNumber_84 (by decide +kernel) ?_
    refine lv_icmp_gt (tgt := 109) hx hb dX5_scanNumber_85 (by decide +kernel) (fun c_4 => ?_) (fun c_4 => ?_)
    · refine lv_iconst (v := 0) hx hb dX5_scanNumber_109 (by decide +kernel) ?_
      refine lv_istore_n (lv' := [(1, .int 0), (0, .ref h0)]) hx hb dX5_scanNumber_110 rfl hl (by decide +kernel) rfl (fun ls hl => ?_)
      refine lv_aload_n hx hb dX5_scanNumber_111 rfl (lv_at hl 1 rfl) ?_
      refine lv_iload_n hx hb dX5_scanNumber_112 rfl (lv_at hl 0 rfl) ?_
      refine lv_if_eq (tgt := 121) hx hb dX5_scanNumber_113 (by decide +kernel) (fun c_5 => ?_) (fun c_5 => absurd (by decide +kernel) c_5)
      refine lv_bipush (v := 22) hx hb dX5_scanNumber_121 (by decide +kernel) ?_
      refine va_put (D := D) (ci := 5) (v := .int 22) (ty := .int) (C := RX5) (T := TX5) (N := 6) hx hb hts iw_X5_scanNumber_5 tyX5 tyX5_ok nmX5 hown hC.1 hP hD hS 0 rfl rfl 3 (by decide +kernel) (hts (.fieldLink RX5 34 "FairWheel$Scanner" "code" "I") (by decide +kernel)) (fun _ h9 => h9) rfl (by decide +kernel) rfl rfl (Nat.le_of_ble_eq_true rfl) dX5_scanNumber_123 (fun H locs hP hD hS => ?_)
      have hP : va_P D vwCl [(h0, .inr (5, [.ref tp, .int (nI ja), .int xs, .int 22, .long xl, .int jv])), (tp, .inr (7, [.ref tb, .int (nI kt)])), (tb, .inl (ca 0, 1700, .inl fb))] H := hP
      have hD : va_D A [(h0, .inr (5, [.ref tp, .int (nI ja), .int xs, .int 22, .long xl, .int jv])), (tp, .inr (7, [.ref tb, .int (nI kt)])), (tb, .inl (ca 0, 1700, .inl fb))] := hD
      exact W.vret hx hb hr (fun t ht hW => ⟨⟨(ja, 22, jv), rfl, (by dsimp only; omega), by rw [ht]; exact hP.sub [0, 1, 2] rfl, hDA (hD.sub [0, 1, 2] (by decide +kernel) rfl)⟩, hS.F ht⟩) hS.2.2 dX5_scanNumber_126
    · refine lv_aload_n hx hb dX5_scanNumber_88 rfl (lv_at hl 0 rfl) ?_
      refine va_get (D := D) (ci := 5) (v := .ref tp) (C := RX5) (T := TX5) (N := 6) hx hb hts iw_X5_scanNumber_5 hown hC.1 hP 0 rfl rfl 0 (by decide +kernel) (hts (.fieldLink RX5 9 "FairWheel$Scanner" "tape" "LFairWheel$Tape;") (by decide +kernel)) (fun _ h9 => h9) rfl dX5_scanNumber_89 ?_
      refine lv_aload_n hx hb dX5_scanNumber_92 rfl (lv_at hl 0 rfl) ?_
      refine va_get (D := D) (ci := 5) (v := .int (nI ja)) (C := RX5) (T := TX5) (N := 6) hx hb hts iw_X5_scanNumber_5 hown hC.1 hP 0 rfl rfl 1 (by decide +kernel) (hts (.fieldLink RX5 15 "FairWheel$Scanner" "at" "I") (by decide +kernel)) (fun _ h9 => h9) rfl dX5_scanNumber_93 ?_
      refine kc_i (wr := [(h0, .inr (5, [.ref tp, .int (nI ja), .int xs, .int xc, .long xl, .int jv]))]) (va_runV (As := [.int (nI ja)]) (rest := []) ⟨hx, hb, hml, hown, hts⟩ (s_X7_at l D ca H.size tp tb kt fb (nI ja) (by omega)) (cwV 1 hts gX5_scanNumber_X7_at rfl rfl rfl (by decide +kernel) ⟨(Nat.le_of_ble_eq_true rfl), (Nat.le_of_ble_eq_true rfl)⟩) (PC.preV (ci := 7) hC hP hD [1, 2] rfl (by decide +kernel) rfl rfl) rfl rfl hl.1 rfl (lv_room (Nat.le_of_ble_eq_true rfl)) dX5_scanNumber_96 ⟨(Nat.le_of_ble_eq_true rfl), (Nat.le_of_ble_eq_true rfl)⟩) hP hD hS hA [1, 2] [0] rfl rfl (by decide +kernel) (by decide +kernel) (fun r_6 u_8 H locs hw_7 hP hD hS => ?_)
      have hP : va_P D vwCl [(h0, .inr (5, [.ref tp, .int (nI ja), .int xs, .int xc, .long xl, .int jv])), (tp, .inr (7, [.ref tb, .int (nI kt)])), (tb, .inl (ca 0, 1700, .inl fb))] H := hP
      have hD : va_D A [(h0, .inr (5, [.ref tp, .int (nI ja), .int xs, .int xc, .long xl, .int jv])), (tp, .inr (7, [.ref tb, .int (nI kt)])), (tb, .inl (ca 0, 1700, .inl fb))] := hD
      refine kc_i (wr := [(h0, .inr (5, [.ref tp, .int (nI ja), .int xs, .int xc, .long xl, .int jv])), (tp, .inr (7, [.ref tb, .int (nI kt)])), (tb, .inl (ca 0, 1700, .inl fb))]) (va_runS (As := [.int r_6]) (rest := []) ⟨hx, hb, hml, hown, hts⟩ (s_X5_isLetter l D ca H.size r_6) (va_cwS 1 hts gX5_scanNumber_X5_isLetter rfl rfl rfl (by decide +kernel) ⟨(Nat.le_of_ble_eq_true rfl), (Nat.le_of_ble_eq_true rfl)⟩) (PC.preS hC hP hD [] rfl (by decide +kernel)) rfl rfl hl.1 rfl (lv_room (Nat.le_of_ble_eq_true rfl)) dX5_scanNumber_99 ⟨(Nat.le_of_ble_eq_true rfl), (Nat.le_of_ble_eq_true rfl)⟩) hP hD hS hA [] [0, 1, 2] rfl rfl (by decide +kernel) (by decide +kernel) (fun r_9 u_11 H locs hw_10 hP hD hS => ?_)
      have hu_12 := hw_10
      have hP : va_P D vwCl [(h0, .inr (5, [.ref tp, .int (nI ja), .int xs, .int xc, .long xl, .int jv])), (tp, .inr (7, [.ref tb, .int (nI kt)])), (tb, .inl (ca 0, 1700, .inl fb))] H := hP
      have hD : va_D A [(h0, .inr (5, [.ref tp, .int (nI ja), .int xs, .int xc, .long xl, .int jv])), (tp, .inr (7, [.ref tb, .int (nI kt)])), (tb, .inl (ca 0, 1700, .inl fb))] := hD
      refine lv_if_ne (tgt := 109) hx hb dX5_scanNumber_102 (by decide +kernel) (fun c_13 => ?_) (fun c_13 => ?_)
      · refine lv_iconst (v := 0) hx hb dX5_scanNumber_109 (by decide +kernel) ?_
        refine lv_istore_n (lv' := [(1, .int 0), (0, .ref h0)]) hx hb dX5_scanNumber_110 rfl hl (by decide +kernel) rfl (fun ls hl => ?_)
        refine lv_aload_n hx hb dX5_scanNumber_111 rfl (lv_at hl 1 rfl) ?_
        refine lv_iload_n hx hb dX5_scanNumber_112 rfl (lv_at hl 0 rfl) ?_
        refine lv_if_eq (tgt := 121) hx hb dX5_scanNumber_113 (by decide +kernel) (fun c_14 => ?_) (fun c_14 => absurd (by decide +kernel) c_14)
        refine lv_bipush (v := 22) hx hb dX5_scanNumber_121 (by decide +kernel) ?_
        refine va_put (D := D) (ci := 5) (v := .int 22) (ty := .int) (C := RX5) (T := TX5) (N := 6) hx hb hts iw_X5_scanNumber_5 tyX5 tyX5_ok nmX5 hown hC.1 hP hD hS 0 rfl rfl 3 (by decide +kernel) (hts (.fieldLink RX5 34 "FairWheel$Scanner" "code" "I") (by decide +kernel)) (fun _ h9 => h9) rfl (by decide +kernel) rfl rfl (Nat.le_of_ble_eq_true rfl) dX5_scanNumber_123 (fun H locs hP hD hS => ?_)
        have hP : va_P D vwCl [(h0, .inr (5, [.ref tp, .int (nI ja), .int xs, .int 22, .long xl, .int jv])), (tp, .inr (7, [.ref tb, .int (nI kt)])), (tb, .inl (ca 0, 1700, .inl fb))] H := hP
        have hD : va_D A [(h0, .inr (5, [.ref tp, .int (nI ja), .int xs, .int 22, .long xl, .int jv])), (tp, .inr (7, [.ref tb, .int (nI kt)])), (tb, .inl (ca 0, 1700, .inl fb))] := hD
        exact W.vret hx hb hr (fun t ht hW => ⟨⟨(ja, 22, jv), rfl, (by dsimp only; omega), by rw [ht]; exact hP.sub [0, 1, 2] rfl, hDA (hD.sub [0, 1, 2] (by decide +kernel) rfl)⟩, hS.F ht⟩) hS.2.2 dX5_scanNumber_126
      · refine lv_iconst (v := 1) hx hb dX5_scanNumber_105 (by decide +kernel) ?_
        refine lv_goto (tgt := 110) hx hb dX5_scanNumber_106 (by decide +kernel) ?_
        refine lv_istore_n (lv' := [(1, .int 1), (0, .ref h0)]) hx hb dX5_scanNumber_110 rfl hl (by decide +kernel) rfl (fun ls hl => ?_)
        refine lv_aload_n hx hb dX5_scanNumber_111 rfl (lv_at hl 1 rfl) ?_
        refine lv_iload_n hx hb dX5_scanNumber_112 rfl (lv_at hl 0 rfl) ?_
        refine lv_if_eq (tgt := 121) hx hb dX5_scanNumber_113 (by decide +kernel) (fun c_15 => absurd c_15 (by decide +kernel)) (fun c_15 => ?_)
        refine lv_bipush (v := 19) hx hb dX5_scanNumber_116 (by decide +kernel) ?_
        refine lv_goto (tgt := 123) hx hb dX5_scanNumber_118 (by decide +kernel) ?_
        refine va_put (D := D) (ci := 5) (v := .int 19) (ty := .int) (C := RX5) (T := TX5) (N := 6) hx hb hts iw_X5_scanNumber_5 tyX5 tyX5_ok nmX5 hown hC.1 hP hD hS 0 rfl rfl 3 (by decide +kernel) (hts (.fieldLink RX5 34 "FairWheel$Scanner" "code" "I") (by decide +kernel)) (fun _ h9 => h9) rfl (by decide +kernel) rfl rfl (Nat.le_of_ble_eq_true rfl) dX5_scanNumber_123 (fun H locs hP hD hS => ?_)
        have hP : va_P D vwCl [(h0, .inr (5, [.ref tp, .int (nI ja), .int xs, .int 19, .long xl, .int jv])), (tp, .inr (7, [.ref tb, .int (nI kt)])), (tb, .inl (ca 0, 1700, .inl fb))] H := hP
        have hD : va_D A [(h0, .inr (5, [.ref tp, .int (nI ja), .int xs, .int 19, .long xl, .int jv])), (tp, .inr (7, [.ref tb, .int (nI kt)])), (tb, .inl (ca 0, 1700, .inl fb))] := hD
        exact W.vret hx hb hr (fun t ht hW => ⟨⟨(ja, 19, jv), rfl, (by dsimp only; omega), by rw [ht]; exact hP.sub [0, 1, 2] rfl, hDA (hD.sub [0, 1, 2] (by decide +kernel) rfl)⟩, hS.F ht⟩) hS.2.2 dX5_scanNumber_126
  · have nc_2 : ¬ (kt ≤ ja) := fun h => c_2 ((nI_leI (a := kt) (b := ja) (by omega) (by omega)).mpr h)
    refine lv_aload_n hx hb dX5_scanNumber_19 rfl (lv_at hl 0 rfl) ?_
    refine va_get (D := D) (ci := 5) (v := .ref tp) (C := RX5) (T := TX5) (N := 6) hx hb hts iw_X5_scanNumber_5 hown hC.1 hP 0 rfl rfl 0 (by decide +kernel) (hts (.fieldLink RX5 9 "FairWheel$Scanner" "tape" "LFairWheel$Tape;") (by decide +kernel)) (fun _ h9 => h9) rfl dX5_scanNumber_20 ?_
    refine lv_aload_n hx hb dX5_scanNumber_23 rfl (lv_at hl 0 rfl) ?_
    refine va_get (D := D) (ci := 5) (v := .int (nI ja)) (C := RX5) (T := TX5) (N := 6) hx hb hts iw_X5_scanNumber_5 hown hC.1 hP 0 rfl rfl 1 (by decide +kernel) (hts (.fieldLink RX5 15 "FairWheel$Scanner" "at" "I") (by decide +kernel)) (fun _ h9 => h9) rfl dX5_scanNumber_24 ?_
    refine kc_i (wr := [(h0, .inr (5, [.ref tp, .int (nI ja), .int xs, .int xc, .long xl, .int jv]))]) (va_runV (As := [.int (nI ja)]) (rest := []) ⟨hx, hb, hml, hown, hts⟩ (s_X7_at l D ca H.size tp tb kt fb (nI ja) (by omega)) (cwV 1 hts gX5_scanNumber_X7_at rfl rfl rfl (by decide +kernel) ⟨(Nat.le_of_ble_eq_true rfl), (Nat.le_of_ble_eq_true rfl)⟩) (PC.preV (ci := 7) hC hP hD [1, 2] rfl (by decide +kernel) rfl rfl) rfl rfl hl.1 rfl (lv_room (Nat.le_of_ble_eq_true rfl)) dX5_scanNumber_27 ⟨(Nat.le_of_ble_eq_true rfl), (Nat.le_of_ble_eq_true rfl)⟩) hP hD hS hA [1, 2] [0] rfl rfl (by decide +kernel) (by decide +kernel) (fun r_16 u_18 H locs hw_17 hP hD hS => ?_)
    have hP : va_P D vwCl [(h0, .inr (5, [.ref tp, .int (nI ja), .int xs, .int xc, .long xl, .int jv])), (tp, .inr (7, [.ref tb, .int (nI kt)])), (tb, .inl (ca 0, 1700, .inl fb))] H := hP
    have hD : va_D A [(h0, .inr (5, [.ref tp, .int (nI ja), .int xs, .int xc, .long xl, .int jv])), (tp, .inr (7, [.ref tb, .int (nI kt)])), (tb, .inl (ca 0, 1700, .inl fb))] := hD
    refine kc_i (wr := [(h0, .inr (5, [.ref tp, .int (nI ja), .int xs, .int xc, .long xl, .int jv])), (tp, .inr (7, [.ref tb, .int (nI kt)])), (tb, .inl (ca 0, 1700, .inl fb))]) (va_runS (As := [.int r_16]) (rest := []) ⟨hx, hb, hml, hown, hts⟩ (s_X5_isDigit l D ca H.size r_16) (va_cwS 1 hts gX5_scanNumber_X5_isDigit rfl rfl rfl (by decide +kernel) ⟨(Nat.le_of_ble_eq_true rfl), (Nat.le_of_ble_eq_true rfl)⟩) (PC.preS hC hP hD [] rfl (by decide +kernel)) rfl rfl hl.1 rfl (lv_room (Nat.le_of_ble_eq_true rfl)) dX5_scanNumber_30 ⟨(Nat.le_of_ble_eq_true rfl), (Nat.le_of_ble_eq_true rfl)⟩) hP hD hS hA [] [0, 1, 2] rfl rfl (by decide +kernel) (by decide +kernel) (fun r_19 u_21 H locs hw_20 hP hD hS => ?_)
    have hu_22 := hw_20
    have hP : va_P D vwCl [(h0, .inr (5, [.ref tp, .int (nI ja), .int xs, .int xc, .long xl, .int jv])), (tp, .inr (7, [.ref tb, .int (nI kt)])), (tb, .inl (ca 0, 1700, .inl fb))] H := hP
    have hD : va_D A [(h0, .inr (5, [.ref tp, .int (nI ja), .int xs, .int xc, .long xl, .int jv])), (tp, .inr (7, [.ref tb, .int (nI kt)])), (tb, .inl (ca 0, 1700, .inl fb))] := hD
    refine lv_if_eq (tgt := 75) hx hb dX5_scanNumber_33 (by decide +kernel) (fun c_23 => ?_) (fun c_23 => ?_)
    · refine lv_aload_n hx hb dX5_scanNumber_75 rfl (lv_at hl 0 rfl) ?_
      refine va_get (D := D) (ci := 5) (v := .int (nI ja)) (C := RX5) (T := TX5) (N := 6) hx hb hts iw_X5_scanNumber_5 hown hC.1 hP 0 rfl rfl 1 (by decide +kernel) (hts (.fieldLink RX5 15 "FairWheel$Scanner" "at" "I") (by decide +kernel)) (fun _ h9 => h9) rfl dX5_scanNumber_76 ?_
      refine lv_aload_n hx hb dX5_scanNumber_79 rfl (lv_at hl 0 rfl) ?_
      refine va_get (D := D) (ci := 5) (v := .int xs) (C := RX5) (T := TX5) (N := 6) hx hb hts iw_X5_scanNumber_5 hown hC.1 hP 0 rfl rfl 2 (by decide +kernel) (hts (.fieldLink RX5 31 "FairWheel$Scanner" "start" "I") (by decide +kernel)) (fun _ h9 => h9) rfl dX5_scanNumber_80 ?_
      refine lv_isub hx hb dX5_scanNumber_83 ?_
      refine lv_topi (fun y_24 ey_24 => ?_)
      refine lv_iconst (v := 4) hx hb dX5_scanNumber_84 (by decide +kernel) ?_
      refine lv_icmp_gt (tgt := 109) hx hb dX5_scanNumber_85 (by decide +kernel) (fun c_25 => ?_) (fun c_25 => ?_)
      · refine lv_iconst (v := 0) hx hb dX5_scanNumber_109 (by decide +kernel) ?_
        refine lv_istore_n (lv' := [(1, .int 0), (0, .ref h0)]) hx hb dX5_scanNumber_110 rfl hl (by decide +kernel) rfl (fun ls hl => ?_)
        refine lv_aload_n hx hb dX5_scanNumber_111 rfl (lv_at hl 1 rfl) ?_
        refine lv_iload_n hx hb dX5_scanNumber_112 rfl (lv_at hl 0 rfl) ?_
        refine lv_if_eq (tgt := 121) hx hb dX5_scanNumber_113 (by decide +kernel) (fun c_26 => ?_) (fun c_26 => absurd (by decide +kernel) c_26)
        refine lv_bipush (v := 22) hx hb dX5_scanNumber_121 (by decide +kernel) ?_
        refine va_put (D := D) (ci := 5) (v := .int 22) (ty := .int) (C := RX5) (T := TX5) (N := 6) hx hb hts iw_X5_scanNumber_5 tyX5 tyX5_ok nmX5 hown hC.1 hP hD hS 0 rfl rfl 3 (by decide +kernel) (hts (.fieldLink RX5 34 "FairWheel$Scanner" "code" "I") (by decide +kernel)) (fun _ h9 => h9) rfl (by decide +kernel) rfl rfl (Nat.le_of_ble_eq_true rfl) dX5_scanNumber_123 (fun H locs hP hD hS => ?_)
        have hP : va_P D vwCl [(h0, .inr (5, [.ref tp, .int (nI ja), .int xs, .int 22, .long xl, .int jv])), (tp, .inr (7, [.ref tb, .int (nI kt)])), (tb, .inl (ca 0, 1700, .inl fb))] H := hP
        have hD : va_D A [(h0, .inr (5, [.ref tp, .int (nI ja), .int xs, .int 22, .long xl, .int jv])), (tp, .inr (7, [.ref tb, .int (nI kt)])), (tb, .inl (ca 0, 1700, .inl fb))] := hD
        exact W.vret hx hb hr (fun t ht hW => ⟨⟨(ja, 22, jv), rfl, (by dsimp only; omega), by rw [ht]; exact hP.sub [0, 1, 2] rfl, hDA (hD.sub [0, 1, 2] (by decide +kernel) rfl)⟩, hS.F ht⟩) hS.2.2 dX5_scanNumber_126
      · refine lv_aload_n hx hb dX5_scanNumber_88 rfl (lv_at hl 0 rfl) ?_
        refine va_get (D := D) (ci := 5) (v := .ref tp) (C := RX5) (T := TX5) (N := 6) hx hb hts iw_X5_scanNumber_5 hown hC.1 hP 0 rfl rfl 0 (by decide +kernel) (hts (.fieldLink RX5 9 "FairWheel$Scanner" "tape" "LFairWheel$Tape;") (by decide +kernel)) (fun _ h9 => h9) rfl dX5_scanNumber_89 ?_
        refine lv_aload_n hx hb dX5_scanNumber_92 rfl (lv_at hl 0 rfl) ?_
        refine va_get (D := D) (ci := 5) (v := .int (nI ja)) (C := RX5) (T := TX5) (N := 6) hx hb hts iw_X5_scanNumber_5 hown hC.1 hP 0 rfl rfl 1 (by decide +kernel) (hts (.fieldLink RX5 15 "FairWheel$Scanner" "at" "I") (by decide +kernel)) (fun _ h9 => h9) rfl dX5_scanNumber_93 ?_
        refine kc_i (wr := [(h0, .inr (5, [.ref tp, .int (nI ja), .int xs, .int xc, .long xl, .int jv]))]) (va_runV (As := [.int (nI ja)]) (rest := []) ⟨hx, hb, hml, hown, hts⟩ (s_X7_at l D ca H.size tp tb kt fb (nI ja) (by omega)) (cwV 1 hts gX5_scanNumber_X7_at rfl rfl rfl (by decide +kernel) ⟨(Nat.le_of_ble_eq_true rfl), (Nat.le_of_ble_eq_true rfl)⟩) (PC.preV (ci := 7) hC hP hD [1, 2] rfl (by decide +kernel) rfl rfl) rfl rfl hl.1 rfl (lv_room (Nat.le_of_ble_eq_true rfl)) dX5_scanNumber_96 ⟨(Nat.le_of_ble_eq_true rfl), (Nat.le_of_ble_eq_true rfl)⟩) hP hD hS hA [1, 2] [0] rfl rfl (by decide +kernel) (by decide +kernel) (fun r_27 u_29 H locs hw_28 hP hD hS => ?_)
        have hP : va_P D vwCl [(h0, .inr (5, [.ref tp, .int (nI ja), .int xs, .int xc, .long xl, .int jv])), (tp, .inr (7, [.ref tb, .int (nI kt)])), (tb, .inl (ca 0, 1700, .inl fb))] H := hP
        have hD : va_D A [(h0, .inr (5, [.ref tp, .int (nI ja), .int xs, .int xc, .long xl, .int jv])), (tp, .inr (7, [.ref tb, .int (nI kt)])), (tb, .inl (ca 0, 1700, .inl fb))] := hD
        refine kc_i (wr := [(h0, .inr (5, [.ref tp, .int (nI ja), .int xs, .int xc, .long xl, .int jv])), (tp, .inr (7, [.ref tb, .int (nI kt)])), (tb, .inl (ca 0, 1700, .inl fb))]) (va_runS (As := [.int r_27]) (rest := []) ⟨hx, hb, hml, hown, hts⟩ (s_X5_isLetter l D ca H.size r_27) (va_cwS 1 hts gX5_scanNumber_X5_isLetter rfl rfl rfl (by decide +kernel) ⟨(Nat.le_of_ble_eq_true rfl), (Nat.le_of_ble_eq_true rfl)⟩) (PC.preS hC hP hD [] rfl (by decide +kernel)) rfl rfl hl.1 rfl (lv_room (Nat.le_of_ble_eq_true rfl)) dX5_scanNumber_99 ⟨(Nat.le_of_ble_eq_true rfl), (Nat.le_of_ble_eq_true rfl)⟩) hP hD hS hA [] [0, 1, 2] rfl rfl (by decide +kernel) (by decide +kernel) (fun r_30 u_32 H locs hw_31 hP hD hS => ?_)
        have hu_33 := hw_31
        have hP : va_P D vwCl [(h0, .inr (5, [.ref tp, .int (nI ja), .int xs, .int xc, .long xl, .int jv])), (tp, .inr (7, [.ref tb, .int (nI kt)])), (tb, .inl (ca 0, 1700, .inl fb))] H := hP
        have hD : va_D A [(h0, .inr (5, [.ref tp, .int (nI ja), .int xs, .int xc, .long xl, .int jv])), (tp, .inr (7, [.ref tb, .int (nI kt)])), (tb, .inl (ca 0, 1700, .inl fb))] := hD
        refine lv_if_ne (tgt := 109) hx hb dX5_scanNumber_102 (by decide +kernel) (fun c_34 => ?_) (fun c_34 => ?_)
        · refine lv_iconst (v := 0) hx hb dX5_scanNumber_109 (by decide +kernel) ?_
          refine lv_istore_n (lv' := [(1, .int 0), (0, .ref h0)]) hx hb dX5_scanNumber_110 rfl hl (by decide +kernel) rfl (fun ls hl => ?_)
          refine lv_aload_n hx hb dX5_scanNumber_111 rfl (lv_at hl 1 rfl) ?_
          refine lv_iload_n hx hb dX5_scanNumber_112 rfl (lv_at hl 0 rfl) ?_
          refine lv_if_eq (tgt := 121) hx hb dX5_scanNumber_113 (by decide +kernel) (fun c_35 => ?_) (fun c_35 => absurd (by decide +kernel) c_35)
          refine lv_bipush (v := 22) hx hb dX5_scanNumber_121 (by decide +kernel) ?_
          refine va_put (D := D) (ci := 5) (v := .int 22) (ty := .int) (C := RX5) (T := TX5) (N := 6) hx hb hts iw_X5_scanNumber_5 tyX5 tyX5_ok nmX5 hown hC.1 hP hD hS 0 rfl rfl 3 (by decide +kernel) (hts (.fieldLink RX5 34 "FairWheel$Scanner" "code" "I") (by decide +kernel)) (fun _ h9 => h9) rfl (by decide +kernel) rfl rfl (Nat.le_of_ble_eq_true rfl) dX5_scanNumber_123 (fun H locs hP hD hS => ?_)
          have hP : va_P D vwCl [(h0, .inr (5, [.ref tp, .int (nI ja), .int xs, .int 22, .long xl, .int jv])), (tp, .inr (7, [.ref tb, .int (nI kt)])), (tb, .inl (ca 0, 1700, .inl fb))] H := hP
          have hD : va_D A [(h0, .inr (5, [.ref tp, .int (nI ja), .int xs, .int 22, .long xl, .int jv])), (tp, .inr (7, [.ref tb, .int (nI kt)])), (tb, .inl (ca 0, 1700, .inl fb))] := hD
          exact W.vret hx hb hr (fun t ht hW => ⟨⟨(ja, 22, jv), rfl, (by dsimp only; omega), by rw [ht]; exact hP.sub [0, 1, 2] rfl, hDA (hD.sub [0, 1, 2] (by decide +kernel) rfl)⟩, hS.F ht⟩) hS.2.2 dX5_scanNumber_126
        · refine lv_iconst (v := 1) hx hb dX5_scanNumber_105 (by decide +kernel) ?_
          refine lv_goto (tgt := 110) hx hb dX5_scanNumber_106 (by decide +kernel) ?_
          refine lv_istore_n (lv' := [(1, .int 1), (0, .ref h0)]) hx hb dX5_scanNumber_110 rfl hl (by decide +kernel) rfl (fun ls hl => ?_)
          refine lv_aload_n hx hb dX5_scanNumber_111 rfl (lv_at hl 1 rfl) ?_
          refine lv_iload_n hx hb dX5_scanNumber_112 rfl (lv_at hl 0 rfl) ?_
          refine lv_if_eq (tgt := 121) hx hb dX5_scanNumber_113 (by decide +kernel) (fun c_36 => absurd c_36 (by decide +kernel)) (fun c_36 => ?_)
          refine lv_bipush (v := 19) hx hb dX5_scanNumber_116 (by decide +kernel) ?_
          refine lv_goto (tgt := 123) hx hb dX5_scanNumber_118 (by decide +kernel) ?_
          refine va_put (D := D) (ci := 5) (v := .int 19) (ty := .int) (C := RX5) (T := TX5) (N := 6) hx hb hts iw_X5_scanNumber_5 tyX5 tyX5_ok nmX5 hown hC.1 hP hD hS 0 rfl rfl 3 (by decide +kernel) (hts (.fieldLink RX5 34 "FairWheel$Scanner" "code" "I") (by decide +kernel)) (fun _ h9 => h9) rfl (by decide +kernel) rfl rfl (Nat.le_of_ble_eq_true rfl) dX5_scanNumber_123 (fun H locs hP hD hS => ?_)
          have hP : va_P D vwCl [(h0, .inr (5, [.ref tp, .int (nI ja), .int xs, .int 19, .long xl, .int jv])), (tp, .inr (7, [.ref tb, .int (nI kt)])), (tb, .inl (ca 0, 1700, .inl fb))] H := hP
          have hD : va_D A [(h0, .inr (5, [.ref tp, .int (nI ja), .int xs, .int 19, .long xl, .int jv])), (tp, .inr (7, [.ref tb, .int (nI kt)])), (tb, .inl (ca 0, 1700, .inl fb))] := hD
          exact W.vret hx hb hr (fun t ht hW => ⟨⟨(ja, 19, jv), rfl, (by dsimp only; omega), by rw [ht]; exact hP.sub [0, 1, 2] rfl, hDA (hD.sub [0, 1, 2] (by decide +kernel) rfl)⟩, hS.F ht⟩) hS.2.2 dX5_scanNumber_126
    · refine lv_aload_n hx hb dX5_scanNumber_36 rfl (lv_at hl 0 rfl) ?_
      refine lv_aload_n hx hb dX5_scanNumber_37 rfl (lv_at hl 0 rfl) ?_
      refine va_get (D := D) (ci := 5) (v := .int jv) (C := RX5) (T := TX5) (N := 6) hx hb hts iw_X5_scanNumber_5 hown hC.1 hP 0 rfl rfl 5 (by decide +kernel) (hts (.fieldLink RX5 56 "FairWheel$Scanner" "value" "I") (by decide +kernel)) (fun _ h9 => h9) rfl dX5_scanNumber_38 ?_
      refine lv_bipush (v := 10) hx hb dX5_scanNumber_41 (by decide +kernel) ?_
      refine lv_imul hx hb dX5_scanNumber_43 ?_
      refine lv_topi (fun y_37 ey_37 => ?_)
      refine lv_aload_n hx hb dX5_scanNumber_44 rfl (lv_at hl 0 rfl) ?_
      refine va_get (D := D) (ci := 5) (v := .ref tp) (C := RX5) (T := TX5) (N := 6) hx hb hts iw_X5_scanNumber_5 hown hC.1 hP 0 rfl rfl 0 (by decide +kernel) (hts (.fieldLink RX5 9 "FairWheel$Scanner" "tape" "LFairWheel$Tape;") (by decide +kernel)) (fun _ h9 => h9) rfl dX5_scanNumber_45 ?_
      refine lv_aload_n hx hb dX5_scanNumber_48 rfl (lv_at hl 0 rfl) ?_
      refine va_get (D := D) (ci := 5) (v := .int (nI ja)) (C := RX5) (T := TX5) (N := 6) hx hb hts iw_X5_scanNumber_5 hown hC.1 hP 0 rfl rfl 1 (by decide +kernel) (hts (.fieldLink RX5 15 "FairWheel$Scanner" "at" "I") (by decide +kernel)) (fun _ h9 => h9) rfl dX5_scanNumber_49 ?_
      refine kc_i (wr := [(h0, .inr (5, [.ref tp, .int (nI ja), .int xs, .int xc, .long xl, .int jv]))]) (va_runV (As := [.int (nI ja)]) (rest := [.int y_37, .ref h0]) ⟨hx, hb, hml, hown, hts⟩ (s_X7_at l D ca H.size tp tb kt fb (nI ja) (by omega)) (cwV 1 hts gX5_scanNumber_X7_at rfl rfl rfl (by decide +kernel) ⟨(Nat.le_of_ble_eq_true rfl), (Nat.le_of_ble_eq_true rfl)⟩) (PC.preV (ci := 7) hC hP hD [1, 2] rfl (by decide +kernel) rfl rfl) rfl rfl hl.1 rfl (lv_room (Nat.le_of_ble_eq_true rfl)) dX5_scanNumber_52 ⟨(Nat.le_of_ble_eq_true rfl), (Nat.le_of_ble_eq_true rfl)⟩) hP hD hS hA [1, 2] [0] rfl rfl (by decide +kernel) (by decide +kernel) (fun r_38 u_40 H locs hw_39 hP hD hS => ?_)
      have hP : va_P D vwCl [(h0, .inr (5, [.ref tp, .int (nI ja), .int xs, .int xc, .long xl, .int jv])), (tp, .inr (7, [.ref tb, .int (nI kt)])), (tb, .inl (ca 0, 1700, .inl fb))] H := hP
      have hD : va_D A [(h0, .inr (5, [.ref tp, .int (nI ja), .int xs, .int xc, .long xl, .int jv])), (tp, .inr (7, [.ref tb, .int (nI kt)])), (tb, .inl (ca 0, 1700, .inl fb))] := hD
      refine lv_iadd hx hb dX5_scanNumber_55 ?_
      refine lv_topi (fun y_41 ey_41 => ?_)
      refine lv_bipush (v := 48) hx hb dX5_scanNumber_56 (by decide +kernel) ?_
      refine lv_isub hx hb dX5_scanNumber_58 ?_
      refine lv_topi (fun y_42 ey_42 => ?_)
      refine va_put (D := D) (ci := 5) (v := .int y_42) (ty := .int) (C := RX5) (T := TX5) (N := 6) hx hb hts iw_X5_scanNumber_5 tyX5 tyX5_ok nmX5 hown hC.1 hP hD hS 0 rfl rfl 5 (by decide +kernel) (hts (.fieldLink RX5 56 "FairWheel$Scanner" "value" "I") (by decide +kernel)) (fun _ h9 => h9) rfl (by decide +kernel) rfl rfl (Nat.le_of_ble_eq_true rfl) dX5_scanNumber_59 (fun H locs hP hD hS => ?_)
      have hP : va_P D vwCl [(h0, .inr (5, [.ref tp, .int (nI ja), .int xs, .int xc, .long xl, .int y_42])), (tp, .inr (7, [.ref tb, .int (nI kt)])), (tb, .inl (ca 0, 1700, .inl fb))] H := hP
      have hD : va_D A [(h0, .inr (5, [.ref tp, .int (nI ja), .int xs, .int xc, .long xl, .int y_42])), (tp, .inr (7, [.ref tb, .int (nI kt)])), (tb, .inl (ca 0, 1700, .inl fb))] := hD
      refine lv_aload_n hx hb dX5_scanNumber_62 rfl (lv_at hl 0 rfl) ?_
      refine lv_dup hx hb dX5_scanNumber_63 rfl ?_
      refine va_get (D := D) (ci := 5) (v := .int (nI ja)) (C := RX5) (T := TX5) (N := 6) hx hb hts iw_X5_scanNumber_5 hown hC.1 hP 0 rfl rfl 1 (by decide +kernel) (hts (.fieldLink RX5 15 "FairWheel$Scanner" "at" "I") (by decide +kernel)) (fun _ h9 => h9) rfl dX5_scanNumber_64 ?_
      refine lv_iconst (v := 1) hx hb dX5_scanNumber_67 (by decide +kernel) ?_
      refine lv_iadd hx hb dX5_scanNumber_68 ?_
      refine nt_i (nI (ja + 1)) (nI_add ja 1) ?_
      refine va_put (D := D) (ci := 5) (v := .int (nI (ja + 1))) (ty := .int) (C := RX5) (T := TX5) (N := 6) hx hb hts iw_X5_scanNumber_5 tyX5 tyX5_ok nmX5 hown hC.1 hP hD hS 0 rfl rfl 1 (by decide +kernel) (hts (.fieldLink RX5 15 "FairWheel$Scanner" "at" "I") (by decide +kernel)) (fun _ h9 => h9) rfl (by decide +kernel) rfl rfl (Nat.le_of_ble_eq_true rfl) dX5_scanNumber_69 (fun H locs hP hD hS => ?_)
      have hP : va_P D vwCl [(h0, .inr (5, [.ref tp, .int (nI (ja + 1)), .int xs, .int xc, .long xl, .int y_42])), (tp, .inr (7, [.ref tb, .int (nI kt)])), (tb, .inl (ca 0, 1700, .inl fb))] H := hP
      have hD : va_D A [(h0, .inr (5, [.ref tp, .int (nI (ja + 1)), .int xs, .int xc, .long xl, .int y_42])), (tp, .inr (7, [.ref tb, .int (nI kt)])), (tb, .inl (ca 0, 1700, .inl fb))] := hD
      refine lv_goto (tgt := 5) hx hb dX5_scanNumber_72 (by decide +kernel) ?_
      exact ih_1 _ _ _ ⟨(ja + 1), y_42, (by omega), (by omega), lv_sub hl [0] rfl, hP, hD, hS⟩
