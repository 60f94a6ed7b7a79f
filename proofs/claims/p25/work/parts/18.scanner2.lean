set_option maxRecDepth 20000 in
theorem ggX5_codeOfWord_J0_charAt_5068e : GoodIn wsX5_codeOfWord wsJ0_charAt_5068e := goodIn_r _ [14, 15, 16, 17, 18, 13, 19, 20, 21, 22, 23, 24, 25, 26, 27, 28, 29, 30, 31, 32, 33, 34, 35, 36, 37, 38, 39, 40, 41, 42, 43, 44, 45, 46, 47, 48, 49, 50] (by decide +kernel) (by decide +kernel)
set_option maxRecDepth 20000 in
theorem gX5_codeOfWord_J0_charAt_5068e : GoodIn wsX5_codeOfWord (wsV RX5 61 RJ0 yJ0_charAt_5068e wsJ0_charAt_5068e) := goodIn_app (goodIn_of _ (by decide +kernel)) ggX5_codeOfWord_J0_charAt_5068e
set_option maxRecDepth 20000 in
theorem ggX5_codeOfWord_X7_at : GoodIn wsX5_codeOfWord wsX7_at := goodIn_r _ [7, 8, 9, 57, 58] (by decide +kernel) (by decide +kernel)
set_option maxRecDepth 20000 in
theorem gX5_codeOfWord_X7_at : GoodIn wsX5_codeOfWord (wsV RX5 24 RX7 yX7_at wsX7_at) := goodIn_app (goodIn_of _ (by decide +kernel)) ggX5_codeOfWord_X7_at
theorem dX5_codeOfWord_0 : decode cX5_codeOfWord 0 = .ok (.iconst 0, 1) := by decide +kernel
theorem dX5_codeOfWord_1 : decode cX5_codeOfWord 1 = .ok (.istore_n 2, 1) := by decide +kernel
theorem dX5_codeOfWord_2 : decode cX5_codeOfWord 2 = .ok (.iload_n 2, 1) := by decide +kernel
theorem dX5_codeOfWord_3 : decode cX5_codeOfWord 3 = .ok (.bipush 18, 2) := by decide +kernel
theorem dX5_codeOfWord_5 : decode cX5_codeOfWord 5 = .ok (.if_icmp .ge 87, 3) := by decide +kernel
theorem dX5_codeOfWord_8 : decode cX5_codeOfWord 8 = .ok (.iconst 1, 1) := by decide +kernel
theorem dX5_codeOfWord_9 : decode cX5_codeOfWord 9 = .ok (.istore_n 3, 1) := by decide +kernel
theorem dX5_codeOfWord_10 : decode cX5_codeOfWord 10 = .ok (.iconst 0, 1) := by decide +kernel
theorem dX5_codeOfWord_11 : decode cX5_codeOfWord 11 = .ok (.istore 4, 2) := by decide +kernel
theorem dX5_codeOfWord_13 : decode cX5_codeOfWord 13 = .ok (.iload 4, 2) := by decide +kernel
theorem dX5_codeOfWord_15 : decode cX5_codeOfWord 15 = .ok (.bipush 8, 2) := by decide +kernel
theorem dX5_codeOfWord_17 : decode cX5_codeOfWord 17 = .ok (.if_icmp .ge 63, 3) := by decide +kernel
theorem dX5_codeOfWord_20 : decode cX5_codeOfWord 20 = .ok (.iload_n 3, 1) := by decide +kernel
theorem dX5_codeOfWord_21 : decode cX5_codeOfWord 21 = .ok (.ifCond .eq 59, 3) := by decide +kernel
theorem dX5_codeOfWord_24 : decode cX5_codeOfWord 24 = .ok (.iload 4, 2) := by decide +kernel
theorem dX5_codeOfWord_26 : decode cX5_codeOfWord 26 = .ok (.iload_n 1, 1) := by decide +kernel
theorem dX5_codeOfWord_27 : decode cX5_codeOfWord 27 = .ok (.if_icmp .ge 20, 3) := by decide +kernel
theorem dX5_codeOfWord_30 : decode cX5_codeOfWord 30 = .ok (.aload_n 0, 1) := by decide +kernel
theorem dX5_codeOfWord_31 : decode cX5_codeOfWord 31 = .ok (.getfield 9, 3) := by decide +kernel
theorem dX5_codeOfWord_34 : decode cX5_codeOfWord 34 = .ok (.aload_n 0, 1) := by decide +kernel
theorem dX5_codeOfWord_35 : decode cX5_codeOfWord 35 = .ok (.getfield 31, 3) := by decide +kernel
theorem dX5_codeOfWord_38 : decode cX5_codeOfWord 38 = .ok (.iload 4, 2) := by decide +kernel
theorem dX5_codeOfWord_40 : decode cX5_codeOfWord 40 = .ok (.iadd, 1) := by decide +kernel
theorem dX5_codeOfWord_41 : decode cX5_codeOfWord 41 = .ok (.invokevirtual 24, 3) := by decide +kernel
theorem dX5_codeOfWord_44 : decode cX5_codeOfWord 44 = .ok (.goto 5, 3) := by decide +kernel
theorem dX5_codeOfWord_47 : decode cX5_codeOfWord 47 = .ok (.bipush 32, 2) := by decide +kernel
theorem dX5_codeOfWord_49 : decode cX5_codeOfWord 49 = .ok (.istore 5, 2) := by decide +kernel
theorem dX5_codeOfWord_51 : decode cX5_codeOfWord 51 = .ok (.ldc 59, 2) := by decide +kernel
theorem dX5_codeOfWord_53 : decode cX5_codeOfWord 53 = .ok (.iload_n 2, 1) := by decide +kernel
theorem dX5_codeOfWord_54 : decode cX5_codeOfWord 54 = .ok (.bipush 8, 2) := by decide +kernel
theorem dX5_codeOfWord_56 : decode cX5_codeOfWord 56 = .ok (.imul, 1) := by decide +kernel
theorem dX5_codeOfWord_57 : decode cX5_codeOfWord 57 = .ok (.iload 4, 2) := by decide +kernel
theorem dX5_codeOfWord_59 : decode cX5_codeOfWord 59 = .ok (.iadd, 1) := by decide +kernel
theorem dX5_codeOfWord_60 : decode cX5_codeOfWord 60 = .ok (.invokevirtual 61, 3) := by decide +kernel
theorem dX5_codeOfWord_63 : decode cX5_codeOfWord 63 = .ok (.iload 5, 2) := by decide +kernel
theorem dX5_codeOfWord_65 : decode cX5_codeOfWord 65 = .ok (.if_icmp .ne 7, 3) := by decide +kernel
theorem dX5_codeOfWord_68 : decode cX5_codeOfWord 68 = .ok (.iconst 1, 1) := by decide +kernel
theorem dX5_codeOfWord_69 : decode cX5_codeOfWord 69 = .ok (.goto 4, 3) := by decide +kernel
theorem dX5_codeOfWord_72 : decode cX5_codeOfWord 72 = .ok (.iconst 0, 1) := by decide +kernel
theorem dX5_codeOfWord_73 : decode cX5_codeOfWord 73 = .ok (.istore_n 3, 1) := by decide +kernel
theorem dX5_codeOfWord_74 : decode cX5_codeOfWord 74 = .ok (.iinc 4 1, 3) := by decide +kernel
theorem dX5_codeOfWord_77 : decode cX5_codeOfWord 77 = .ok (.goto (-64), 3) := by decide +kernel
theorem dX5_codeOfWord_80 : decode cX5_codeOfWord 80 = .ok (.iload_n 3, 1) := by decide +kernel
theorem dX5_codeOfWord_81 : decode cX5_codeOfWord 81 = .ok (.ifCond .eq 5, 3) := by decide +kernel
theorem dX5_codeOfWord_84 : decode cX5_codeOfWord 84 = .ok (.iload_n 2, 1) := by decide +kernel
theorem dX5_codeOfWord_85 : decode cX5_codeOfWord 85 = .ok (.ireturn, 1) := by decide +kernel
theorem dX5_codeOfWord_86 : decode cX5_codeOfWord 86 = .ok (.iinc 2 1, 3) := by decide +kernel
theorem dX5_codeOfWord_89 : decode cX5_codeOfWord 89 = .ok (.goto (-87), 3) := by decide +kernel
theorem dX5_codeOfWord_92 : decode cX5_codeOfWord 92 = .ok (.bipush 18, 2) := by decide +kernel
theorem dX5_codeOfWord_94 : decode cX5_codeOfWord 94 = .ok (.ireturn, 1) := by decide +kernel
set_option maxRecDepth 20000 in
theorem ggX5_next_X5_codeOfWord : GoodIn wsX5_next wsX5_codeOfWord := goodIn_r _ [28, 2, 4, 6, 7, 8, 9, 10, 11, 12, 29, 30, 31, 32, 33, 34, 35, 36, 37, 38, 39, 40, 41, 42, 43, 44, 45, 46, 47, 48, 49, 50, 51, 52, 53, 54, 55, 56, 57, 58, 59, 60, 61, 62, 63, 64, 65, 66, 67, 68, 69, 78, 79, 80, 81, 82, 83, 84, 85] (by decide +kernel) (by decide +kernel)
set_option maxRecDepth 20000 in
theorem gX5_next_X5_codeOfWord : GoodIn wsX5_next (wsV RX5 43 RX5 yX5_codeOfWord wsX5_codeOfWord) := goodIn_app (goodIn_of _ (by decide +kernel)) ggX5_next_X5_codeOfWord
set_option maxRecDepth 20000 in
theorem ggX5_next_X5_isBlank : GoodIn wsX5_next wsX5_isBlank := goodIn_r _ [16] (by decide +kernel) (by decide +kernel)
set_option maxRecDepth 20000 in
theorem gX5_next_X5_isBlank : GoodIn wsX5_next (va_wsS RX5 27 yX5_isBlank wsX5_isBlank) := goodIn_app (goodIn_of _ (by decide +kernel)) ggX5_next_X5_isBlank
set_option maxRecDepth 20000 in
theorem ggX5_next_X5_isDigit : GoodIn wsX5_next wsX5_isDigit := goodIn_r _ [72] (by decide +kernel) (by decide +kernel)
set_option maxRecDepth 20000 in
theorem gX5_next_X5_isDigit : GoodIn wsX5_next (va_wsS RX5 46 yX5_isDigit wsX5_isDigit) := goodIn_app (goodIn_of _ (by decide +kernel)) ggX5_next_X5_isDigit
set_option maxRecDepth 20000 in
theorem ggX5_next_X5_isLetter : GoodIn wsX5_next wsX5_isLetter := goodIn_r _ [19] (by decide +kernel) (by decide +kernel)
set_option maxRecDepth 20000 in
theorem gX5_next_X5_isLetter : GoodIn wsX5_next (va_wsS RX5 37 yX5_isLetter wsX5_isLetter) := goodIn_app (goodIn_of _ (by decide +kernel)) ggX5_next_X5_isLetter
set_option maxRecDepth 20000 in
theorem ggX5_next_X5_passLetters : GoodIn wsX5_next wsX5_passLetters := goodIn_r _ [23, 24, 1, 2, 3, 6, 7, 8, 9, 10, 11, 12, 17, 18, 15, 19, 78, 79, 80, 81, 82, 83, 84, 85] (by decide +kernel) (by decide +kernel)
set_option maxRecDepth 20000 in
theorem gX5_next_X5_passLetters : GoodIn wsX5_next (wsV RX5 40 RX5 yX5_passLetters wsX5_passLetters) := goodIn_app (goodIn_of _ (by decide +kernel)) ggX5_next_X5_passLetters
set_option maxRecDepth 20000 in
theorem ggX5_next_X5_scanNumber : GoodIn wsX5_next wsX5_scanNumber := goodIn_r _ [76, 77, 1, 2, 3, 4, 5, 6, 7, 8, 9, 10, 11, 12, 70, 71, 15, 72, 17, 18, 19, 78, 79, 80, 81, 82, 83, 84, 85] (by decide +kernel) (by decide +kernel)
set_option maxRecDepth 20000 in
theorem gX5_next_X5_scanNumber : GoodIn wsX5_next (wsV RX5 49 RX5 yX5_scanNumber wsX5_scanNumber) := goodIn_app (goodIn_of _ (by decide +kernel)) ggX5_next_X5_scanNumber
set_option maxRecDepth 20000 in
theorem ggX5_next_X7_at : GoodIn wsX5_next wsX7_at := goodIn_r _ [10, 11, 12, 84, 85] (by decide +kernel) (by decide +kernel)
set_option maxRecDepth 20000 in
theorem gX5_next_X7_at : GoodIn wsX5_next (wsV RX5 24 RX7 yX7_at wsX7_at) := goodIn_app (goodIn_of _ (by decide +kernel)) ggX5_next_X7_at
theorem dX5_next_0 : decode cX5_next 0 = .ok (.aload_n 0, 1) := by decide +kernel
theorem dX5_next_1 : decode cX5_next 1 = .ok (.getfield 15, 3) := by decide +kernel
theorem dX5_next_4 : decode cX5_next 4 = .ok (.aload_n 0, 1) := by decide +kernel
theorem dX5_next_5 : decode cX5_next 5 = .ok (.getfield 9, 3) := by decide +kernel
theorem dX5_next_8 : decode cX5_next 8 = .ok (.getfield 19, 3) := by decide +kernel
theorem dX5_next_11 : decode cX5_next 11 = .ok (.if_icmp .ge 33, 3) := by decide +kernel
theorem dX5_next_14 : decode cX5_next 14 = .ok (.aload_n 0, 1) := by decide +kernel
theorem dX5_next_15 : decode cX5_next 15 = .ok (.getfield 9, 3) := by decide +kernel
theorem dX5_next_18 : decode cX5_next 18 = .ok (.aload_n 0, 1) := by decide +kernel
theorem dX5_next_19 : decode cX5_next 19 = .ok (.getfield 15, 3) := by decide +kernel
theorem dX5_next_22 : decode cX5_next 22 = .ok (.invokevirtual 24, 3) := by decide +kernel
theorem dX5_next_25 : decode cX5_next 25 = .ok (.invokestatic 27, 3) := by decide +kernel
theorem dX5_next_28 : decode cX5_next 28 = .ok (.ifCond .eq 16, 3) := by decide +kernel
theorem dX5_next_31 : decode cX5_next 31 = .ok (.aload_n 0, 1) := by decide +kernel
theorem dX5_next_32 : decode cX5_next 32 = .ok (.dup, 1) := by decide +kernel
theorem dX5_next_33 : decode cX5_next 33 = .ok (.getfield 15, 3) := by decide +kernel
theorem dX5_next_36 : decode cX5_next 36 = .ok (.iconst 1, 1) := by decide +kernel
theorem dX5_next_37 : decode cX5_next 37 = .ok (.iadd, 1) := by decide +kernel
theorem dX5_next_38 : decode cX5_next 38 = .ok (.putfield 15, 3) := by decide +kernel
theorem dX5_next_41 : decode cX5_next 41 = .ok (.goto (-41), 3) := by decide +kernel
theorem dX5_next_44 : decode cX5_next 44 = .ok (.aload_n 0, 1) := by decide +kernel
theorem dX5_next_45 : decode cX5_next 45 = .ok (.aload_n 0, 1) := by decide +kernel
theorem dX5_next_46 : decode cX5_next 46 = .ok (.getfield 15, 3) := by decide +kernel
theorem dX5_next_49 : decode cX5_next 49 = .ok (.putfield 31, 3) := by decide +kernel
theorem dX5_next_52 : decode cX5_next 52 = .ok (.aload_n 0, 1) := by decide +kernel
theorem dX5_next_53 : decode cX5_next 53 = .ok (.getfield 9, 3) := by decide +kernel
theorem dX5_next_56 : decode cX5_next 56 = .ok (.aload_n 0, 1) := by decide +kernel
theorem dX5_next_57 : decode cX5_next 57 = .ok (.getfield 15, 3) := by decide +kernel
theorem dX5_next_60 : decode cX5_next 60 = .ok (.invokevirtual 24, 3) := by decide +kernel
theorem dX5_next_63 : decode cX5_next 63 = .ok (.istore_n 1, 1) := by decide +kernel
theorem dX5_next_64 : decode cX5_next 64 = .ok (.aload_n 0, 1) := by decide +kernel
theorem dX5_next_65 : decode cX5_next 65 = .ok (.getfield 15, 3) := by decide +kernel
theorem dX5_next_68 : decode cX5_next 68 = .ok (.aload_n 0, 1) := by decide +kernel
theorem dX5_next_69 : decode cX5_next 69 = .ok (.getfield 9, 3) := by decide +kernel
theorem dX5_next_72 : decode cX5_next 72 = .ok (.getfield 19, 3) := by decide +kernel
theorem dX5_next_75 : decode cX5_next 75 = .ok (.if_icmp .lt 12, 3) := by decide +kernel
theorem dX5_next_78 : decode cX5_next 78 = .ok (.aload_n 0, 1) := by decide +kernel
theorem dX5_next_79 : decode cX5_next 79 = .ok (.bipush 21, 2) := by decide +kernel
theorem dX5_next_81 : decode cX5_next 81 = .ok (.putfield 34, 3) := by decide +kernel
theorem dX5_next_84 : decode cX5_next 84 = .ok (.goto 94, 3) := by decide +kernel
theorem dX5_next_87 : decode cX5_next 87 = .ok (.iload_n 1, 1) := by decide +kernel
theorem dX5_next_88 : decode cX5_next 88 = .ok (.invokestatic 37, 3) := by decide +kernel
theorem dX5_next_91 : decode cX5_next 91 = .ok (.ifCond .eq 46, 3) := by decide +kernel
theorem dX5_next_94 : decode cX5_next 94 = .ok (.aload_n 0, 1) := by decide +kernel
theorem dX5_next_95 : decode cX5_next 95 = .ok (.invokevirtual 40, 3) := by decide +kernel
theorem dX5_next_98 : decode cX5_next 98 = .ok (.aload_n 0, 1) := by decide +kernel
theorem dX5_next_99 : decode cX5_next 99 = .ok (.aload_n 0, 1) := by decide +kernel
theorem dX5_next_100 : decode cX5_next 100 = .ok (.getfield 15, 3) := by decide +kernel
theorem dX5_next_103 : decode cX5_next 103 = .ok (.aload_n 0, 1) := by decide +kernel
theorem dX5_next_104 : decode cX5_next 104 = .ok (.getfield 31, 3) := by decide +kernel
theorem dX5_next_107 : decode cX5_next 107 = .ok (.isub, 1) := by decide +kernel
theorem dX5_next_108 : decode cX5_next 108 = .ok (.bipush 8, 2) := by decide +kernel
theorem dX5_next_110 : decode cX5_next 110 = .ok (.if_icmp .le 8, 3) := by decide +kernel
theorem dX5_next_113 : decode cX5_next 113 = .ok (.bipush 22, 2) := by decide +kernel
theorem dX5_next_115 : decode cX5_next 115 = .ok (.goto 16, 3) := by decide +kernel
theorem dX5_next_118 : decode cX5_next 118 = .ok (.aload_n 0, 1) := by decide +kernel
theorem dX5_next_119 : decode cX5_next 119 = .ok (.aload_n 0, 1) := by decide +kernel
theorem dX5_next_120 : decode cX5_next 120 = .ok (.getfield 15, 3) := by decide +kernel
theorem dX5_next_123 : decode cX5_next 123 = .ok (.aload_n 0, 1) := by decide +kernel
theorem dX5_next_124 : decode cX5_next 124 = .ok (.getfield 31, 3) := by decide +kernel
theorem dX5_next_127 : decode cX5_next 127 = .ok (.isub, 1) := by decide +kernel
theorem dX5_next_128 : decode cX5_next 128 = .ok (.invokevirtual 43, 3) := by decide +kernel
theorem dX5_next_131 : decode cX5_next 131 = .ok (.putfield 34, 3) := by decide +kernel
theorem dX5_next_134 : decode cX5_next 134 = .ok (.goto 44, 3) := by decide +kernel
theorem dX5_next_137 : decode cX5_next 137 = .ok (.iload_n 1, 1) := by decide +kernel
theorem dX5_next_138 : decode cX5_next 138 = .ok (.invokestatic 46, 3) := by decide +kernel
theorem dX5_next_141 : decode cX5_next 141 = .ok (.ifCond .eq 10, 3) := by decide +kernel
theorem dX5_next_144 : decode cX5_next 144 = .ok (.aload_n 0, 1) := by decide +kernel
theorem dX5_next_145 : decode cX5_next 145 = .ok (.invokevirtual 49, 3) := by decide +kernel
theorem dX5_next_148 : decode cX5_next 148 = .ok (.goto 30, 3) := by decide +kernel
theorem dX5_next_151 : decode cX5_next 151 = .ok (.aload_n 0, 1) := by decide +kernel
theorem dX5_next_152 : decode cX5_next 152 = .ok (.iload_n 1, 1) := by decide +kernel
theorem dX5_next_153 : decode cX5_next 153 = .ok (.bipush 59, 2) := by decide +kernel
theorem dX5_next_155 : decode cX5_next 155 = .ok (.if_icmp .ne 8, 3) := by decide +kernel
theorem dX5_next_158 : decode cX5_next 158 = .ok (.bipush 20, 2) := by decide +kernel
theorem dX5_next_160 : decode cX5_next 160 = .ok (.goto 5, 3) := by decide +kernel
theorem dX5_next_163 : decode cX5_next 163 = .ok (.bipush 22, 2) := by decide +kernel
theorem dX5_next_165 : decode cX5_next 165 = .ok (.putfield 34, 3) := by decide +kernel
theorem dX5_next_168 : decode cX5_next 168 = .ok (.aload_n 0, 1) := by decide +kernel
theorem dX5_next_169 : decode cX5_next 169 = .ok (.dup, 1) := by decide +kernel
theorem dX5_next_170 : decode cX5_next 170 = .ok (.getfield 15, 3) := by decide +kernel
theorem dX5_next_173 : decode cX5_next 173 = .ok (.iconst 1, 1) := by decide +kernel
theorem dX5_next_174 : decode cX5_next 174 = .ok (.iadd, 1) := by decide +kernel
theorem dX5_next_175 : decode cX5_next 175 = .ok (.putfield 15, 3) := by decide +kernel
theorem dX5_next_178 : decode cX5_next 178 = .ok (.return_, 1) := by decide +kernel
theorem iw_X5_codeOfWord_5 : ∀ w ∈ u_ws RX5 TX5 6, w ∈ wsX5_codeOfWord := by decide +kernel
set_option maxHeartbeats 4000000 in
set_option maxRecDepth 100000 in
theorem s_X5_codeOfWord (l : Launch) (D : va_G) (ca : Nat → ClassId) (sz : Nat) (K : (Nat × Nat × Option Nat) × (Nat → Int32)) (h0 : Nat) (tp : Nat) (tb : Nat) (ka : Nat) (kt : Nat) (xs : Int32) (xc : Int32) (xv : Int32) (xl : Int64) (fb : Nat → Int32) (x1 : Int32) (hn : kt ≤ 1700) (ha : ka ≤ kt) : Met l yX5_codeOfWord wsX5_codeOfWord ({ frames := 4, cells := 0, slots := 0, locals := 85 }) (PCk K [.ref h0, .int x1] sz D ca [(h0, .inr (5, [.ref tp, .int (nI ka), .int xs, .int xc, .long xl, .int xv])), (tp, .inr (7, [.ref tb, .int (nI kt)])), (tb, .inl (ca 0, 1700, .inl fb))]) (QI (fun (r : Int32) (u : Unit) => True) (fun (_ : Unit) => [(h0, .inr (5, [.ref tp, .int (nI ka), .int xs, .int xc, .long xl, .int xv])), (tp, .inr (7, [.ref tb, .int (nI kt)])), (tb, .inl (ca 0, 1700, .inl fb))]) [(h0, .inr (5, [.ref tp, .int (nI ka), .int xs, .int xc, .long xl, .int xv])), (tp, .inr (7, [.ref tb, .int (nI kt)])), (tb, .inl (ca 0, 1700, .inl fb))] sz D) 0 0 (va_A [(h0, .inr (5, [.ref tp, .int (nI ka), .int xs, .int xc, .long xl, .int xv])), (tp, .inr (7, [.ref tb, .int (nI kt)])), (tb, .inl (ca 0, 1700, .inl fb))] sz) := by
  refine Met.ofW (cc := cX5_codeOfWord) (maxL := 6) (ret := (some .int)) (by decide +kernel) rfl ?_
  intro p e s m args below meth c s₁ B hml hv
  obtain ⟨rfl, ⟨hsz, hP, hC, hD0⟩, hK⟩ := hv
  have hx := B.exec
  have hb := B.bytes
  have hr := B.returns
  have hts := atoms_spec (ws := wsX5_codeOfWord) B.pre
  have hown : s.vm.findClass RX5 = some m.cls := findClass_of_methodNamed B.named
  have hlocks := B.notSynchronized
  subst hsz
  have hD := hD0.self (sz := s.heap.size)
  dsimp only [QV, QI, QL, BQ]
  generalize hAe : va_A [(h0, .inr (5, [.ref tp, .int (nI ka), .int xs, .int xc, .long xl, .int xv])), (tp, .inr (7, [.ref tb, .int (nI kt)])), (tb, .inl (ca 0, 1700, .inl fb))] s.heap.size = A at hD hK ⊢
  have hA : ∀ q : Nat, s.heap.size ≤ q → A q := fun q h => by rw [← hAe]; exact Or.inr h
  have hDA : ∀ {w : va_W}, va_D A w → va_D (va_A [(h0, .inr (5, [.ref tp, .int (nI ka), .int xs, .int xc, .long xl, .int xv])), (tp, .inr (7, [.ref tb, .int (nI kt)])), (tb, .inl (ca 0, 1700, .inl fb))] s.heap.size) w := fun h => by rw [hAe]; exact h
  have hS : va_S A s.heap s.heap [] := va_S.rf
  have hP : va_P D vwCl [(h0, .inr (5, [.ref tp, .int (nI ka), .int xs, .int xc, .long xl, .int xv])), (tp, .inr (7, [.ref tb, .int (nI kt)])), (tb, .inl (ca 0, 1700, .inl fb))] s.heap := hP
  have hl := lv_entry ([.ref h0, .int x1]) (n := 6) (Nat.le_of_ble_eq_true rfl)
  rw [lg_entry_eq]
  generalize (lg_sl ([.ref h0, .int x1]) ++ List.replicate (6 - (lg_sl ([.ref h0, .int x1])).length) Slot.unset).toArray = ls at hl ⊢
  have hl : lv_has ls 6 [(0, .ref h0), (1, .int x1)] := hl
  refine lv_iconst (v := 0) hx hb dX5_codeOfWord_0 (by decide +kernel) ?_
  refine lv_istore_n (lv' := [(2, .int 0), (0, .ref h0), (1, .int x1)]) hx hb dX5_codeOfWord_1 rfl hl (by decide +kernel) rfl (fun ls hl => ?_)
  refine lp_ind (I := fun (n : Nat) H locs ls => ∃ (jw : Nat), jw ≤ 18 ∧ jw + n = 18 + 1 ∧ lv_has ls 6 [(2, .int (nI jw)), (0, .ref h0), (1, .int x1)] ∧ va_P D vwCl [(h0, .inr (5, [.ref tp, .int (nI ka), .int xs, .int xc, .long xl, .int xv])), (tp, .inr (7, [.ref tb, .int (nI kt)])), (tb, .inl (ca 0, 1700, .inl fb))] H ∧ va_D A [(h0, .inr (5, [.ref tp, .int (nI ka), .int xs, .int xc, .long xl, .int xv])), (tp, .inr (7, [.ref tb, .int (nI kt)])), (tb, .inl (ca 0, 1700, .inl fb))] ∧ va_S A s.heap H locs) (Wf := fun H locs ls => W p l e _ s m _ below meth c H locs _ _ _ (F0 m 2 ls [])) (18 + 1) ⟨0, (by omega), (by omega), hl, hP, hD, hS⟩ ?_ ?_
  · intro H locs ls hI
    obtain ⟨jw, hjw, hmjw, -⟩ := hI
    omega
  intro n ih_1 H locs ls hI
  obtain ⟨jw, hjw, hmjw, hl, hP, hD, hS⟩ := hI
  refine lv_iload_n hx hb dX5_codeOfWord_2 rfl (lv_at hl 0 rfl) ?_
  refine lv_bipush (v := 18) hx hb dX5_codeOfWord_3 (by decide +kernel) ?_
  refine lv_icmp_ge (tgt := 92) hx hb dX5_codeOfWord_5 (by decide +kernel) (fun c_2 => ?_) (fun c_2 => ?_)
  · have nc_2 : 18 ≤ jw := (nI_leI (a := 18) (b := jw) (by omega) (by omega)).mp c_2
    refine lv_bipush (v := 18) hx hb dX5_codeOfWord_92 (by decide +kernel) ?_
    exact W.iret (v := 18) hx hb hr (fun t ht hW => ⟨⟨18, (), rfl, trivial, by rw [ht]; exact hP.sub [0, 1, 2] rfl, hDA (hD.sub [0, 1, 2] (by decide +kernel) rfl)⟩, hS.F ht⟩) hS.2.2 dX5_codeOfWord_94
  · have nc_2 : ¬ (18 ≤ jw) := fun h => c_2 ((nI_leI (a := 18) (b := jw) (by omega) (by omega)).mpr h)
    refine lv_iconst (v := 1) hx hb dX5_codeOfWord_8 (by decide +kernel) ?_
    refine lv_istore_n (lv' := [(3, .int 1), (2, .int (nI jw)), (0, .ref h0), (1, .int x1)]) hx hb dX5_codeOfWord_9 rfl hl (by decide +kernel) rfl (fun ls hl => ?_)
    refine lv_iconst (v := 0) hx hb dX5_codeOfWord_10 (by decide +kernel) ?_
    refine lv_istore (lv' := [(4, .int 0), (3, .int 1), (2, .int (nI jw)), (0, .ref h0), (1, .int x1)]) hx hb dX5_codeOfWord_11 hl (by decide +kernel) rfl (fun ls hl => ?_)
    refine lp_ind (I := fun (n : Nat) H locs ls => ∃ (ji : Nat) (js : Int32), ji ≤ 8 ∧ ji + n = 8 + 1 ∧ lv_has ls 6 [(4, .int (nI ji)), (3, .int js), (2, .int (nI jw)), (0, .ref h0), (1, .int x1)] ∧ va_P D vwCl [(h0, .inr (5, [.ref tp, .int (nI ka), .int xs, .int xc, .long xl, .int xv])), (tp, .inr (7, [.ref tb, .int (nI kt)])), (tb, .inl (ca 0, 1700, .inl fb))] H ∧ va_D A [(h0, .inr (5, [.ref tp, .int (nI ka), .int xs, .int xc, .long xl, .int xv])), (tp, .inr (7, [.ref tb, .int (nI kt)])), (tb, .inl (ca 0, 1700, .inl fb))] ∧ va_S A s.heap H locs) (Wf := fun H locs ls => W p l e _ s m _ below meth c H locs _ _ _ (F0 m 13 ls [])) (8 + 1) ⟨0, 1, (by omega), (by omega), hl, hP, hD, hS⟩ ?_ ?_
    · intro H locs ls hI
      obtain ⟨ji, js, hji, hmji, -⟩ := hI
      omega
    intro n ih_3 H locs ls hI
    obtain ⟨ji, js, hji, hmji, hl, hP, hD, hS⟩ := hI
    refine lv_iload hx hb dX5_codeOfWord_13 (lv_at hl 0 rfl) ?_
    refine lv_bipush (v := 8) hx hb dX5_codeOfWord_15 (by decide +kernel) ?_
    refine lv_icmp_ge (tgt := 80) hx hb dX5_codeOfWord_17 (by decide +kernel) (fun c_4 => ?_) (fun c_4 => ?_)
    · have nc_4 : 8 ≤ ji := (nI_leI (a := 8) (b := ji) (by omega) (by omega)).mp c_4
      refine lv_iload_n hx hb dX5_codeOfWord_80 rfl (lv_at hl 1 rfl) ?_
      refine lv_if_eq (tgt := 86) hx hb dX5_codeOfWord_81 (by decide +kernel) (fun c_5 => ?_) (fun c_5 => ?_)
      · refine lv_iinc (v := nI (jw + 1)) (lv' := [(2, .int (nI (jw + 1))), (4, .int (nI ji)), (3, .int js), (0, .ref h0), (1, .int x1)]) hx hb dX5_codeOfWord_86 hl (k := 2) rfl (nI_1 _) (by decide +kernel) rfl (fun ls hl => ?_)
        refine lv_goto (tgt := 2) hx hb dX5_codeOfWord_89 (by decide +kernel) ?_
        exact ih_1 _ _ _ ⟨(jw + 1), (by omega), (by omega), lv_sub hl [0, 3, 4] rfl, hP, hD, hS⟩
      · refine lv_iload_n hx hb dX5_codeOfWord_84 rfl (lv_at hl 2 rfl) ?_
        exact W.iret (v := nI jw) hx hb hr (fun t ht hW => ⟨⟨nI jw, (), rfl, trivial, by rw [ht]; exact hP.sub [0, 1, 2] rfl, hDA (hD.sub [0, 1, 2] (by decide +kernel) rfl)⟩, hS.F ht⟩) hS.2.2 dX5_codeOfWord_85
    · have nc_4 : ¬ (8 ≤ ji) := fun h => c_4 ((nI_leI (a := 8) (b := ji) (by omega) (by omega)).mpr h)
      refine lv_iload_n hx hb dX5_codeOfWord_20 rfl (lv_at hl 1 rfl) ?_
      refine lv_if_eq (tgt := 80) hx hb dX5_codeOfWord_21 (by decide +kernel) (fun c_6 => ?_) (fun c_6 => ?_)
      · refine lv_iload_n hx hb dX5_codeOfWord_80 rfl (lv_at hl 1 rfl) ?_
        refine lv_if_eq (tgt := 86) hx hb dX5_codeOfWord_81 (by decide +kernel) (fun c_7 => ?_) (fun c_7 => absurd c_6 c_7)
        refine lv_iinc (v := nI (jw + 1)) (lv' := [(2, .int (nI (jw + 1))), (4, .int (nI ji)), (3, .int js), (0, .ref h0), (1, .int x1)]) hx hb dX5_codeOfWord_86 hl (k := 2) rfl (nI_1 _) (by decide +kernel) rfl (fun ls hl => ?_)
        refine lv_goto (tgt := 2) hx hb dX5_codeOfWord_89 (by decide +kernel) ?_
        exact ih_1 _ _ _ ⟨(jw + 1), (by omega), (by omega), lv_sub hl [0, 3, 4] rfl, hP, hD, hS⟩
      · refine lv_iload hx hb dX5_codeOfWord_24 (lv_at hl 0 rfl) ?_
        refine lv_iload_n hx hb dX5_codeOfWord_26 rfl (lv_at hl 4 rfl) ?_
        refine lv_icmp_ge (tgt := 47) hx hb dX5_codeOfWord_27 (by decide +kernel) (fun c_8 => ?_) (fun c_8 => ?_)
        · refine lv_bipush (v := 32) hx hb dX5_codeOfWord_47 (by decide +kernel) ?_
          refine lv_istore (lv' := [(5, .int 32), (4, .int (nI ji)), (3, .int js), (2, .int (nI jw)), (0, .ref h0), (1, .int x1)]) hx hb dX5_codeOfWord_49 hl (by decide +kernel) rfl (fun ls hl => ?_)
          refine va_ldcS hx hb hown hK.2.2.1 dX5_codeOfWord_51 ?_
          refine lv_iload_n hx hb dX5_codeOfWord_53 rfl (lv_at hl 3 rfl) ?_
          refine lv_bipush (v := 8) hx hb dX5_codeOfWord_54 (by decide +kernel) ?_
          refine lv_imul hx hb dX5_codeOfWord_56 ?_
          refine nt_i (nI (jw * 8)) (pk_mul jw 8) ?_
          refine lv_iload hx hb dX5_codeOfWord_57 (lv_at hl 1 rfl) ?_
          refine lv_iadd hx hb dX5_codeOfWord_59 ?_
          refine nt_i (nI ((jw * 8) + ji)) (nI_add (jw * 8) ji) ?_
          refine kc_i (wr := [(h0, .inr (5, [.ref tp, .int (nI ka), .int xs, .int xc, .long xl, .int xv])), (tp, .inr (7, [.ref tb, .int (nI kt)])), (tb, .inl (ca 0, 1700, .inl fb))]) (va_runV (As := [.int (nI ((jw * 8) + ji))]) (rest := []) ⟨hx, hb, hml, hown, hts⟩ (s_J0_charAt l D ca H.size K ((jw * 8) + ji) (by omega)) (cwV 1 hts gX5_codeOfWord_J0_charAt_5068e rfl rfl rfl (by decide +kernel) ⟨(Nat.le_of_ble_eq_true rfl), (Nat.le_of_ble_eq_true rfl)⟩) (PCk.preK hC hP hD hK hS hA) rfl rfl hl.1 rfl (lv_room (Nat.le_of_ble_eq_true rfl)) dX5_codeOfWord_60 ⟨(Nat.le_of_ble_eq_true rfl), (Nat.le_of_ble_eq_true rfl)⟩) hP hD hS hA [] [0, 1, 2] rfl rfl (by decide +kernel) (by decide +kernel) (fun r_9 _ H locs hw_10 hP hD hS => ?_)
          have hP : va_P D vwCl [(h0, .inr (5, [.ref tp, .int (nI ka), .int xs, .int xc, .long xl, .int xv])), (tp, .inr (7, [.ref tb, .int (nI kt)])), (tb, .inl (ca 0, 1700, .inl fb))] H := hP
          have hD : va_D A [(h0, .inr (5, [.ref tp, .int (nI ka), .int xs, .int xc, .long xl, .int xv])), (tp, .inr (7, [.ref tb, .int (nI kt)])), (tb, .inl (ca 0, 1700, .inl fb))] := hD
          refine lv_iload hx hb dX5_codeOfWord_63 (lv_at hl 0 rfl) ?_
          refine lv_icmp_ne (tgt := 72) hx hb dX5_codeOfWord_65 (by decide +kernel) (fun c_11 => ?_) (fun c_11 => ?_)
          · refine lv_iconst (v := 0) hx hb dX5_codeOfWord_72 (by decide +kernel) ?_
            refine lv_istore_n (lv' := [(3, .int 0), (5, .int 32), (4, .int (nI ji)), (2, .int (nI jw)), (0, .ref h0), (1, .int x1)]) hx hb dX5_codeOfWord_73 rfl hl (by decide +kernel) rfl (fun ls hl => ?_)
            refine lv_iinc (v := nI (ji + 1)) (lv' := [(4, .int (nI (ji + 1))), (3, .int 0), (5, .int 32), (2, .int (nI jw)), (0, .ref h0), (1, .int x1)]) hx hb dX5_codeOfWord_74 hl (k := 2) rfl (nI_1 _) (by decide +kernel) rfl (fun ls hl => ?_)
            refine lv_goto (tgt := 13) hx hb dX5_codeOfWord_77 (by decide +kernel) ?_
            exact ih_3 _ _ _ ⟨(ji + 1), 0, (by omega), (by omega), lv_sub hl [0, 1, 3, 4, 5] rfl, hP, hD, hS⟩
          · refine lv_iconst (v := 1) hx hb dX5_codeOfWord_68 (by decide +kernel) ?_
            refine lv_goto (tgt := 73) hx hb dX5_codeOfWord_69 (by decide +kernel) ?_
            refine lv_istore_n (lv' := [(3, .int 1), (5, .int 32), (4, .int (nI ji)), (2, .int (nI jw)), (0, .ref h0), (1, .int x1)]) hx hb dX5_codeOfWord_73 rfl hl (by decide +kernel) rfl (fun ls hl => ?_)
            refine lv_iinc (v := nI (ji + 1)) (lv' := [(4, .int (nI (ji + 1))), (3, .int 1), (5, .int 32), (2, .int (nI jw)), (0, .ref h0), (1, .int x1)]) hx hb dX5_codeOfWord_74 hl (k := 2) rfl (nI_1 _) (by decide +kernel) rfl (fun ls hl => ?_)
            refine lv_goto (tgt := 13) hx hb dX5_codeOfWord_77 (by decide +kernel) ?_
            exact ih_3 _ _ _ ⟨(ji + 1), 1, (by omega), (by omega), lv_sub hl [0, 1, 3, 4, 5] rfl, hP, hD, hS⟩
        · refine lv_aload_n hx hb dX5_codeOfWord_30 rfl (lv_at hl 3 rfl) ?_
          refine va_get (D := D) (ci := 5) (v := .ref tp) (C := RX5) (T := TX5) (N := 6) hx hb hts iw_X5_codeOfWord_5 hown hC.1 hP 0 rfl rfl 0 (by decide +kernel) (hts (.fieldLink RX5 9 "FairWheel$Scanner" "tape" "LFairWheel$Tape;") (by decide +kernel)) (fun _ h9 => h9) rfl dX5_codeOfWord_31 ?_
          refine lv_aload_n hx hb dX5_codeOfWord_34 rfl (lv_at hl 3 rfl) ?_
          refine va_get (D := D) (ci := 5) (v := .int xs) (C := RX5) (T := TX5) (N := 6) hx hb hts iw_X5_codeOfWord_5 hown hC.1 hP 0 rfl rfl 2 (by decide +kernel) (hts (.fieldLink RX5 31 "FairWheel$Scanner" "start" "I") (by decide +kernel)) (fun _ h9 => h9) rfl dX5_codeOfWord_35 ?_
          refine lv_iload hx hb dX5_codeOfWord_38 (lv_at hl 0 rfl) ?_
          refine lv_iadd hx hb dX5_codeOfWord_40 ?_
          refine lv_topi (fun y_12 ey_12 => ?_)
          refine kc_i (wr := [(h0, .inr (5, [.ref tp, .int (nI ka), .int xs, .int xc, .long xl, .int xv]))]) (va_runV (As := [.int y_12]) (rest := []) ⟨hx, hb, hml, hown, hts⟩ (s_X7_at l D ca H.size tp tb kt fb y_12 (by omega)) (cwV 1 hts gX5_codeOfWord_X7_at rfl rfl rfl (by decide +kernel) ⟨(Nat.le_of_ble_eq_true rfl), (Nat.le_of_ble_eq_true rfl)⟩) (PC.preV (ci := 7) hC hP hD [1, 2] rfl (by decide +kernel) rfl rfl) rfl rfl hl.1 rfl (lv_room (Nat.le_of_ble_eq_true rfl)) dX5_codeOfWord_41 ⟨(Nat.le_of_ble_eq_true rfl), (Nat.le_of_ble_eq_true rfl)⟩) hP hD hS hA [1, 2] [0] rfl rfl (by decide +kernel) (by decide +kernel) (fun r_13 u_15 H locs hw_14 hP hD hS => ?_)
          have hP : va_P D vwCl [(h0, .inr (5, [.ref tp, .int (nI ka), .int xs, .int xc, .long xl, .int xv])), (tp, .inr (7, [.ref tb, .int (nI kt)])), (tb, .inl (ca 0, 1700, .inl fb))] H := hP
          have hD : va_D A [(h0, .inr (5, [.ref tp, .int (nI ka), .int xs, .int xc, .long xl, .int xv])), (tp, .inr (7, [.ref tb, .int (nI kt)])), (tb, .inl (ca 0, 1700, .inl fb))] := hD
          refine lv_goto (tgt := 49) hx hb dX5_codeOfWord_44 (by decide +kernel) ?_
          refine lv_istore (lv' := [(5, .int r_13), (4, .int (nI ji)), (3, .int js), (2, .int (nI jw)), (0, .ref h0), (1, .int x1)]) hx hb dX5_codeOfWord_49 hl (by decide +kernel) rfl (fun ls hl => ?_)
          refine va_ldcS hx hb hown hK.2.2.1 dX5_codeOfWord_51 ?_
          refine lv_iload_n hx hb dX5_codeOfWord_53 rfl (lv_at hl 3 rfl) ?_
          refine lv_bipush (v := 8) hx hb dX5_codeOfWord_54 (by decide +kernel) ?_
          refine lv_imul hx hb dX5_codeOfWord_56 ?_
          refine nt_i (nI (jw * 8)) (pk_mul jw 8) ?_
          refine lv_iload hx hb dX5_codeOfWord_57 (lv_at hl 1 rfl) ?_
          refine lv_iadd hx hb dX5_codeOfWord_59 ?_
          refine nt_i (nI ((jw * 8) + ji)) (nI_add (jw * 8) ji) ?_
          refine kc_i (wr := [(h0, .inr (5, [.ref tp, .int (nI ka), .int xs, .int xc, .long xl, .int xv])), (tp, .inr (7, [.ref tb, .int (nI kt)])), (tb, .inl (ca 0, 1700, .inl fb))]) (va_runV (As := [.int (nI ((jw * 8) + ji))]) (rest := []) ⟨hx, hb, hml, hown, hts⟩ (s_J0_charAt l D ca H.size K ((jw * 8) + ji) (by omega)) (cwV 1 hts gX5_codeOfWord_J0_charAt_5068e rfl rfl rfl (by decide +kernel) ⟨(Nat.le_of_ble_eq_true rfl), (Nat.le_of_ble_eq_true rfl)⟩) (PCk.preK hC hP hD hK hS hA) rfl rfl hl.1 rfl (lv_room (Nat.le_of_ble_eq_true rfl)) dX5_codeOfWord_60 ⟨(Nat.le_of_ble_eq_true rfl), (Nat.le_of_ble_eq_true rfl)⟩) hP hD hS hA [] [0, 1, 2] rfl rfl (by decide +kernel) (by decide +kernel) (fun r_16 _ H locs hw_17 hP hD hS => ?_)
          have hP : va_P D vwCl [(h0, .inr (5, [.ref tp, .int (nI ka), .int xs, .int xc, .long xl, .int xv])), (tp, .inr (7, [.ref tb, .int (nI kt)])), (tb, .inl (ca 0, 1700, .inl fb))] H := hP
          have hD : va_D A [(h0, .inr (5, [.ref tp, .int (nI ka), .int xs, .int xc, .long xl, .int xv])), (tp, .inr (7, [.ref tb, .int (nI kt)])), (tb, .inl (ca 0, 1700, .inl fb))] := hD
          refine lv_iload hx hb dX5_codeOfWord_63 (lv_at hl 0 rfl) ?_
          refine lv_icmp_ne (tgt := 72) hx hb dX5_codeOfWord_65 (by decide +kernel) (fun c_18 => ?_) (fun c_18 => ?_)
          · refine lv_iconst (v := 0) hx hb dX5_codeOfWord_72 (by decide +kernel) ?_
            refine lv_istore_n (lv' := [(3, .int 0), (5, .int r_13), (4, .int (nI ji)), (2, .int (nI jw)), (0, .ref h0), (1, .int x1)]) hx hb dX5_codeOfWord_73 rfl hl (by decide +kernel) rfl (fun ls hl => ?_)
            refine lv_iinc (v := nI (ji + 1)) (lv' := [(4, .int (nI (ji + 1))), (3, .int 0), (5, .int r_13), (2, .int (nI jw)), (0, .ref h0), (1, .int x1)]) hx hb dX5_codeOfWord_74 hl (k := 2) rfl (nI_1 _) (by decide +kernel) rfl (fun ls hl => ?_)
            refine lv_goto (tgt := 13) hx hb dX5_codeOfWord_77 (by decide +kernel) ?_
            exact ih_3 _ _ _ ⟨(ji + 1), 0, (by omega), (by omega), lv_sub hl [0, 1, 3, 4, 5] rfl, hP, hD, hS⟩
          · refine lv_iconst (v := 1) hx hb dX5_codeOfWord_68 (by decide +kernel) ?_
            refine lv_goto (tgt := 73) hx hb dX5_codeOfWord_69 (by decide +kernel) ?_
            refine lv_istore_n (lv' := [(3, .int 1), (5, .int r_13), (4, .int (nI ji)), (2, .int (nI jw)), (0, .ref h0), (1, .int x1)]) hx hb dX5_codeOfWord_73 rfl hl (by decide +kernel) rfl (fun ls hl => ?_)
            refine lv_iinc (v := nI (ji + 1)) (lv' := [(4, .int (nI (ji + 1))), (3, .int 1), (5, .int r_13), (2, .int (nI jw)), (0, .ref h0), (1, .int x1)]) hx hb dX5_codeOfWord_74 hl (k := 2) rfl (nI_1 _) (by decide +kernel) rfl (fun ls hl => ?_)
            refine lv_goto (tgt := 13) hx hb dX5_codeOfWord_77 (by decide +kernel) ?_
            exact ih_3 _ _ _ ⟨(ji + 1), 1, (by omega), (by omega), lv_sub hl [0, 1, 3, 4, 5] rfl, hP, hD, hS⟩
theorem iw_X5_next_5 : ∀ w ∈ u_ws RX5 TX5 6, w ∈ wsX5_next := by decide +kernel
theorem iw_X5_next_7 : ∀ w ∈ u_ws RX7 TX7 2, w ∈ wsX5_next := by decide +kernel
set_option maxHeartbeats 4000000 in
set_option maxRecDepth 100000 in
theorem s_X5_next (l : Launch) (D : va_G) (ca : Nat → ClassId) (sz : Nat) (K : (Nat × Nat × Option Nat) × (Nat → Int32)) (h0 : Nat) (tp : Nat) (tb : Nat) (ka : Nat) (kt : Nat) (xs : Int32) (xc : Int32) (xv : Int32) (xl : Int64) (fb : Nat → Int32) (hn : kt ≤ 1700) (ha : ka ≤ kt) : Met l yX5_next wsX5_next ({ frames := 5, cells := 0, slots := 0, locals := 110 }) (PCk K [.ref h0] sz D ca [(h0, .inr (5, [.ref tp, .int (nI ka), .int xs, .int xc, .long xl, .int xv])), (tp, .inr (7, [.ref tb, .int (nI kt)])), (tb, .inl (ca 0, 1700, .inl fb))]) (QV (fun (u : Nat × Int32 × Int32 × Int64 × Int32) => u.1 ≤ kt) (fun (u : Nat × Int32 × Int32 × Int64 × Int32) => [(h0, .inr (5, [.ref tp, .int (nI u.1), .int u.2.1, .int u.2.2.1, .long u.2.2.2.1, .int u.2.2.2.2])), (tp, .inr (7, [.ref tb, .int (nI kt)])), (tb, .inl (ca 0, 1700, .inl fb))]) [(h0, .inr (5, [.ref tp, .int (nI ka), .int xs, .int xc, .long xl, .int xv])), (tp, .inr (7, [.ref tb, .int (nI kt)])), (tb, .inl (ca 0, 1700, .inl fb))] sz D) 0 0 (va_A [(h0, .inr (5, [.ref tp, .int (nI ka), .int xs, .int xc, .long xl, .int xv])), (tp, .inr (7, [.ref tb, .int (nI kt)])), (tb, .inl (ca 0, 1700, .inl fb))] sz) := by
  refine Met.ofW (cc := cX5_next) (maxL := 2) (ret := none) (by decide +kernel) rfl ?_
  intro p e s m args below meth c s₁ B hml hv
  obtain ⟨rfl, ⟨hsz, hP, hC, hD0⟩, hK⟩ := hv
  have hx := B.exec
  have hb := B.bytes
  have hr := B.returns
  have hts := atoms_spec (ws := wsX5_next) B.pre
  have hown : s.vm.findClass RX5 = some m.cls := findClass_of_methodNamed B.named
  have hlocks := B.notSynchronized
  subst hsz
  have hD := hD0.self (sz := s.heap.size)
  dsimp only [QV, QI, QL, BQ]
  generalize hAe : va_A [(h0, .inr (5, [.ref tp, .int (nI ka), .int xs, .int xc, .long xl, .int xv])), (tp, .inr (7, [.ref tb, .int (nI kt)])), (tb, .inl (ca 0, 1700, .inl fb))] s.heap.size = A at hD hK ⊢
  have hA : ∀ q : Nat, s.heap.size ≤ q → A q := fun q h => by rw [← hAe]; exact Or.inr h
  have hDA : ∀ {w : va_W}, va_D A w → va_D (va_A [(h0, .inr (5, [.ref tp, .int (nI ka), .int xs, .int xc, .long xl, .int xv])), (tp, .inr (7, [.ref tb, .int (nI kt)])), (tb, .inl (ca 0, 1700, .inl fb))] s.heap.size) w := fun h => by rw [hAe]; exact h
  have hS : va_S A s.heap s.heap [] := va_S.rf
  have hP : va_P D vwCl [(h0, .inr (5, [.ref tp, .int (nI ka), .int xs, .int xc, .long xl, .int xv])), (tp, .inr (7, [.ref tb, .int (nI kt)])), (tb, .inl (ca 0, 1700, .inl fb))] s.heap := hP
  have hl := lv_entry ([.ref h0]) (n := 2) (Nat.le_of_ble_eq_true rfl)
  rw [lg_entry_eq]
  generalize (lg_sl ([.ref h0]) ++ List.replicate (2 - (lg_sl ([.ref h0])).length) Slot.unset).toArray = ls at hl ⊢
  have hl : lv_has ls 2 [(0, .ref h0)] := hl
  refine lp_ind (I := fun (n : Nat) H locs ls => ∃ (ja : Nat), ja ≤ kt ∧ ja + n = kt + 1 ∧ lv_has ls 2 [(0, .ref h0)] ∧ va_P D vwCl [(h0, .inr (5, [.ref tp, .int (nI ja), .int xs, .int xc, .long xl, .int xv])), (tp, .inr (7, [.ref tb, .int (nI kt)])), (tb, .inl (ca 0, 1700, .inl fb))] H ∧ va_D A [(h0, .inr (5, [.ref tp, .int (nI ja), .int xs, .int xc, .long xl, .int xv])), (tp, .inr (7, [.ref tb, .int (nI kt)])), (tb, .inl (ca 0, 1700, .inl fb))] ∧ va_S A s.heap H locs) (Wf := fun H locs ls => W p l e _ s m _ below meth c H locs _ _ _ (F0 m 0 ls [])) (kt + 1 - ka) ⟨ka, (by omega), (by omega), hl, hP, hD, hS⟩ ?_ ?_
  · intro H locs ls hI
    obtain ⟨ja, hja, hm, -⟩ := hI
    omega
  intro n ih_1 H locs ls hI
  obtain ⟨ja, hja, hm, hl, hP, hD, hS⟩ := hI
  refine lv_aload_n hx hb dX5_next_0 rfl (lv_at hl 0 rfl) ?_
  refine va_get (D := D) (ci := 5) (v := .int (nI ja)) (C := RX5) (T := TX5) (N := 6) hx hb hts iw_X5_next_5 hown hC.1 hP 0 rfl rfl 1 (by decide +kernel) (hts (.fieldLink RX5 15 "FairWheel$Scanner" "at" "I") (by decide +kernel)) (fun _ h9 => h9) rfl dX5_next_1 ?_
  refine lv_aload_n hx hb dX5_next_4 rfl (lv_at hl 0 rfl) ?_
  refine va_get (D := D) (ci := 5) (v := .ref tp) (C := RX5) (T := TX5) (N := 6) hx hb hts iw_X5_next_5 hown hC.1 hP 0 rfl rfl 0 (by decide +kernel) (hts (.fieldLink RX5 9 "FairWheel$Scanner" "tape" "LFairWheel$Tape;") (by decide +kernel)) (fun _ h9 => h9) rfl dX5_next_5 ?_
  refine va_get (D := D) (ci := 7) (v := .int (nI kt)) (C := RX7) (T := TX7) (N := 2) hx hb hts iw_X5_next_7 hown hC.1 hP 1 rfl rfl 1 (by decide +kernel) (hts (.fieldLink RX5 19 "FairWheel$Tape" "size" "I") (by decide +kernel)) (fun _ h9 => h9) rfl dX5_next_8 ?_
  refine lv_icmp_ge (tgt := 44) hx hb dX5_next_11 (by decide +kernel) (fun c_2 => ?_) (fun c_2 => ?_)
  · have nc_2 : kt ≤ ja := (nI_leI (a := kt) (b := ja) (by omega) (by omega)).mp c_2
    refine lv_aload_n hx hb dX5_next_44 rfl (lv_at hl 0 rfl) ?_
    refine lv_aload_n hx hb dX5_next_45 rfl (lv_at hl 0 rfl) ?_
    refine va_get (D := D) (ci := 5) (v := .int (nI ja)) (C := RX5) (T := TX5) (N := 6) hx hb hts iw_X5_next_5 hown hC.1 hP 0 rfl rfl 1 (by decide +kernel) (hts (.fieldLink RX5 15 "FairWheel$Scanner" "at" "I") (by decide +kernel)) (fun _ h9 => h9) rfl dX5_next_46 ?_
    refine va_put (D := D) (ci := 5) (v := .int (nI ja)) (ty := .int) (C := RX5) (T := TX5) (N := 6) hx hb hts iw_X5_next_5 tyX5 tyX5_ok nmX5 hown hC.1 hP hD hS 0 rfl rfl 2 (by decide +kernel) (hts (.fieldLink RX5 31 "FairWheel$Scanner" "start" "I") (by decide +kernel)) (fun _ h9 => h9) rfl (by decide +kernel) rfl rfl (Nat.le_of_ble_eq_true rfl) dX5_next_49 (fun H locs hP hD hS => ?_)
    have hP : va_P D vwCl [(h0, .inr (5, [.ref tp, .int (nI ja), .int (nI ja), .int xc, .long xl, .int xv])), (tp, .inr (7, [.ref tb, .int (nI kt)])), (tb, .inl (ca 0, 1700, .inl fb))] H := hP
    have hD : va_D A [(h0, .inr (5, [.ref tp, .int (nI ja), .int (nI ja), .int xc, .long xl, .int xv])), (tp, .inr (7, [.ref tb, .int (nI kt)])), (tb, .inl (ca 0, 1700, .inl fb))] := hD
    refine lv_aload_n hx hb dX5_next_52 rfl (lv_at hl 0 rfl) ?_
    refine va_get (D := D) (ci := 5) (v := .ref tp) (C := RX5) (T := TX5) (N := 6) hx hb hts iw_X5_next_5 hown hC.1 hP 0 rfl rfl 0 (by decide +kernel) (hts (.fieldLink RX5 9 "FairWheel$Scanner" "tape" "LFairWheel$Tape;") (by decide +kernel)) (fun _ h9 => h9) rfl dX5_next_53 ?_
    refine lv_aload_n hx hb dX5_next_56 rfl (lv_at hl 0 rfl) ?_
    refine va_get (D := D) (ci := 5) (v := .int (nI ja)) (C := RX5) (T := TX5) (N := 6) hx hb hts iw_X5_next_5 hown hC.1 hP 0 rfl rfl 1 (by decide +kernel) (hts (.fieldLink RX5 15 "FairWheel$Scanner" "at" "I") (by decide +kernel)) (fun _ h9 => h9) rfl dX5_next_57 ?_
    refine kc_i (wr := [(h0, .inr (5, [.ref tp, .int (nI ja), .int (nI ja), .int xc, .long xl, .int xv]))]) (va_runV (As := [.int (nI ja)]) (rest := []) ⟨hx, hb, hml, hown, hts⟩ (s_X7_at l D ca H.size tp tb kt fb (nI ja) (by omega)) (cwV 1 hts gX5_next_X7_at rfl rfl rfl (by decide +kernel) ⟨(Nat.le_of_ble_eq_true rfl), (Nat.le_of_ble_eq_true rfl)⟩) (PC.preV (ci := 7) hC hP hD [1, 2] rfl (by decide +kernel) rfl rfl) rfl rfl hl.1 rfl (lv_room (Nat.le_of_ble_eq_true rfl)) dX5_next_60 ⟨(Nat.le_of_ble_eq_true rfl), (Nat.le_of_ble_eq_true rfl)⟩) hP hD hS hA [1, 2] [0] rfl rfl (by decide +kernel) (by decide +kernel) (fun r_3 u_5 H locs hw_4 hP hD hS => ?_)
    have hP : va_P D vwCl [(h0, .inr (5, [.ref tp, .int (nI ja), .int (nI ja), .int xc, .long xl, .int xv])), (tp, .inr (7, [.ref tb, .int (nI kt)])), (tb, .inl (ca 0, 1700, .inl fb))] H := hP
    have hD : va_D A [(h0, .inr (5, [.ref tp, .int (nI ja), .int (nI ja), .int xc, .long xl, .int xv])), (tp, .inr (7, [.ref tb, .int (nI kt)])), (tb, .inl (ca 0, 1700, .inl fb))] := hD
    refine lv_istore_n (lv' := [(1, .int r_3), (0, .ref h0)]) hx hb dX5_next_63 rfl hl (by decide +kernel) rfl (fun ls hl => ?_)
    refine lv_aload_n hx hb dX5_next_64 rfl (lv_at hl 1 rfl) ?_
    refine va_get (D := D) (ci := 5) (v := .int (nI ja)) (C := RX5) (T := TX5) (N := 6) hx hb hts iw_X5_next_5 hown hC.1 hP 0 rfl rfl 1 (by decide +kernel) (hts (.fieldLink RX5 15 "FairWheel$Scanner" "at" "I") (by decide +kernel)) (fun _ h9 => h9) rfl dX5_next_65 ?_
    refine lv_aload_n hx hb dX5_next_68 rfl (lv_at hl 1 rfl) ?_
    refine va_get (D := D) (ci := 5) (v := .ref tp) (C := RX5) (T := TX5) (N := 6) hx hb hts iw_X5_next_5 hown hC.1 hP 0 rfl rfl 0 (by decide +kernel) (hts (.fieldLink RX5 9 "FairWheel$Scanner" "tape" "LFairWheel$Tape;") (by decide +kernel)) (fun _ h9 => h9) rfl dX5_next_69 ?_
    refine va_get (D := D) (ci := 7) (v := .int (nI kt)) (C := RX7) (T := TX7) (N := 2) hx hb hts iw_X5_next_7 hown hC.1 hP 1 rfl rfl 1 (by decide +kernel) (hts (.fieldLink RX5 19 "FairWheel$Tape" "size" "I") (by decide +kernel)) (fun _ h9 => h9) rfl dX5_next_72 ?_
    refine lv_icmp_lt (tgt := 87) hx hb dX5_next_75 (by decide +kernel) (fun c_6 => ?_) (fun c_6 => ?_)
    · have nc_6 : ja < kt := (nI_ltI (a := ja) (b := kt) (by omega) (by omega)).mp c_6
      refine lv_iload_n hx hb dX5_next_87 rfl (lv_at hl 0 rfl) ?_
      refine kc_i (wr := [(h0, .inr (5, [.ref tp, .int (nI ja), .int (nI ja), .int xc, .long xl, .int xv])), (tp, .inr (7, [.ref tb, .int (nI kt)])), (tb, .inl (ca 0, 1700, .inl fb))]) (va_runS (As := [.int r_3]) (rest := []) ⟨hx, hb, hml, hown, hts⟩ (s_X5_isLetter l D ca H.size r_3) (va_cwS 1 hts gX5_next_X5_isLetter rfl rfl rfl (by decide +kernel) ⟨(Nat.le_of_ble_eq_true rfl), (Nat.le_of_ble_eq_true rfl)⟩) (PC.preS hC hP hD [] rfl (by decide +kernel)) rfl rfl hl.1 rfl (lv_room (Nat.le_of_ble_eq_true rfl)) dX5_next_88 ⟨(Nat.le_of_ble_eq_true rfl), (Nat.le_of_ble_eq_true rfl)⟩) hP hD hS hA [] [0, 1, 2] rfl rfl (by decide +kernel) (by decide +kernel) (fun r_7 u_9 H locs hw_8 hP hD hS => ?_)
      have hu_10 := hw_8
      have hP : va_P D vwCl [(h0, .inr (5, [.ref tp, .int (nI ja), .int (nI ja), .int xc, .long xl, .int xv])), (tp, .inr (7, [.ref tb, .int (nI kt)])), (tb, .inl (ca 0, 1700, .inl fb))] H := hP
      have hD : va_D A [(h0, .inr (5, [.ref tp, .int (nI ja), .int (nI ja), .int xc, .long xl, .int xv])), (tp, .inr (7, [.ref tb, .int (nI kt)])), (tb, .inl (ca 0, 1700, .inl fb))] := hD
      refine lv_if_eq (tgt := 137) hx hb dX5_next_91 (by decide +kernel) (fun c_11 => ?_) (fun c_11 => ?_)
      · refine lv_iload_n hx hb dX5_next_137 rfl (lv_at hl 0 rfl) ?_
        refine kc_i (wr := [(h0, .inr (5, [.ref tp, .int (nI ja), .int (nI ja), .int xc, .long xl, .int xv])), (tp, .inr (7, [.ref tb, .int (nI kt)])), (tb, .inl (ca 0, 1700, .inl fb))]) (va_runS (As := [.int r_3]) (rest := []) ⟨hx, hb, hml, hown, hts⟩ (s_X5_isDigit l D ca H.size r_3) (va_cwS 1 hts gX5_next_X5_isDigit rfl rfl rfl (by decide +kernel) ⟨(Nat.le_of_ble_eq_true rfl), (Nat.le_of_ble_eq_true rfl)⟩) (PC.preS hC hP hD [] rfl (by decide +kernel)) rfl rfl hl.1 rfl (lv_room (Nat.le_of_ble_eq_true rfl)) dX5_next_138 ⟨(Nat.le_of_ble_eq_true rfl), (Nat.le_of_ble_eq_true rfl)⟩) hP hD hS hA [] [0, 1, 2] rfl rfl (by decide +kernel) (by decide +kernel) (fun r_12 u_14 H locs hw_13 hP hD hS => ?_)
        have hu_15 := hw_13
        have hP : va_P D vwCl [(h0, .inr (5, [.ref tp, .int (nI ja), .int (nI ja), .int xc, .long xl, .int xv])), (tp, .inr (7, [.ref tb, .int (nI kt)])), (tb, .inl (ca 0, 1700, .inl fb))] H := hP
        have hD : va_D A [(h0, .inr (5, [.ref tp, .int (nI ja), .int (nI ja), .int xc, .long xl, .int xv])), (tp, .inr (7, [.ref tb, .int (nI kt)])), (tb, .inl (ca 0, 1700, .inl fb))] := hD
        refine lv_if_eq (tgt := 151) hx hb dX5_next_141 (by decide +kernel) (fun c_16 => ?_) (fun c_16 => ?_)
        · refine lv_aload_n hx hb dX5_next_151 rfl (lv_at hl 1 rfl) ?_
          refine lv_iload_n hx hb dX5_next_152 rfl (lv_at hl 0 rfl) ?_
          refine lv_bipush (v := 59) hx hb dX5_next_153 (by decide +kernel) ?_
          refine lv_icmp_ne (tgt := 163) hx hb dX5_next_155 (by decide +kernel) (fun c_17 => ?_) (fun c_17 => ?_)
          · refine lv_bipush (v := 22) hx hb dX5_next_163 (by decide +kernel) ?_
            refine va_put (D := D) (ci := 5) (v := .int 22) (ty := .int) (C := RX5) (T := TX5) (N := 6) hx hb hts iw_X5_next_5 tyX5 tyX5_ok nmX5 hown hC.1 hP hD hS 0 rfl rfl 3 (by decide +kernel) (hts (.fieldLink RX5 34 "FairWheel$Scanner" "code" "I") (by decide +kernel)) (fun _ h9 => h9) rfl (by decide +kernel) rfl rfl (Nat.le_of_ble_eq_true rfl) dX5_next_165 (fun H locs hP hD hS => ?_)
            have hP : va_P D vwCl [(h0, .inr (5, [.ref tp, .int (nI ja), .int (nI ja), .int 22, .long xl, .int xv])), (tp, .inr (7, [.ref tb, .int (nI kt)])), (tb, .inl (ca 0, 1700, .inl fb))] H := hP
            have hD : va_D A [(h0, .inr (5, [.ref tp, .int (nI ja), .int (nI ja), .int 22, .long xl, .int xv])), (tp, .inr (7, [.ref tb, .int (nI kt)])), (tb, .inl (ca 0, 1700, .inl fb))] := hD
            refine lv_aload_n hx hb dX5_next_168 rfl (lv_at hl 1 rfl) ?_
            refine lv_dup hx hb dX5_next_169 rfl ?_
            refine va_get (D := D) (ci := 5) (v := .int (nI ja)) (C := RX5) (T := TX5) (N := 6) hx hb hts iw_X5_next_5 hown hC.1 hP 0 rfl rfl 1 (by decide +kernel) (hts (.fieldLink RX5 15 "FairWheel$Scanner" "at" "I") (by decide +kernel)) (fun _ h9 => h9) rfl dX5_next_170 ?_
            refine lv_iconst (v := 1) hx hb dX5_next_173 (by decide +kernel) ?_
            refine lv_iadd hx hb dX5_next_174 ?_
            refine nt_i (nI (ja + 1)) (nI_add ja 1) ?_
            refine va_put (D := D) (ci := 5) (v := .int (nI (ja + 1))) (ty := .int) (C := RX5) (T := TX5) (N := 6) hx hb hts iw_X5_next_5 tyX5 tyX5_ok nmX5 hown hC.1 hP hD hS 0 rfl rfl 1 (by decide +kernel) (hts (.fieldLink RX5 15 "FairWheel$Scanner" "at" "I") (by decide +kernel)) (fun _ h9 => h9) rfl (by decide +kernel) rfl rfl (Nat.le_of_ble_eq_true rfl) dX5_next_175 (fun H locs hP hD hS => ?_)
            have hP : va_P D vwCl [(h0, .inr (5, [.ref tp, .int (nI (ja + 1)), .int (nI ja), .int 22, .long xl, .int xv])), (tp, .inr (7, [.ref tb, .int (nI kt)])), (tb, .inl (ca 0, 1700, .inl fb))] H := hP
            have hD : va_D A [(h0, .inr (5, [.ref tp, .int (nI (ja + 1)), .int (nI ja), .int 22, .long xl, .int xv])), (tp, .inr (7, [.ref tb, .int (nI kt)])), (tb, .inl (ca 0, 1700, .inl fb))] := hD
            exact W.vret hx hb hr (fun t ht hW => ⟨⟨((ja + 1), nI ja, 22, xl, xv), rfl, (by dsimp only; omega), by rw [ht]; exact hP.sub [0, 1, 2] rfl, hDA (hD.sub [0, 1, 2] (by decide +kernel) rfl)⟩, hS.F ht⟩) hS.2.2 dX5_next_178
          · refine lv_bipush (v := 20) hx hb dX5_next_158 (by decide +kernel) ?_
            refine lv_goto (tgt := 165) hx hb dX5_next_160 (by decide +kernel) ?_
            refine va_put (D := D) (ci := 5) (v := .int 20) (ty := .int) (C := RX5) (T := TX5) (N := 6) hx hb hts iw_X5_next_5 tyX5 tyX5_ok nmX5 hown hC.1 hP hD hS 0 rfl rfl 3 (by decide +kernel) (hts (.fieldLink RX5 34 "FairWheel$Scanner" "code" "I") (by decide +kernel)) (fun _ h9 => h9) rfl (by decide +kernel) rfl rfl (Nat.le_of_ble_eq_true rfl) dX5_next_165 (fun H locs hP hD hS => ?_)
            have hP : va_P D vwCl [(h0, .inr (5, [.ref tp, .int (nI ja), .int (nI ja), .int 20, .long xl, .int xv])), (tp, .inr (7, [.ref tb, .int (nI kt)])), (tb, .inl (ca 0, 1700, .inl fb))] H := hP
            have hD : va_D A [(h0, .inr (5, [.ref tp, .int (nI ja), .int (nI ja), .int 20, .long xl, .int xv])), (tp, .inr (7, [.ref tb, .int (nI kt)])), (tb, .inl (ca 0, 1700, .inl fb))] := hD
            refine lv_aload_n hx hb dX5_next_168 rfl (lv_at hl 1 rfl) ?_
            refine lv_dup hx hb dX5_next_169 rfl ?_
            refine va_get (D := D) (ci := 5) (v := .int (nI ja)) (C := RX5) (T := TX5) (N := 6) hx hb hts iw_X5_next_5 hown hC.1 hP 0 rfl rfl 1 (by decide +kernel) (hts (.fieldLink RX5 15 "FairWheel$Scanner" "at" "I") (by decide +kernel)) (fun _ h9 => h9) rfl dX5_next_170 ?_
            refine lv_iconst (v := 1) hx hb dX5_next_173 (by decide +kernel) ?_
            refine lv_iadd hx hb dX5_next_174 ?_
            refine nt_i (nI (ja + 1)) (nI_add ja 1) ?_
            refine va_put (D := D) (ci := 5) (v := .int (nI (ja + 1))) (ty := .int) (C := RX5) (T := TX5) (N := 6) hx hb hts iw_X5_next_5 tyX5 tyX5_ok nmX5 hown hC.1 hP hD hS 0 rfl rfl 1 (by decide +kernel) (hts (.fieldLink RX5 15 "FairWheel$Scanner" "at" "I") (by decide +kernel)) (fun _ h9 => h9) rfl (by decide +kernel) rfl rfl (Nat.le_of_ble_eq_true rfl) dX5_next_175 (fun H locs hP hD hS => ?_)
            have hP : va_P D vwCl [(h0, .inr (5, [.ref tp, .int (nI (ja + 1)), .int (nI ja), .int 20, .long xl, .int xv])), (tp, .inr (7, [.ref tb, .int (nI kt)])), (tb, .inl (ca 0, 1700, .inl fb))] H := hP
            have hD : va_D A [(h0, .inr (5, [.ref tp, .int (nI (ja + 1)), .int (nI ja), .int 20, .long xl, .int xv])), (tp, .inr (7, [.ref tb, .int (nI kt)])), (tb, .inl (ca 0, 1700, .inl fb))] := hD
            exact W.vret hx hb hr (fun t ht hW => ⟨⟨((ja + 1), nI ja, 20, xl, xv), rfl, (by dsimp only; omega), by rw [ht]; exact hP.sub [0, 1, 2] rfl, hDA (hD.sub [0, 1, 2] (by decide +kernel) rfl)⟩, hS.F ht⟩) hS.2.2 dX5_next_178
        · refine lv_aload_n hx hb dX5_next_144 rfl (lv_at hl 1 rfl) ?_
          refine kc_v (wr := []) (va_runV (As := []) (rest := []) ⟨hx, hb, hml, hown, hts⟩ (s_X5_scanNumber l D ca H.size h0 tp tb ja kt (nI ja) xc xv xl fb (by omega) (by omega)) (cwV 0 hts gX5_next_X5_scanNumber rfl rfl rfl (by decide +kernel) ⟨(Nat.le_of_ble_eq_true rfl), (Nat.le_of_ble_eq_true rfl)⟩) (PC.preV (ci := 5) hC hP hD [0, 1, 2] rfl (by decide +kernel) rfl rfl) rfl rfl hl.1 rfl (lv_room (Nat.le_of_ble_eq_true rfl)) dX5_next_145 ⟨(Nat.le_of_ble_eq_true rfl), (Nat.le_of_ble_eq_true rfl)⟩) hP hD hS hA [0, 1, 2] [] rfl rfl (by decide +kernel) (by decide +kernel) (fun u_19 H locs hw_18 hP hD hS => ?_)
          obtain ⟨k_20, x_21, x_22⟩ := u_19
          have hu_23 := hw_18
          have hP : va_P D vwCl [(h0, .inr (5, [.ref tp, .int (nI k_20), .int (nI ja), .int x_21, .long xl, .int x_22])), (tp, .inr (7, [.ref tb, .int (nI kt)])), (tb, .inl (ca 0, 1700, .inl fb))] H := hP
          have hD : va_D A [(h0, .inr (5, [.ref tp, .int (nI k_20), .int (nI ja), .int x_21, .long xl, .int x_22])), (tp, .inr (7, [.ref tb, .int (nI kt)])), (tb, .inl (ca 0, 1700, .inl fb))] := hD
          refine lv_goto (tgt := 178) hx hb dX5_next_148 (by decide +kernel) ?_
          exact W.vret hx hb hr (fun t ht hW => ⟨⟨(k_20, (nI ja), x_21, xl, x_22), rfl, (by dsimp only; omega), by rw [ht]; exact hP.sub [0, 1, 2] rfl, hDA (hD.sub [0, 1, 2] (by decide +kernel) rfl)⟩, hS.F ht⟩) hS.2.2 dX5_next_178
      · refine lv_aload_n hx hb dX5_next_94 rfl (lv_at hl 1 rfl) ?_
        refine kc_v (wr := []) (va_runV (As := []) (rest := []) ⟨hx, hb, hml, hown, hts⟩ (s_X5_passLetters l D ca H.size h0 tp tb ja kt (nI ja) xc xv xl fb (by omega) (by omega)) (cwV 0 hts gX5_next_X5_passLetters rfl rfl rfl (by decide +kernel) ⟨(Nat.le_of_ble_eq_true rfl), (Nat.le_of_ble_eq_true rfl)⟩) (PC.preV (ci := 5) hC hP hD [0, 1, 2] rfl (by decide +kernel) rfl rfl) rfl rfl hl.1 rfl (lv_room (Nat.le_of_ble_eq_true rfl)) dX5_next_95 ⟨(Nat.le_of_ble_eq_true rfl), (Nat.le_of_ble_eq_true rfl)⟩) hP hD hS hA [0, 1, 2] [] rfl rfl (by decide +kernel) (by decide +kernel) (fun u_25 H locs hw_24 hP hD hS => ?_)
        obtain ⟨k_26, x_27⟩ := u_25
        have hu_28 := hw_24
        have hP : va_P D vwCl [(h0, .inr (5, [.ref tp, .int (nI k_26), .int (nI ja), .int xc, .long x_27, .int xv])), (tp, .inr (7, [.ref tb, .int (nI kt)])), (tb, .inl (ca 0, 1700, .inl fb))] H := hP
        have hD : va_D A [(h0, .inr (5, [.ref tp, .int (nI k_26), .int (nI ja), .int xc, .long x_27, .int xv])), (tp, .inr (7, [.ref tb, .int (nI kt)])), (tb, .inl (ca 0, 1700, .inl fb))] := hD
        refine lv_aload_n hx hb dX5_next_98 rfl (lv_at hl 1 rfl) ?_
        refine lv_aload_n hx hb dX5_next_99 rfl (lv_at hl 1 rfl) ?_
        refine va_get (D := D) (ci := 5) (v := .int (nI k_26)) (C := RX5) (T := TX5) (N := 6) hx hb hts iw_X5_next_5 hown hC.1 hP 0 rfl rfl 1 (by decide +kernel) (hts (.fieldLink RX5 15 "FairWheel$Scanner" "at" "I") (by decide +kernel)) (fun _ h9 => h9) rfl dX5_next_100 ?_
        refine lv_aload_n hx hb dX5_next_103 rfl (lv_at hl 1 rfl) ?_
        refine va_get (D := D) (ci := 5) (v := .int (nI ja)) (C := RX5) (T := TX5) (N := 6) hx hb hts iw_X5_next_5 hown hC.1 hP 0 rfl rfl 2 (by decide +kernel) (hts (.fieldLink RX5 31 "FairWheel$Scanner" "start" "I") (by decide +kernel)) (fun _ h9 => h9) rfl dX5_next_104 ?_
        refine lv_isub hx hb dX5_next_107 ?_
        refine lv_topi (fun y_29 ey_29 => ?_)
        refine lv_bipush (v := 8) hx hb dX5_next_108 (by decide +kernel) ?_
        refine lv_icmp_le (tgt := 118) hx hb dX5_next_110 (by decide +kernel) (fun c_30 => ?_) (fun c_30 => ?_)
        · refine lv_aload_n hx hb dX5_next_118 rfl (lv_at hl 1 rfl) ?_
          refine lv_aload_n hx hb dX5_next_119 rfl (lv_at hl 1 rfl) ?_
          refine va_get (D := D) (ci := 5) (v := .int (nI k_26)) (C := RX5) (T := TX5) (N := 6) hx hb hts iw_X5_next_5 hown hC.1 hP 0 rfl rfl 1 (by decide +kernel) (hts (.fieldLink RX5 15 "FairWheel$Scanner" "at" "I") (by decide +kernel)) (fun _ h9 => h9) rfl dX5_next_120 ?_
          refine lv_aload_n hx hb dX5_next_123 rfl (lv_at hl 1 rfl) ?_
          refine va_get (D := D) (ci := 5) (v := .int (nI ja)) (C := RX5) (T := TX5) (N := 6) hx hb hts iw_X5_next_5 hown hC.1 hP 0 rfl rfl 2 (by decide +kernel) (hts (.fieldLink RX5 31 "FairWheel$Scanner" "start" "I") (by decide +kernel)) (fun _ h9 => h9) rfl dX5_next_124 ?_
          refine lv_isub hx hb dX5_next_127 ?_
          refine lv_topi (fun y_31 ey_31 => ?_)
          refine kc_i (wr := []) (va_runV (As := [.int y_31]) (rest := [.ref h0]) ⟨hx, hb, hml, hown, hts⟩ (s_X5_codeOfWord l D ca H.size K h0 tp tb k_26 kt (nI ja) xc xv x_27 fb y_31 (by omega) (by omega)) (cwV 1 hts gX5_next_X5_codeOfWord rfl rfl rfl (by decide +kernel) ⟨(Nat.le_of_ble_eq_true rfl), (Nat.le_of_ble_eq_true rfl)⟩) (PCk.preV (ci := 5) hC hP hD hK hS hA [0, 1, 2] rfl (by decide +kernel) rfl rfl) rfl rfl hl.1 rfl (lv_room (Nat.le_of_ble_eq_true rfl)) dX5_next_128 ⟨(Nat.le_of_ble_eq_true rfl), (Nat.le_of_ble_eq_true rfl)⟩) hP hD hS hA [0, 1, 2] [] rfl rfl (by decide +kernel) (by decide +kernel) (fun r_32 u_34 H locs hw_33 hP hD hS => ?_)
          have hP : va_P D vwCl [(h0, .inr (5, [.ref tp, .int (nI k_26), .int (nI ja), .int xc, .long x_27, .int xv])), (tp, .inr (7, [.ref tb, .int (nI kt)])), (tb, .inl (ca 0, 1700, .inl fb))] H := hP
          have hD : va_D A [(h0, .inr (5, [.ref tp, .int (nI k_26), .int (nI ja), .int xc, .long x_27, .int xv])), (tp, .inr (7, [.ref tb, .int (nI kt)])), (tb, .inl (ca 0, 1700, .inl fb))] := hD
          refine va_put (D := D) (ci := 5) (v := .int r_32) (ty := .int) (C := RX5) (T := TX5) (N := 6) hx hb hts iw_X5_next_5 tyX5 tyX5_ok nmX5 hown hC.1 hP hD hS 0 rfl rfl 3 (by decide +kernel) (hts (.fieldLink RX5 34 "FairWheel$Scanner" "code" "I") (by decide +kernel)) (fun _ h9 => h9) rfl (by decide +kernel) rfl rfl (Nat.le_of_ble_eq_true rfl) dX5_next_131 (fun H locs hP hD hS => ?_)
          have hP : va_P D vwCl [(h0, .inr (5, [.ref tp, .int (nI k_26), .int (nI ja), .int r_32, .long x_27, .int xv])), (tp, .inr (7, [.ref tb, .int (nI kt)])), (tb, .inl (ca 0, 1700, .inl fb))] H := hP
          have hD : va_D A [(h0, .inr (5, [.ref tp, .int (nI k_26), .int (nI ja), .int r_32, .long x_27, .int xv])), (tp, .inr (7, [.ref tb, .int (nI kt)])), (tb, .inl (ca 0, 1700, .inl fb))] := hD
          refine lv_goto (tgt := 178) hx hb dX5_next_134 (by decide +kernel) ?_
          exact W.vret hx hb hr (fun t ht hW => ⟨⟨(k_26, (nI ja), r_32, x_27, xv), rfl, (by dsimp only; omega), by rw [ht]; exact hP.sub [0, 1, 2] rfl, hDA (hD.sub [0, 1, 2] (by decide +kernel) rfl)⟩, hS.F ht⟩) hS.2.2 dX5_next_178
        · refine lv_bipush (v := 22) hx hb dX5_next_113 (by decide +kernel) ?_
          refine lv_goto (tgt := 131) hx hb dX5_next_115 (by decide +kernel) ?_
          refine va_put (D := D) (ci := 5) (v := .int 22) (ty := .int) (C := RX5) (T := TX5) (N := 6) hx hb hts iw_X5_next_5 tyX5 tyX5_ok nmX5 hown hC.1 hP hD hS 0 rfl rfl 3 (by decide +kernel) (hts (.fieldLink RX5 34 "FairWheel$Scanner" "code" "I") (by decide +kernel)) (fun _ h9 => h9) rfl (by decide +kernel) rfl rfl (Nat.le_of_ble_eq_true rfl) dX5_next_131 (fun H locs hP hD hS => ?_)
          have hP : va_P D vwCl [(h0, .inr (5, [.ref tp, .int (nI k_26), .int (nI ja), .int 22, .long x_27, .int xv])), (tp, .inr (7, [.ref tb, .int (nI kt)])), (tb, .inl (ca 0, 1700, .inl fb))] H := hP
          have hD : va_D A [(h0, .inr (5, [.ref tp, .int (nI k_26), .int (nI ja), .int 22, .long x_27, .int xv])), (tp, .inr (7, [.ref tb, .int (nI kt)])), (tb, .inl (ca 0, 1700, .inl fb))] := hD
          refine lv_goto (tgt := 178) hx hb dX5_next_134 (by decide +kernel) ?_
          exact W.vret hx hb hr (fun t ht hW => ⟨⟨(k_26, (nI ja), 22, x_27, xv), rfl, (by dsimp only; omega), by rw [ht]; exact hP.sub [0, 1, 2] rfl, hDA (hD.sub [0, 1, 2] (by decide +kernel) rfl)⟩, hS.F ht⟩) hS.2.2 dX5_next_178
    · have nc_6 : ¬ (ja < kt) := fun h => c_6 ((nI_ltI (a := ja) (b := kt) (by omega) (by omega)).mpr h)
      refine lv_aload_n hx hb dX5_next_78 rfl (lv_at hl 1 rfl) ?_
      refine lv_bipush (v := 21) hx hb dX5_next_79 (by decide +kernel) ?_
      refine va_put (D := D) (ci := 5) (v := .int 21) (ty := .int) (C := RX5) (T := TX5) (N := 6) hx hb hts iw_X5_next_5 tyX5 tyX5_ok nmX5 hown hC.1 hP hD hS 0 rfl rfl 3 (by decide +kernel) (hts (.fieldLink RX5 34 "FairWheel$Scanner" "code" "I") (by decide +kernel)) (fun _ h9 => h9) rfl (by decide +kernel) rfl rfl (Nat.le_of_ble_eq_true rfl) dX5_next_81 (fun H locs hP hD hS => ?_)
      have hP : va_P D vwCl [(h0, .inr (5, [.ref tp, .int (nI ja), .int (nI ja), .int 21, .long xl, .int xv])), (tp, .inr (7, [.ref tb, .int (nI kt)])), (tb, .inl (ca 0, 1700, .inl fb))] H := hP
      have hD : va_D A [(h0, .inr (5, [.ref tp, .int (nI ja), .int (nI ja), .int 21, .long xl, .int xv])), (tp, .inr (7, [.ref tb, .int (nI kt)])), (tb, .inl (ca 0, 1700, .inl fb))] := hD
      refine lv_goto (tgt := 178) hx hb dX5_next_84 (by decide +kernel) ?_
      exact W.vret hx hb hr (fun t ht hW => ⟨⟨(ja, nI ja, 21, xl, xv), rfl, (by dsimp only; omega), by rw [ht]; exact hP.sub [0, 1, 2] rfl, hDA (hD.sub [0, 1, 2] (by decide +kernel) rfl)⟩, hS.F ht⟩) hS.2.2 dX5_next_178
  · have nc_2 : ¬ (kt ≤ ja) := fun h => c_2 ((nI_leI (a := kt) (b := ja) (by omega) (by omega)).mpr h)
    refine lv_aload_n hx hb dX5_next_14 rfl (lv_at hl 0 rfl) ?_
    refine va_get (D := D) (ci := 5) (v := .ref tp) (C := RX5) (T := TX5) (N := 6) hx hb hts iw_X5_next_5 hown hC.1 hP 0 rfl rfl 0 (by decide +kernel) (hts (.fieldLink RX5 9 "FairWheel$Scanner" "tape" "LFairWheel$Tape;") (by decide +kernel)) (fun _ h9 => h9) rfl dX5_next_15 ?_
    refine lv_aload_n hx hb dX5_next_18 rfl (lv_at hl 0 rfl) ?_
    refine va_get (D := D) (ci := 5) (v := .int (nI ja)) (C := RX5) (T := TX5) (N := 6) hx hb hts iw_X5_next_5 hown hC.1 hP 0 rfl rfl 1 (by decide +kernel) (hts (.fieldLink RX5 15 "FairWheel$Scanner" "at" "I") (by decide +kernel)) (fun _ h9 => h9) rfl dX5_next_19 ?_
    refine kc_i (wr := [(h0, .inr (5, [.ref tp, .int (nI ja), .int xs, .int xc, .long xl, .int xv]))]) (va_runV (As := [.int (nI ja)]) (rest := []) ⟨hx, hb, hml, hown, hts⟩ (s_X7_at l D ca H.size tp tb kt fb (nI ja) (by omega)) (cwV 1 hts gX5_next_X7_at rfl rfl rfl (by decide +kernel) ⟨(Nat.le_of_ble_eq_true rfl), (Nat.le_of_ble_eq_true rfl)⟩) (PC.preV (ci := 7) hC hP hD [1, 2] rfl (by decide +kernel) rfl rfl) rfl rfl hl.1 rfl (lv_room (Nat.le_of_ble_eq_true rfl)) dX5_next_22 ⟨(Nat.le_of_ble_eq_true rfl), (Nat.le_of_ble_eq_true rfl)⟩) hP hD hS hA [1, 2] [0] rfl rfl (by decide +kernel) (by decide +kernel) (fun r_35 u_37 H locs hw_36 hP hD hS => ?_)
    have hP : va_P D vwCl [(h0, .inr (5, [.ref tp, .int (nI ja), .int xs, .int xc, .long xl, .int xv])), (tp, .inr (7, [.ref tb, .int (nI kt)])), (tb, .inl (ca 0, 1700, .inl fb))] H := hP
    have hD : va_D A [(h0, .inr (5, [.ref tp, .int (nI ja), .int xs, .int xc, .long xl, .int xv])), (tp, .inr (7, [.ref tb, .int (nI kt)])), (tb, .inl (ca 0, 1700, .inl fb))] := hD
    refine kc_i (wr := [(h0, .inr (5, [.ref tp, .int (nI ja), .int xs, .int xc, .long xl, .int xv])), (tp, .inr (7, [.ref tb, .int (nI kt)])), (tb, .inl (ca 0, 1700, .inl fb))]) (va_runS (As := [.int r_35]) (rest := []) ⟨hx, hb, hml, hown, hts⟩ (s_X5_isBlank l D ca H.size r_35) (va_cwS 1 hts gX5_next_X5_isBlank rfl rfl rfl (by decide +kernel) ⟨(Nat.le_of_ble_eq_true rfl), (Nat.le_of_ble_eq_true rfl)⟩) (PC.preS hC hP hD [] rfl (by decide +kernel)) rfl rfl hl.1 rfl (lv_room (Nat.le_of_ble_eq_true rfl)) dX5_next_25 ⟨(Nat.le_of_ble_eq_true rfl), (Nat.le_of_ble_eq_true rfl)⟩) hP hD hS hA [] [0, 1, 2] rfl rfl (by decide +kernel) (by decide +kernel) (fun r_38 u_40 H locs hw_39 hP hD hS => ?_)
    have hu_41 := hw_39
    have hP : va_P D vwCl [(h0, .inr (5, [.ref tp, .int (nI ja), .int xs, .int xc, .long xl, .int xv])), (tp, .inr (7, [.ref tb, .int (nI kt)])), (tb, .inl (ca 0, 1700, .inl fb))] H := hP
    have hD : va_D A [(h0, .inr (5, [.ref tp, .int (nI ja), .int xs, .int xc, .long xl, .int xv])), (tp, .inr (7, [.ref tb, .int (nI kt)])), (tb, .inl (ca 0, 1700, .inl fb))] := hD
    refine lv_if_eq (tgt := 44) hx hb dX5_next_28 (by decide +kernel) (fun c_42 => ?_) (fun c_42 => ?_)
    · refine lv_aload_n hx hb dX5_next_44 rfl (lv_at hl 0 rfl) ?_
      refine lv_aload_n hx hb dX5_next_45 rfl (lv_at hl 0 rfl) ?_
      refine va_get (D := D) (ci := 5) (v := .int (nI ja)) (C := RX5) (T := TX5) (N := 6) hx hb hts iw_X5_next_5 hown hC.1 hP 0 rfl rfl 1 (by decide +kernel) (hts (.fieldLink RX5 15 "FairWheel$Scanner" "at" "I") (by decide +kernel)) (fun _ h9 => h9) rfl dX5_next_46 ?_
      refine va_put (D := D) (ci := 5) (v := .int (nI ja)) (ty := .int) (C := RX5) (T := TX5) (N := 6) hx hb hts iw_X5_next_5 tyX5 tyX5_ok nmX5 hown hC.1 hP hD hS 0 rfl rfl 2 (by decide +kernel) (hts (.fieldLink RX5 31 "FairWheel$Scanner" "start" "I") (by decide +kernel)) (fun _ h9 => h9) rfl (by decide +kernel) rfl rfl (Nat.le_of_ble_eq_true rfl) dX5_next_49 (fun H locs hP hD hS => ?_)
      have hP : va_P D vwCl [(h0, .inr (5, [.ref tp, .int (nI ja), .int (nI ja), .int xc, .long xl, .int xv])), (tp, .inr (7, [.ref tb, .int (nI kt)])), (tb, .inl (ca 0, 1700, .inl fb))] H := hP
      have hD : va_D A [(h0, .inr (5, [.ref tp, .int (nI ja), .int (nI ja), .int xc, .long xl, .int xv])), (tp, .inr (7, [.ref tb, .int (nI kt)])), (tb, .inl (ca 0, 1700, .inl fb))] := hD
      refine lv_aload_n hx hb dX5_next_52 rfl (lv_at hl 0 rfl) ?_
      refine va_get (D := D) (ci := 5) (v := .ref tp) (C := RX5) (T := TX5) (N := 6) hx hb hts iw_X5_next_5 hown hC.1 hP 0 rfl rfl 0 (by decide +kernel) (hts (.fieldLink RX5 9 "FairWheel$Scanner" "tape" "LFairWheel$Tape;") (by decide +kernel)) (fun _ h9 => h9) rfl dX5_next_53 ?_
      refine lv_aload_n hx hb dX5_next_56 rfl (lv_at hl 0 rfl) ?_
      refine va_get (D := D) (ci := 5) (v := .int (nI ja)) (C := RX5) (T := TX5) (N := 6) hx hb hts iw_X5_next_5 hown hC.1 hP 0 rfl rfl 1 (by decide +kernel) (hts (.fieldLink RX5 15 "FairWheel$Scanner" "at" "I") (by decide +kernel)) (fun _ h9 => h9) rfl dX5_next_57 ?_
      refine kc_i (wr := [(h0, .inr (5, [.ref tp, .int (nI ja), .int (nI ja), .int xc, .long xl, .int xv]))]) (va_runV (As := [.int (nI ja)]) (rest := []) ⟨hx, hb, hml, hown, hts⟩ (s_X7_at l D ca H.size tp tb kt fb (nI ja) (by omega)) (cwV 1 hts gX5_next_X7_at rfl rfl rfl (by decide +kernel) ⟨(Nat.le_of_ble_eq_true rfl), (Nat.le_of_ble_eq_true rfl)⟩) (PC.preV (ci := 7) hC hP hD [1, 2] rfl (by decide +kernel) rfl rfl) rfl rfl hl.1 rfl (lv_room (Nat.le_of_ble_eq_true rfl)) dX5_next_60 ⟨(Nat.le_of_ble_eq_true rfl), (Nat.le_of_ble_eq_true rfl)⟩) hP hD hS hA [1, 2] [0] rfl rfl (by decide +kernel) (by decide +kernel) (fun r_43 u_45 H locs hw_44 hP hD hS => ?_)
      have hP : va_P D vwCl [(h0, .inr (5, [.ref tp, .int (nI ja), .int (nI ja), .int xc, .long xl, .int xv])), (tp, .inr (7, [.ref tb, .int (nI kt)])), (tb, .inl (ca 0, 1700, .inl fb))] H := hP
      have hD : va_D A [(h0, .inr (5, [.ref tp, .int (nI ja), .int (nI ja), .int xc, .long xl, .int xv])), (tp, .inr (7, [.ref tb, .int (nI kt)])), (tb, .inl (ca 0, 1700, .inl fb))] := hD
      refine lv_istore_n (lv' := [(1, .int r_43), (0, .ref h0)]) hx hb dX5_next_63 rfl hl (by decide +kernel) rfl (fun ls hl => ?_)
      refine lv_aload_n hx hb dX5_next_64 rfl (lv_at hl 1 rfl) ?_
      refine va_get (D := D) (ci := 5) (v := .int (nI ja)) (C := RX5) (T := TX5) (N := 6) hx hb hts iw_X5_next_5 hown hC.1 hP 0 rfl rfl 1 (by decide +kernel) (hts (.fieldLink RX5 15 "FairWheel$Scanner" "at" "I") (by decide +kernel)) (fun _ h9 => h9) rfl dX5_next_65 ?_
      refine lv_aload_n hx hb dX5_next_68 rfl (lv_at hl 1 rfl) ?_
      refine va_get (D := D) (ci := 5) (v := .ref tp) (C := RX5) (T := TX5) (N := 6) hx hb hts iw_X5_next_5 hown hC.1 hP 0 rfl rfl 0 (by decide +kernel) (hts (.fieldLink RX5 9 "FairWheel$Scanner" "tape" "LFairWheel$Tape;") (by decide +kernel)) (fun _ h9 => h9) rfl dX5_next_69 ?_
      refine va_get (D := D) (ci := 7) (v := .int (nI kt)) (C := RX7) (T := TX7) (N := 2) hx hb hts iw_X5_next_7 hown hC.1 hP 1 rfl rfl 1 (by decide +kernel) (hts (.fieldLink RX5 19 "FairWheel$Tape" "size" "I") (by decide +kernel)) (fun _ h9 => h9) rfl dX5_next_72 ?_
      refine lv_icmp_lt (tgt := 87) hx hb dX5_next_75 (by decide +kernel) (fun c_46 => ?_) (fun c_46 => ?_)
      · have nc_46 : ja < kt := (nI_ltI (a := ja) (b := kt) (by omega) (by omega)).mp c_46
        refine lv_iload_n hx hb dX5_next_87 rfl (lv_at hl 0 rfl) ?_
        refine kc_i (wr := [(h0, .inr (5, [.ref tp, .int (nI ja), .int (nI ja), .int xc, .long xl, .int xv])), (tp, .inr (7, [.ref tb, .int (nI kt)])), (tb, .inl (ca 0, 1700, .inl fb))]) (va_runS (As := [.int r_43]) (rest := []) ⟨hx, hb, hml, hown, hts⟩ (s_X5_isLetter l D ca H.size r_43) (va_cwS 1 hts gX5_next_X5_isLetter rfl rfl rfl (by decide +kernel) ⟨(Nat.le_of_ble_eq_true rfl), (Nat.le_of_ble_eq_true rfl)⟩) (PC.preS hC hP hD [] rfl (by decide +kernel)) rfl rfl hl.1 rfl (lv_room (Nat.le_of_ble_eq_true rfl)) dX5_next_88 ⟨(Nat.le_of_ble_eq_true rfl), (Nat.le_of_ble_eq_true rfl)⟩) hP hD hS hA [] [0, 1, 2] rfl rfl (by decide +kernel) (by decide +kernel) (fun r_47 u_49 H locs hw_48 hP hD hS => ?_)
        have hu_50 := hw_48
        have hP : va_P D vwCl [(h0, .inr (5, [.ref tp, .int (nI ja), .int (nI ja), .int xc, .long xl, .int xv])), (tp, .inr (7, [.ref tb, .int (nI kt)])), (tb, .inl (ca 0, 1700, .inl fb))] H := hP
        have hD : va_D A [(h0, .inr (5, [.ref tp, .int (nI ja), .int (nI ja), .int xc, .long xl, .int xv])), (tp, .inr (7, [.ref tb, .int (nI kt)])), (tb, .inl (ca 0, 1700, .inl fb))] := hD
        refine lv_if_eq (tgt := 137) hx hb dX5_next_91 (by decide +kernel) (fun c_51 => ?_) (fun c_51 => ?_)
        · refine lv_iload_n hx hb dX5_next_137 rfl (lv_at hl 0 rfl) ?_
          refine kc_i (wr := [(h0, .inr (5, [.ref tp, .int (nI ja), .int (nI ja), .int xc, .long xl, .int xv])), (tp, .inr (7, [.ref tb, .int (nI kt)])), (tb, .inl (ca 0, 1700, .inl fb))]) (va_runS (As := [.int r_43]) (rest := []) ⟨hx, hb, hml, hown, hts⟩ (s_X5_isDigit l D ca H.size r_43) (va_cwS 1 hts gX5_next_X5_isDigit rfl rfl rfl (by decide +kernel) ⟨(Nat.le_of_ble_eq_true rfl), (Nat.le_of_ble_eq_true rfl)⟩) (PC.preS hC hP hD [] rfl (by decide +kernel)) rfl rfl hl.1 rfl (lv_room (Nat.le_of_ble_eq_true rfl)) dX5_next_138 ⟨(Nat.le_of_ble_eq_true rfl), (Nat.le_of_ble_eq_true rfl)⟩) hP hD hS hA [] [0, 1, 2] rfl rfl (by decide +kernel) (by decide +kernel) (fun r_52 u_54 H locs hw_53 hP hD hS => ?_)
          have hu_55 := hw_53
          have hP : va_P D vwCl [(h0, .inr (5, [.ref tp, .int (nI ja), .int (nI ja), .int xc, .long xl, .int xv])), (tp, .inr (7, [.ref tb, .int (nI kt)])), (tb, .inl (ca 0, 1700, .inl fb))] H := hP
          have hD : va_D A [(h0, .inr (5, [.ref tp, .int (nI ja), .int (nI ja), .int xc, .long xl, .int xv])), (tp, .inr (7, [.ref tb, .int (nI kt)])), (tb, .inl (ca 0, 1700, .inl fb))] := hD
          refine lv_if_eq (tgt := 151) hx hb dX5_next_141 (by decide +kernel) (fun c_56 => ?_) (fun c_56 => ?_)
          · refine lv_aload_n hx hb dX5_next_151 rfl (lv_at hl 1 rfl) ?_
            refine lv_iload_n hx hb dX5_next_152 rfl (lv_at hl 0 rfl) ?_
            refine lv_bipush (v := 59) hx hb dX5_next_153 (by decide +kernel) ?_
            refine lv_icmp_ne (tgt := 163) hx hb dX5_next_155 (by decide +kernel) (fun c_57 => ?_) (fun c_57 => ?_)
            · refine lv_bipush (v := 22) hx hb dX5_next_163 (by decide +kernel) ?_
              refine va_put (D := D) (ci := 5) (v := .int 22) (ty := .int) (C := RX5) (T := TX5) (N := 6) hx hb hts iw_X5_next_5 tyX5 tyX5_ok nmX5 hown hC.1 hP hD hS 0 rfl rfl 3 (by decide +kernel) (hts (.fieldLink RX5 34 "FairWheel$Scanner" "code" "I") (by decide +kernel)) (fun _ h9 => h9) rfl (by decide +kernel) rfl rfl (Nat.le_of_ble_eq_true rfl) dX5_next_165 (fun H locs hP hD hS => ?_)
              have hP : va_P D vwCl [(h0, .inr (5, [.ref tp, .int (nI ja), .int (nI ja), .int 22, .long xl, .int xv])), (tp, .inr (7, [.ref tb, .int (nI kt)])), (tb, .inl (ca 0, 1700, .inl fb))] H := hP
              have hD : va_D A [(h0, .inr (5, [.ref tp, .int (nI ja), .int (nI ja), .int 22, .long xl, .int xv])), (tp, .inr (7, [.ref tb, .int (nI kt)])), (tb, .inl (ca 0, 1700, .inl fb))] := hD
              refine lv_aload_n hx hb dX5_next_168 rfl (lv_at hl 1 rfl) ?_
              refine lv_dup hx hb dX5_next_169 rfl ?_
              refine va_get (D := D) (ci := 5) (v := .int (nI ja)) (C := RX5) (T := TX5) (N := 6) hx hb hts iw_X5_next_5 hown hC.1 hP 0 rfl rfl 1 (by decide +kernel) (hts (.fieldLink RX5 15 "FairWheel$Scanner" "at" "I") (by decide +kernel)) (fun _ h9 => h9) rfl dX5_next_170 ?_
              refine lv_iconst (v := 1) hx hb dX5_next_173 (by decide +kernel) ?_
              refine lv_iadd hx hb dX5_next_174 ?_
              refine nt_i (nI (ja + 1)) (nI_add ja 1) ?_
              refine va_put (D := D) (ci := 5) (v := .int (nI (ja + 1))) (ty := .int) (C := RX5) (T := TX5) (N := 6) hx hb hts iw_X5_next_5 tyX5 tyX5_ok nmX5 hown hC.1 hP hD hS 0 rfl rfl 1 (by decide +kernel) (hts (.fieldLink RX5 15 "FairWheel$Scanner" "at" "I") (by decide +kernel)) (fun _ h9 => h9) rfl (by decide +kernel) rfl rfl (Nat.le_of_ble_eq_true rfl) dX5_next_175 (fun H locs hP hD hS => ?_)
              have hP : va_P D vwCl [(h0, .inr (5, [.ref tp, .int (nI (ja + 1)), .int (nI ja), .int 22, .long xl, .int xv])), (tp, .inr (7, [.ref tb, .int (nI kt)])), (tb, .inl (ca 0, 1700, .inl fb))] H := hP
              have hD : va_D A [(h0, .inr (5, [.ref tp, .int (nI (ja + 1)), .int (nI ja), .int 22, .long xl, .int xv])), (tp, .inr (7, [.ref tb, .int (nI kt)])), (tb, .inl (ca 0, 1700, .inl fb))] := hD
              exact W.vret hx hb hr (fun t ht hW => ⟨⟨((ja + 1), nI ja, 22, xl, xv), rfl, (by dsimp only; omega), by rw [ht]; exact hP.sub [0, 1, 2] rfl, hDA (hD.sub [0, 1, 2] (by decide +kernel) rfl)⟩, hS.F ht⟩) hS.2.2 dX5_next_178
            · refine lv_bipush (v := 20) hx hb dX5_next_158 (by decide +kernel) ?_
              refine lv_goto (tgt := 165) hx hb dX5_next_160 (by decide +kernel) ?_
              refine va_put (D := D) (ci := 5) (v := .int 20) (ty := .int) (C := RX5) (T := TX5) (N := 6) hx hb hts iw_X5_next_5 tyX5 tyX5_ok nmX5 hown hC.1 hP hD hS 0 rfl rfl 3 (by decide +kernel) (hts (.fieldLink RX5 34 "FairWheel$Scanner" "code" "I") (by decide +kernel)) (fun _ h9 => h9) rfl (by decide +kernel) rfl rfl (Nat.le_of_ble_eq_true rfl) dX5_next_165 (fun H locs hP hD hS => ?_)
              have hP : va_P D vwCl [(h0, .inr (5, [.ref tp, .int (nI ja), .int (nI ja), .int 20, .long xl, .int xv])), (tp, .inr (7, [.ref tb, .int (nI kt)])), (tb, .inl (ca 0, 1700, .inl fb))] H := hP
              have hD : va_D A [(h0, .inr (5, [.ref tp, .int (nI ja), .int (nI ja), .int 20, .long xl, .int xv])), (tp, .inr (7, [.ref tb, .int (nI kt)])), (tb, .inl (ca 0, 1700, .inl fb))] := hD
              refine lv_aload_n hx hb dX5_next_168 rfl (lv_at hl 1 rfl) ?_
              refine lv_dup hx hb dX5_next_169 rfl ?_
              refine va_get (D := D) (ci := 5) (v := .int (nI ja)) (C := RX5) (T := TX5) (N := 6) hx hb hts iw_X5_next_5 hown hC.1 hP 0 rfl rfl 1 (by decide +kernel) (hts (.fieldLink RX5 15 "FairWheel$Scanner" "at" "I") (by decide +kernel)) (fun _ h9 => h9) rfl dX5_next_170 ?_
              refine lv_iconst (v := 1) hx hb dX5_next_173 (by decide +kernel) ?_
              refine lv_iadd hx hb dX5_next_174 ?_
              refine nt_i (nI (ja + 1)) (nI_add ja 1) ?_
              refine va_put (D := D) (ci := 5) (v := .int (nI (ja + 1))) (ty := .int) (C := RX5) (T := TX5) (N := 6) hx hb hts iw_X5_next_5 tyX5 tyX5_ok nmX5 hown hC.1 hP hD hS 0 rfl rfl 1 (by decide +kernel) (hts (.fieldLink RX5 15 "FairWheel$Scanner" "at" "I") (by decide +kernel)) (fun _ h9 => h9) rfl (by decide +kernel) rfl rfl (Nat.le_of_ble_eq_true rfl) dX5_next_175 (fun H locs hP hD hS => ?_)
              have hP : va_P D vwCl [(h0, .inr (5, [.ref tp, .int (nI (ja + 1)), .int (nI ja), .int 20, .long xl, .int xv])), (tp, .inr (7, [.ref tb, .int (nI kt)])), (tb, .inl (ca 0, 1700, .inl fb))] H := hP
              have hD : va_D A [(h0, .inr (5, [.ref tp, .int (nI (ja + 1)), .int (nI ja), .int 20, .long xl, .int xv])), (tp, .inr (7, [.ref tb, .int (nI kt)])), (tb, .inl (ca 0, 1700, .inl fb))] := hD
              exact W.vret hx hb hr (fun t ht hW => ⟨⟨((ja + 1), nI ja, 20, xl, xv), rfl, (by dsimp only; omega), by rw [ht]; exact hP.sub [0, 1, 2] rfl, hDA (hD.sub [0, 1, 2] (by decide +kernel) rfl)⟩, hS.F ht⟩) hS.2.2 dX5_next_178
          · refine lv_aload_n hx hb dX5_next_144 rfl (lv_at hl 1 rfl) ?_
            refine kc_v (wr := []) (va_runV (As := []) (rest := []) ⟨hx, hb, hml, hown, hts⟩ (s_X5_scanNumber l D ca H.size h0 tp tb ja kt (nI ja) xc xv xl fb (by omega) (by omega)) (cwV 0 hts gX5_next_X5_scanNumber rfl rfl rfl (by decide +kernel) ⟨(Nat.le_of_ble_eq_true rfl), (Nat.le_of_ble_eq_true rfl)⟩) (PC.preV (ci := 5) hC hP hD [0, 1, 2] rfl (by decide +kernel) rfl rfl) rfl rfl hl.1 rfl (lv_room (Nat.le_of_ble_eq_true rfl)) dX5_next_145 ⟨(Nat.le_of_ble_eq_true rfl), (Nat.le_of_ble_eq_true rfl)⟩) hP hD hS hA [0, 1, 2] [] rfl rfl (by decide +kernel) (by decide +kernel) (fun u_59 H locs hw_58 hP hD hS => ?_)
            obtain ⟨k_60, x_61, x_62⟩ := u_59
            have hu_63 := hw_58
            have hP : va_P D vwCl [(h0, .inr (5, [.ref tp, .int (nI k_60), .int (nI ja), .int x_61, .long xl, .int x_62])), (tp, .inr (7, [.ref tb, .int (nI kt)])), (tb, .inl (ca 0, 1700, .inl fb))] H := hP
            have hD : va_D A [(h0, .inr (5, [.ref tp, .int (nI k_60), .int (nI ja), .int x_61, .long xl, .int x_62])), (tp, .inr (7, [.ref tb, .int (nI kt)])), (tb, .inl (ca 0, 1700, .inl fb))] := hD
            refine lv_goto (tgt := 178) hx hb dX5_next_148 (by decide +kernel) ?_
            exact W.vret hx hb hr (fun t ht hW => ⟨⟨(k_60, (nI ja), x_61, xl, x_62), rfl, (by dsimp only; omega), by rw [ht]; exact hP.sub [0, 1, 2] rfl, hDA (hD.sub [0, 1, 2] (by decide +kernel) rfl)⟩, hS.F ht⟩) hS.2.2 dX5_next_178
        · refine lv_aload_n hx hb dX5_next_94 rfl (lv_at hl 1 rfl) ?_
          refine kc_v (wr := []) (va_runV (As := []) (rest := []) ⟨hx, hb, hml, hown, hts⟩ (s_X5_passLetters l D ca H.size h0 tp tb ja kt (nI ja) xc xv xl fb (by omega) (by omega)) (cwV 0 hts gX5_next_X5_passLetters rfl rfl rfl (by decide +kernel) ⟨(Nat.le_of_ble_eq_true rfl), (Nat.le_of_ble_eq_true rfl)⟩) (PC.preV (ci := 5) hC hP hD [0, 1, 2] rfl (by decide +kernel) rfl rfl) rfl rfl hl.1 rfl (lv_room (Nat.le_of_ble_eq_true rfl)) dX5_next_95 ⟨(Nat.le_of_ble_eq_true rfl), (Nat.le_of_ble_eq_true rfl)⟩) hP hD hS hA [0, 1, 2] [] rfl rfl (by decide +kernel) (by decide +kernel) (fun u_65 H locs hw_64 hP hD hS => ?_)
          obtain ⟨k_66, x_67⟩ := u_65
          have hu_68 := hw_64
          have hP : va_P D vwCl [(h0, .inr (5, [.ref tp, .int (nI k_66), .int (nI ja), .int xc, .long x_67, .int xv])), (tp, .inr (7, [.ref tb, .int (nI kt)])), (tb, .inl (ca 0, 1700, .inl fb))] H := hP
          have hD : va_D A [(h0, .inr (5, [.ref tp, .int (nI k_66), .int (nI ja), .int xc, .long x_67, .int xv])), (tp, .inr (7, [.ref tb, .int (nI kt)])), (tb, .inl (ca 0, 1700, .inl fb))] := hD
          refine lv_aload_n hx hb dX5_next_98 rfl (lv_at hl 1 rfl) ?_
          refine lv_aload_n hx hb dX5_next_99 rfl (lv_at hl 1 rfl) ?_
          refine va_get (D := D) (ci := 5) (v := .int (nI k_66)) (C := RX5) (T := TX5) (N := 6) hx hb hts iw_X5_next_5 hown hC.1 hP 0 rfl rfl 1 (by decide +kernel) (hts (.fieldLink RX5 15 "FairWheel$Scanner" "at" "I") (by decide +kernel)) (fun _ h9 => h9) rfl dX5_next_100 ?_
          refine lv_aload_n hx hb dX5_next_103 rfl (lv_at hl 1 rfl) ?_
          refine va_get (D := D) (ci := 5) (v := .int (nI ja)) (C := RX5) (T := TX5) (N := 6) hx hb hts iw_X5_next_5 hown hC.1 hP 0 rfl rfl 2 (by decide +kernel) (hts (.fieldLink RX5 31 "FairWheel$Scanner" "start" "I") (by decide +kernel)) (fun _ h9 => h9) rfl dX5_next_104 ?_
          refine lv_isub hx hb dX5_next_107 ?_
          refine lv_topi (fun y_69 ey_69 => ?_)
          refine lv_bipush (v := 8) hx hb dX5_next_108 (by decide +kernel) ?_
          refine lv_icmp_le (tgt := 118) hx hb dX5_next_110 (by decide +kernel) (fun c_70 => ?_) (fun c_70 => ?_)
          · refine lv_aload_n hx hb dX5_next_118 rfl (lv_at hl 1 rfl) ?_
            refine lv_aload_n hx hb dX5_next_119 rfl (lv_at hl 1 rfl) ?_
            refine va_get (D := D) (ci := 5) (v := .int (nI k_66)) (C := RX5) (T := TX5) (N := 6) hx hb hts iw_X5_next_5 hown hC.1 hP 0 rfl rfl 1 (by decide +kernel) (hts (.fieldLink RX5 15 "FairWheel$Scanner" "at" "I") (by decide +kernel)) (fun _ h9 => h9) rfl dX5_next_120 ?_
            refine lv_aload_n hx hb dX5_next_123 rfl (lv_at hl 1 rfl) ?_
            refine va_get (D := D) (ci := 5) (v := .int (nI ja)) (C := RX5) (T := TX5) (N := 6) hx hb hts iw_X5_next_5 hown hC.1 hP 0 rfl rfl 2 (by decide +kernel) (hts (.fieldLink RX5 31 "FairWheel$Scanner" "start" "I") (by decide +kernel)) (fun _ h9 => h9) rfl dX5_next_124 ?_
            refine lv_isub hx hb dX5_next_127 ?_
            refine lv_topi (fun y_71 ey_71 => ?_)
            refine kc_i (wr := []) (va_runV (As := [.int y_71]) (rest := [.ref h0]) ⟨hx, hb, hml, hown, hts⟩ (s_X5_codeOfWord l D ca H.size K h0 tp tb k_66 kt (nI ja) xc xv x_67 fb y_71 (by omega) (by omega)) (cwV 1 hts gX5_next_X5_codeOfWord rfl rfl rfl (by decide +kernel) ⟨(Nat.le_of_ble_eq_true rfl), (Nat.le_of_ble_eq_true rfl)⟩) (PCk.preV (ci := 5) hC hP hD hK hS hA [0, 1, 2] rfl (by decide +kernel) rfl rfl) rfl rfl hl.1 rfl (lv_room (Nat.le_of_ble_eq_true rfl)) dX5_next_128 ⟨(Nat.le_of_ble_eq_true rfl), (Nat.le_of_ble_eq_true rfl)⟩) hP hD hS hA [0, 1, 2] [] rfl rfl (by decide +kernel) (by decide +kernel) (fun r_72 u_74 H locs hw_73 hP hD hS => ?_)
            have hP : va_P D vwCl [(h0, .inr (5, [.ref tp, .int (nI k_66), .int (nI ja), .int xc, .long x_67, .int xv])), (tp, .inr (7, [.ref tb, .int (nI kt)])), (tb, .inl (ca 0, 1700, .inl fb))] H := hP
            have hD : va_D A [(h0, .inr (5, [.ref tp, .int (nI k_66), .int (nI ja), .int xc, .long x_67, .int xv])), (tp, .inr (7, [.ref tb, .int (nI kt)])), (tb, .inl (ca 0, 1700, .inl fb))] := hD
            refine va_put (D := D) (ci := 5) (v := .int r_72) (ty := .int) (C := RX5) (T := TX5) (N := 6) hx hb hts iw_X5_next_5 tyX5 tyX5_ok nmX5 hown hC.1 hP hD hS 0 rfl rfl 3 (by decide +kernel) (hts (.fieldLink RX5 34 "FairWheel$Scanner" "code" "I") (by decide +kernel)) (fun _ h9 => h9) rfl (by decide +kernel) rfl rfl (Nat.le_of_ble_eq_true rfl) dX5_next_131 (fun H locs hP hD hS => ?_)
            have hP : va_P D vwCl [(h0, .inr (5, [.ref tp, .int (nI k_66), .int (nI ja), .int r_72, .long x_67, .int xv])), (tp, .inr (7, [.ref tb, .int (nI kt)])), (tb, .inl (ca 0, 1700, .inl fb))] H := hP
            have hD : va_D A [(h0, .inr (5, [.ref tp, .int (nI k_66), .int (nI ja), .int r_72, .long x_67, .int xv])), (tp, .inr (7, [.ref tb, .int (nI kt)])), (tb, .inl (ca 0, 1700, .inl fb))] := hD
            refine lv_goto (tgt := 178) hx hb dX5_next_134 (by decide +kernel) ?_
            exact W.vret hx hb hr (fun t ht hW => ⟨⟨(k_66, (nI ja), r_72, x_67, xv), rfl, (by dsimp only; omega), by rw [ht]; exact hP.sub [0, 1, 2] rfl, hDA (hD.sub [0, 1, 2] (by decide +kernel) rfl)⟩, hS.F ht⟩) hS.2.2 dX5_next_178
          · refine lv_bipush (v := 22) hx hb dX5_next_113 (by decide +kernel) ?_
            refine lv_goto (tgt := 131) hx hb dX5_next_115 (by decide +kernel) ?_
            refine va_put (D := D) (ci := 5) (v := .int 22) (ty := .int) (C := RX5) (T := TX5) (N := 6) hx hb hts iw_X5_next_5 tyX5 tyX5_ok nmX5 hown hC.1 hP hD hS 0 rfl rfl 3 (by decide +kernel) (hts (.fieldLink RX5 34 "FairWheel$Scanner" "code" "I") (by decide +kernel)) (fun _ h9 => h9) rfl (by decide +kernel) rfl rfl (Nat.le_of_ble_eq_true rfl) dX5_next_131 (fun H locs hP hD hS => ?_)
            have hP : va_P D vwCl [(h0, .inr (5, [.ref tp, .int (nI k_66), .int (nI ja), .int 22, .long x_67, .int xv])), (tp, .inr (7, [.ref tb, .int (nI kt)])), (tb, .inl (ca 0, 1700, .inl fb))] H := hP
            have hD : va_D A [(h0, .inr (5, [.ref tp, .int (nI k_66), .int (nI ja), .int 22, .long x_67, .int xv])), (tp, .inr (7, [.ref tb, .int (nI kt)])), (tb, .inl (ca 0, 1700, .inl fb))] := hD
            refine lv_goto (tgt := 178) hx hb dX5_next_134 (by decide +kernel) ?_
            exact W.vret hx hb hr (fun t ht hW => ⟨⟨(k_66, (nI ja), 22, x_67, xv), rfl, (by dsimp only; omega), by rw [ht]; exact hP.sub [0, 1, 2] rfl, hDA (hD.sub [0, 1, 2] (by decide +kernel) rfl)⟩, hS.F ht⟩) hS.2.2 dX5_next_178
      · have nc_46 : ¬ (ja < kt) := fun h => c_46 ((nI_ltI (a := ja) (b := kt) (by omega) (by omega)).mpr h)
        refine lv_aload_n hx hb dX5_next_78 rfl (lv_at hl 1 rfl) ?_
        refine lv_bipush (v := 21) hx hb dX5_next_79 (by decide +kernel) ?_
        refine va_put (D := D) (ci := 5) (v := .int 21) (ty := .int) (C := RX5) (T := TX5) (N := 6) hx hb hts iw_X5_next_5 tyX5 tyX5_ok nmX5 hown hC.1 hP hD hS 0 rfl rfl 3 (by decide +kernel) (hts (.fieldLink RX5 34 "FairWheel$Scanner" "code" "I") (by decide +kernel)) (fun _ h9 => h9) rfl (by decide +kernel) rfl rfl (Nat.le_of_ble_eq_true rfl) dX5_next_81 (fun H locs hP hD hS => ?_)
        have hP : va_P D vwCl [(h0, .inr (5, [.ref tp, .int (nI ja), .int (nI ja), .int 21, .long xl, .int xv])), (tp, .inr (7, [.ref tb, .int (nI kt)])), (tb, .inl (ca 0, 1700, .inl fb))] H := hP
        have hD : va_D A [(h0, .inr (5, [.ref tp, .int (nI ja), .int (nI ja), .int 21, .long xl, .int xv])), (tp, .inr (7, [.ref tb, .int (nI kt)])), (tb, .inl (ca 0, 1700, .inl fb))] := hD
        refine lv_goto (tgt := 178) hx hb dX5_next_84 (by decide +kernel) ?_
        exact W.vret hx hb hr (fun t ht hW => ⟨⟨(ja, nI ja, 21, xl, xv), rfl, (by dsimp only; omega), by rw [ht]; exact hP.sub [0, 1, 2] rfl, hDA (hD.sub [0, 1, 2] (by decide +kernel) rfl)⟩, hS.F ht⟩) hS.2.2 dX5_next_178
    · refine lv_aload_n hx hb dX5_next_31 rfl (lv_at hl 0 rfl) ?_
      refine lv_dup hx hb dX5_next_32 rfl ?_
      refine va_get (D := D) (ci := 5) (v := .int (nI ja)) (C := RX5) (T := TX5) (N := 6) hx hb hts iw_X5_next_5 hown hC.1 hP 0 rfl rfl 1 (by decide +kernel) (hts (.fieldLink RX5 15 "FairWheel$Scanner" "at" "I") (by decide +kernel)) (fun _ h9 => h9) rfl dX5_next_33 ?_
      refine lv_iconst (v := 1) hx hb dX5_next_36 (by decide +kernel) ?_
      refine lv_iadd hx hb dX5_next_37 ?_
      refine nt_i (nI (ja + 1)) (nI_add ja 1) ?_
      refine va_put (D := D) (ci := 5) (v := .int (nI (ja + 1))) (ty := .int) (C := RX5) (T := TX5) (N := 6) hx hb hts iw_X5_next_5 tyX5 tyX5_ok nmX5 hown hC.1 hP hD hS 0 rfl rfl 1 (by decide +kernel) (hts (.fieldLink RX5 15 "FairWheel$Scanner" "at" "I") (by decide +kernel)) (fun _ h9 => h9) rfl (by decide +kernel) rfl rfl (Nat.le_of_ble_eq_true rfl) dX5_next_38 (fun H locs hP hD hS => ?_)
      have hP : va_P D vwCl [(h0, .inr (5, [.ref tp, .int (nI (ja + 1)), .int xs, .int xc, .long xl, .int xv])), (tp, .inr (7, [.ref tb, .int (nI kt)])), (tb, .inl (ca 0, 1700, .inl fb))] H := hP
      have hD : va_D A [(h0, .inr (5, [.ref tp, .int (nI (ja + 1)), .int xs, .int xc, .long xl, .int xv])), (tp, .inr (7, [.ref tb, .int (nI kt)])), (tb, .inl (ca 0, 1700, .inl fb))] := hD
      refine lv_goto (tgt := 0) hx hb dX5_next_41 (by decide +kernel) ?_
      exact ih_1 _ _ _ ⟨(ja + 1), (by omega), (by omega), lv_sub hl [0] rfl, hP, hD, hS⟩
