theorem dX8_begin_0 : decode cX8_begin 0 = .ok (.aload_n 0, 1) := by decide +kernel
theorem dX8_begin_1 : decode cX8_begin 1 = .ok (.iload_n 2, 1) := by decide +kernel
theorem dX8_begin_2 : decode cX8_begin 2 = .ok (.ifCond .le 7, 3) := by decide +kernel
theorem dX8_begin_5 : decode cX8_begin 5 = .ok (.iconst 0, 1) := by decide +kernel
theorem dX8_begin_6 : decode cX8_begin 6 = .ok (.goto 4, 3) := by decide +kernel
theorem dX8_begin_9 : decode cX8_begin 9 = .ok (.iconst 4, 1) := by decide +kernel
theorem dX8_begin_10 : decode cX8_begin 10 = .ok (.putfield 15, 3) := by decide +kernel
theorem dX8_begin_13 : decode cX8_begin 13 = .ok (.aload_n 0, 1) := by decide +kernel
theorem dX8_begin_14 : decode cX8_begin 14 = .ok (.iconst 0, 1) := by decide +kernel
theorem dX8_begin_15 : decode cX8_begin 15 = .ok (.putfield 19, 3) := by decide +kernel
theorem dX8_begin_18 : decode cX8_begin 18 = .ok (.aload_n 0, 1) := by decide +kernel
theorem dX8_begin_19 : decode cX8_begin 19 = .ok (.iload_n 3, 1) := by decide +kernel
theorem dX8_begin_20 : decode cX8_begin 20 = .ok (.putfield 22, 3) := by decide +kernel
theorem dX8_begin_23 : decode cX8_begin 23 = .ok (.aload_n 0, 1) := by decide +kernel
theorem dX8_begin_24 : decode cX8_begin 24 = .ok (.iconst 0, 1) := by decide +kernel
theorem dX8_begin_25 : decode cX8_begin 25 = .ok (.putfield 25, 3) := by decide +kernel
theorem dX8_begin_28 : decode cX8_begin 28 = .ok (.aload_n 0, 1) := by decide +kernel
theorem dX8_begin_29 : decode cX8_begin 29 = .ok (.iconst 0, 1) := by decide +kernel
theorem dX8_begin_30 : decode cX8_begin 30 = .ok (.putfield 28, 3) := by decide +kernel
theorem dX8_begin_33 : decode cX8_begin 33 = .ok (.aload_n 0, 1) := by decide +kernel
theorem dX8_begin_34 : decode cX8_begin 34 = .ok (.iload_n 1, 1) := by decide +kernel
theorem dX8_begin_35 : decode cX8_begin 35 = .ok (.putfield 31, 3) := by decide +kernel
theorem dX8_begin_38 : decode cX8_begin 38 = .ok (.aload_n 0, 1) := by decide +kernel
theorem dX8_begin_39 : decode cX8_begin 39 = .ok (.iconst 0, 1) := by decide +kernel
theorem dX8_begin_40 : decode cX8_begin 40 = .ok (.putfield 34, 3) := by decide +kernel
theorem dX8_begin_43 : decode cX8_begin 43 = .ok (.aload_n 0, 1) := by decide +kernel
theorem dX8_begin_44 : decode cX8_begin 44 = .ok (.iconst 0, 1) := by decide +kernel
theorem dX8_begin_45 : decode cX8_begin 45 = .ok (.putfield 37, 3) := by decide +kernel
theorem dX8_begin_48 : decode cX8_begin 48 = .ok (.aload_n 0, 1) := by decide +kernel
theorem dX8_begin_49 : decode cX8_begin 49 = .ok (.iconst 0, 1) := by decide +kernel
theorem dX8_begin_50 : decode cX8_begin 50 = .ok (.putfield 40, 3) := by decide +kernel
theorem dX8_begin_53 : decode cX8_begin 53 = .ok (.aload_n 0, 1) := by decide +kernel
theorem dX8_begin_54 : decode cX8_begin 54 = .ok (.iconst (-1), 1) := by decide +kernel
theorem dX8_begin_55 : decode cX8_begin 55 = .ok (.putfield 43, 3) := by decide +kernel
theorem dX8_begin_58 : decode cX8_begin 58 = .ok (.aload_n 0, 1) := by decide +kernel
theorem dX8_begin_59 : decode cX8_begin 59 = .ok (.iconst 0, 1) := by decide +kernel
theorem dX8_begin_60 : decode cX8_begin 60 = .ok (.putfield 46, 3) := by decide +kernel
theorem dX8_begin_63 : decode cX8_begin 63 = .ok (.aload_n 0, 1) := by decide +kernel
theorem dX8_begin_64 : decode cX8_begin 64 = .ok (.iconst 0, 1) := by decide +kernel
theorem dX8_begin_65 : decode cX8_begin 65 = .ok (.putfield 49, 3) := by decide +kernel
theorem dX8_begin_68 : decode cX8_begin 68 = .ok (.aload_n 0, 1) := by decide +kernel
theorem dX8_begin_69 : decode cX8_begin 69 = .ok (.iconst 0, 1) := by decide +kernel
theorem dX8_begin_70 : decode cX8_begin 70 = .ok (.putfield 52, 3) := by decide +kernel
theorem dX8_begin_73 : decode cX8_begin 73 = .ok (.aload_n 0, 1) := by decide +kernel
theorem dX8_begin_74 : decode cX8_begin 74 = .ok (.iconst 0, 1) := by decide +kernel
theorem dX8_begin_75 : decode cX8_begin 75 = .ok (.putfield 55, 3) := by decide +kernel
theorem dX8_begin_78 : decode cX8_begin 78 = .ok (.aload_n 0, 1) := by decide +kernel
theorem dX8_begin_79 : decode cX8_begin 79 = .ok (.iconst 0, 1) := by decide +kernel
theorem dX8_begin_80 : decode cX8_begin 80 = .ok (.putfield 58, 3) := by decide +kernel
theorem dX8_begin_83 : decode cX8_begin 83 = .ok (.return_, 1) := by decide +kernel
theorem dX8_isLockedFor_0 : decode cX8_isLockedFor 0 = .ok (.aload_n 0, 1) := by decide +kernel
theorem dX8_isLockedFor_1 : decode cX8_isLockedFor 1 = .ok (.getfield 15, 3) := by decide +kernel
theorem dX8_isLockedFor_4 : decode cX8_isLockedFor 4 = .ok (.iconst 1, 1) := by decide +kernel
theorem dX8_isLockedFor_5 : decode cX8_isLockedFor 5 = .ok (.if_icmp .ne 15, 3) := by decide +kernel
theorem dX8_isLockedFor_8 : decode cX8_isLockedFor 8 = .ok (.aload_n 0, 1) := by decide +kernel
theorem dX8_isLockedFor_9 : decode cX8_isLockedFor 9 = .ok (.getfield 43, 3) := by decide +kernel
theorem dX8_isLockedFor_12 : decode cX8_isLockedFor 12 = .ok (.iload_n 1, 1) := by decide +kernel
theorem dX8_isLockedFor_13 : decode cX8_isLockedFor 13 = .ok (.if_icmp .ne 7, 3) := by decide +kernel
theorem dX8_isLockedFor_16 : decode cX8_isLockedFor 16 = .ok (.iconst 1, 1) := by decide +kernel
theorem dX8_isLockedFor_17 : decode cX8_isLockedFor 17 = .ok (.goto 4, 3) := by decide +kernel
theorem dX8_isLockedFor_20 : decode cX8_isLockedFor 20 = .ok (.iconst 0, 1) := by decide +kernel
theorem dX8_isLockedFor_21 : decode cX8_isLockedFor 21 = .ok (.ireturn, 1) := by decide +kernel
theorem dX8_stop_0 : decode cX8_stop 0 = .ok (.aload_n 0, 1) := by decide +kernel
theorem dX8_stop_1 : decode cX8_stop 1 = .ok (.iload_n 1, 1) := by decide +kernel
theorem dX8_stop_2 : decode cX8_stop 2 = .ok (.putfield 15, 3) := by decide +kernel
theorem dX8_stop_5 : decode cX8_stop 5 = .ok (.aload_n 0, 1) := by decide +kernel
theorem dX8_stop_6 : decode cX8_stop 6 = .ok (.iload_n 2, 1) := by decide +kernel
theorem dX8_stop_7 : decode cX8_stop 7 = .ok (.putfield 43, 3) := by decide +kernel
theorem dX8_stop_10 : decode cX8_stop 10 = .ok (.return_, 1) := by decide +kernel
theorem dX8_countWait_0 : decode cX8_countWait 0 = .ok (.iload_n 1, 1) := by decide +kernel
theorem dX8_countWait_1 : decode cX8_countWait 1 = .ok (.ifCond .eq 9, 3) := by decide +kernel
theorem dX8_countWait_4 : decode cX8_countWait 4 = .ok (.aload_n 0, 1) := by decide +kernel
theorem dX8_countWait_5 : decode cX8_countWait 5 = .ok (.iconst 0, 1) := by decide +kernel
theorem dX8_countWait_6 : decode cX8_countWait 6 = .ok (.putfield 55, 3) := by decide +kernel
theorem dX8_countWait_9 : decode cX8_countWait 9 = .ok (.return_, 1) := by decide +kernel
theorem dX8_countWait_10 : decode cX8_countWait 10 = .ok (.aload_n 0, 1) := by decide +kernel
theorem dX8_countWait_11 : decode cX8_countWait 11 = .ok (.dup, 1) := by decide +kernel
theorem dX8_countWait_12 : decode cX8_countWait 12 = .ok (.getfield 49, 3) := by decide +kernel
theorem dX8_countWait_15 : decode cX8_countWait 15 = .ok (.iconst 1, 1) := by decide +kernel
theorem dX8_countWait_16 : decode cX8_countWait 16 = .ok (.iadd, 1) := by decide +kernel
theorem dX8_countWait_17 : decode cX8_countWait 17 = .ok (.putfield 49, 3) := by decide +kernel
theorem dX8_countWait_20 : decode cX8_countWait 20 = .ok (.aload_n 0, 1) := by decide +kernel
theorem dX8_countWait_21 : decode cX8_countWait 21 = .ok (.dup, 1) := by decide +kernel
theorem dX8_countWait_22 : decode cX8_countWait 22 = .ok (.getfield 55, 3) := by decide +kernel
theorem dX8_countWait_25 : decode cX8_countWait 25 = .ok (.iconst 1, 1) := by decide +kernel
theorem dX8_countWait_26 : decode cX8_countWait 26 = .ok (.iadd, 1) := by decide +kernel
theorem dX8_countWait_27 : decode cX8_countWait 27 = .ok (.putfield 55, 3) := by decide +kernel
theorem dX8_countWait_30 : decode cX8_countWait 30 = .ok (.aload_n 0, 1) := by decide +kernel
theorem dX8_countWait_31 : decode cX8_countWait 31 = .ok (.aload_n 0, 1) := by decide +kernel
theorem dX8_countWait_32 : decode cX8_countWait 32 = .ok (.getfield 52, 3) := by decide +kernel
theorem dX8_countWait_35 : decode cX8_countWait 35 = .ok (.aload_n 0, 1) := by decide +kernel
theorem dX8_countWait_36 : decode cX8_countWait 36 = .ok (.getfield 55, 3) := by decide +kernel
theorem dX8_countWait_39 : decode cX8_countWait 39 = .ok (.invokestatic 71, 3) := by decide +kernel
theorem dX8_countWait_42 : decode cX8_countWait 42 = .ok (.putfield 52, 3) := by decide +kernel
theorem dX8_countWait_45 : decode cX8_countWait 45 = .ok (.return_, 1) := by decide +kernel
theorem dX8_copyFrom_0 : decode cX8_copyFrom 0 = .ok (.aload_n 0, 1) := by decide +kernel
theorem dX8_copyFrom_1 : decode cX8_copyFrom 1 = .ok (.aload_n 1, 1) := by decide +kernel
theorem dX8_copyFrom_2 : decode cX8_copyFrom 2 = .ok (.getfield 15, 3) := by decide +kernel
theorem dX8_copyFrom_5 : decode cX8_copyFrom 5 = .ok (.putfield 15, 3) := by decide +kernel
theorem dX8_copyFrom_8 : decode cX8_copyFrom 8 = .ok (.aload_n 0, 1) := by decide +kernel
theorem dX8_copyFrom_9 : decode cX8_copyFrom 9 = .ok (.aload_n 1, 1) := by decide +kernel
theorem dX8_copyFrom_10 : decode cX8_copyFrom 10 = .ok (.getfield 19, 3) := by decide +kernel
theorem dX8_copyFrom_13 : decode cX8_copyFrom 13 = .ok (.putfield 19, 3) := by decide +kernel
theorem dX8_copyFrom_16 : decode cX8_copyFrom 16 = .ok (.aload_n 0, 1) := by decide +kernel
theorem dX8_copyFrom_17 : decode cX8_copyFrom 17 = .ok (.aload_n 1, 1) := by decide +kernel
theorem dX8_copyFrom_18 : decode cX8_copyFrom 18 = .ok (.getfield 22, 3) := by decide +kernel
theorem dX8_copyFrom_21 : decode cX8_copyFrom 21 = .ok (.putfield 22, 3) := by decide +kernel
theorem dX8_copyFrom_24 : decode cX8_copyFrom 24 = .ok (.aload_n 0, 1) := by decide +kernel
theorem dX8_copyFrom_25 : decode cX8_copyFrom 25 = .ok (.aload_n 1, 1) := by decide +kernel
theorem dX8_copyFrom_26 : decode cX8_copyFrom 26 = .ok (.getfield 25, 3) := by decide +kernel
theorem dX8_copyFrom_29 : decode cX8_copyFrom 29 = .ok (.putfield 25, 3) := by decide +kernel
theorem dX8_copyFrom_32 : decode cX8_copyFrom 32 = .ok (.aload_n 0, 1) := by decide +kernel
theorem dX8_copyFrom_33 : decode cX8_copyFrom 33 = .ok (.aload_n 1, 1) := by decide +kernel
theorem dX8_copyFrom_34 : decode cX8_copyFrom 34 = .ok (.getfield 28, 3) := by decide +kernel
theorem dX8_copyFrom_37 : decode cX8_copyFrom 37 = .ok (.putfield 28, 3) := by decide +kernel
theorem dX8_copyFrom_40 : decode cX8_copyFrom 40 = .ok (.aload_n 0, 1) := by decide +kernel
theorem dX8_copyFrom_41 : decode cX8_copyFrom 41 = .ok (.aload_n 1, 1) := by decide +kernel
theorem dX8_copyFrom_42 : decode cX8_copyFrom 42 = .ok (.getfield 31, 3) := by decide +kernel
theorem dX8_copyFrom_45 : decode cX8_copyFrom 45 = .ok (.putfield 31, 3) := by decide +kernel
theorem dX8_copyFrom_48 : decode cX8_copyFrom 48 = .ok (.aload_n 0, 1) := by decide +kernel
theorem dX8_copyFrom_49 : decode cX8_copyFrom 49 = .ok (.aload_n 1, 1) := by decide +kernel
theorem dX8_copyFrom_50 : decode cX8_copyFrom 50 = .ok (.getfield 34, 3) := by decide +kernel
theorem dX8_copyFrom_53 : decode cX8_copyFrom 53 = .ok (.putfield 34, 3) := by decide +kernel
theorem dX8_copyFrom_56 : decode cX8_copyFrom 56 = .ok (.aload_n 0, 1) := by decide +kernel
theorem dX8_copyFrom_57 : decode cX8_copyFrom 57 = .ok (.aload_n 1, 1) := by decide +kernel
theorem dX8_copyFrom_58 : decode cX8_copyFrom 58 = .ok (.getfield 37, 3) := by decide +kernel
theorem dX8_copyFrom_61 : decode cX8_copyFrom 61 = .ok (.putfield 37, 3) := by decide +kernel
theorem dX8_copyFrom_64 : decode cX8_copyFrom 64 = .ok (.aload_n 0, 1) := by decide +kernel
theorem dX8_copyFrom_65 : decode cX8_copyFrom 65 = .ok (.aload_n 1, 1) := by decide +kernel
theorem dX8_copyFrom_66 : decode cX8_copyFrom 66 = .ok (.getfield 40, 3) := by decide +kernel
theorem dX8_copyFrom_69 : decode cX8_copyFrom 69 = .ok (.putfield 40, 3) := by decide +kernel
theorem dX8_copyFrom_72 : decode cX8_copyFrom 72 = .ok (.aload_n 0, 1) := by decide +kernel
theorem dX8_copyFrom_73 : decode cX8_copyFrom 73 = .ok (.aload_n 1, 1) := by decide +kernel
theorem dX8_copyFrom_74 : decode cX8_copyFrom 74 = .ok (.getfield 43, 3) := by decide +kernel
theorem dX8_copyFrom_77 : decode cX8_copyFrom 77 = .ok (.putfield 43, 3) := by decide +kernel
theorem dX8_copyFrom_80 : decode cX8_copyFrom 80 = .ok (.aload_n 0, 1) := by decide +kernel
theorem dX8_copyFrom_81 : decode cX8_copyFrom 81 = .ok (.aload_n 1, 1) := by decide +kernel
theorem dX8_copyFrom_82 : decode cX8_copyFrom 82 = .ok (.getfield 46, 3) := by decide +kernel
theorem dX8_copyFrom_85 : decode cX8_copyFrom 85 = .ok (.putfield 46, 3) := by decide +kernel
theorem dX8_copyFrom_88 : decode cX8_copyFrom 88 = .ok (.aload_n 0, 1) := by decide +kernel
theorem dX8_copyFrom_89 : decode cX8_copyFrom 89 = .ok (.aload_n 1, 1) := by decide +kernel
theorem dX8_copyFrom_90 : decode cX8_copyFrom 90 = .ok (.getfield 49, 3) := by decide +kernel
theorem dX8_copyFrom_93 : decode cX8_copyFrom 93 = .ok (.putfield 49, 3) := by decide +kernel
theorem dX8_copyFrom_96 : decode cX8_copyFrom 96 = .ok (.aload_n 0, 1) := by decide +kernel
theorem dX8_copyFrom_97 : decode cX8_copyFrom 97 = .ok (.aload_n 1, 1) := by decide +kernel
theorem dX8_copyFrom_98 : decode cX8_copyFrom 98 = .ok (.getfield 52, 3) := by decide +kernel
theorem dX8_copyFrom_101 : decode cX8_copyFrom 101 = .ok (.putfield 52, 3) := by decide +kernel
theorem dX8_copyFrom_104 : decode cX8_copyFrom 104 = .ok (.aload_n 0, 1) := by decide +kernel
theorem dX8_copyFrom_105 : decode cX8_copyFrom 105 = .ok (.aload_n 1, 1) := by decide +kernel
theorem dX8_copyFrom_106 : decode cX8_copyFrom 106 = .ok (.getfield 55, 3) := by decide +kernel
theorem dX8_copyFrom_109 : decode cX8_copyFrom 109 = .ok (.putfield 55, 3) := by decide +kernel
theorem dX8_copyFrom_112 : decode cX8_copyFrom 112 = .ok (.aload_n 0, 1) := by decide +kernel
theorem dX8_copyFrom_113 : decode cX8_copyFrom 113 = .ok (.aload_n 1, 1) := by decide +kernel
theorem dX8_copyFrom_114 : decode cX8_copyFrom 114 = .ok (.getfield 61, 3) := by decide +kernel
theorem dX8_copyFrom_117 : decode cX8_copyFrom 117 = .ok (.putfield 61, 3) := by decide +kernel
theorem dX8_copyFrom_120 : decode cX8_copyFrom 120 = .ok (.aload_n 0, 1) := by decide +kernel
theorem dX8_copyFrom_121 : decode cX8_copyFrom 121 = .ok (.aload_n 1, 1) := by decide +kernel
theorem dX8_copyFrom_122 : decode cX8_copyFrom 122 = .ok (.getfield 58, 3) := by decide +kernel
theorem dX8_copyFrom_125 : decode cX8_copyFrom 125 = .ok (.putfield 58, 3) := by decide +kernel
theorem dX8_copyFrom_128 : decode cX8_copyFrom 128 = .ok (.aload_n 1, 1) := by decide +kernel
theorem dX8_copyFrom_129 : decode cX8_copyFrom 129 = .ok (.getfield 9, 3) := by decide +kernel
theorem dX8_copyFrom_132 : decode cX8_copyFrom 132 = .ok (.iconst 0, 1) := by decide +kernel
theorem dX8_copyFrom_133 : decode cX8_copyFrom 133 = .ok (.aload_n 0, 1) := by decide +kernel
theorem dX8_copyFrom_134 : decode cX8_copyFrom 134 = .ok (.getfield 9, 3) := by decide +kernel
theorem dX8_copyFrom_137 : decode cX8_copyFrom 137 = .ok (.iconst 0, 1) := by decide +kernel
theorem dX8_copyFrom_138 : decode cX8_copyFrom 138 = .ok (.aload_n 0, 1) := by decide +kernel
theorem dX8_copyFrom_139 : decode cX8_copyFrom 139 = .ok (.getfield 9, 3) := by decide +kernel
theorem dX8_copyFrom_142 : decode cX8_copyFrom 142 = .ok (.arraylength, 1) := by decide +kernel
theorem dX8_copyFrom_143 : decode cX8_copyFrom 143 = .ok (.invokestatic 65, 3) := by decide +kernel
theorem dX8_copyFrom_146 : decode cX8_copyFrom 146 = .ok (.return_, 1) := by decide +kernel
theorem iw_X8_begin_8 : ∀ w ∈ u_ws RX8 TX8 17, w ∈ wsX8_begin := by decide +kernel
set_option maxHeartbeats 4000000 in
set_option maxRecDepth 100000 in
theorem s_X8_begin (l : Launch) (D : va_G) (ca : Nat → ClassId) (sz : Nat) (h0 : Nat) (g0 : Int32) (g1 : Int32) (g2 : Int32) (g3 : Int32) (g4 : Int32) (g5 : Int32) (g6 : Int32) (g7 : Int32) (g8 : Int32) (g9 : Int32) (g10 : Int32) (g11 : Int32) (g12 : Int32) (g13 : Int32) (g14 : Int64) (gr : Nat) (go : Nat) (x1 : Int32) (x2 : Int32) (x3 : Int32) : Met l yX8_begin wsX8_begin ({ frames := 0, cells := 0, slots := 0, locals := 0 }) (PC [.ref h0, .int x1, .int x2, .int x3] sz D ca [(h0, .inr (8, [.int g0, .int g1, .int g2, .int g3, .int g4, .int g5, .int g6, .int g7, .int g8, .int g9, .int g10, .int g11, .int g12, .int g13, .long g14, .int (nI gr), .ref go]))]) (QV (fun (u : Int32) => True) (fun (u : Int32) => [(h0, .inr (8, [.int u, .int 0, .int x3, .int 0, .int 0, .int x1, .int 0, .int 0, .int 0, .int (-1), .int 0, .int 0, .int 0, .int 0, .long g14, .int 0, .ref go]))]) [(h0, .inr (8, [.int g0, .int g1, .int g2, .int g3, .int g4, .int g5, .int g6, .int g7, .int g8, .int g9, .int g10, .int g11, .int g12, .int g13, .long g14, .int (nI gr), .ref go]))] sz D) 0 0 (va_A [(h0, .inr (8, [.int g0, .int g1, .int g2, .int g3, .int g4, .int g5, .int g6, .int g7, .int g8, .int g9, .int g10, .int g11, .int g12, .int g13, .long g14, .int (nI gr), .ref go]))] sz) := by
  refine Met.ofW (cc := cX8_begin) (maxL := 4) (ret := none) (by decide +kernel) rfl ?_
  intro p e s m args below meth c s₁ B hml hv
  obtain ⟨rfl, hsz, hP, hC, hD0⟩ := hv
  have hx := B.exec
  have hb := B.bytes
  have hr := B.returns
  have hts := atoms_spec (ws := wsX8_begin) B.pre
  have hown : s.vm.findClass RX8 = some m.cls := findClass_of_methodNamed B.named
  have hlocks := B.notSynchronized
  subst hsz
  have hD := hD0.self (sz := s.heap.size)
  dsimp only [QV, QI, QL, BQ]
  generalize hAe : va_A [(h0, .inr (8, [.int g0, .int g1, .int g2, .int g3, .int g4, .int g5, .int g6, .int g7, .int g8, .int g9, .int g10, .int g11, .int g12, .int g13, .long g14, .int (nI gr), .ref go]))] s.heap.size = A at hD ⊢
  have hA : ∀ q : Nat, s.heap.size ≤ q → A q := fun q h => by rw [← hAe]; exact Or.inr h
  have hDA : ∀ {w : va_W}, va_D A w → va_D (va_A [(h0, .inr (8, [.int g0, .int g1, .int g2, .int g3, .int g4, .int g5, .int g6, .int g7, .int g8, .int g9, .int g10, .int g11, .int g12, .int g13, .long g14, .int (nI gr), .ref go]))] s.heap.size) w := fun h => by rw [hAe]; exact h
  have hS : va_S A s.heap s.heap [] := va_S.rf
  have hP : va_P D vwCl [(h0, .inr (8, [.int g0, .int g1, .int g2, .int g3, .int g4, .int g5, .int g6, .int g7, .int g8, .int g9, .int g10, .int g11, .int g12, .int g13, .long g14, .int (nI gr), .ref go]))] s.heap := hP
  have hl := lv_entry ([.ref h0, .int x1, .int x2, .int x3]) (n := 4) (Nat.le_of_ble_eq_true rfl)
  rw [lg_entry_eq]
  generalize (lg_sl ([.ref h0, .int x1, .int x2, .int x3]) ++ List.replicate (4 - (lg_sl ([.ref h0, .int x1, .int x2, .int x3])).length) Slot.unset).toArray = ls at hl ⊢
  have hl : lv_has ls 4 [(0, .ref h0), (1, .int x1), (2, .int x2), (3, .int x3)] := hl
  refine lv_aload_n hx hb dX8_begin_0 rfl (lv_at hl 0 rfl) ?_
  refine lv_iload_n hx hb dX8_begin_1 rfl (lv_at hl 2 rfl) ?_
  refine lv_if_le (tgt := 9) hx hb dX8_begin_2 (by decide +kernel) (fun c_1 => ?_) (fun c_1 => ?_)
  · refine lv_iconst (v := 4) hx hb dX8_begin_9 (by decide +kernel) ?_
    refine va_put (D := D) (ci := 8) (v := .int 4) (ty := .int) (C := RX8) (T := TX8) (N := 17) hx hb hts iw_X8_begin_8 tyX8 tyX8_ok nmX8 hown hC.1 hP hD hS 0 rfl rfl 0 (by decide +kernel) (hts (.fieldLink RX8 15 "FairWheel$Task" "phase" "I") (by decide +kernel)) (fun _ h9 => h9) rfl (by decide +kernel) rfl rfl (Nat.le_of_ble_eq_true rfl) dX8_begin_10 (fun H locs hP hD hS => ?_)
    have hP : va_P D vwCl [(h0, .inr (8, [.int 4, .int g1, .int g2, .int g3, .int g4, .int g5, .int g6, .int g7, .int g8, .int g9, .int g10, .int g11, .int g12, .int g13, .long g14, .int (nI gr), .ref go]))] H := hP
    have hD : va_D A [(h0, .inr (8, [.int 4, .int g1, .int g2, .int g3, .int g4, .int g5, .int g6, .int g7, .int g8, .int g9, .int g10, .int g11, .int g12, .int g13, .long g14, .int (nI gr), .ref go]))] := hD
    refine lv_aload_n hx hb dX8_begin_13 rfl (lv_at hl 0 rfl) ?_
    refine lv_iconst (v := 0) hx hb dX8_begin_14 (by decide +kernel) ?_
    refine va_put (D := D) (ci := 8) (v := .int 0) (ty := .int) (C := RX8) (T := TX8) (N := 17) hx hb hts iw_X8_begin_8 tyX8 tyX8_ok nmX8 hown hC.1 hP hD hS 0 rfl rfl 1 (by decide +kernel) (hts (.fieldLink RX8 19 "FairWheel$Task" "op" "I") (by decide +kernel)) (fun _ h9 => h9) rfl (by decide +kernel) rfl rfl (Nat.le_of_ble_eq_true rfl) dX8_begin_15 (fun H locs hP hD hS => ?_)
    have hP : va_P D vwCl [(h0, .inr (8, [.int 4, .int 0, .int g2, .int g3, .int g4, .int g5, .int g6, .int g7, .int g8, .int g9, .int g10, .int g11, .int g12, .int g13, .long g14, .int (nI gr), .ref go]))] H := hP
    have hD : va_D A [(h0, .inr (8, [.int 4, .int 0, .int g2, .int g3, .int g4, .int g5, .int g6, .int g7, .int g8, .int g9, .int g10, .int g11, .int g12, .int g13, .long g14, .int (nI gr), .ref go]))] := hD
    refine lv_aload_n hx hb dX8_begin_18 rfl (lv_at hl 0 rfl) ?_
    refine lv_iload_n hx hb dX8_begin_19 rfl (lv_at hl 3 rfl) ?_
    refine va_put (D := D) (ci := 8) (v := .int x3) (ty := .int) (C := RX8) (T := TX8) (N := 17) hx hb hts iw_X8_begin_8 tyX8 tyX8_ok nmX8 hown hC.1 hP hD hS 0 rfl rfl 2 (by decide +kernel) (hts (.fieldLink RX8 22 "FairWheel$Task" "left" "I") (by decide +kernel)) (fun _ h9 => h9) rfl (by decide +kernel) rfl rfl (Nat.le_of_ble_eq_true rfl) dX8_begin_20 (fun H locs hP hD hS => ?_)
    have hP : va_P D vwCl [(h0, .inr (8, [.int 4, .int 0, .int x3, .int g3, .int g4, .int g5, .int g6, .int g7, .int g8, .int g9, .int g10, .int g11, .int g12, .int g13, .long g14, .int (nI gr), .ref go]))] H := hP
    have hD : va_D A [(h0, .inr (8, [.int 4, .int 0, .int x3, .int g3, .int g4, .int g5, .int g6, .int g7, .int g8, .int g9, .int g10, .int g11, .int g12, .int g13, .long g14, .int (nI gr), .ref go]))] := hD
    refine lv_aload_n hx hb dX8_begin_23 rfl (lv_at hl 0 rfl) ?_
    refine lv_iconst (v := 0) hx hb dX8_begin_24 (by decide +kernel) ?_
    refine va_put (D := D) (ci := 8) (v := .int 0) (ty := .int) (C := RX8) (T := TX8) (N := 17) hx hb hts iw_X8_begin_8 tyX8 tyX8_ok nmX8 hown hC.1 hP hD hS 0 rfl rfl 3 (by decide +kernel) (hts (.fieldLink RX8 25 "FairWheel$Task" "virtual" "I") (by decide +kernel)) (fun _ h9 => h9) rfl (by decide +kernel) rfl rfl (Nat.le_of_ble_eq_true rfl) dX8_begin_25 (fun H locs hP hD hS => ?_)
    have hP : va_P D vwCl [(h0, .inr (8, [.int 4, .int 0, .int x3, .int 0, .int g4, .int g5, .int g6, .int g7, .int g8, .int g9, .int g10, .int g11, .int g12, .int g13, .long g14, .int (nI gr), .ref go]))] H := hP
    have hD : va_D A [(h0, .inr (8, [.int 4, .int 0, .int x3, .int 0, .int g4, .int g5, .int g6, .int g7, .int g8, .int g9, .int g10, .int g11, .int g12, .int g13, .long g14, .int (nI gr), .ref go]))] := hD
    refine lv_aload_n hx hb dX8_begin_28 rfl (lv_at hl 0 rfl) ?_
    refine lv_iconst (v := 0) hx hb dX8_begin_29 (by decide +kernel) ?_
    refine va_put (D := D) (ci := 8) (v := .int 0) (ty := .int) (C := RX8) (T := TX8) (N := 17) hx hb hts iw_X8_begin_8 tyX8 tyX8_ok nmX8 hown hC.1 hP hD hS 0 rfl rfl 4 (by decide +kernel) (hts (.fieldLink RX8 28 "FairWheel$Task" "rest" "I") (by decide +kernel)) (fun _ h9 => h9) rfl (by decide +kernel) rfl rfl (Nat.le_of_ble_eq_true rfl) dX8_begin_30 (fun H locs hP hD hS => ?_)
    have hP : va_P D vwCl [(h0, .inr (8, [.int 4, .int 0, .int x3, .int 0, .int 0, .int g5, .int g6, .int g7, .int g8, .int g9, .int g10, .int g11, .int g12, .int g13, .long g14, .int (nI gr), .ref go]))] H := hP
    have hD : va_D A [(h0, .inr (8, [.int 4, .int 0, .int x3, .int 0, .int 0, .int g5, .int g6, .int g7, .int g8, .int g9, .int g10, .int g11, .int g12, .int g13, .long g14, .int (nI gr), .ref go]))] := hD
    refine lv_aload_n hx hb dX8_begin_33 rfl (lv_at hl 0 rfl) ?_
    refine lv_iload_n hx hb dX8_begin_34 rfl (lv_at hl 1 rfl) ?_
    refine va_put (D := D) (ci := 8) (v := .int x1) (ty := .int) (C := RX8) (T := TX8) (N := 17) hx hb hts iw_X8_begin_8 tyX8 tyX8_ok nmX8 hown hC.1 hP hD hS 0 rfl rfl 5 (by decide +kernel) (hts (.fieldLink RX8 31 "FairWheel$Task" "weight" "I") (by decide +kernel)) (fun _ h9 => h9) rfl (by decide +kernel) rfl rfl (Nat.le_of_ble_eq_true rfl) dX8_begin_35 (fun H locs hP hD hS => ?_)
    have hP : va_P D vwCl [(h0, .inr (8, [.int 4, .int 0, .int x3, .int 0, .int 0, .int x1, .int g6, .int g7, .int g8, .int g9, .int g10, .int g11, .int g12, .int g13, .long g14, .int (nI gr), .ref go]))] H := hP
    have hD : va_D A [(h0, .inr (8, [.int 4, .int 0, .int x3, .int 0, .int 0, .int x1, .int g6, .int g7, .int g8, .int g9, .int g10, .int g11, .int g12, .int g13, .long g14, .int (nI gr), .ref go]))] := hD
    refine lv_aload_n hx hb dX8_begin_38 rfl (lv_at hl 0 rfl) ?_
    refine lv_iconst (v := 0) hx hb dX8_begin_39 (by decide +kernel) ?_
    refine va_put (D := D) (ci := 8) (v := .int 0) (ty := .int) (C := RX8) (T := TX8) (N := 17) hx hb hts iw_X8_begin_8 tyX8 tyX8_ok nmX8 hown hC.1 hP hD hS 0 rfl rfl 6 (by decide +kernel) (hts (.fieldLink RX8 34 "FairWheel$Task" "budget" "I") (by decide +kernel)) (fun _ h9 => h9) rfl (by decide +kernel) rfl rfl (Nat.le_of_ble_eq_true rfl) dX8_begin_40 (fun H locs hP hD hS => ?_)
    have hP : va_P D vwCl [(h0, .inr (8, [.int 4, .int 0, .int x3, .int 0, .int 0, .int x1, .int 0, .int g7, .int g8, .int g9, .int g10, .int g11, .int g12, .int g13, .long g14, .int (nI gr), .ref go]))] H := hP
    have hD : va_D A [(h0, .inr (8, [.int 4, .int 0, .int x3, .int 0, .int 0, .int x1, .int 0, .int g7, .int g8, .int g9, .int g10, .int g11, .int g12, .int g13, .long g14, .int (nI gr), .ref go]))] := hD
    refine lv_aload_n hx hb dX8_begin_43 rfl (lv_at hl 0 rfl) ?_
    refine lv_iconst (v := 0) hx hb dX8_begin_44 (by decide +kernel) ?_
    refine va_put (D := D) (ci := 8) (v := .int 0) (ty := .int) (C := RX8) (T := TX8) (N := 17) hx hb hts iw_X8_begin_8 tyX8 tyX8_ok nmX8 hown hC.1 hP hD hS 0 rfl rfl 7 (by decide +kernel) (hts (.fieldLink RX8 37 "FairWheel$Task" "deadline" "I") (by decide +kernel)) (fun _ h9 => h9) rfl (by decide +kernel) rfl rfl (Nat.le_of_ble_eq_true rfl) dX8_begin_45 (fun H locs hP hD hS => ?_)
    have hP : va_P D vwCl [(h0, .inr (8, [.int 4, .int 0, .int x3, .int 0, .int 0, .int x1, .int 0, .int 0, .int g8, .int g9, .int g10, .int g11, .int g12, .int g13, .long g14, .int (nI gr), .ref go]))] H := hP
    have hD : va_D A [(h0, .inr (8, [.int 4, .int 0, .int x3, .int 0, .int 0, .int x1, .int 0, .int 0, .int g8, .int g9, .int g10, .int g11, .int g12, .int g13, .long g14, .int (nI gr), .ref go]))] := hD
    refine lv_aload_n hx hb dX8_begin_48 rfl (lv_at hl 0 rfl) ?_
    refine lv_iconst (v := 0) hx hb dX8_begin_49 (by decide +kernel) ?_
    refine va_put (D := D) (ci := 8) (v := .int 0) (ty := .int) (C := RX8) (T := TX8) (N := 17) hx hb hts iw_X8_begin_8 tyX8 tyX8_ok nmX8 hown hC.1 hP hD hS 0 rfl rfl 8 (by decide +kernel) (hts (.fieldLink RX8 40 "FairWheel$Task" "error" "I") (by decide +kernel)) (fun _ h9 => h9) rfl (by decide +kernel) rfl rfl (Nat.le_of_ble_eq_true rfl) dX8_begin_50 (fun H locs hP hD hS => ?_)
    have hP : va_P D vwCl [(h0, .inr (8, [.int 4, .int 0, .int x3, .int 0, .int 0, .int x1, .int 0, .int 0, .int 0, .int g9, .int g10, .int g11, .int g12, .int g13, .long g14, .int (nI gr), .ref go]))] H := hP
    have hD : va_D A [(h0, .inr (8, [.int 4, .int 0, .int x3, .int 0, .int 0, .int x1, .int 0, .int 0, .int 0, .int g9, .int g10, .int g11, .int g12, .int g13, .long g14, .int (nI gr), .ref go]))] := hD
    refine lv_aload_n hx hb dX8_begin_53 rfl (lv_at hl 0 rfl) ?_
    refine lv_iconst (v := (-1)) hx hb dX8_begin_54 (by decide +kernel) ?_
    refine va_put (D := D) (ci := 8) (v := .int (-1)) (ty := .int) (C := RX8) (T := TX8) (N := 17) hx hb hts iw_X8_begin_8 tyX8 tyX8_ok nmX8 hown hC.1 hP hD hS 0 rfl rfl 9 (by decide +kernel) (hts (.fieldLink RX8 43 "FairWheel$Task" "target" "I") (by decide +kernel)) (fun _ h9 => h9) rfl (by decide +kernel) rfl rfl (Nat.le_of_ble_eq_true rfl) dX8_begin_55 (fun H locs hP hD hS => ?_)
    have hP : va_P D vwCl [(h0, .inr (8, [.int 4, .int 0, .int x3, .int 0, .int 0, .int x1, .int 0, .int 0, .int 0, .int (-1), .int g10, .int g11, .int g12, .int g13, .long g14, .int (nI gr), .ref go]))] H := hP
    have hD : va_D A [(h0, .inr (8, [.int 4, .int 0, .int x3, .int 0, .int 0, .int x1, .int 0, .int 0, .int 0, .int (-1), .int g10, .int g11, .int g12, .int g13, .long g14, .int (nI gr), .ref go]))] := hD
    refine lv_aload_n hx hb dX8_begin_58 rfl (lv_at hl 0 rfl) ?_
    refine lv_iconst (v := 0) hx hb dX8_begin_59 (by decide +kernel) ?_
    refine va_put (D := D) (ci := 8) (v := .int 0) (ty := .int) (C := RX8) (T := TX8) (N := 17) hx hb hts iw_X8_begin_8 tyX8 tyX8_ok nmX8 hown hC.1 hP hD hS 0 rfl rfl 10 (by decide +kernel) (hts (.fieldLink RX8 46 "FairWheel$Task" "missed" "I") (by decide +kernel)) (fun _ h9 => h9) rfl (by decide +kernel) rfl rfl (Nat.le_of_ble_eq_true rfl) dX8_begin_60 (fun H locs hP hD hS => ?_)
    have hP : va_P D vwCl [(h0, .inr (8, [.int 4, .int 0, .int x3, .int 0, .int 0, .int x1, .int 0, .int 0, .int 0, .int (-1), .int 0, .int g11, .int g12, .int g13, .long g14, .int (nI gr), .ref go]))] H := hP
    have hD : va_D A [(h0, .inr (8, [.int 4, .int 0, .int x3, .int 0, .int 0, .int x1, .int 0, .int 0, .int 0, .int (-1), .int 0, .int g11, .int g12, .int g13, .long g14, .int (nI gr), .ref go]))] := hD
    refine lv_aload_n hx hb dX8_begin_63 rfl (lv_at hl 0 rfl) ?_
    refine lv_iconst (v := 0) hx hb dX8_begin_64 (by decide +kernel) ?_
    refine va_put (D := D) (ci := 8) (v := .int 0) (ty := .int) (C := RX8) (T := TX8) (N := 17) hx hb hts iw_X8_begin_8 tyX8 tyX8_ok nmX8 hown hC.1 hP hD hS 0 rfl rfl 11 (by decide +kernel) (hts (.fieldLink RX8 49 "FairWheel$Task" "waited" "I") (by decide +kernel)) (fun _ h9 => h9) rfl (by decide +kernel) rfl rfl (Nat.le_of_ble_eq_true rfl) dX8_begin_65 (fun H locs hP hD hS => ?_)
    have hP : va_P D vwCl [(h0, .inr (8, [.int 4, .int 0, .int x3, .int 0, .int 0, .int x1, .int 0, .int 0, .int 0, .int (-1), .int 0, .int 0, .int g12, .int g13, .long g14, .int (nI gr), .ref go]))] H := hP
    have hD : va_D A [(h0, .inr (8, [.int 4, .int 0, .int x3, .int 0, .int 0, .int x1, .int 0, .int 0, .int 0, .int (-1), .int 0, .int 0, .int g12, .int g13, .long g14, .int (nI gr), .ref go]))] := hD
    refine lv_aload_n hx hb dX8_begin_68 rfl (lv_at hl 0 rfl) ?_
    refine lv_iconst (v := 0) hx hb dX8_begin_69 (by decide +kernel) ?_
    refine va_put (D := D) (ci := 8) (v := .int 0) (ty := .int) (C := RX8) (T := TX8) (N := 17) hx hb hts iw_X8_begin_8 tyX8 tyX8_ok nmX8 hown hC.1 hP hD hS 0 rfl rfl 12 (by decide +kernel) (hts (.fieldLink RX8 52 "FairWheel$Task" "longest" "I") (by decide +kernel)) (fun _ h9 => h9) rfl (by decide +kernel) rfl rfl (Nat.le_of_ble_eq_true rfl) dX8_begin_70 (fun H locs hP hD hS => ?_)
    have hP : va_P D vwCl [(h0, .inr (8, [.int 4, .int 0, .int x3, .int 0, .int 0, .int x1, .int 0, .int 0, .int 0, .int (-1), .int 0, .int 0, .int 0, .int g13, .long g14, .int (nI gr), .ref go]))] H := hP
    have hD : va_D A [(h0, .inr (8, [.int 4, .int 0, .int x3, .int 0, .int 0, .int x1, .int 0, .int 0, .int 0, .int (-1), .int 0, .int 0, .int 0, .int g13, .long g14, .int (nI gr), .ref go]))] := hD
    refine lv_aload_n hx hb dX8_begin_73 rfl (lv_at hl 0 rfl) ?_
    refine lv_iconst (v := 0) hx hb dX8_begin_74 (by decide +kernel) ?_
    refine va_put (D := D) (ci := 8) (v := .int 0) (ty := .int) (C := RX8) (T := TX8) (N := 17) hx hb hts iw_X8_begin_8 tyX8 tyX8_ok nmX8 hown hC.1 hP hD hS 0 rfl rfl 13 (by decide +kernel) (hts (.fieldLink RX8 55 "FairWheel$Task" "streak" "I") (by decide +kernel)) (fun _ h9 => h9) rfl (by decide +kernel) rfl rfl (Nat.le_of_ble_eq_true rfl) dX8_begin_75 (fun H locs hP hD hS => ?_)
    have hP : va_P D vwCl [(h0, .inr (8, [.int 4, .int 0, .int x3, .int 0, .int 0, .int x1, .int 0, .int 0, .int 0, .int (-1), .int 0, .int 0, .int 0, .int 0, .long g14, .int (nI gr), .ref go]))] H := hP
    have hD : va_D A [(h0, .inr (8, [.int 4, .int 0, .int x3, .int 0, .int 0, .int x1, .int 0, .int 0, .int 0, .int (-1), .int 0, .int 0, .int 0, .int 0, .long g14, .int (nI gr), .ref go]))] := hD
    refine lv_aload_n hx hb dX8_begin_78 rfl (lv_at hl 0 rfl) ?_
    refine lv_iconst (v := 0) hx hb dX8_begin_79 (by decide +kernel) ?_
    refine va_put (D := D) (ci := 8) (v := .int 0) (ty := .int) (C := RX8) (T := TX8) (N := 17) hx hb hts iw_X8_begin_8 tyX8 tyX8_ok nmX8 hown hC.1 hP hD hS 0 rfl rfl 15 (by decide +kernel) (hts (.fieldLink RX8 58 "FairWheel$Task" "ringSize" "I") (by decide +kernel)) (fun _ h9 => h9) rfl (by decide +kernel) rfl rfl (Nat.le_of_ble_eq_true rfl) dX8_begin_80 (fun H locs hP hD hS => ?_)
    have hP : va_P D vwCl [(h0, .inr (8, [.int 4, .int 0, .int x3, .int 0, .int 0, .int x1, .int 0, .int 0, .int 0, .int (-1), .int 0, .int 0, .int 0, .int 0, .long g14, .int 0, .ref go]))] H := hP
    have hD : va_D A [(h0, .inr (8, [.int 4, .int 0, .int x3, .int 0, .int 0, .int x1, .int 0, .int 0, .int 0, .int (-1), .int 0, .int 0, .int 0, .int 0, .long g14, .int 0, .ref go]))] := hD
    exact W.vret hx hb hr (fun t ht hW => ⟨⟨4, rfl, trivial, by rw [ht]; exact hP.sub [0] rfl, hDA (hD.sub [0] (by decide +kernel) rfl)⟩, hS.F ht⟩) hS.2.2 dX8_begin_83
  · refine lv_iconst (v := 0) hx hb dX8_begin_5 (by decide +kernel) ?_
    refine lv_goto (tgt := 10) hx hb dX8_begin_6 (by decide +kernel) ?_
    refine va_put (D := D) (ci := 8) (v := .int 0) (ty := .int) (C := RX8) (T := TX8) (N := 17) hx hb hts iw_X8_begin_8 tyX8 tyX8_ok nmX8 hown hC.1 hP hD hS 0 rfl rfl 0 (by decide +kernel) (hts (.fieldLink RX8 15 "FairWheel$Task" "phase" "I") (by decide +kernel)) (fun _ h9 => h9) rfl (by decide +kernel) rfl rfl (Nat.le_of_ble_eq_true rfl) dX8_begin_10 (fun H locs hP hD hS => ?_)
    have hP : va_P D vwCl [(h0, .inr (8, [.int 0, .int g1, .int g2, .int g3, .int g4, .int g5, .int g6, .int g7, .int g8, .int g9, .int g10, .int g11, .int g12, .int g13, .long g14, .int (nI gr), .ref go]))] H := hP
    have hD : va_D A [(h0, .inr (8, [.int 0, .int g1, .int g2, .int g3, .int g4, .int g5, .int g6, .int g7, .int g8, .int g9, .int g10, .int g11, .int g12, .int g13, .long g14, .int (nI gr), .ref go]))] := hD
    refine lv_aload_n hx hb dX8_begin_13 rfl (lv_at hl 0 rfl) ?_
    refine lv_iconst (v := 0) hx hb dX8_begin_14 (by decide +kernel) ?_
    refine va_put (D := D) (ci := 8) (v := .int 0) (ty := .int) (C := RX8) (T := TX8) (N := 17) hx hb hts iw_X8_begin_8 tyX8 tyX8_ok nmX8 hown hC.1 hP hD hS 0 rfl rfl 1 (by decide +kernel) (hts (.fieldLink RX8 19 "FairWheel$Task" "op" "I") (by decide +kernel)) (fun _ h9 => h9) rfl (by decide +kernel) rfl rfl (Nat.le_of_ble_eq_true rfl) dX8_begin_15 (fun H locs hP hD hS => ?_)
    have hP : va_P D vwCl [(h0, .inr (8, [.int 0, .int 0, .int g2, .int g3, .int g4, .int g5, .int g6, .int g7, .int g8, .int g9, .int g10, .int g11, .int g12, .int g13, .long g14, .int (nI gr), .ref go]))] H := hP
    have hD : va_D A [(h0, .inr (8, [.int 0, .int 0, .int g2, .int g3, .int g4, .int g5, .int g6, .int g7, .int g8, .int g9, .int g10, .int g11, .int g12, .int g13, .long g14, .int (nI gr), .ref go]))] := hD
    refine lv_aload_n hx hb dX8_begin_18 rfl (lv_at hl 0 rfl) ?_
    refine lv_iload_n hx hb dX8_begin_19 rfl (lv_at hl 3 rfl) ?_
    refine va_put (D := D) (ci := 8) (v := .int x3) (ty := .int) (C := RX8) (T := TX8) (N := 17) hx hb hts iw_X8_begin_8 tyX8 tyX8_ok nmX8 hown hC.1 hP hD hS 0 rfl rfl 2 (by decide +kernel) (hts (.fieldLink RX8 22 "FairWheel$Task" "left" "I") (by decide +kernel)) (fun _ h9 => h9) rfl (by decide +kernel) rfl rfl (Nat.le_of_ble_eq_true rfl) dX8_begin_20 (fun H locs hP hD hS => ?_)
    have hP : va_P D vwCl [(h0, .inr (8, [.int 0, .int 0, .int x3, .int g3, .int g4, .int g5, .int g6, .int g7, .int g8, .int g9, .int g10, .int g11, .int g12, .int g13, .long g14, .int (nI gr), .ref go]))] H := hP
    have hD : va_D A [(h0, .inr (8, [.int 0, .int 0, .int x3, .int g3, .int g4, .int g5, .int g6, .int g7, .int g8, .int g9, .int g10, .int g11, .int g12, .int g13, .long g14, .int (nI gr), .ref go]))] := hD
    refine lv_aload_n hx hb dX8_begin_23 rfl (lv_at hl 0 rfl) ?_
    refine lv_iconst (v := 0) hx hb dX8_begin_24 (by decide +kernel) ?_
    refine va_put (D := D) (ci := 8) (v := .int 0) (ty := .int) (C := RX8) (T := TX8) (N := 17) hx hb hts iw_X8_begin_8 tyX8 tyX8_ok nmX8 hown hC.1 hP hD hS 0 rfl rfl 3 (by decide +kernel) (hts (.fieldLink RX8 25 "FairWheel$Task" "virtual" "I") (by decide +kernel)) (fun _ h9 => h9) rfl (by decide +kernel) rfl rfl (Nat.le_of_ble_eq_true rfl) dX8_begin_25 (fun H locs hP hD hS => ?_)
    have hP : va_P D vwCl [(h0, .inr (8, [.int 0, .int 0, .int x3, .int 0, .int g4, .int g5, .int g6, .int g7, .int g8, .int g9, .int g10, .int g11, .int g12, .int g13, .long g14, .int (nI gr), .ref go]))] H := hP
    have hD : va_D A [(h0, .inr (8, [.int 0, .int 0, .int x3, .int 0, .int g4, .int g5, .int g6, .int g7, .int g8, .int g9, .int g10, .int g11, .int g12, .int g13, .long g14, .int (nI gr), .ref go]))] := hD
    refine lv_aload_n hx hb dX8_begin_28 rfl (lv_at hl 0 rfl) ?_
    refine lv_iconst (v := 0) hx hb dX8_begin_29 (by decide +kernel) ?_
    refine va_put (D := D) (ci := 8) (v := .int 0) (ty := .int) (C := RX8) (T := TX8) (N := 17) hx hb hts iw_X8_begin_8 tyX8 tyX8_ok nmX8 hown hC.1 hP hD hS 0 rfl rfl 4 (by decide +kernel) (hts (.fieldLink RX8 28 "FairWheel$Task" "rest" "I") (by decide +kernel)) (fun _ h9 => h9) rfl (by decide +kernel) rfl rfl (Nat.le_of_ble_eq_true rfl) dX8_begin_30 (fun H locs hP hD hS => ?_)
    have hP : va_P D vwCl [(h0, .inr (8, [.int 0, .int 0, .int x3, .int 0, .int 0, .int g5, .int g6, .int g7, .int g8, .int g9, .int g10, .int g11, .int g12, .int g13, .long g14, .int (nI gr), .ref go]))] H := hP
    have hD : va_D A [(h0, .inr (8, [.int 0, .int 0, .int x3, .int 0, .int 0, .int g5, .int g6, .int g7, .int g8, .int g9, .int g10, .int g11, .int g12, .int g13, .long g14, .int (nI gr), .ref go]))] := hD
    refine lv_aload_n hx hb dX8_begin_33 rfl (lv_at hl 0 rfl) ?_
    refine lv_iload_n hx hb dX8_begin_34 rfl (lv_at hl 1 rfl) ?_
    refine va_put (D := D) (ci := 8) (v := .int x1) (ty := .int) (C := RX8) (T := TX8) (N := 17) hx hb hts iw_X8_begin_8 tyX8 tyX8_ok nmX8 hown hC.1 hP hD hS 0 rfl rfl 5 (by decide +kernel) (hts (.fieldLink RX8 31 "FairWheel$Task" "weight" "I") (by decide +kernel)) (fun _ h9 => h9) rfl (by decide +kernel) rfl rfl (Nat.le_of_ble_eq_true rfl) dX8_begin_35 (fun H locs hP hD hS => ?_)
    have hP : va_P D vwCl [(h0, .inr (8, [.int 0, .int 0, .int x3, .int 0, .int 0, .int x1, .int g6, .int g7, .int g8, .int g9, .int g10, .int g11, .int g12, .int g13, .long g14, .int (nI gr), .ref go]))] H := hP
    have hD : va_D A [(h0, .inr (8, [.int 0, .int 0, .int x3, .int 0, .int 0, .int x1, .int g6, .int g7, .int g8, .int g9, .int g10, .int g11, .int g12, .int g13, .long g14, .int (nI gr), .ref go]))] := hD
    refine lv_aload_n hx hb dX8_begin_38 rfl (lv_at hl 0 rfl) ?_
    refine lv_iconst (v := 0) hx hb dX8_begin_39 (by decide +kernel) ?_
    refine va_put (D := D) (ci := 8) (v := .int 0) (ty := .int) (C := RX8) (T := TX8) (N := 17) hx hb hts iw_X8_begin_8 tyX8 tyX8_ok nmX8 hown hC.1 hP hD hS 0 rfl rfl 6 (by decide +kernel) (hts (.fieldLink RX8 34 "FairWheel$Task" "budget" "I") (by decide +kernel)) (fun _ h9 => h9) rfl (by decide +kernel) rfl rfl (Nat.le_of_ble_eq_true rfl) dX8_begin_40 (fun H locs hP hD hS => ?_)
    have hP : va_P D vwCl [(h0, .inr (8, [.int 0, .int 0, .int x3, .int 0, .int 0, .int x1, .int 0, .int g7, .int g8, .int g9, .int g10, .int g11, .int g12, .int g13, .long g14, .int (nI gr), .ref go]))] H := hP
    have hD : va_D A [(h0, .inr (8, [.int 0, .int 0, .int x3, .int 0, .int 0, .int x1, .int 0, .int g7, .int g8, .int g9, .int g10, .int g11, .int g12, .int g13, .long g14, .int (nI gr), .ref go]))] := hD
    refine lv_aload_n hx hb dX8_begin_43 rfl (lv_at hl 0 rfl) ?_
    refine lv_iconst (v := 0) hx hb dX8_begin_44 (by decide +kernel) ?_
    refine va_put (D := D) (ci := 8) (v := .int 0) (ty := .int) (C := RX8) (T := TX8) (N := 17) hx hb hts iw_X8_begin_8 tyX8 tyX8_ok nmX8 hown hC.1 hP hD hS 0 rfl rfl 7 (by decide +kernel) (hts (.fieldLink RX8 37 "FairWheel$Task" "deadline" "I") (by decide +kernel)) (fun _ h9 => h9) rfl (by decide +kernel) rfl rfl (Nat.le_of_ble_eq_true rfl) dX8_begin_45 (fun H locs hP hD hS => ?_)
    have hP : va_P D vwCl [(h0, .inr (8, [.int 0, .int 0, .int x3, .int 0, .int 0, .int x1, .int 0, .int 0, .int g8, .int g9, .int g10, .int g11, .int g12, .int g13, .long g14, .int (nI gr), .ref go]))] H := hP
    have hD : va_D A [(h0, .inr (8, [.int 0, .int 0, .int x3, .int 0, .int 0, .int x1, .int 0, .int 0, .int g8, .int g9, .int g10, .int g11, .int g12, .int g13, .long g14, .int (nI gr), .ref go]))] := hD
    refine lv_aload_n hx hb dX8_begin_48 rfl (lv_at hl 0 rfl) ?_
    refine lv_iconst (v := 0) hx hb dX8_begin_49 (by decide +kernel) ?_
    refine va_put (D := D) (ci := 8) (v := .int 0) (ty := .int) (C := RX8) (T := TX8) (N := 17) hx hb hts iw_X8_begin_8 tyX8 tyX8_ok nmX8 hown hC.1 hP hD hS 0 rfl rfl 8 (by decide +kernel) (hts (.fieldLink RX8 40 "FairWheel$Task" "error" "I") (by decide +kernel)) (fun _ h9 => h9) rfl (by decide +kernel) rfl rfl (Nat.le_of_ble_eq_true rfl) dX8_begin_50 (fun H locs hP hD hS => ?_)
    have hP : va_P D vwCl [(h0, .inr (8, [.int 0, .int 0, .int x3, .int 0, .int 0, .int x1, .int 0, .int 0, .int 0, .int g9, .int g10, .int g11, .int g12, .int g13, .long g14, .int (nI gr), .ref go]))] H := hP
    have hD : va_D A [(h0, .inr (8, [.int 0, .int 0, .int x3, .int 0, .int 0, .int x1, .int 0, .int 0, .int 0, .int g9, .int g10, .int g11, .int g12, .int g13, .long g14, .int (nI gr), .ref go]))] := hD
    refine lv_aload_n hx hb dX8_begin_53 rfl (lv_at hl 0 rfl) ?_
    refine lv_iconst (v := (-1)) hx hb dX8_begin_54 (by decide +kernel) ?_
    refine va_put (D := D) (ci := 8) (v := .int (-1)) (ty := .int) (C := RX8) (T := TX8) (N := 17) hx hb hts iw_X8_begin_8 tyX8 tyX8_ok nmX8 hown hC.1 hP hD hS 0 rfl rfl 9 (by decide +kernel) (hts (.fieldLink RX8 43 "FairWheel$Task" "target" "I") (by decide +kernel)) (fun _ h9 => h9) rfl (by decide +kernel) rfl rfl (Nat.le_of_ble_eq_true rfl) dX8_begin_55 (fun H locs hP hD hS => ?_)
    have hP : va_P D vwCl [(h0, .inr (8, [.int 0, .int 0, .int x3, .int 0, .int 0, .int x1, .int 0, .int 0, .int 0, .int (-1), .int g10, .int g11, .int g12, .int g13, .long g14, .int (nI gr), .ref go]))] H := hP
    have hD : va_D A [(h0, .inr (8, [.int 0, .int 0, .int x3, .int 0, .int 0, .int x1, .int 0, .int 0, .int 0, .int (-1), .int g10, .int g11, .int g12, .int g13, .long g14, .int (nI gr), .ref go]))] := hD
    refine lv_aload_n hx hb dX8_begin_58 rfl (lv_at hl 0 rfl) ?_
    refine lv_iconst (v := 0) hx hb dX8_begin_59 (by decide +kernel) ?_
    refine va_put (D := D) (ci := 8) (v := .int 0) (ty := .int) (C := RX8) (T := TX8) (N := 17) hx hb hts iw_X8_begin_8 tyX8 tyX8_ok nmX8 hown hC.1 hP hD hS 0 rfl rfl 10 (by decide +kernel) (hts (.fieldLink RX8 46 "FairWheel$Task" "missed" "I") (by decide +kernel)) (fun _ h9 => h9) rfl (by decide +kernel) rfl rfl (Nat.le_of_ble_eq_true rfl) dX8_begin_60 (fun H locs hP hD hS => ?_)
    have hP : va_P D vwCl [(h0, .inr (8, [.int 0, .int 0, .int x3, .int 0, .int 0, .int x1, .int 0, .int 0, .int 0, .int (-1), .int 0, .int g11, .int g12, .int g13, .long g14, .int (nI gr), .ref go]))] H := hP
    have hD : va_D A [(h0, .inr (8, [.int 0, .int 0, .int x3, .int 0, .int 0, .int x1, .int 0, .int 0, .int 0, .int (-1), .int 0, .int g11, .int g12, .int g13, .long g14, .int (nI gr), .ref go]))] := hD
    refine lv_aload_n hx hb dX8_begin_63 rfl (lv_at hl 0 rfl) ?_
    refine lv_iconst (v := 0) hx hb dX8_begin_64 (by decide +kernel) ?_
    refine va_put (D := D) (ci := 8) (v := .int 0) (ty := .int) (C := RX8) (T := TX8) (N := 17) hx hb hts iw_X8_begin_8 tyX8 tyX8_ok nmX8 hown hC.1 hP hD hS 0 rfl rfl 11 (by decide +kernel) (hts (.fieldLink RX8 49 "FairWheel$Task" "waited" "I") (by decide +kernel)) (fun _ h9 => h9) rfl (by decide +kernel) rfl rfl (Nat.le_of_ble_eq_true rfl) dX8_begin_65 (fun H locs hP hD hS => ?_)
    have hP : va_P D vwCl [(h0, .inr (8, [.int 0, .int 0, .int x3, .int 0, .int 0, .int x1, .int 0, .int 0, .int 0, .int (-1), .int 0, .int 0, .int g12, .int g13, .long g14, .int (nI gr), .ref go]))] H := hP
    have hD : va_D A [(h0, .inr (8, [.int 0, .int 0, .int x3, .int 0, .int 0, .int x1, .int 0, .int 0, .int 0, .int (-1), .int 0, .int 0, .int g12, .int g13, .long g14, .int (nI gr), .ref go]))] := hD
    refine lv_aload_n hx hb dX8_begin_68 rfl (lv_at hl 0 rfl) ?_
    refine lv_iconst (v := 0) hx hb dX8_begin_69 (by decide +kernel) ?_
    refine va_put (D := D) (ci := 8) (v := .int 0) (ty := .int) (C := RX8) (T := TX8) (N := 17) hx hb hts iw_X8_begin_8 tyX8 tyX8_ok nmX8 hown hC.1 hP hD hS 0 rfl rfl 12 (by decide +kernel) (hts (.fieldLink RX8 52 "FairWheel$Task" "longest" "I") (by decide +kernel)) (fun _ h9 => h9) rfl (by decide +kernel) rfl rfl (Nat.le_of_ble_eq_true rfl) dX8_begin_70 (fun H locs hP hD hS => ?_)
    have hP : va_P D vwCl [(h0, .inr (8, [.int 0, .int 0, .int x3, .int 0, .int 0, .int x1, .int 0, .int 0, .int 0, .int (-1), .int 0, .int 0, .int 0, .int g13, .long g14, .int (nI gr), .ref go]))] H := hP
    have hD : va_D A [(h0, .inr (8, [.int 0, .int 0, .int x3, .int 0, .int 0, .int x1, .int 0, .int 0, .int 0, .int (-1), .int 0, .int 0, .int 0, .int g13, .long g14, .int (nI gr), .ref go]))] := hD
    refine lv_aload_n hx hb dX8_begin_73 rfl (lv_at hl 0 rfl) ?_
    refine lv_iconst (v := 0) hx hb dX8_begin_74 (by decide +kernel) ?_
    refine va_put (D := D) (ci := 8) (v := .int 0) (ty := .int) (C := RX8) (T := TX8) (N := 17) hx hb hts iw_X8_begin_8 tyX8 tyX8_ok nmX8 hown hC.1 hP hD hS 0 rfl rfl 13 (by decide +kernel) (hts (.fieldLink RX8 55 "FairWheel$Task" "streak" "I") (by decide +kernel)) (fun _ h9 => h9) rfl (by decide +kernel) rfl rfl (Nat.le_of_ble_eq_true rfl) dX8_begin_75 (fun H locs hP hD hS => ?_)
    have hP : va_P D vwCl [(h0, .inr (8, [.int 0, .int 0, .int x3, .int 0, .int 0, .int x1, .int 0, .int 0, .int 0, .int (-1), .int 0, .int 0, .int 0, .int 0, .long g14, .int (nI gr), .ref go]))] H := hP
    have hD : va_D A [(h0, .inr (8, [.int 0, .int 0, .int x3, .int 0, .int 0, .int x1, .int 0, .int 0, .int 0, .int (-1), .int 0, .int 0, .int 0, .int 0, .long g14, .int (nI gr), .ref go]))] := hD
    refine lv_aload_n hx hb dX8_begin_78 rfl (lv_at hl 0 rfl) ?_
    refine lv_iconst (v := 0) hx hb dX8_begin_79 (by decide +kernel) ?_
    refine va_put (D := D) (ci := 8) (v := .int 0) (ty := .int) (C := RX8) (T := TX8) (N := 17) hx hb hts iw_X8_begin_8 tyX8 tyX8_ok nmX8 hown hC.1 hP hD hS 0 rfl rfl 15 (by decide +kernel) (hts (.fieldLink RX8 58 "FairWheel$Task" "ringSize" "I") (by decide +kernel)) (fun _ h9 => h9) rfl (by decide +kernel) rfl rfl (Nat.le_of_ble_eq_true rfl) dX8_begin_80 (fun H locs hP hD hS => ?_)
    have hP : va_P D vwCl [(h0, .inr (8, [.int 0, .int 0, .int x3, .int 0, .int 0, .int x1, .int 0, .int 0, .int 0, .int (-1), .int 0, .int 0, .int 0, .int 0, .long g14, .int 0, .ref go]))] H := hP
    have hD : va_D A [(h0, .inr (8, [.int 0, .int 0, .int x3, .int 0, .int 0, .int x1, .int 0, .int 0, .int 0, .int (-1), .int 0, .int 0, .int 0, .int 0, .long g14, .int 0, .ref go]))] := hD
    exact W.vret hx hb hr (fun t ht hW => ⟨⟨0, rfl, trivial, by rw [ht]; exact hP.sub [0] rfl, hDA (hD.sub [0] (by decide +kernel) rfl)⟩, hS.F ht⟩) hS.2.2 dX8_begin_83
theorem iw_X8_isLockedFor_8 : ∀ w ∈ u_ws RX8 TX8 17, w ∈ wsX8_isLockedFor := by decide +kernel
set_option maxHeartbeats 4000000 in
set_option maxRecDepth 100000 in
theorem s_X8_isLockedFor (l : Launch) (D : va_G) (ca : Nat → ClassId) (sz : Nat) (h0 : Nat) (g0 : Int32) (g1 : Int32) (g2 : Int32) (g3 : Int32) (g4 : Int32) (g5 : Int32) (g6 : Int32) (g7 : Int32) (g8 : Int32) (g9 : Int32) (g10 : Int32) (g11 : Int32) (g12 : Int32) (g13 : Int32) (g14 : Int64) (gr : Nat) (go : Nat) (x1 : Int32) : Met l yX8_isLockedFor wsX8_isLockedFor ({ frames := 0, cells := 0, slots := 0, locals := 0 }) (PC [.ref h0, .int x1] sz D ca [(h0, .inr (8, [.int g0, .int g1, .int g2, .int g3, .int g4, .int g5, .int g6, .int g7, .int g8, .int g9, .int g10, .int g11, .int g12, .int g13, .long g14, .int (nI gr), .ref go]))]) (QI (fun (r : Int32) (u : Unit) => r = 0 ∨ r = 1) (fun (_ : Unit) => [(h0, .inr (8, [.int g0, .int g1, .int g2, .int g3, .int g4, .int g5, .int g6, .int g7, .int g8, .int g9, .int g10, .int g11, .int g12, .int g13, .long g14, .int (nI gr), .ref go]))]) [(h0, .inr (8, [.int g0, .int g1, .int g2, .int g3, .int g4, .int g5, .int g6, .int g7, .int g8, .int g9, .int g10, .int g11, .int g12, .int g13, .long g14, .int (nI gr), .ref go]))] sz D) 0 0 (va_A [(h0, .inr (8, [.int g0, .int g1, .int g2, .int g3, .int g4, .int g5, .int g6, .int g7, .int g8, .int g9, .int g10, .int g11, .int g12, .int g13, .long g14, .int (nI gr), .ref go]))] sz) := by
  refine Met.ofW (cc := cX8_isLockedFor) (maxL := 2) (ret := (some .boolean)) (by decide +kernel) rfl ?_
  intro p e s m args below meth c s₁ B hml hv
  obtain ⟨rfl, hsz, hP, hC, hD0⟩ := hv
  have hx := B.exec
  have hb := B.bytes
  have hr := B.returns
  have hts := atoms_spec (ws := wsX8_isLockedFor) B.pre
  have hown : s.vm.findClass RX8 = some m.cls := findClass_of_methodNamed B.named
  have hlocks := B.notSynchronized
  subst hsz
  have hD := hD0.self (sz := s.heap.size)
  dsimp only [QV, QI, QL, BQ]
  generalize hAe : va_A [(h0, .inr (8, [.int g0, .int g1, .int g2, .int g3, .int g4, .int g5, .int g6, .int g7, .int g8, .int g9, .int g10, .int g11, .int g12, .int g13, .long g14, .int (nI gr), .ref go]))] s.heap.size = A at hD ⊢
  have hA : ∀ q : Nat, s.heap.size ≤ q → A q := fun q h => by rw [← hAe]; exact Or.inr h
  have hDA : ∀ {w : va_W}, va_D A w → va_D (va_A [(h0, .inr (8, [.int g0, .int g1, .int g2, .int g3, .int g4, .int g5, .int g6, .int g7, .int g8, .int g9, .int g10, .int g11, .int g12, .int g13, .long g14, .int (nI gr), .ref go]))] s.heap.size) w := fun h => by rw [hAe]; exact h
  have hS : va_S A s.heap s.heap [] := va_S.rf
  have hP : va_P D vwCl [(h0, .inr (8, [.int g0, .int g1, .int g2, .int g3, .int g4, .int g5, .int g6, .int g7, .int g8, .int g9, .int g10, .int g11, .int g12, .int g13, .long g14, .int (nI gr), .ref go]))] s.heap := hP
  have hl := lv_entry ([.ref h0, .int x1]) (n := 2) (Nat.le_of_ble_eq_true rfl)
  rw [lg_entry_eq]
  generalize (lg_sl ([.ref h0, .int x1]) ++ List.replicate (2 - (lg_sl ([.ref h0, .int x1])).length) Slot.unset).toArray = ls at hl ⊢
  have hl : lv_has ls 2 [(0, .ref h0), (1, .int x1)] := hl
  refine lv_aload_n hx hb dX8_isLockedFor_0 rfl (lv_at hl 0 rfl) ?_
  refine va_get (D := D) (ci := 8) (v := .int g0) (C := RX8) (T := TX8) (N := 17) hx hb hts iw_X8_isLockedFor_8 hown hC.1 hP 0 rfl rfl 0 (by decide +kernel) (hts (.fieldLink RX8 15 "FairWheel$Task" "phase" "I") (by decide +kernel)) (fun _ h9 => h9) rfl dX8_isLockedFor_1 ?_
  refine lv_iconst (v := 1) hx hb dX8_isLockedFor_4 (by decide +kernel) ?_
  refine lv_icmp_ne (tgt := 20) hx hb dX8_isLockedFor_5 (by decide +kernel) (fun c_1 => ?_) (fun c_1 => ?_)
  · refine lv_iconst (v := 0) hx hb dX8_isLockedFor_20 (by decide +kernel) ?_
    exact W.zret (v := 0) hx hb hr (rfl) (fun t ht hW => ⟨⟨0, (), rfl, (Or.inl rfl), by rw [ht]; exact hP.sub [0] rfl, hDA (hD.sub [0] (by decide +kernel) rfl)⟩, hS.F ht⟩) hS.2.2 dX8_isLockedFor_21
  · refine lv_aload_n hx hb dX8_isLockedFor_8 rfl (lv_at hl 0 rfl) ?_
    refine va_get (D := D) (ci := 8) (v := .int g9) (C := RX8) (T := TX8) (N := 17) hx hb hts iw_X8_isLockedFor_8 hown hC.1 hP 0 rfl rfl 9 (by decide +kernel) (hts (.fieldLink RX8 43 "FairWheel$Task" "target" "I") (by decide +kernel)) (fun _ h9 => h9) rfl dX8_isLockedFor_9 ?_
    refine lv_iload_n hx hb dX8_isLockedFor_12 rfl (lv_at hl 1 rfl) ?_
    refine lv_icmp_ne (tgt := 20) hx hb dX8_isLockedFor_13 (by decide +kernel) (fun c_2 => ?_) (fun c_2 => ?_)
    · refine lv_iconst (v := 0) hx hb dX8_isLockedFor_20 (by decide +kernel) ?_
      exact W.zret (v := 0) hx hb hr (rfl) (fun t ht hW => ⟨⟨0, (), rfl, (Or.inl rfl), by rw [ht]; exact hP.sub [0] rfl, hDA (hD.sub [0] (by decide +kernel) rfl)⟩, hS.F ht⟩) hS.2.2 dX8_isLockedFor_21
    · refine lv_iconst (v := 1) hx hb dX8_isLockedFor_16 (by decide +kernel) ?_
      refine lv_goto (tgt := 21) hx hb dX8_isLockedFor_17 (by decide +kernel) ?_
      exact W.zret (v := 1) hx hb hr (rfl) (fun t ht hW => ⟨⟨1, (), rfl, (Or.inr rfl), by rw [ht]; exact hP.sub [0] rfl, hDA (hD.sub [0] (by decide +kernel) rfl)⟩, hS.F ht⟩) hS.2.2 dX8_isLockedFor_21
theorem iw_X8_stop_8 : ∀ w ∈ u_ws RX8 TX8 17, w ∈ wsX8_stop := by decide +kernel
set_option maxHeartbeats 4000000 in
set_option maxRecDepth 100000 in
theorem s_X8_stop (l : Launch) (D : va_G) (ca : Nat → ClassId) (sz : Nat) (h0 : Nat) (g0 : Int32) (g1 : Int32) (g2 : Int32) (g3 : Int32) (g4 : Int32) (g5 : Int32) (g6 : Int32) (g7 : Int32) (g8 : Int32) (g9 : Int32) (g10 : Int32) (g11 : Int32) (g12 : Int32) (g13 : Int32) (g14 : Int64) (gr : Nat) (go : Nat) (x1 : Int32) (x2 : Int32) : Met l yX8_stop wsX8_stop ({ frames := 0, cells := 0, slots := 0, locals := 0 }) (PC [.ref h0, .int x1, .int x2] sz D ca [(h0, .inr (8, [.int g0, .int g1, .int g2, .int g3, .int g4, .int g5, .int g6, .int g7, .int g8, .int g9, .int g10, .int g11, .int g12, .int g13, .long g14, .int (nI gr), .ref go]))]) (QV (fun (u : Unit) => True) (fun (_ : Unit) => [(h0, .inr (8, [.int x1, .int g1, .int g2, .int g3, .int g4, .int g5, .int g6, .int g7, .int g8, .int x2, .int g10, .int g11, .int g12, .int g13, .long g14, .int (nI gr), .ref go]))]) [(h0, .inr (8, [.int g0, .int g1, .int g2, .int g3, .int g4, .int g5, .int g6, .int g7, .int g8, .int g9, .int g10, .int g11, .int g12, .int g13, .long g14, .int (nI gr), .ref go]))] sz D) 0 0 (va_A [(h0, .inr (8, [.int g0, .int g1, .int g2, .int g3, .int g4, .int g5, .int g6, .int g7, .int g8, .int g9, .int g10, .int g11, .int g12, .int g13, .long g14, .int (nI gr), .ref go]))] sz) := by
  refine Met.ofW (cc := cX8_stop) (maxL := 3) (ret := none) (by decide +kernel) rfl ?_
  intro p e s m args below meth c s₁ B hml hv
  obtain ⟨rfl, hsz, hP, hC, hD0⟩ := hv
  have hx := B.exec
  have hb := B.bytes
  have hr := B.returns
  have hts := atoms_spec (ws := wsX8_stop) B.pre
  have hown : s.vm.findClass RX8 = some m.cls := findClass_of_methodNamed B.named
  have hlocks := B.notSynchronized
  subst hsz
  have hD := hD0.self (sz := s.heap.size)
  dsimp only [QV, QI, QL, BQ]
  generalize hAe : va_A [(h0, .inr (8, [.int g0, .int g1, .int g2, .int g3, .int g4, .int g5, .int g6, .int g7, .int g8, .int g9, .int g10, .int g11, .int g12, .int g13, .long g14, .int (nI gr), .ref go]))] s.heap.size = A at hD ⊢
  have hA : ∀ q : Nat, s.heap.size ≤ q → A q := fun q h => by rw [← hAe]; exact Or.inr h
  have hDA : ∀ {w : va_W}, va_D A w → va_D (va_A [(h0, .inr (8, [.int g0, .int g1, .int g2, .int g3, .int g4, .int g5, .int g6, .int g7, .int g8, .int g9, .int g10, .int g11, .int g12, .int g13, .long g14, .int (nI gr), .ref go]))] s.heap.size) w := fun h => by rw [hAe]; exact h
  have hS : va_S A s.heap s.heap [] := va_S.rf
  have hP : va_P D vwCl [(h0, .inr (8, [.int g0, .int g1, .int g2, .int g3, .int g4, .int g5, .int g6, .int g7, .int g8, .int g9, .int g10, .int g11, .int g12, .int g13, .long g14, .int (nI gr), .ref go]))] s.heap := hP
  have hl := lv_entry ([.ref h0, .int x1, .int x2]) (n := 3) (Nat.le_of_ble_eq_true rfl)
  rw [lg_entry_eq]
  generalize (lg_sl ([.ref h0, .int x1, .int x2]) ++ List.replicate (3 - (lg_sl ([.ref h0, .int x1, .int x2])).length) Slot.unset).toArray = ls at hl ⊢
  have hl : lv_has ls 3 [(0, .ref h0), (1, .int x1), (2, .int x2)] := hl
  refine lv_aload_n hx hb dX8_stop_0 rfl (lv_at hl 0 rfl) ?_
  refine lv_iload_n hx hb dX8_stop_1 rfl (lv_at hl 1 rfl) ?_
  refine va_put (D := D) (ci := 8) (v := .int x1) (ty := .int) (C := RX8) (T := TX8) (N := 17) hx hb hts iw_X8_stop_8 tyX8 tyX8_ok nmX8 hown hC.1 hP hD hS 0 rfl rfl 0 (by decide +kernel) (hts (.fieldLink RX8 15 "FairWheel$Task" "phase" "I") (by decide +kernel)) (fun _ h9 => h9) rfl (by decide +kernel) rfl rfl (Nat.le_of_ble_eq_true rfl) dX8_stop_2 (fun H locs hP hD hS => ?_)
  have hP : va_P D vwCl [(h0, .inr (8, [.int x1, .int g1, .int g2, .int g3, .int g4, .int g5, .int g6, .int g7, .int g8, .int g9, .int g10, .int g11, .int g12, .int g13, .long g14, .int (nI gr), .ref go]))] H := hP
  have hD : va_D A [(h0, .inr (8, [.int x1, .int g1, .int g2, .int g3, .int g4, .int g5, .int g6, .int g7, .int g8, .int g9, .int g10, .int g11, .int g12, .int g13, .long g14, .int (nI gr), .ref go]))] := hD
  refine lv_aload_n hx hb dX8_stop_5 rfl (lv_at hl 0 rfl) ?_
  refine lv_iload_n hx hb dX8_stop_6 rfl (lv_at hl 2 rfl) ?_
  refine va_put (D := D) (ci := 8) (v := .int x2) (ty := .int) (C := RX8) (T := TX8) (N := 17) hx hb hts iw_X8_stop_8 tyX8 tyX8_ok nmX8 hown hC.1 hP hD hS 0 rfl rfl 9 (by decide +kernel) (hts (.fieldLink RX8 43 "FairWheel$Task" "target" "I") (by decide +kernel)) (fun _ h9 => h9) rfl (by decide +kernel) rfl rfl (Nat.le_of_ble_eq_true rfl) dX8_stop_7 (fun H locs hP hD hS => ?_)
  have hP : va_P D vwCl [(h0, .inr (8, [.int x1, .int g1, .int g2, .int g3, .int g4, .int g5, .int g6, .int g7, .int g8, .int x2, .int g10, .int g11, .int g12, .int g13, .long g14, .int (nI gr), .ref go]))] H := hP
  have hD : va_D A [(h0, .inr (8, [.int x1, .int g1, .int g2, .int g3, .int g4, .int g5, .int g6, .int g7, .int g8, .int x2, .int g10, .int g11, .int g12, .int g13, .long g14, .int (nI gr), .ref go]))] := hD
  exact W.vret hx hb hr (fun t ht hW => ⟨⟨(), rfl, trivial, by rw [ht]; exact hP.sub [0] rfl, hDA (hD.sub [0] (by decide +kernel) rfl)⟩, hS.F ht⟩) hS.2.2 dX8_stop_10
theorem iw_X8_countWait_8 : ∀ w ∈ u_ws RX8 TX8 17, w ∈ wsX8_countWait := by decide +kernel
set_option maxHeartbeats 4000000 in
set_option maxRecDepth 100000 in
theorem s_X8_countWait (l : Launch) (D : va_G) (ca : Nat → ClassId) (sz : Nat) (h0 : Nat) (g0 : Int32) (g1 : Int32) (g2 : Int32) (g3 : Int32) (g4 : Int32) (g5 : Int32) (g6 : Int32) (g7 : Int32) (g8 : Int32) (g9 : Int32) (g10 : Int32) (g11 : Int32) (g12 : Int32) (g13 : Int32) (g14 : Int64) (gr : Nat) (go : Nat) (x1 : Int32) : Met l yX8_countWait wsX8_countWait ({ frames := 1, cells := 0, slots := 0, locals := 14 }) (PC [.ref h0, .int x1] sz D ca [(h0, .inr (8, [.int g0, .int g1, .int g2, .int g3, .int g4, .int g5, .int g6, .int g7, .int g8, .int g9, .int g10, .int g11, .int g12, .int g13, .long g14, .int (nI gr), .ref go]))]) (QV (fun (u : Int32 × Int32 × Int32) => True) (fun (u : Int32 × Int32 × Int32) => [(h0, .inr (8, [.int g0, .int g1, .int g2, .int g3, .int g4, .int g5, .int g6, .int g7, .int g8, .int g9, .int g10, .int u.1, .int u.2.1, .int u.2.2, .long g14, .int (nI gr), .ref go]))]) [(h0, .inr (8, [.int g0, .int g1, .int g2, .int g3, .int g4, .int g5, .int g6, .int g7, .int g8, .int g9, .int g10, .int g11, .int g12, .int g13, .long g14, .int (nI gr), .ref go]))] sz D) 0 0 (va_A [(h0, .inr (8, [.int g0, .int g1, .int g2, .int g3, .int g4, .int g5, .int g6, .int g7, .int g8, .int g9, .int g10, .int g11, .int g12, .int g13, .long g14, .int (nI gr), .ref go]))] sz) := by
  refine Met.ofW (cc := cX8_countWait) (maxL := 2) (ret := none) (by decide +kernel) rfl ?_
  intro p e s m args below meth c s₁ B hml hv
  obtain ⟨rfl, hsz, hP, hC, hD0⟩ := hv
  have hx := B.exec
  have hb := B.bytes
  have hr := B.returns
  have hts := atoms_spec (ws := wsX8_countWait) B.pre
  have hown : s.vm.findClass RX8 = some m.cls := findClass_of_methodNamed B.named
  have hlocks := B.notSynchronized
  subst hsz
  have hD := hD0.self (sz := s.heap.size)
  dsimp only [QV, QI, QL, BQ]
  generalize hAe : va_A [(h0, .inr (8, [.int g0, .int g1, .int g2, .int g3, .int g4, .int g5, .int g6, .int g7, .int g8, .int g9, .int g10, .int g11, .int g12, .int g13, .long g14, .int (nI gr), .ref go]))] s.heap.size = A at hD ⊢
  have hA : ∀ q : Nat, s.heap.size ≤ q → A q := fun q h => by rw [← hAe]; exact Or.inr h
  have hDA : ∀ {w : va_W}, va_D A w → va_D (va_A [(h0, .inr (8, [.int g0, .int g1, .int g2, .int g3, .int g4, .int g5, .int g6, .int g7, .int g8, .int g9, .int g10, .int g11, .int g12, .int g13, .long g14, .int (nI gr), .ref go]))] s.heap.size) w := fun h => by rw [hAe]; exact h
  have hS : va_S A s.heap s.heap [] := va_S.rf
  have hP : va_P D vwCl [(h0, .inr (8, [.int g0, .int g1, .int g2, .int g3, .int g4, .int g5, .int g6, .int g7, .int g8, .int g9, .int g10, .int g11, .int g12, .int g13, .long g14, .int (nI gr), .ref go]))] s.heap := hP
  have hl := lv_entry ([.ref h0, .int x1]) (n := 2) (Nat.le_of_ble_eq_true rfl)
  rw [lg_entry_eq]
  generalize (lg_sl ([.ref h0, .int x1]) ++ List.replicate (2 - (lg_sl ([.ref h0, .int x1])).length) Slot.unset).toArray = ls at hl ⊢
  have hl : lv_has ls 2 [(0, .ref h0), (1, .int x1)] := hl
  refine lv_iload_n hx hb dX8_countWait_0 rfl (lv_at hl 1 rfl) ?_
  refine lv_if_eq (tgt := 10) hx hb dX8_countWait_1 (by decide +kernel) (fun c_1 => ?_) (fun c_1 => ?_)
  · refine lv_aload_n hx hb dX8_countWait_10 rfl (lv_at hl 0 rfl) ?_
    refine lv_dup hx hb dX8_countWait_11 rfl ?_
    refine va_get (D := D) (ci := 8) (v := .int g11) (C := RX8) (T := TX8) (N := 17) hx hb hts iw_X8_countWait_8 hown hC.1 hP 0 rfl rfl 11 (by decide +kernel) (hts (.fieldLink RX8 49 "FairWheel$Task" "waited" "I") (by decide +kernel)) (fun _ h9 => h9) rfl dX8_countWait_12 ?_
    refine lv_iconst (v := 1) hx hb dX8_countWait_15 (by decide +kernel) ?_
    refine lv_iadd hx hb dX8_countWait_16 ?_
    refine lv_topi (fun y_2 ey_2 => ?_)
    refine va_put (D := D) (ci := 8) (v := .int y_2) (ty := .int) (C := RX8) (T := TX8) (N := 17) hx hb hts iw_X8_countWait_8 tyX8 tyX8_ok nmX8 hown hC.1 hP hD hS 0 rfl rfl 11 (by decide +kernel) (hts (.fieldLink RX8 49 "FairWheel$Task" "waited" "I") (by decide +kernel)) (fun _ h9 => h9) rfl (by decide +kernel) rfl rfl (Nat.le_of_ble_eq_true rfl) dX8_countWait_17 (fun H locs hP hD hS => ?_)
    have hP : va_P D vwCl [(h0, .inr (8, [.int g0, .int g1, .int g2, .int g3, .int g4, .int g5, .int g6, .int g7, .int g8, .int g9, .int g10, .int y_2, .int g12, .int g13, .long g14, .int (nI gr), .ref go]))] H := hP
    have hD : va_D A [(h0, .inr (8, [.int g0, .int g1, .int g2, .int g3, .int g4, .int g5, .int g6, .int g7, .int g8, .int g9, .int g10, .int y_2, .int g12, .int g13, .long g14, .int (nI gr), .ref go]))] := hD
    refine lv_aload_n hx hb dX8_countWait_20 rfl (lv_at hl 0 rfl) ?_
    refine lv_dup hx hb dX8_countWait_21 rfl ?_
    refine va_get (D := D) (ci := 8) (v := .int g13) (C := RX8) (T := TX8) (N := 17) hx hb hts iw_X8_countWait_8 hown hC.1 hP 0 rfl rfl 13 (by decide +kernel) (hts (.fieldLink RX8 55 "FairWheel$Task" "streak" "I") (by decide +kernel)) (fun _ h9 => h9) rfl dX8_countWait_22 ?_
    refine lv_iconst (v := 1) hx hb dX8_countWait_25 (by decide +kernel) ?_
    refine lv_iadd hx hb dX8_countWait_26 ?_
    refine lv_topi (fun y_3 ey_3 => ?_)
    refine va_put (D := D) (ci := 8) (v := .int y_3) (ty := .int) (C := RX8) (T := TX8) (N := 17) hx hb hts iw_X8_countWait_8 tyX8 tyX8_ok nmX8 hown hC.1 hP hD hS 0 rfl rfl 13 (by decide +kernel) (hts (.fieldLink RX8 55 "FairWheel$Task" "streak" "I") (by decide +kernel)) (fun _ h9 => h9) rfl (by decide +kernel) rfl rfl (Nat.le_of_ble_eq_true rfl) dX8_countWait_27 (fun H locs hP hD hS => ?_)
    have hP : va_P D vwCl [(h0, .inr (8, [.int g0, .int g1, .int g2, .int g3, .int g4, .int g5, .int g6, .int g7, .int g8, .int g9, .int g10, .int y_2, .int g12, .int y_3, .long g14, .int (nI gr), .ref go]))] H := hP
    have hD : va_D A [(h0, .inr (8, [.int g0, .int g1, .int g2, .int g3, .int g4, .int g5, .int g6, .int g7, .int g8, .int g9, .int g10, .int y_2, .int g12, .int y_3, .long g14, .int (nI gr), .ref go]))] := hD
    refine lv_aload_n hx hb dX8_countWait_30 rfl (lv_at hl 0 rfl) ?_
    refine lv_aload_n hx hb dX8_countWait_31 rfl (lv_at hl 0 rfl) ?_
    refine va_get (D := D) (ci := 8) (v := .int g12) (C := RX8) (T := TX8) (N := 17) hx hb hts iw_X8_countWait_8 hown hC.1 hP 0 rfl rfl 12 (by decide +kernel) (hts (.fieldLink RX8 52 "FairWheel$Task" "longest" "I") (by decide +kernel)) (fun _ h9 => h9) rfl dX8_countWait_32 ?_
    refine lv_aload_n hx hb dX8_countWait_35 rfl (lv_at hl 0 rfl) ?_
    refine va_get (D := D) (ci := 8) (v := .int y_3) (C := RX8) (T := TX8) (N := 17) hx hb hts iw_X8_countWait_8 hown hC.1 hP 0 rfl rfl 13 (by decide +kernel) (hts (.fieldLink RX8 55 "FairWheel$Task" "streak" "I") (by decide +kernel)) (fun _ h9 => h9) rfl dX8_countWait_36 ?_
    refine va_mmax hx hb (hml.trans hl.1.symm) hown (hts (.methodLink RX8 71 Lib.Math.max.name) (by decide +kernel)) (hts (.static Lib.Math.max.name) (by decide +kernel)) (hts (.initialized "java/lang/Math") (by decide +kernel)) (hts (.code Lib.Math.max.name Lib.Math.max.code 2 (some .int)) (by decide +kernel)) (Nat.le_of_ble_eq_true rfl) (Nat.le_of_ble_eq_true rfl) (Nat.le_of_ble_eq_true rfl) (Nat.le_of_ble_eq_true rfl) dX8_countWait_39 ?_
    refine lv_topi (fun y_4 ey_4 => ?_)
    refine va_put (D := D) (ci := 8) (v := .int y_4) (ty := .int) (C := RX8) (T := TX8) (N := 17) hx hb hts iw_X8_countWait_8 tyX8 tyX8_ok nmX8 hown hC.1 hP hD hS 0 rfl rfl 12 (by decide +kernel) (hts (.fieldLink RX8 52 "FairWheel$Task" "longest" "I") (by decide +kernel)) (fun _ h9 => h9) rfl (by decide +kernel) rfl rfl (Nat.le_of_ble_eq_true rfl) dX8_countWait_42 (fun H locs hP hD hS => ?_)
    have hP : va_P D vwCl [(h0, .inr (8, [.int g0, .int g1, .int g2, .int g3, .int g4, .int g5, .int g6, .int g7, .int g8, .int g9, .int g10, .int y_2, .int y_4, .int y_3, .long g14, .int (nI gr), .ref go]))] H := hP
    have hD : va_D A [(h0, .inr (8, [.int g0, .int g1, .int g2, .int g3, .int g4, .int g5, .int g6, .int g7, .int g8, .int g9, .int g10, .int y_2, .int y_4, .int y_3, .long g14, .int (nI gr), .ref go]))] := hD
    exact W.vret hx hb hr (fun t ht hW => ⟨⟨(y_2, y_4, y_3), rfl, trivial, by rw [ht]; exact hP.sub [0] rfl, hDA (hD.sub [0] (by decide +kernel) rfl)⟩, hS.F ht⟩) hS.2.2 dX8_countWait_45
  · refine lv_aload_n hx hb dX8_countWait_4 rfl (lv_at hl 0 rfl) ?_
    refine lv_iconst (v := 0) hx hb dX8_countWait_5 (by decide +kernel) ?_
    refine va_put (D := D) (ci := 8) (v := .int 0) (ty := .int) (C := RX8) (T := TX8) (N := 17) hx hb hts iw_X8_countWait_8 tyX8 tyX8_ok nmX8 hown hC.1 hP hD hS 0 rfl rfl 13 (by decide +kernel) (hts (.fieldLink RX8 55 "FairWheel$Task" "streak" "I") (by decide +kernel)) (fun _ h9 => h9) rfl (by decide +kernel) rfl rfl (Nat.le_of_ble_eq_true rfl) dX8_countWait_6 (fun H locs hP hD hS => ?_)
    have hP : va_P D vwCl [(h0, .inr (8, [.int g0, .int g1, .int g2, .int g3, .int g4, .int g5, .int g6, .int g7, .int g8, .int g9, .int g10, .int g11, .int g12, .int 0, .long g14, .int (nI gr), .ref go]))] H := hP
    have hD : va_D A [(h0, .inr (8, [.int g0, .int g1, .int g2, .int g3, .int g4, .int g5, .int g6, .int g7, .int g8, .int g9, .int g10, .int g11, .int g12, .int 0, .long g14, .int (nI gr), .ref go]))] := hD
    exact W.vret hx hb hr (fun t ht hW => ⟨⟨(g11, g12, 0), rfl, trivial, by rw [ht]; exact hP.sub [0] rfl, hDA (hD.sub [0] (by decide +kernel) rfl)⟩, hS.F ht⟩) hS.2.2 dX8_countWait_9
theorem iw_X8_copyFrom_8 : ∀ w ∈ u_ws RX8 TX8 17, w ∈ wsX8_copyFrom := by decide +kernel
set_option maxHeartbeats 4000000 in
set_option maxRecDepth 100000 in
theorem s_X8_copyFrom (l : Launch) (D : va_G) (ca : Nat → ClassId) (sz : Nat) (h0 : Nat) (g0 : Int32) (g1 : Int32) (g2 : Int32) (g3 : Int32) (g4 : Int32) (g5 : Int32) (g6 : Int32) (g7 : Int32) (g8 : Int32) (g9 : Int32) (g10 : Int32) (g11 : Int32) (g12 : Int32) (g13 : Int32) (g14 : Int64) (gr : Nat) (go : Nat) (h1 : Nat) (v0 : Int32) (v1 : Int32) (v2 : Int32) (v3 : Int32) (v4 : Int32) (v5 : Int32) (v6 : Int32) (v7 : Int32) (v8 : Int32) (v9 : Int32) (v10 : Int32) (v11 : Int32) (v12 : Int32) (v13 : Int32) (v14 : Int64) (vr : Nat) (vo : Nat) (fa : Nat → Int32) (fb : Nat → Int32) : Met l yX8_copyFrom wsX8_copyFrom ({ frames := 1, cells := 0, slots := 0, locals := 30 }) (PC [.ref h0, .ref h1] sz D ca [(h0, .inr (8, [.int g0, .int g1, .int g2, .int g3, .int g4, .int g5, .int g6, .int g7, .int g8, .int g9, .int g10, .int g11, .int g12, .int g13, .long g14, .int (nI gr), .ref go])), (h1, .inr (8, [.int v0, .int v1, .int v2, .int v3, .int v4, .int v5, .int v6, .int v7, .int v8, .int v9, .int v10, .int v11, .int v12, .int v13, .long v14, .int (nI vr), .ref vo])), (go, .inl (ca 1, 10, .inl fa)), (vo, .inl (ca 1, 10, .inl fb))]) (QV (fun (u : (Nat → Int32)) => True) (fun (u : (Nat → Int32)) => [(h0, .inr (8, [.int v0, .int v1, .int v2, .int v3, .int v4, .int v5, .int v6, .int v7, .int v8, .int v9, .int v10, .int v11, .int v12, .int v13, .long v14, .int (nI vr), .ref go])), (h1, .inr (8, [.int v0, .int v1, .int v2, .int v3, .int v4, .int v5, .int v6, .int v7, .int v8, .int v9, .int v10, .int v11, .int v12, .int v13, .long v14, .int (nI vr), .ref vo])), (go, .inl (ca 1, 10, .inl u)), (vo, .inl (ca 1, 10, .inl fb))]) [(h0, .inr (8, [.int g0, .int g1, .int g2, .int g3, .int g4, .int g5, .int g6, .int g7, .int g8, .int g9, .int g10, .int g11, .int g12, .int g13, .long g14, .int (nI gr), .ref go])), (h1, .inr (8, [.int v0, .int v1, .int v2, .int v3, .int v4, .int v5, .int v6, .int v7, .int v8, .int v9, .int v10, .int v11, .int v12, .int v13, .long v14, .int (nI vr), .ref vo])), (go, .inl (ca 1, 10, .inl fa)), (vo, .inl (ca 1, 10, .inl fb))] sz D) 0 0 (va_A [(h0, .inr (8, [.int g0, .int g1, .int g2, .int g3, .int g4, .int g5, .int g6, .int g7, .int g8, .int g9, .int g10, .int g11, .int g12, .int g13, .long g14, .int (nI gr), .ref go])), (h1, .inr (8, [.int v0, .int v1, .int v2, .int v3, .int v4, .int v5, .int v6, .int v7, .int v8, .int v9, .int v10, .int v11, .int v12, .int v13, .long v14, .int (nI vr), .ref vo])), (go, .inl (ca 1, 10, .inl fa)), (vo, .inl (ca 1, 10, .inl fb))] sz) := by
  refine Met.ofW (cc := cX8_copyFrom) (maxL := 2) (ret := none) (by decide +kernel) rfl ?_
  intro p e s m args below meth c s₁ B hml hv
  obtain ⟨rfl, hsz, hP, hC, hD0⟩ := hv
  have hx := B.exec
  have hb := B.bytes
  have hr := B.returns
  have hts := atoms_spec (ws := wsX8_copyFrom) B.pre
  have hown : s.vm.findClass RX8 = some m.cls := findClass_of_methodNamed B.named
  have hlocks := B.notSynchronized
  subst hsz
  have hD := hD0.self (sz := s.heap.size)
  dsimp only [QV, QI, QL, BQ]
  generalize hAe : va_A [(h0, .inr (8, [.int g0, .int g1, .int g2, .int g3, .int g4, .int g5, .int g6, .int g7, .int g8, .int g9, .int g10, .int g11, .int g12, .int g13, .long g14, .int (nI gr), .ref go])), (h1, .inr (8, [.int v0, .int v1, .int v2, .int v3, .int v4, .int v5, .int v6, .int v7, .int v8, .int v9, .int v10, .int v11, .int v12, .int v13, .long v14, .int (nI vr), .ref vo])), (go, .inl (ca 1, 10, .inl fa)), (vo, .inl (ca 1, 10, .inl fb))] s.heap.size = A at hD ⊢
  have hA : ∀ q : Nat, s.heap.size ≤ q → A q := fun q h => by rw [← hAe]; exact Or.inr h
  have hDA : ∀ {w : va_W}, va_D A w → va_D (va_A [(h0, .inr (8, [.int g0, .int g1, .int g2, .int g3, .int g4, .int g5, .int g6, .int g7, .int g8, .int g9, .int g10, .int g11, .int g12, .int g13, .long g14, .int (nI gr), .ref go])), (h1, .inr (8, [.int v0, .int v1, .int v2, .int v3, .int v4, .int v5, .int v6, .int v7, .int v8, .int v9, .int v10, .int v11, .int v12, .int v13, .long v14, .int (nI vr), .ref vo])), (go, .inl (ca 1, 10, .inl fa)), (vo, .inl (ca 1, 10, .inl fb))] s.heap.size) w := fun h => by rw [hAe]; exact h
  have hS : va_S A s.heap s.heap [] := va_S.rf
  have hP : va_P D vwCl [(h0, .inr (8, [.int g0, .int g1, .int g2, .int g3, .int g4, .int g5, .int g6, .int g7, .int g8, .int g9, .int g10, .int g11, .int g12, .int g13, .long g14, .int (nI gr), .ref go])), (h1, .inr (8, [.int v0, .int v1, .int v2, .int v3, .int v4, .int v5, .int v6, .int v7, .int v8, .int v9, .int v10, .int v11, .int v12, .int v13, .long v14, .int (nI vr), .ref vo])), (go, .inl (ca 1, 10, .inl fa)), (vo, .inl (ca 1, 10, .inl fb))] s.heap := hP
  have hl := lv_entry ([.ref h0, .ref h1]) (n := 2) (Nat.le_of_ble_eq_true rfl)
  rw [lg_entry_eq]
  generalize (lg_sl ([.ref h0, .ref h1]) ++ List.replicate (2 - (lg_sl ([.ref h0, .ref h1])).length) Slot.unset).toArray = ls at hl ⊢
  have hl : lv_has ls 2 [(0, .ref h0), (1, .ref h1)] := hl
  refine lv_aload_n hx hb dX8_copyFrom_0 rfl (lv_at hl 0 rfl) ?_
  refine lv_aload_n hx hb dX8_copyFrom_1 rfl (lv_at hl 1 rfl) ?_
  refine va_get (D := D) (ci := 8) (v := .int v0) (C := RX8) (T := TX8) (N := 17) hx hb hts iw_X8_copyFrom_8 hown hC.1 hP 1 rfl rfl 0 (by decide +kernel) (hts (.fieldLink RX8 15 "FairWheel$Task" "phase" "I") (by decide +kernel)) (fun _ h9 => h9) rfl dX8_copyFrom_2 ?_
  refine va_put (D := D) (ci := 8) (v := .int v0) (ty := .int) (C := RX8) (T := TX8) (N := 17) hx hb hts iw_X8_copyFrom_8 tyX8 tyX8_ok nmX8 hown hC.1 hP hD hS 0 rfl rfl 0 (by decide +kernel) (hts (.fieldLink RX8 15 "FairWheel$Task" "phase" "I") (by decide +kernel)) (fun _ h9 => h9) rfl (by decide +kernel) rfl rfl (Nat.le_of_ble_eq_true rfl) dX8_copyFrom_5 (fun H locs hP hD hS => ?_)
  have hP : va_P D vwCl [(h0, .inr (8, [.int v0, .int g1, .int g2, .int g3, .int g4, .int g5, .int g6, .int g7, .int g8, .int g9, .int g10, .int g11, .int g12, .int g13, .long g14, .int (nI gr), .ref go])), (h1, .inr (8, [.int v0, .int v1, .int v2, .int v3, .int v4, .int v5, .int v6, .int v7, .int v8, .int v9, .int v10, .int v11, .int v12, .int v13, .long v14, .int (nI vr), .ref vo])), (go, .inl (ca 1, 10, .inl fa)), (vo, .inl (ca 1, 10, .inl fb))] H := hP
  have hD : va_D A [(h0, .inr (8, [.int v0, .int g1, .int g2, .int g3, .int g4, .int g5, .int g6, .int g7, .int g8, .int g9, .int g10, .int g11, .int g12, .int g13, .long g14, .int (nI gr), .ref go])), (h1, .inr (8, [.int v0, .int v1, .int v2, .int v3, .int v4, .int v5, .int v6, .int v7, .int v8, .int v9, .int v10, .int v11, .int v12, .int v13, .long v14, .int (nI vr), .ref vo])), (go, .inl (ca 1, 10, .inl fa)), (vo, .inl (ca 1, 10, .inl fb))] := hD
  refine lv_aload_n hx hb dX8_copyFrom_8 rfl (lv_at hl 0 rfl) ?_
  refine lv_aload_n hx hb dX8_copyFrom_9 rfl (lv_at hl 1 rfl) ?_
  refine va_get (D := D) (ci := 8) (v := .int v1) (C := RX8) (T := TX8) (N := 17) hx hb hts iw_X8_copyFrom_8 hown hC.1 hP 1 rfl rfl 1 (by decide +kernel) (hts (.fieldLink RX8 19 "FairWheel$Task" "op" "I") (by decide +kernel)) (fun _ h9 => h9) rfl dX8_copyFrom_10 ?_
  refine va_put (D := D) (ci := 8) (v := .int v1) (ty := .int) (C := RX8) (T := TX8) (N := 17) hx hb hts iw_X8_copyFrom_8 tyX8 tyX8_ok nmX8 hown hC.1 hP hD hS 0 rfl rfl 1 (by decide +kernel) (hts (.fieldLink RX8 19 "FairWheel$Task" "op" "I") (by decide +kernel)) (fun _ h9 => h9) rfl (by decide +kernel) rfl rfl (Nat.le_of_ble_eq_true rfl) dX8_copyFrom_13 (fun H locs hP hD hS => ?_)
  have hP : va_P D vwCl [(h0, .inr (8, [.int v0, .int v1, .int g2, .int g3, .int g4, .int g5, .int g6, .int g7, .int g8, .int g9, .int g10, .int g11, .int g12, .int g13, .long g14, .int (nI gr), .ref go])), (h1, .inr (8, [.int v0, .int v1, .int v2, .int v3, .int v4, .int v5, .int v6, .int v7, .int v8, .int v9, .int v10, .int v11, .int v12, .int v13, .long v14, .int (nI vr), .ref vo])), (go, .inl (ca 1, 10, .inl fa)), (vo, .inl (ca 1, 10, .inl fb))] H := hP
  have hD : va_D A [(h0, .inr (8, [.int v0, .int v1, .int g2, .int g3, .int g4, .int g5, .int g6, .int g7, .int g8, .int g9, .int g10, .int g11, .int g12, .int g13, .long g14, .int (nI gr), .ref go])), (h1, .inr (8, [.int v0, .int v1, .int v2, .int v3, .int v4, .int v5, .int v6, .int v7, .int v8, .int v9, .int v10, .int v11, .int v12, .int v13, .long v14, .int (nI vr), .ref vo])), (go, .inl (ca 1, 10, .inl fa)), (vo, .inl (ca 1, 10, .inl fb))] := hD
  refine lv_aload_n hx hb dX8_copyFrom_16 rfl (lv_at hl 0 rfl) ?_
  refine lv_aload_n hx hb dX8_copyFrom_17 rfl (lv_at hl 1 rfl) ?_
  refine va_get (D := D) (ci := 8) (v := .int v2) (C := RX8) (T := TX8) (N := 17) hx hb hts iw_X8_copyFrom_8 hown hC.1 hP 1 rfl rfl 2 (by decide +kernel) (hts (.fieldLink RX8 22 "FairWheel$Task" "left" "I") (by decide +kernel)) (fun _ h9 => h9) rfl dX8_copyFrom_18 ?_
  refine va_put (D := D) (ci := 8) (v := .int v2) (ty := .int) (C := RX8) (T := TX8) (N := 17) hx hb hts iw_X8_copyFrom_8 tyX8 tyX8_ok nmX8 hown hC.1 hP hD hS 0 rfl rfl 2 (by decide +kernel) (hts (.fieldLink RX8 22 "FairWheel$Task" "left" "I") (by decide +kernel)) (fun _ h9 => h9) rfl (by decide +kernel) rfl rfl (Nat.le_of_ble_eq_true rfl) dX8_copyFrom_21 (fun H locs hP hD hS => ?_)
  have hP : va_P D vwCl [(h0, .inr (8, [.int v0, .int v1, .int v2, .int g3, .int g4, .int g5, .int g6, .int g7, .int g8, .int g9, .int g10, .int g11, .int g12, .int g13, .long g14, .int (nI gr), .ref go])), (h1, .inr (8, [.int v0, .int v1, .int v2, .int v3, .int v4, .int v5, .int v6, .int v7, .int v8, .int v9, .int v10, .int v11, .int v12, .int v13, .long v14, .int (nI vr), .ref vo])), (go, .inl (ca 1, 10, .inl fa)), (vo, .inl (ca 1, 10, .inl fb))] H := hP
  have hD : va_D A [(h0, .inr (8, [.int v0, .int v1, .int v2, .int g3, .int g4, .int g5, .int g6, .int g7, .int g8, .int g9, .int g10, .int g11, .int g12, .int g13, .long g14, .int (nI gr), .ref go])), (h1, .inr (8, [.int v0, .int v1, .int v2, .int v3, .int v4, .int v5, .int v6, .int v7, .int v8, .int v9, .int v10, .int v11, .int v12, .int v13, .long v14, .int (nI vr), .ref vo])), (go, .inl (ca 1, 10, .inl fa)), (vo, .inl (ca 1, 10, .inl fb))] := hD
  refine lv_aload_n hx hb dX8_copyFrom_24 rfl (lv_at hl 0 rfl) ?_
  refine lv_aload_n hx hb dX8_copyFrom_25 rfl (lv_at hl 1 rfl) ?_
  refine va_get (D := D) (ci := 8) (v := .int v3) (C := RX8) (T := TX8) (N := 17) hx hb hts iw_X8_copyFrom_8 hown hC.1 hP 1 rfl rfl 3 (by decide +kernel) (hts (.fieldLink RX8 25 "FairWheel$Task" "virtual" "I") (by decide +kernel)) (fun _ h9 => h9) rfl dX8_copyFrom_26 ?_
  refine va_put (D := D) (ci := 8) (v := .int v3) (ty := .int) (C := RX8) (T := TX8) (N := 17) hx hb hts iw_X8_copyFrom_8 tyX8 tyX8_ok nmX8 hown hC.1 hP hD hS 0 rfl rfl 3 (by decide +kernel) (hts (.fieldLink RX8 25 "FairWheel$Task" "virtual" "I") (by decide +kernel)) (fun _ h9 => h9) rfl (by decide +kernel) rfl rfl (Nat.le_of_ble_eq_true rfl) dX8_copyFrom_29 (fun H locs hP hD hS => ?_)
  have hP : va_P D vwCl [(h0, .inr (8, [.int v0, .int v1, .int v2, .int v3, .int g4, .int g5, .int g6, .int g7, .int g8, .int g9, .int g10, .int g11, .int g12, .int g13, .long g14, .int (nI gr), .ref go])), (h1, .inr (8, [.int v0, .int v1, .int v2, .int v3, .int v4, .int v5, .int v6, .int v7, .int v8, .int v9, .int v10, .int v11, .int v12, .int v13, .long v14, .int (nI vr), .ref vo])), (go, .inl (ca 1, 10, .inl fa)), (vo, .inl (ca 1, 10, .inl fb))] H := hP
  have hD : va_D A [(h0, .inr (8, [.int v0, .int v1, .int v2, .int v3, .int g4, .int g5, .int g6, .int g7, .int g8, .int g9, .int g10, .int g11, .int g12, .int g13, .long g14, .int (nI gr), .ref go])), (h1, .inr (8, [.int v0, .int v1, .int v2, .int v3, .int v4, .int v5, .int v6, .int v7, .int v8, .int v9, .int v10, .int v11, .int v12, .int v13, .long v14, .int (nI vr), .ref vo])), (go, .inl (ca 1, 10, .inl fa)), (vo, .inl (ca 1, 10, .inl fb))] := hD
  refine lv_aload_n hx hb dX8_copyFrom_32 rfl (lv_at hl 0 rfl) ?_
  refine lv_aload_n hx hb dX8_copyFrom_33 rfl (lv_at hl 1 rfl) ?_
  refine va_get (D := D) (ci := 8) (v := .int v4) (C := RX8) (T := TX8) (N := 17) hx hb hts iw_X8_copyFrom_8 hown hC.1 hP 1 rfl rfl 4 (by decide +kernel) (hts (.fieldLink RX8 28 "FairWheel$Task" "rest" "I") (by decide +kernel)) (fun _ h9 => h9) rfl dX8_copyFrom_34 ?_
  refine va_put (D := D) (ci := 8) (v := .int v4) (ty := .int) (C := RX8) (T := TX8) (N := 17) hx hb hts iw_X8_copyFrom_8 tyX8 tyX8_ok nmX8 hown hC.1 hP hD hS 0 rfl rfl 4 (by decide +kernel) (hts (.fieldLink RX8 28 "FairWheel$Task" "rest" "I") (by decide +kernel)) (fun _ h9 => h9) rfl (by decide +kernel) rfl rfl (Nat.le_of_ble_eq_true rfl) dX8_copyFrom_37 (fun H locs hP hD hS => ?_)
  have hP : va_P D vwCl [(h0, .inr (8, [.int v0, .int v1, .int v2, .int v3, .int v4, .int g5, .int g6, .int g7, .int g8, .int g9, .int g10, .int g11, .int g12, .int g13, .long g14, .int (nI gr), .ref go])), (h1, .inr (8, [.int v0, .int v1, .int v2, .int v3, .int v4, .int v5, .int v6, .int v7, .int v8, .int v9, .int v10, .int v11, .int v12, .int v13, .long v14, .int (nI vr), .ref vo])), (go, .inl (ca 1, 10, .inl fa)), (vo, .inl (ca 1, 10, .inl fb))] H := hP
  have hD : va_D A [(h0, .inr (8, [.int v0, .int v1, .int v2, .int v3, .int v4, .int g5, .int g6, .int g7, .int g8, .int g9, .int g10, .int g11, .int g12, .int g13, .long g14, .int (nI gr), .ref go])), (h1, .inr (8, [.int v0, .int v1, .int v2, .int v3, .int v4, .int v5, .int v6, .int v7, .int v8, .int v9, .int v10, .int v11, .int v12, .int v13, .long v14, .int (nI vr), .ref vo])), (go, .inl (ca 1, 10, .inl fa)), (vo, .inl (ca 1, 10, .inl fb))] := hD
  refine lv_aload_n hx hb dX8_copyFrom_40 rfl (lv_at hl 0 rfl) ?_
  refine lv_aload_n hx hb dX8_copyFrom_41 rfl (lv_at hl 1 rfl) ?_
  refine va_get (D := D) (ci := 8) (v := .int v5) (C := RX8) (T := TX8) (N := 17) hx hb hts iw_X8_copyFrom_8 hown hC.1 hP 1 rfl rfl 5 (by decide +kernel) (hts (.fieldLink RX8 31 "FairWheel$Task" "weight" "I") (by decide +kernel)) (fun _ h9 => h9) rfl dX8_copyFrom_42 ?_
  refine va_put (D := D) (ci := 8) (v := .int v5) (ty := .int) (C := RX8) (T := TX8) (N := 17) hx hb hts iw_X8_copyFrom_8 tyX8 tyX8_ok nmX8 hown hC.1 hP hD hS 0 rfl rfl 5 (by decide +kernel) (hts (.fieldLink RX8 31 "FairWheel$Task" "weight" "I") (by decide +kernel)) (fun _ h9 => h9) rfl (by decide +kernel) rfl rfl (Nat.le_of_ble_eq_true rfl) dX8_copyFrom_45 (fun H locs hP hD hS => ?_)
  have hP : va_P D vwCl [(h0, .inr (8, [.int v0, .int v1, .int v2, .int v3, .int v4, .int v5, .int g6, .int g7, .int g8, .int g9, .int g10, .int g11, .int g12, .int g13, .long g14, .int (nI gr), .ref go])), (h1, .inr (8, [.int v0, .int v1, .int v2, .int v3, .int v4, .int v5, .int v6, .int v7, .int v8, .int v9, .int v10, .int v11, .int v12, .int v13, .long v14, .int (nI vr), .ref vo])), (go, .inl (ca 1, 10, .inl fa)), (vo, .inl (ca 1, 10, .inl fb))] H := hP
  have hD : va_D A [(h0, .inr (8, [.int v0, .int v1, .int v2, .int v3, .int v4, .int v5, .int g6, .int g7, .int g8, .int g9, .int g10, .int g11, .int g12, .int g13, .long g14, .int (nI gr), .ref go])), (h1, .inr (8, [.int v0, .int v1, .int v2, .int v3, .int v4, .int v5, .int v6, .int v7, .int v8, .int v9, .int v10, .int v11, .int v12, .int v13, .long v14, .int (nI vr), .ref vo])), (go, .inl (ca 1, 10, .inl fa)), (vo, .inl (ca 1, 10, .inl fb))] := hD
  refine lv_aload_n hx hb dX8_copyFrom_48 rfl (lv_at hl 0 rfl) ?_
  refine lv_aload_n hx hb dX8_copyFrom_49 rfl (lv_at hl 1 rfl) ?_
  refine va_get (D := D) (ci := 8) (v := .int v6) (C := RX8) (T := TX8) (N := 17) hx hb hts iw_X8_copyFrom_8 hown hC.1 hP 1 rfl rfl 6 (by decide +kernel) (hts (.fieldLink RX8 34 "FairWheel$Task" "budget" "I") (by decide +kernel)) (fun _ h9 => h9) rfl dX8_copyFrom_50 ?_
  refine va_put (D := D) (ci := 8) (v := .int v6) (ty := .int) (C := RX8) (T := TX8) (N := 17) hx hb hts iw_X8_copyFrom_8 tyX8 tyX8_ok nmX8 hown hC.1 hP hD hS 0 rfl rfl 6 (by decide +kernel) (hts (.fieldLink RX8 34 "FairWheel$Task" "budget" "I") (by decide +kernel)) (fun _ h9 => h9) rfl (by decide +kernel) rfl rfl (Nat.le_of_ble_eq_true rfl) dX8_copyFrom_53 (fun H locs hP hD hS => ?_)
  have hP : va_P D vwCl [(h0, .inr (8, [.int v0, .int v1, .int v2, .int v3, .int v4, .int v5, .int v6, .int g7, .int g8, .int g9, .int g10, .int g11, .int g12, .int g13, .long g14, .int (nI gr), .ref go])), (h1, .inr (8, [.int v0, .int v1, .int v2, .int v3, .int v4, .int v5, .int v6, .int v7, .int v8, .int v9, .int v10, .int v11, .int v12, .int v13, .long v14, .int (nI vr), .ref vo])), (go, .inl (ca 1, 10, .inl fa)), (vo, .inl (ca 1, 10, .inl fb))] H := hP
  have hD : va_D A [(h0, .inr (8, [.int v0, .int v1, .int v2, .int v3, .int v4, .int v5, .int v6, .int g7, .int g8, .int g9, .int g10, .int g11, .int g12, .int g13, .long g14, .int (nI gr), .ref go])), (h1, .inr (8, [.int v0, .int v1, .int v2, .int v3, .int v4, .int v5, .int v6, .int v7, .int v8, .int v9, .int v10, .int v11, .int v12, .int v13, .long v14, .int (nI vr), .ref vo])), (go, .inl (ca 1, 10, .inl fa)), (vo, .inl (ca 1, 10, .inl fb))] := hD
  refine lv_aload_n hx hb dX8_copyFrom_56 rfl (lv_at hl 0 rfl) ?_
  refine lv_aload_n hx hb dX8_copyFrom_57 rfl (lv_at hl 1 rfl) ?_
  refine va_get (D := D) (ci := 8) (v := .int v7) (C := RX8) (T := TX8) (N := 17) hx hb hts iw_X8_copyFrom_8 hown hC.1 hP 1 rfl rfl 7 (by decide +kernel) (hts (.fieldLink RX8 37 "FairWheel$Task" "deadline" "I") (by decide +kernel)) (fun _ h9 => h9) rfl dX8_copyFrom_58 ?_
  refine va_put (D := D) (ci := 8) (v := .int v7) (ty := .int) (C := RX8) (T := TX8) (N := 17) hx hb hts iw_X8_copyFrom_8 tyX8 tyX8_ok nmX8 hown hC.1 hP hD hS 0 rfl rfl 7 (by decide +kernel) (hts (.fieldLink RX8 37 "FairWheel$Task" "deadline" "I") (by decide +kernel)) (fun _ h9 => h9) rfl (by decide +kernel) rfl rfl (Nat.le_of_ble_eq_true rfl) dX8_copyFrom_61 (fun H locs hP hD hS => ?_)
  have hP : va_P D vwCl [(h0, .inr (8, [.int v0, .int v1, .int v2, .int v3, .int v4, .int v5, .int v6, .int v7, .int g8, .int g9, .int g10, .int g11, .int g12, .int g13, .long g14, .int (nI gr), .ref go])), (h1, .inr (8, [.int v0, .int v1, .int v2, .int v3, .int v4, .int v5, .int v6, .int v7, .int v8, .int v9, .int v10, .int v11, .int v12, .int v13, .long v14, .int (nI vr), .ref vo])), (go, .inl (ca 1, 10, .inl fa)), (vo, .inl (ca 1, 10, .inl fb))] H := hP
  have hD : va_D A [(h0, .inr (8, [.int v0, .int v1, .int v2, .int v3, .int v4, .int v5, .int v6, .int v7, .int g8, .int g9, .int g10, .int g11, .int g12, .int g13, .long g14, .int (nI gr), .ref go])), (h1, .inr (8, [.int v0, .int v1, .int v2, .int v3, .int v4, .int v5, .int v6, .int v7, .int v8, .int v9, .int v10, .int v11, .int v12, .int v13, .long v14, .int (nI vr), .ref vo])), (go, .inl (ca 1, 10, .inl fa)), (vo, .inl (ca 1, 10, .inl fb))] := hD
  refine lv_aload_n hx hb dX8_copyFrom_64 rfl (lv_at hl 0 rfl) ?_
  refine lv_aload_n hx hb dX8_copyFrom_65 rfl (lv_at hl 1 rfl) ?_
  refine va_get (D := D) (ci := 8) (v := .int v8) (C := RX8) (T := TX8) (N := 17) hx hb hts iw_X8_copyFrom_8 hown hC.1 hP 1 rfl rfl 8 (by decide +kernel) (hts (.fieldLink RX8 40 "FairWheel$Task" "error" "I") (by decide +kernel)) (fun _ h9 => h9) rfl dX8_copyFrom_66 ?_
  refine va_put (D := D) (ci := 8) (v := .int v8) (ty := .int) (C := RX8) (T := TX8) (N := 17) hx hb hts iw_X8_copyFrom_8 tyX8 tyX8_ok nmX8 hown hC.1 hP hD hS 0 rfl rfl 8 (by decide +kernel) (hts (.fieldLink RX8 40 "FairWheel$Task" "error" "I") (by decide +kernel)) (fun _ h9 => h9) rfl (by decide +kernel) rfl rfl (Nat.le_of_ble_eq_true rfl) dX8_copyFrom_69 (fun H locs hP hD hS => ?_)
  have hP : va_P D vwCl [(h0, .inr (8, [.int v0, .int v1, .int v2, .int v3, .int v4, .int v5, .int v6, .int v7, .int v8, .int g9, .int g10, .int g11, .int g12, .int g13, .long g14, .int (nI gr), .ref go])), (h1, .inr (8, [.int v0, .int v1, .int v2, .int v3, .int v4, .int v5, .int v6, .int v7, .int v8, .int v9, .int v10, .int v11, .int v12, .int v13, .long v14, .int (nI vr), .ref vo])), (go, .inl (ca 1, 10, .inl fa)), (vo, .inl (ca 1, 10, .inl fb))] H := hP
  have hD : va_D A [(h0, .inr (8, [.int v0, .int v1, .int v2, .int v3, .int v4, .int v5, .int v6, .int v7, .int v8, .int g9, .int g10, .int g11, .int g12, .int g13, .long g14, .int (nI gr), .ref go])), (h1, .inr (8, [.int v0, .int v1, .int v2, .int v3, .int v4, .int v5, .int v6, .int v7, .int v8, .int v9, .int v10, .int v11, .int v12, .int v13, .long v14, .int (nI vr), .ref vo])), (go, .inl (ca 1, 10, .inl fa)), (vo, .inl (ca 1, 10, .inl fb))] := hD
  refine lv_aload_n hx hb dX8_copyFrom_72 rfl (lv_at hl 0 rfl) ?_
  refine lv_aload_n hx hb dX8_copyFrom_73 rfl (lv_at hl 1 rfl) ?_
  refine va_get (D := D) (ci := 8) (v := .int v9) (C := RX8) (T := TX8) (N := 17) hx hb hts iw_X8_copyFrom_8 hown hC.1 hP 1 rfl rfl 9 (by decide +kernel) (hts (.fieldLink RX8 43 "FairWheel$Task" "target" "I") (by decide +kernel)) (fun _ h9 => h9) rfl dX8_copyFrom_74 ?_
  refine va_put (D := D) (ci := 8) (v := .int v9) (ty := .int) (C := RX8) (T := TX8) (N := 17) hx hb hts iw_X8_copyFrom_8 tyX8 tyX8_ok nmX8 hown hC.1 hP hD hS 0 rfl rfl 9 (by decide +kernel) (hts (.fieldLink RX8 43 "FairWheel$Task" "target" "I") (by decide +kernel)) (fun _ h9 => h9) rfl (by decide +kernel) rfl rfl (Nat.le_of_ble_eq_true rfl) dX8_copyFrom_77 (fun H locs hP hD hS => ?_)
  have hP : va_P D vwCl [(h0, .inr (8, [.int v0, .int v1, .int v2, .int v3, .int v4, .int v5, .int v6, .int v7, .int v8, .int v9, .int g10, .int g11, .int g12, .int g13, .long g14, .int (nI gr), .ref go])), (h1, .inr (8, [.int v0, .int v1, .int v2, .int v3, .int v4, .int v5, .int v6, .int v7, .int v8, .int v9, .int v10, .int v11, .int v12, .int v13, .long v14, .int (nI vr), .ref vo])), (go, .inl (ca 1, 10, .inl fa)), (vo, .inl (ca 1, 10, .inl fb))] H := hP
  have hD : va_D A [(h0, .inr (8, [.int v0, .int v1, .int v2, .int v3, .int v4, .int v5, .int v6, .int v7, .int v8, .int v9, .int g10, .int g11, .int g12, .int g13, .long g14, .int (nI gr), .ref go])), (h1, .inr (8, [.int v0, .int v1, .int v2, .int v3, .int v4, .int v5, .int v6, .int v7, .int v8, .int v9, .int v10, .int v11, .int v12, .int v13, .long v14, .int (nI vr), .ref vo])), (go, .inl (ca 1, 10, .inl fa)), (vo, .inl (ca 1, 10, .inl fb))] := hD
  refine lv_aload_n hx hb dX8_copyFrom_80 rfl (lv_at hl 0 rfl) ?_
  refine lv_aload_n hx hb dX8_copyFrom_81 rfl (lv_at hl 1 rfl) ?_
  refine va_get (D := D) (ci := 8) (v := .int v10) (C := RX8) (T := TX8) (N := 17) hx hb hts iw_X8_copyFrom_8 hown hC.1 hP 1 rfl rfl 10 (by decide +kernel) (hts (.fieldLink RX8 46 "FairWheel$Task" "missed" "I") (by decide +kernel)) (fun _ h9 => h9) rfl dX8_copyFrom_82 ?_
  refine va_put (D := D) (ci := 8) (v := .int v10) (ty := .int) (C := RX8) (T := TX8) (N := 17) hx hb hts iw_X8_copyFrom_8 tyX8 tyX8_ok nmX8 hown hC.1 hP hD hS 0 rfl rfl 10 (by decide +kernel) (hts (.fieldLink RX8 46 "FairWheel$Task" "missed" "I") (by decide +kernel)) (fun _ h9 => h9) rfl (by decide +kernel) rfl rfl (Nat.le_of_ble_eq_true rfl) dX8_copyFrom_85 (fun H locs hP hD hS => ?_)
  have hP : va_P D vwCl [(h0, .inr (8, [.int v0, .int v1, .int v2, .int v3, .int v4, .int v5, .int v6, .int v7, .int v8, .int v9, .int v10, .int g11, .int g12, .int g13, .long g14, .int (nI gr), .ref go])), (h1, .inr (8, [.int v0, .int v1, .int v2, .int v3, .int v4, .int v5, .int v6, .int v7, .int v8, .int v9, .int v10, .int v11, .int v12, .int v13, .long v14, .int (nI vr), .ref vo])), (go, .inl (ca 1, 10, .inl fa)), (vo, .inl (ca 1, 10, .inl fb))] H := hP
  have hD : va_D A [(h0, .inr (8, [.int v0, .int v1, .int v2, .int v3, .int v4, .int v5, .int v6, .int v7, .int v8, .int v9, .int v10, .int g11, .int g12, .int g13, .long g14, .int (nI gr), .ref go])), (h1, .inr (8, [.int v0, .int v1, .int v2, .int v3, .int v4, .int v5, .int v6, .int v7, .int v8, .int v9, .int v10, .int v11, .int v12, .int v13, .long v14, .int (nI vr), .ref vo])), (go, .inl (ca 1, 10, .inl fa)), (vo, .inl (ca 1, 10, .inl fb))] := hD
  refine lv_aload_n hx hb dX8_copyFrom_88 rfl (lv_at hl 0 rfl) ?_
  refine lv_aload_n hx hb dX8_copyFrom_89 rfl (lv_at hl 1 rfl) ?_
  refine va_get (D := D) (ci := 8) (v := .int v11) (C := RX8) (T := TX8) (N := 17) hx hb hts iw_X8_copyFrom_8 hown hC.1 hP 1 rfl rfl 11 (by decide +kernel) (hts (.fieldLink RX8 49 "FairWheel$Task" "waited" "I") (by decide +kernel)) (fun _ h9 => h9) rfl dX8_copyFrom_90 ?_
  refine va_put (D := D) (ci := 8) (v := .int v11) (ty := .int) (C := RX8) (T := TX8) (N := 17) hx hb hts iw_X8_copyFrom_8 tyX8 tyX8_ok nmX8 hown hC.1 hP hD hS 0 rfl rfl 11 (by decide +kernel) (hts (.fieldLink RX8 49 "FairWheel$Task" "waited" "I") (by decide +kernel)) (fun _ h9 => h9) rfl (by decide +kernel) rfl rfl (Nat.le_of_ble_eq_true rfl) dX8_copyFrom_93 (fun H locs hP hD hS => ?_)
  have hP : va_P D vwCl [(h0, .inr (8, [.int v0, .int v1, .int v2, .int v3, .int v4, .int v5, .int v6, .int v7, .int v8, .int v9, .int v10, .int v11, .int g12, .int g13, .long g14, .int (nI gr), .ref go])), (h1, .inr (8, [.int v0, .int v1, .int v2, .int v3, .int v4, .int v5, .int v6, .int v7, .int v8, .int v9, .int v10, .int v11, .int v12, .int v13, .long v14, .int (nI vr), .ref vo])), (go, .inl (ca 1, 10, .inl fa)), (vo, .inl (ca 1, 10, .inl fb))] H := hP
  have hD : va_D A [(h0, .inr (8, [.int v0, .int v1, .int v2, .int v3, .int v4, .int v5, .int v6, .int v7, .int v8, .int v9, .int v10, .int v11, .int g12, .int g13, .long g14, .int (nI gr), .ref go])), (h1, .inr (8, [.int v0, .int v1, .int v2, .int v3, .int v4, .int v5, .int v6, .int v7, .int v8, .int v9, .int v10, .int v11, .int v12, .int v13, .long v14, .int (nI vr), .ref vo])), (go, .inl (ca 1, 10, .inl fa)), (vo, .inl (ca 1, 10, .inl fb))] := hD
  refine lv_aload_n hx hb dX8_copyFrom_96 rfl (lv_at hl 0 rfl) ?_
  refine lv_aload_n hx hb dX8_copyFrom_97 rfl (lv_at hl 1 rfl) ?_
  refine va_get (D := D) (ci := 8) (v := .int v12) (C := RX8) (T := TX8) (N := 17) hx hb hts iw_X8_copyFrom_8 hown hC.1 hP 1 rfl rfl 12 (by decide +kernel) (hts (.fieldLink RX8 52 "FairWheel$Task" "longest" "I") (by decide +kernel)) (fun _ h9 => h9) rfl dX8_copyFrom_98 ?_
  refine va_put (D := D) (ci := 8) (v := .int v12) (ty := .int) (C := RX8) (T := TX8) (N := 17) hx hb hts iw_X8_copyFrom_8 tyX8 tyX8_ok nmX8 hown hC.1 hP hD hS 0 rfl rfl 12 (by decide +kernel) (hts (.fieldLink RX8 52 "FairWheel$Task" "longest" "I") (by decide +kernel)) (fun _ h9 => h9) rfl (by decide +kernel) rfl rfl (Nat.le_of_ble_eq_true rfl) dX8_copyFrom_101 (fun H locs hP hD hS => ?_)
  have hP : va_P D vwCl [(h0, .inr (8, [.int v0, .int v1, .int v2, .int v3, .int v4, .int v5, .int v6, .int v7, .int v8, .int v9, .int v10, .int v11, .int v12, .int g13, .long g14, .int (nI gr), .ref go])), (h1, .inr (8, [.int v0, .int v1, .int v2, .int v3, .int v4, .int v5, .int v6, .int v7, .int v8, .int v9, .int v10, .int v11, .int v12, .int v13, .long v14, .int (nI vr), .ref vo])), (go, .inl (ca 1, 10, .inl fa)), (vo, .inl (ca 1, 10, .inl fb))] H := hP
  have hD : va_D A [(h0, .inr (8, [.int v0, .int v1, .int v2, .int v3, .int v4, .int v5, .int v6, .int v7, .int v8, .int v9, .int v10, .int v11, .int v12, .int g13, .long g14, .int (nI gr), .ref go])), (h1, .inr (8, [.int v0, .int v1, .int v2, .int v3, .int v4, .int v5, .int v6, .int v7, .int v8, .int v9, .int v10, .int v11, .int v12, .int v13, .long v14, .int (nI vr), .ref vo])), (go, .inl (ca 1, 10, .inl fa)), (vo, .inl (ca 1, 10, .inl fb))] := hD
  refine lv_aload_n hx hb dX8_copyFrom_104 rfl (lv_at hl 0 rfl) ?_
  refine lv_aload_n hx hb dX8_copyFrom_105 rfl (lv_at hl 1 rfl) ?_
  refine va_get (D := D) (ci := 8) (v := .int v13) (C := RX8) (T := TX8) (N := 17) hx hb hts iw_X8_copyFrom_8 hown hC.1 hP 1 rfl rfl 13 (by decide +kernel) (hts (.fieldLink RX8 55 "FairWheel$Task" "streak" "I") (by decide +kernel)) (fun _ h9 => h9) rfl dX8_copyFrom_106 ?_
  refine va_put (D := D) (ci := 8) (v := .int v13) (ty := .int) (C := RX8) (T := TX8) (N := 17) hx hb hts iw_X8_copyFrom_8 tyX8 tyX8_ok nmX8 hown hC.1 hP hD hS 0 rfl rfl 13 (by decide +kernel) (hts (.fieldLink RX8 55 "FairWheel$Task" "streak" "I") (by decide +kernel)) (fun _ h9 => h9) rfl (by decide +kernel) rfl rfl (Nat.le_of_ble_eq_true rfl) dX8_copyFrom_109 (fun H locs hP hD hS => ?_)
  have hP : va_P D vwCl [(h0, .inr (8, [.int v0, .int v1, .int v2, .int v3, .int v4, .int v5, .int v6, .int v7, .int v8, .int v9, .int v10, .int v11, .int v12, .int v13, .long g14, .int (nI gr), .ref go])), (h1, .inr (8, [.int v0, .int v1, .int v2, .int v3, .int v4, .int v5, .int v6, .int v7, .int v8, .int v9, .int v10, .int v11, .int v12, .int v13, .long v14, .int (nI vr), .ref vo])), (go, .inl (ca 1, 10, .inl fa)), (vo, .inl (ca 1, 10, .inl fb))] H := hP
  have hD : va_D A [(h0, .inr (8, [.int v0, .int v1, .int v2, .int v3, .int v4, .int v5, .int v6, .int v7, .int v8, .int v9, .int v10, .int v11, .int v12, .int v13, .long g14, .int (nI gr), .ref go])), (h1, .inr (8, [.int v0, .int v1, .int v2, .int v3, .int v4, .int v5, .int v6, .int v7, .int v8, .int v9, .int v10, .int v11, .int v12, .int v13, .long v14, .int (nI vr), .ref vo])), (go, .inl (ca 1, 10, .inl fa)), (vo, .inl (ca 1, 10, .inl fb))] := hD
  refine lv_aload_n hx hb dX8_copyFrom_112 rfl (lv_at hl 0 rfl) ?_
  refine lv_aload_n hx hb dX8_copyFrom_113 rfl (lv_at hl 1 rfl) ?_
  refine va_get (D := D) (ci := 8) (v := .long v14) (C := RX8) (T := TX8) (N := 17) hx hb hts iw_X8_copyFrom_8 hown hC.1 hP 1 rfl rfl 14 (by decide +kernel) (hts (.fieldLink RX8 61 "FairWheel$Task" "own" "J") (by decide +kernel)) (fun _ h9 => h9) rfl dX8_copyFrom_114 ?_
  refine va_put (D := D) (ci := 8) (v := .long v14) (ty := .long) (C := RX8) (T := TX8) (N := 17) hx hb hts iw_X8_copyFrom_8 tyX8 tyX8_ok nmX8 hown hC.1 hP hD hS 0 rfl rfl 14 (by decide +kernel) (hts (.fieldLink RX8 61 "FairWheel$Task" "own" "J") (by decide +kernel)) (fun _ h9 => h9) rfl (by decide +kernel) rfl rfl (Nat.le_of_ble_eq_true rfl) dX8_copyFrom_117 (fun H locs hP hD hS => ?_)
  have hP : va_P D vwCl [(h0, .inr (8, [.int v0, .int v1, .int v2, .int v3, .int v4, .int v5, .int v6, .int v7, .int v8, .int v9, .int v10, .int v11, .int v12, .int v13, .long v14, .int (nI gr), .ref go])), (h1, .inr (8, [.int v0, .int v1, .int v2, .int v3, .int v4, .int v5, .int v6, .int v7, .int v8, .int v9, .int v10, .int v11, .int v12, .int v13, .long v14, .int (nI vr), .ref vo])), (go, .inl (ca 1, 10, .inl fa)), (vo, .inl (ca 1, 10, .inl fb))] H := hP
  have hD : va_D A [(h0, .inr (8, [.int v0, .int v1, .int v2, .int v3, .int v4, .int v5, .int v6, .int v7, .int v8, .int v9, .int v10, .int v11, .int v12, .int v13, .long v14, .int (nI gr), .ref go])), (h1, .inr (8, [.int v0, .int v1, .int v2, .int v3, .int v4, .int v5, .int v6, .int v7, .int v8, .int v9, .int v10, .int v11, .int v12, .int v13, .long v14, .int (nI vr), .ref vo])), (go, .inl (ca 1, 10, .inl fa)), (vo, .inl (ca 1, 10, .inl fb))] := hD
  refine lv_aload_n hx hb dX8_copyFrom_120 rfl (lv_at hl 0 rfl) ?_
  refine lv_aload_n hx hb dX8_copyFrom_121 rfl (lv_at hl 1 rfl) ?_
  refine va_get (D := D) (ci := 8) (v := .int (nI vr)) (C := RX8) (T := TX8) (N := 17) hx hb hts iw_X8_copyFrom_8 hown hC.1 hP 1 rfl rfl 15 (by decide +kernel) (hts (.fieldLink RX8 58 "FairWheel$Task" "ringSize" "I") (by decide +kernel)) (fun _ h9 => h9) rfl dX8_copyFrom_122 ?_
  refine va_put (D := D) (ci := 8) (v := .int (nI vr)) (ty := .int) (C := RX8) (T := TX8) (N := 17) hx hb hts iw_X8_copyFrom_8 tyX8 tyX8_ok nmX8 hown hC.1 hP hD hS 0 rfl rfl 15 (by decide +kernel) (hts (.fieldLink RX8 58 "FairWheel$Task" "ringSize" "I") (by decide +kernel)) (fun _ h9 => h9) rfl (by decide +kernel) rfl rfl (Nat.le_of_ble_eq_true rfl) dX8_copyFrom_125 (fun H locs hP hD hS => ?_)
  have hP : va_P D vwCl [(h0, .inr (8, [.int v0, .int v1, .int v2, .int v3, .int v4, .int v5, .int v6, .int v7, .int v8, .int v9, .int v10, .int v11, .int v12, .int v13, .long v14, .int (nI vr), .ref go])), (h1, .inr (8, [.int v0, .int v1, .int v2, .int v3, .int v4, .int v5, .int v6, .int v7, .int v8, .int v9, .int v10, .int v11, .int v12, .int v13, .long v14, .int (nI vr), .ref vo])), (go, .inl (ca 1, 10, .inl fa)), (vo, .inl (ca 1, 10, .inl fb))] H := hP
  have hD : va_D A [(h0, .inr (8, [.int v0, .int v1, .int v2, .int v3, .int v4, .int v5, .int v6, .int v7, .int v8, .int v9, .int v10, .int v11, .int v12, .int v13, .long v14, .int (nI vr), .ref go])), (h1, .inr (8, [.int v0, .int v1, .int v2, .int v3, .int v4, .int v5, .int v6, .int v7, .int v8, .int v9, .int v10, .int v11, .int v12, .int v13, .long v14, .int (nI vr), .ref vo])), (go, .inl (ca 1, 10, .inl fa)), (vo, .inl (ca 1, 10, .inl fb))] := hD
  refine lv_aload_n hx hb dX8_copyFrom_128 rfl (lv_at hl 1 rfl) ?_
  refine va_get (D := D) (ci := 8) (v := .ref vo) (C := RX8) (T := TX8) (N := 17) hx hb hts iw_X8_copyFrom_8 hown hC.1 hP 1 rfl rfl 16 (by decide +kernel) (hts (.fieldLink RX8 9 "FairWheel$Task" "ringOf" "[I") (by decide +kernel)) (fun _ h9 => h9) rfl dX8_copyFrom_129 ?_
  refine lv_iconst (v := 0) hx hb dX8_copyFrom_132 (by decide +kernel) ?_
  refine lv_aload_n hx hb dX8_copyFrom_133 rfl (lv_at hl 0 rfl) ?_
  refine va_get (D := D) (ci := 8) (v := .ref go) (C := RX8) (T := TX8) (N := 17) hx hb hts iw_X8_copyFrom_8 hown hC.1 hP 0 rfl rfl 16 (by decide +kernel) (hts (.fieldLink RX8 9 "FairWheel$Task" "ringOf" "[I") (by decide +kernel)) (fun _ h9 => h9) rfl dX8_copyFrom_134 ?_
  refine lv_iconst (v := 0) hx hb dX8_copyFrom_137 (by decide +kernel) ?_
  refine lv_aload_n hx hb dX8_copyFrom_138 rfl (lv_at hl 0 rfl) ?_
  refine va_get (D := D) (ci := 8) (v := .ref go) (C := RX8) (T := TX8) (N := 17) hx hb hts iw_X8_copyFrom_8 hown hC.1 hP 0 rfl rfl 16 (by decide +kernel) (hts (.fieldLink RX8 9 "FairWheel$Task" "ringOf" "[I") (by decide +kernel)) (fun _ h9 => h9) rfl dX8_copyFrom_139 ?_
  refine va_alen (v := 10) hx hb hC.1 hP 2 1 rfl rfl rfl dX8_copyFrom_142 ?_
  refine va_copyi hx hb (hml.trans hl.1.symm) hown (hts (.methodLink RX8 65 arraycopyName) (by decide +kernel)) (hts (.native arraycopyName) (by decide +kernel)) (hts (.static arraycopyName) (by decide +kernel)) (hts (.initialized "java/lang/System") (by decide +kernel)) hC.1 hP hD hS 3 2 1 1 rfl rfl rfl rfl rfl (by decide +kernel) (by decide +kernel) (by decide +kernel) (by decide +kernel) (by decide +kernel) (fun _ _ => rfl) (Nat.le_of_ble_eq_true rfl) (Nat.le_of_ble_eq_true rfl) dX8_copyFrom_143 (fun H locs hP hD hS => ?_)
  generalize (va_cpy _ _ _ _ _) = f_1 at hP hD
  have hP : va_P D vwCl [(h0, .inr (8, [.int v0, .int v1, .int v2, .int v3, .int v4, .int v5, .int v6, .int v7, .int v8, .int v9, .int v10, .int v11, .int v12, .int v13, .long v14, .int (nI vr), .ref go])), (h1, .inr (8, [.int v0, .int v1, .int v2, .int v3, .int v4, .int v5, .int v6, .int v7, .int v8, .int v9, .int v10, .int v11, .int v12, .int v13, .long v14, .int (nI vr), .ref vo])), (go, .inl (ca 1, 10, .inl f_1)), (vo, .inl (ca 1, 10, .inl fb))] H := hP
  have hD : va_D A [(h0, .inr (8, [.int v0, .int v1, .int v2, .int v3, .int v4, .int v5, .int v6, .int v7, .int v8, .int v9, .int v10, .int v11, .int v12, .int v13, .long v14, .int (nI vr), .ref go])), (h1, .inr (8, [.int v0, .int v1, .int v2, .int v3, .int v4, .int v5, .int v6, .int v7, .int v8, .int v9, .int v10, .int v11, .int v12, .int v13, .long v14, .int (nI vr), .ref vo])), (go, .inl (ca 1, 10, .inl f_1)), (vo, .inl (ca 1, 10, .inl fb))] := hD
  exact W.vret hx hb hr (fun t ht hW => ⟨⟨f_1, rfl, trivial, by rw [ht]; exact hP.sub [0, 1, 2, 3] rfl, hDA (hD.sub [0, 1, 2, 3] (by decide +kernel) rfl)⟩, hS.F ht⟩) hS.2.2 dX8_copyFrom_146
