theorem dX10_pick_0 : decode cX10_pick 0 = .ok (.iload_n 0, 1) := by decide +kernel
theorem dX10_pick_1 : decode cX10_pick 1 = .ok (.iconst 4, 1) := by decide +kernel
theorem dX10_pick_2 : decode cX10_pick 2 = .ok (.iload_n 1, 1) := by decide +kernel
theorem dX10_pick_3 : decode cX10_pick 3 = .ok (.imul, 1) := by decide +kernel
theorem dX10_pick_4 : decode cX10_pick 4 = .ok (.ishr, 1) := by decide +kernel
theorem dX10_pick_5 : decode cX10_pick 5 = .ok (.bipush 15, 2) := by decide +kernel
theorem dX10_pick_7 : decode cX10_pick 7 = .ok (.iand, 1) := by decide +kernel
theorem dX10_pick_8 : decode cX10_pick 8 = .ok (.iconst 1, 1) := by decide +kernel
theorem dX10_pick_9 : decode cX10_pick 9 = .ok (.isub, 1) := by decide +kernel
theorem dX10_pick_10 : decode cX10_pick 10 = .ok (.ireturn, 1) := by decide +kernel
set_option maxRecDepth 20000 in
theorem ggX10_isIn_X10_pick : GoodIn wsX10_isIn wsX10_pick := goodIn_r _ [4] (by decide +kernel) (by decide +kernel)
set_option maxRecDepth 20000 in
theorem gX10_isIn_X10_pick : GoodIn wsX10_isIn (va_wsS RX10 123 yX10_pick wsX10_pick) := goodIn_app (goodIn_of _ (by decide +kernel)) ggX10_isIn_X10_pick
theorem dX10_isIn_0 : decode cX10_isIn 0 = .ok (.iconst 0, 1) := by decide +kernel
theorem dX10_isIn_1 : decode cX10_isIn 1 = .ok (.istore_n 2, 1) := by decide +kernel
theorem dX10_isIn_2 : decode cX10_isIn 2 = .ok (.iload_n 2, 1) := by decide +kernel
theorem dX10_isIn_3 : decode cX10_isIn 3 = .ok (.iconst 4, 1) := by decide +kernel
theorem dX10_isIn_4 : decode cX10_isIn 4 = .ok (.if_icmp .ge 20, 3) := by decide +kernel
theorem dX10_isIn_7 : decode cX10_isIn 7 = .ok (.iload_n 0, 1) := by decide +kernel
theorem dX10_isIn_8 : decode cX10_isIn 8 = .ok (.iload_n 2, 1) := by decide +kernel
theorem dX10_isIn_9 : decode cX10_isIn 9 = .ok (.invokestatic 123, 3) := by decide +kernel
theorem dX10_isIn_12 : decode cX10_isIn 12 = .ok (.iload_n 1, 1) := by decide +kernel
theorem dX10_isIn_13 : decode cX10_isIn 13 = .ok (.if_icmp .ne 5, 3) := by decide +kernel
theorem dX10_isIn_16 : decode cX10_isIn 16 = .ok (.iconst 1, 1) := by decide +kernel
theorem dX10_isIn_17 : decode cX10_isIn 17 = .ok (.ireturn, 1) := by decide +kernel
theorem dX10_isIn_18 : decode cX10_isIn 18 = .ok (.iinc 2 1, 3) := by decide +kernel
theorem dX10_isIn_21 : decode cX10_isIn 21 = .ok (.goto (-19), 3) := by decide +kernel
theorem dX10_isIn_24 : decode cX10_isIn 24 = .ok (.iconst 0, 1) := by decide +kernel
theorem dX10_isIn_25 : decode cX10_isIn 25 = .ok (.ireturn, 1) := by decide +kernel
theorem dX1_add_0 : decode cX1_add 0 = .ok (.aload_n 0, 1) := by decide +kernel
theorem dX1_add_1 : decode cX1_add 1 = .ok (.getfield 9, 3) := by decide +kernel
theorem dX1_add_4 : decode cX1_add 4 = .ok (.bipush 60, 2) := by decide +kernel
theorem dX1_add_6 : decode cX1_add 6 = .ok (.if_icmp .lt 5, 3) := by decide +kernel
theorem dX1_add_9 : decode cX1_add 9 = .ok (.iconst 0, 1) := by decide +kernel
theorem dX1_add_10 : decode cX1_add 10 = .ok (.ireturn, 1) := by decide +kernel
theorem dX1_add_11 : decode cX1_add 11 = .ok (.aload_n 0, 1) := by decide +kernel
theorem dX1_add_12 : decode cX1_add 12 = .ok (.getfield 15, 3) := by decide +kernel
theorem dX1_add_15 : decode cX1_add 15 = .ok (.aload_n 0, 1) := by decide +kernel
theorem dX1_add_16 : decode cX1_add 16 = .ok (.getfield 9, 3) := by decide +kernel
theorem dX1_add_19 : decode cX1_add 19 = .ok (.iload_n 1, 1) := by decide +kernel
theorem dX1_add_20 : decode cX1_add 20 = .ok (.iastore, 1) := by decide +kernel
theorem dX1_add_21 : decode cX1_add 21 = .ok (.aload_n 0, 1) := by decide +kernel
theorem dX1_add_22 : decode cX1_add 22 = .ok (.getfield 19, 3) := by decide +kernel
theorem dX1_add_25 : decode cX1_add 25 = .ok (.aload_n 0, 1) := by decide +kernel
theorem dX1_add_26 : decode cX1_add 26 = .ok (.getfield 9, 3) := by decide +kernel
theorem dX1_add_29 : decode cX1_add 29 = .ok (.iload_n 2, 1) := by decide +kernel
theorem dX1_add_30 : decode cX1_add 30 = .ok (.iastore, 1) := by decide +kernel
theorem dX1_add_31 : decode cX1_add 31 = .ok (.aload_n 0, 1) := by decide +kernel
theorem dX1_add_32 : decode cX1_add 32 = .ok (.getfield 22, 3) := by decide +kernel
theorem dX1_add_35 : decode cX1_add 35 = .ok (.aload_n 0, 1) := by decide +kernel
theorem dX1_add_36 : decode cX1_add 36 = .ok (.getfield 9, 3) := by decide +kernel
theorem dX1_add_39 : decode cX1_add 39 = .ok (.iload_n 3, 1) := by decide +kernel
theorem dX1_add_40 : decode cX1_add 40 = .ok (.iastore, 1) := by decide +kernel
theorem dX1_add_41 : decode cX1_add 41 = .ok (.aload_n 0, 1) := by decide +kernel
theorem dX1_add_42 : decode cX1_add 42 = .ok (.dup, 1) := by decide +kernel
theorem dX1_add_43 : decode cX1_add 43 = .ok (.getfield 9, 3) := by decide +kernel
theorem dX1_add_46 : decode cX1_add 46 = .ok (.iconst 1, 1) := by decide +kernel
theorem dX1_add_47 : decode cX1_add 47 = .ok (.iadd, 1) := by decide +kernel
theorem dX1_add_48 : decode cX1_add 48 = .ok (.putfield 9, 3) := by decide +kernel
theorem dX1_add_51 : decode cX1_add 51 = .ok (.iconst 1, 1) := by decide +kernel
theorem dX1_add_52 : decode cX1_add 52 = .ok (.ireturn, 1) := by decide +kernel
theorem dX6_add_0 : decode cX6_add 0 = .ok (.aload_n 0, 1) := by decide +kernel
theorem dX6_add_1 : decode cX6_add 1 = .ok (.getfield 9, 3) := by decide +kernel
theorem dX6_add_4 : decode cX6_add 4 = .ok (.bipush 20, 2) := by decide +kernel
theorem dX6_add_6 : decode cX6_add 6 = .ok (.if_icmp .lt 5, 3) := by decide +kernel
theorem dX6_add_9 : decode cX6_add 9 = .ok (.iconst 0, 1) := by decide +kernel
theorem dX6_add_10 : decode cX6_add 10 = .ok (.ireturn, 1) := by decide +kernel
theorem dX6_add_11 : decode cX6_add 11 = .ok (.aload_n 0, 1) := by decide +kernel
theorem dX6_add_12 : decode cX6_add 12 = .ok (.getfield 15, 3) := by decide +kernel
theorem dX6_add_15 : decode cX6_add 15 = .ok (.aload_n 0, 1) := by decide +kernel
theorem dX6_add_16 : decode cX6_add 16 = .ok (.getfield 9, 3) := by decide +kernel
theorem dX6_add_19 : decode cX6_add 19 = .ok (.iload_n 1, 1) := by decide +kernel
theorem dX6_add_20 : decode cX6_add 20 = .ok (.iastore, 1) := by decide +kernel
theorem dX6_add_21 : decode cX6_add 21 = .ok (.aload_n 0, 1) := by decide +kernel
theorem dX6_add_22 : decode cX6_add 22 = .ok (.getfield 19, 3) := by decide +kernel
theorem dX6_add_25 : decode cX6_add 25 = .ok (.aload_n 0, 1) := by decide +kernel
theorem dX6_add_26 : decode cX6_add 26 = .ok (.getfield 9, 3) := by decide +kernel
theorem dX6_add_29 : decode cX6_add 29 = .ok (.iload_n 2, 1) := by decide +kernel
theorem dX6_add_30 : decode cX6_add 30 = .ok (.iastore, 1) := by decide +kernel
theorem dX6_add_31 : decode cX6_add 31 = .ok (.aload_n 0, 1) := by decide +kernel
theorem dX6_add_32 : decode cX6_add 32 = .ok (.getfield 22, 3) := by decide +kernel
theorem dX6_add_35 : decode cX6_add 35 = .ok (.aload_n 0, 1) := by decide +kernel
theorem dX6_add_36 : decode cX6_add 36 = .ok (.getfield 9, 3) := by decide +kernel
theorem dX6_add_39 : decode cX6_add 39 = .ok (.iload_n 3, 1) := by decide +kernel
theorem dX6_add_40 : decode cX6_add 40 = .ok (.bastore, 1) := by decide +kernel
theorem dX6_add_41 : decode cX6_add 41 = .ok (.aload_n 0, 1) := by decide +kernel
theorem dX6_add_42 : decode cX6_add 42 = .ok (.getfield 26, 3) := by decide +kernel
theorem dX6_add_45 : decode cX6_add 45 = .ok (.aload_n 0, 1) := by decide +kernel
theorem dX6_add_46 : decode cX6_add 46 = .ok (.getfield 9, 3) := by decide +kernel
theorem dX6_add_49 : decode cX6_add 49 = .ok (.iload 4, 2) := by decide +kernel
theorem dX6_add_51 : decode cX6_add 51 = .ok (.iastore, 1) := by decide +kernel
theorem dX6_add_52 : decode cX6_add 52 = .ok (.aload_n 0, 1) := by decide +kernel
theorem dX6_add_53 : decode cX6_add 53 = .ok (.getfield 29, 3) := by decide +kernel
theorem dX6_add_56 : decode cX6_add 56 = .ok (.aload_n 0, 1) := by decide +kernel
theorem dX6_add_57 : decode cX6_add 57 = .ok (.getfield 9, 3) := by decide +kernel
theorem dX6_add_60 : decode cX6_add 60 = .ok (.iconst (-1), 1) := by decide +kernel
theorem dX6_add_61 : decode cX6_add 61 = .ok (.iastore, 1) := by decide +kernel
theorem dX6_add_62 : decode cX6_add 62 = .ok (.aload_n 0, 1) := by decide +kernel
theorem dX6_add_63 : decode cX6_add 63 = .ok (.dup, 1) := by decide +kernel
theorem dX6_add_64 : decode cX6_add 64 = .ok (.getfield 9, 3) := by decide +kernel
theorem dX6_add_67 : decode cX6_add 67 = .ok (.iconst 1, 1) := by decide +kernel
theorem dX6_add_68 : decode cX6_add 68 = .ok (.iadd, 1) := by decide +kernel
theorem dX6_add_69 : decode cX6_add 69 = .ok (.putfield 9, 3) := by decide +kernel
theorem dX6_add_72 : decode cX6_add 72 = .ok (.iconst 1, 1) := by decide +kernel
theorem dX6_add_73 : decode cX6_add 73 = .ok (.ireturn, 1) := by decide +kernel
theorem dX6_counts_0 : decode cX6_counts 0 = .ok (.aload_n 0, 1) := by decide +kernel
theorem dX6_counts_1 : decode cX6_counts 1 = .ok (.getfield 26, 3) := by decide +kernel
theorem dX6_counts_4 : decode cX6_counts 4 = .ok (.iload_n 1, 1) := by decide +kernel
theorem dX6_counts_5 : decode cX6_counts 5 = .ok (.iaload, 1) := by decide +kernel
theorem dX6_counts_6 : decode cX6_counts 6 = .ok (.iload_n 2, 1) := by decide +kernel
theorem dX6_counts_7 : decode cX6_counts 7 = .ok (.if_icmp .gt 27, 3) := by decide +kernel
theorem dX6_counts_10 : decode cX6_counts 10 = .ok (.aload_n 0, 1) := by decide +kernel
theorem dX6_counts_11 : decode cX6_counts 11 = .ok (.getfield 29, 3) := by decide +kernel
theorem dX6_counts_14 : decode cX6_counts 14 = .ok (.iload_n 1, 1) := by decide +kernel
theorem dX6_counts_15 : decode cX6_counts 15 = .ok (.iaload, 1) := by decide +kernel
theorem dX6_counts_16 : decode cX6_counts 16 = .ok (.iconst (-1), 1) := by decide +kernel
theorem dX6_counts_17 : decode cX6_counts 17 = .ok (.if_icmp .eq 13, 3) := by decide +kernel
theorem dX6_counts_20 : decode cX6_counts 20 = .ok (.aload_n 0, 1) := by decide +kernel
theorem dX6_counts_21 : decode cX6_counts 21 = .ok (.getfield 29, 3) := by decide +kernel
theorem dX6_counts_24 : decode cX6_counts 24 = .ok (.iload_n 1, 1) := by decide +kernel
theorem dX6_counts_25 : decode cX6_counts 25 = .ok (.iaload, 1) := by decide +kernel
theorem dX6_counts_26 : decode cX6_counts 26 = .ok (.iload_n 2, 1) := by decide +kernel
theorem dX6_counts_27 : decode cX6_counts 27 = .ok (.if_icmp .le 7, 3) := by decide +kernel
theorem dX6_counts_30 : decode cX6_counts 30 = .ok (.iconst 1, 1) := by decide +kernel
theorem dX6_counts_31 : decode cX6_counts 31 = .ok (.goto 4, 3) := by decide +kernel
theorem dX6_counts_34 : decode cX6_counts 34 = .ok (.iconst 0, 1) := by decide +kernel
theorem dX6_counts_35 : decode cX6_counts 35 = .ok (.ireturn, 1) := by decide +kernel
set_option maxRecDepth 20000 in
theorem ggX6_ticksKnown_X6_counts : GoodIn wsX6_ticksKnown wsX6_counts := goodIn_r _ [11, 12, 13, 14, 15, 16, 17, 18, 19] (by decide +kernel) (by decide +kernel)
set_option maxRecDepth 20000 in
theorem gX6_ticksKnown_X6_counts : GoodIn wsX6_ticksKnown (wsV RX6 32 RX6 yX6_counts wsX6_counts) := goodIn_app (goodIn_of _ (by decide +kernel)) ggX6_ticksKnown_X6_counts
theorem dX6_ticksKnown_0 : decode cX6_ticksKnown 0 = .ok (.iconst 0, 1) := by decide +kernel
theorem dX6_ticksKnown_1 : decode cX6_ticksKnown 1 = .ok (.istore_n 2, 1) := by decide +kernel
theorem dX6_ticksKnown_2 : decode cX6_ticksKnown 2 = .ok (.iconst 0, 1) := by decide +kernel
theorem dX6_ticksKnown_3 : decode cX6_ticksKnown 3 = .ok (.istore_n 3, 1) := by decide +kernel
theorem dX6_ticksKnown_4 : decode cX6_ticksKnown 4 = .ok (.iload_n 3, 1) := by decide +kernel
theorem dX6_ticksKnown_5 : decode cX6_ticksKnown 5 = .ok (.aload_n 0, 1) := by decide +kernel
theorem dX6_ticksKnown_6 : decode cX6_ticksKnown 6 = .ok (.getfield 9, 3) := by decide +kernel
theorem dX6_ticksKnown_9 : decode cX6_ticksKnown 9 = .ok (.if_icmp .ge 31, 3) := by decide +kernel
theorem dX6_ticksKnown_12 : decode cX6_ticksKnown 12 = .ok (.aload_n 0, 1) := by decide +kernel
theorem dX6_ticksKnown_13 : decode cX6_ticksKnown 13 = .ok (.iload_n 3, 1) := by decide +kernel
theorem dX6_ticksKnown_14 : decode cX6_ticksKnown 14 = .ok (.iload_n 1, 1) := by decide +kernel
theorem dX6_ticksKnown_15 : decode cX6_ticksKnown 15 = .ok (.invokevirtual 32, 3) := by decide +kernel
theorem dX6_ticksKnown_18 : decode cX6_ticksKnown 18 = .ok (.ifCond .eq 16, 3) := by decide +kernel
theorem dX6_ticksKnown_21 : decode cX6_ticksKnown 21 = .ok (.iload_n 2, 1) := by decide +kernel
theorem dX6_ticksKnown_22 : decode cX6_ticksKnown 22 = .ok (.aload_n 0, 1) := by decide +kernel
theorem dX6_ticksKnown_23 : decode cX6_ticksKnown 23 = .ok (.getfield 15, 3) := by decide +kernel
theorem dX6_ticksKnown_26 : decode cX6_ticksKnown 26 = .ok (.iload_n 3, 1) := by decide +kernel
theorem dX6_ticksKnown_27 : decode cX6_ticksKnown 27 = .ok (.iaload, 1) := by decide +kernel
theorem dX6_ticksKnown_28 : decode cX6_ticksKnown 28 = .ok (.iconst 1, 1) := by decide +kernel
theorem dX6_ticksKnown_29 : decode cX6_ticksKnown 29 = .ok (.iadd, 1) := by decide +kernel
theorem dX6_ticksKnown_30 : decode cX6_ticksKnown 30 = .ok (.invokestatic 36, 3) := by decide +kernel
theorem dX6_ticksKnown_33 : decode cX6_ticksKnown 33 = .ok (.istore_n 2, 1) := by decide +kernel
theorem dX6_ticksKnown_34 : decode cX6_ticksKnown 34 = .ok (.iinc 3 1, 3) := by decide +kernel
theorem dX6_ticksKnown_37 : decode cX6_ticksKnown 37 = .ok (.goto (-33), 3) := by decide +kernel
theorem dX6_ticksKnown_40 : decode cX6_ticksKnown 40 = .ok (.iload_n 2, 1) := by decide +kernel
theorem dX6_ticksKnown_41 : decode cX6_ticksKnown 41 = .ok (.ireturn, 1) := by decide +kernel
set_option maxRecDepth 20000 in
theorem ggX6_agree_X10_isIn : GoodIn wsX6_agree wsX10_isIn := goodIn_r _ [14, 15, 16, 13, 17] (by decide +kernel) (by decide +kernel)
set_option maxRecDepth 20000 in
theorem gX6_agree_X10_isIn_n42 : GoodIn wsX6_agree (wsX10_isIn) := ggX6_agree_X10_isIn
set_option maxRecDepth 20000 in
theorem ggX6_agree_X6_counts : GoodIn wsX6_agree wsX6_counts := goodIn_r _ [9, 10, 11, 18, 19, 20, 21, 22, 23] (by decide +kernel) (by decide +kernel)
set_option maxRecDepth 20000 in
theorem gX6_agree_X6_counts : GoodIn wsX6_agree (wsV RX6 32 RX6 yX6_counts wsX6_counts) := goodIn_app (goodIn_of _ (by decide +kernel)) ggX6_agree_X6_counts
theorem dX6_agree_0 : decode cX6_agree 0 = .ok (.iconst 0, 1) := by decide +kernel
theorem dX6_agree_1 : decode cX6_agree 1 = .ok (.istore 4, 2) := by decide +kernel
theorem dX6_agree_3 : decode cX6_agree 3 = .ok (.iload 4, 2) := by decide +kernel
theorem dX6_agree_5 : decode cX6_agree 5 = .ok (.aload_n 0, 1) := by decide +kernel
theorem dX6_agree_6 : decode cX6_agree 6 = .ok (.getfield 9, 3) := by decide +kernel
theorem dX6_agree_9 : decode cX6_agree 9 = .ok (.if_icmp .ge 53, 3) := by decide +kernel
theorem dX6_agree_12 : decode cX6_agree 12 = .ok (.aload_n 0, 1) := by decide +kernel
theorem dX6_agree_13 : decode cX6_agree 13 = .ok (.getfield 15, 3) := by decide +kernel
theorem dX6_agree_16 : decode cX6_agree 16 = .ok (.iload 4, 2) := by decide +kernel
theorem dX6_agree_18 : decode cX6_agree 18 = .ok (.iaload, 1) := by decide +kernel
theorem dX6_agree_19 : decode cX6_agree 19 = .ok (.iload_n 2, 1) := by decide +kernel
theorem dX6_agree_20 : decode cX6_agree 20 = .ok (.if_icmp .ne 36, 3) := by decide +kernel
theorem dX6_agree_23 : decode cX6_agree 23 = .ok (.aload_n 0, 1) := by decide +kernel
theorem dX6_agree_24 : decode cX6_agree 24 = .ok (.iload 4, 2) := by decide +kernel
theorem dX6_agree_26 : decode cX6_agree 26 = .ok (.iload_n 3, 1) := by decide +kernel
theorem dX6_agree_27 : decode cX6_agree 27 = .ok (.invokevirtual 32, 3) := by decide +kernel
theorem dX6_agree_30 : decode cX6_agree 30 = .ok (.ifCond .eq 26, 3) := by decide +kernel
theorem dX6_agree_33 : decode cX6_agree 33 = .ok (.iload_n 1, 1) := by decide +kernel
theorem dX6_agree_34 : decode cX6_agree 34 = .ok (.aload_n 0, 1) := by decide +kernel
theorem dX6_agree_35 : decode cX6_agree 35 = .ok (.getfield 19, 3) := by decide +kernel
theorem dX6_agree_38 : decode cX6_agree 38 = .ok (.iload 4, 2) := by decide +kernel
theorem dX6_agree_40 : decode cX6_agree 40 = .ok (.iaload, 1) := by decide +kernel
theorem dX6_agree_41 : decode cX6_agree 41 = .ok (.invokestatic 42, 3) := by decide +kernel
theorem dX6_agree_44 : decode cX6_agree 44 = .ok (.aload_n 0, 1) := by decide +kernel
theorem dX6_agree_45 : decode cX6_agree 45 = .ok (.getfield 22, 3) := by decide +kernel
theorem dX6_agree_48 : decode cX6_agree 48 = .ok (.iload 4, 2) := by decide +kernel
theorem dX6_agree_50 : decode cX6_agree 50 = .ok (.baload, 1) := by decide +kernel
theorem dX6_agree_51 : decode cX6_agree 51 = .ok (.if_icmp .eq 5, 3) := by decide +kernel
theorem dX6_agree_54 : decode cX6_agree 54 = .ok (.iconst 0, 1) := by decide +kernel
theorem dX6_agree_55 : decode cX6_agree 55 = .ok (.ireturn, 1) := by decide +kernel
theorem dX6_agree_56 : decode cX6_agree 56 = .ok (.iinc 4 1, 3) := by decide +kernel
theorem dX6_agree_59 : decode cX6_agree 59 = .ok (.goto (-56), 3) := by decide +kernel
theorem dX6_agree_62 : decode cX6_agree 62 = .ok (.iconst 1, 1) := by decide +kernel
theorem dX6_agree_63 : decode cX6_agree 63 = .ok (.ireturn, 1) := by decide +kernel
set_option maxHeartbeats 4000000 in
set_option maxRecDepth 100000 in
theorem s_X10_pick (l : Launch) (D : va_G) (ca : Nat → ClassId) (sz : Nat) (x1 : Int32) (x2 : Int32) : Met l yX10_pick wsX10_pick ({ frames := 0, cells := 0, slots := 0, locals := 0 }) (PC [.int x1, .int x2] sz D ca []) (QI (fun (r : Int32) (u : Unit) => True) (fun (_ : Unit) => []) [] sz D) 0 0 (va_A [] sz) := by
  refine Met.ofW (cc := cX10_pick) (maxL := 2) (ret := (some .int)) (by decide +kernel) rfl ?_
  intro p e s m args below meth c s₁ B hml hv
  obtain ⟨rfl, hsz, hP, hC, hD0⟩ := hv
  have hx := B.exec
  have hb := B.bytes
  have hr := B.returns
  have hts := atoms_spec (ws := wsX10_pick) B.pre
  have hown : s.vm.findClass RX10 = some m.cls := findClass_of_methodNamed B.named
  have hlocks := B.notSynchronized
  subst hsz
  have hD := hD0.self (sz := s.heap.size)
  dsimp only [QV, QI, QL, BQ]
  generalize hAe : va_A [] s.heap.size = A at hD ⊢
  have hA : ∀ q : Nat, s.heap.size ≤ q → A q := fun q h => by rw [← hAe]; exact Or.inr h
  have hDA : ∀ {w : va_W}, va_D A w → va_D (va_A [] s.heap.size) w := fun h => by rw [hAe]; exact h
  have hS : va_S A s.heap s.heap [] := va_S.rf
  have hP : va_P D vwCl [] s.heap := hP
  have hl := lv_entry ([.int x1, .int x2]) (n := 2) (Nat.le_of_ble_eq_true rfl)
  rw [lg_entry_eq]
  generalize (lg_sl ([.int x1, .int x2]) ++ List.replicate (2 - (lg_sl ([.int x1, .int x2])).length) Slot.unset).toArray = ls at hl ⊢
  have hl : lv_has ls 2 [(0, .int x1), (1, .int x2)] := hl
  refine lv_iload_n hx hb dX10_pick_0 rfl (lv_at hl 0 rfl) ?_
  refine lv_iconst (v := 4) hx hb dX10_pick_1 (by decide +kernel) ?_
  refine lv_iload_n hx hb dX10_pick_2 rfl (lv_at hl 1 rfl) ?_
  refine lv_imul hx hb dX10_pick_3 ?_
  refine lv_topi (fun y_1 ey_1 => ?_)
  refine lv_ishr hx hb dX10_pick_4 ?_
  refine lv_topi (fun y_2 ey_2 => ?_)
  refine lv_bipush (v := 15) hx hb dX10_pick_5 (by decide +kernel) ?_
  refine lv_iand hx hb dX10_pick_7 ?_
  refine lv_topi (fun y_3 ey_3 => ?_)
  refine lv_iconst (v := 1) hx hb dX10_pick_8 (by decide +kernel) ?_
  refine lv_isub hx hb dX10_pick_9 ?_
  refine lv_topi (fun y_4 ey_4 => ?_)
  exact W.iret (v := y_4) hx hb hr (fun t ht hW => ⟨⟨y_4, (), rfl, trivial, by rw [ht]; exact hP.sub [] rfl, hDA (hD.sub [] (by decide +kernel) rfl)⟩, hS.F ht⟩) hS.2.2 dX10_pick_10
set_option maxHeartbeats 4000000 in
set_option maxRecDepth 100000 in
theorem s_X10_isIn (l : Launch) (D : va_G) (ca : Nat → ClassId) (sz : Nat) (x1 : Int32) (x2 : Int32) : Met l yX10_isIn wsX10_isIn ({ frames := 1, cells := 0, slots := 0, locals := 21 }) (PC [.int x1, .int x2] sz D ca []) (QI (fun (r : Int32) (u : Unit) => r = 0 ∨ r = 1) (fun (_ : Unit) => []) [] sz D) 0 0 (va_A [] sz) := by
  refine Met.ofW (cc := cX10_isIn) (maxL := 3) (ret := (some .boolean)) (by decide +kernel) rfl ?_
  intro p e s m args below meth c s₁ B hml hv
  obtain ⟨rfl, hsz, hP, hC, hD0⟩ := hv
  have hx := B.exec
  have hb := B.bytes
  have hr := B.returns
  have hts := atoms_spec (ws := wsX10_isIn) B.pre
  have hown : s.vm.findClass RX10 = some m.cls := findClass_of_methodNamed B.named
  have hlocks := B.notSynchronized
  subst hsz
  have hD := hD0.self (sz := s.heap.size)
  dsimp only [QV, QI, QL, BQ]
  generalize hAe : va_A [] s.heap.size = A at hD ⊢
  have hA : ∀ q : Nat, s.heap.size ≤ q → A q := fun q h => by rw [← hAe]; exact Or.inr h
  have hDA : ∀ {w : va_W}, va_D A w → va_D (va_A [] s.heap.size) w := fun h => by rw [hAe]; exact h
  have hS : va_S A s.heap s.heap [] := va_S.rf
  have hP : va_P D vwCl [] s.heap := hP
  have hl := lv_entry ([.int x1, .int x2]) (n := 3) (Nat.le_of_ble_eq_true rfl)
  rw [lg_entry_eq]
  generalize (lg_sl ([.int x1, .int x2]) ++ List.replicate (3 - (lg_sl ([.int x1, .int x2])).length) Slot.unset).toArray = ls at hl ⊢
  have hl : lv_has ls 3 [(0, .int x1), (1, .int x2)] := hl
  refine lv_iconst (v := 0) hx hb dX10_isIn_0 (by decide +kernel) ?_
  refine lv_istore_n (lv' := [(2, .int 0), (0, .int x1), (1, .int x2)]) hx hb dX10_isIn_1 rfl hl (by decide +kernel) rfl (fun ls hl => ?_)
  refine lv_iload_n hx hb dX10_isIn_2 rfl (lv_at hl 0 rfl) ?_
  refine lv_iconst (v := 4) hx hb dX10_isIn_3 (by decide +kernel) ?_
  refine lv_icmp_ge (tgt := 24) hx hb dX10_isIn_4 (by decide +kernel) (fun c_1 => absurd c_1 (by decide +kernel)) (fun c_1 => ?_)
  refine lv_iload_n hx hb dX10_isIn_7 rfl (lv_at hl 1 rfl) ?_
  refine lv_iload_n hx hb dX10_isIn_8 rfl (lv_at hl 0 rfl) ?_
  refine kc_i (wr := []) (va_runS (As := [.int x1, .int 0]) (rest := []) ⟨hx, hb, hml, hown, hts⟩ (s_X10_pick l D ca s.heap.size x1 0) (va_cwS 2 hts gX10_isIn_X10_pick rfl rfl rfl (by decide +kernel) ⟨(Nat.le_of_ble_eq_true rfl), (Nat.le_of_ble_eq_true rfl)⟩) (PC.preS hC hP hD [] rfl (by decide +kernel)) rfl rfl hl.1 rfl (lv_room (Nat.le_of_ble_eq_true rfl)) dX10_isIn_9 ⟨(Nat.le_of_ble_eq_true rfl), (Nat.le_of_ble_eq_true rfl)⟩) hP hD hS hA [] [] rfl rfl (by decide +kernel) (by decide +kernel) (fun r_2 u_4 H locs hw_3 hP hD hS => ?_)
  have hP : va_P D vwCl [] H := hP
  have hD : va_D A [] := hD
  refine lv_iload_n hx hb dX10_isIn_12 rfl (lv_at hl 2 rfl) ?_
  refine lv_icmp_ne (tgt := 18) hx hb dX10_isIn_13 (by decide +kernel) (fun c_5 => ?_) (fun c_5 => ?_)
  · refine lv_iinc (v := 1) (lv' := [(2, .int 1), (0, .int x1), (1, .int x2)]) hx hb dX10_isIn_18 hl (k := 0) rfl (by decide +kernel) (by decide +kernel) rfl (fun ls hl => ?_)
    refine lv_goto (tgt := 2) hx hb dX10_isIn_21 (by decide +kernel) ?_
    refine lv_iload_n hx hb dX10_isIn_2 rfl (lv_at hl 0 rfl) ?_
    refine lv_iconst (v := 4) hx hb dX10_isIn_3 (by decide +kernel) ?_
    refine lv_icmp_ge (tgt := 24) hx hb dX10_isIn_4 (by decide +kernel) (fun c_6 => absurd c_6 (by decide +kernel)) (fun c_6 => ?_)
    refine lv_iload_n hx hb dX10_isIn_7 rfl (lv_at hl 1 rfl) ?_
    refine lv_iload_n hx hb dX10_isIn_8 rfl (lv_at hl 0 rfl) ?_
    refine kc_i (wr := []) (va_runS (As := [.int x1, .int 1]) (rest := []) ⟨hx, hb, hml, hown, hts⟩ (s_X10_pick l D ca H.size x1 1) (va_cwS 2 hts gX10_isIn_X10_pick rfl rfl rfl (by decide +kernel) ⟨(Nat.le_of_ble_eq_true rfl), (Nat.le_of_ble_eq_true rfl)⟩) (PC.preS hC hP hD [] rfl (by decide +kernel)) rfl rfl hl.1 rfl (lv_room (Nat.le_of_ble_eq_true rfl)) dX10_isIn_9 ⟨(Nat.le_of_ble_eq_true rfl), (Nat.le_of_ble_eq_true rfl)⟩) hP hD hS hA [] [] rfl rfl (by decide +kernel) (by decide +kernel) (fun r_7 u_9 H locs hw_8 hP hD hS => ?_)
    have hP : va_P D vwCl [] H := hP
    have hD : va_D A [] := hD
    refine lv_iload_n hx hb dX10_isIn_12 rfl (lv_at hl 2 rfl) ?_
    refine lv_icmp_ne (tgt := 18) hx hb dX10_isIn_13 (by decide +kernel) (fun c_10 => ?_) (fun c_10 => ?_)
    · refine lv_iinc (v := 2) (lv' := [(2, .int 2), (0, .int x1), (1, .int x2)]) hx hb dX10_isIn_18 hl (k := 0) rfl (by decide +kernel) (by decide +kernel) rfl (fun ls hl => ?_)
      refine lv_goto (tgt := 2) hx hb dX10_isIn_21 (by decide +kernel) ?_
      refine lv_iload_n hx hb dX10_isIn_2 rfl (lv_at hl 0 rfl) ?_
      refine lv_iconst (v := 4) hx hb dX10_isIn_3 (by decide +kernel) ?_
      refine lv_icmp_ge (tgt := 24) hx hb dX10_isIn_4 (by decide +kernel) (fun c_11 => absurd c_11 (by decide +kernel)) (fun c_11 => ?_)
      refine lv_iload_n hx hb dX10_isIn_7 rfl (lv_at hl 1 rfl) ?_
      refine lv_iload_n hx hb dX10_isIn_8 rfl (lv_at hl 0 rfl) ?_
      refine kc_i (wr := []) (va_runS (As := [.int x1, .int 2]) (rest := []) ⟨hx, hb, hml, hown, hts⟩ (s_X10_pick l D ca H.size x1 2) (va_cwS 2 hts gX10_isIn_X10_pick rfl rfl rfl (by decide +kernel) ⟨(Nat.le_of_ble_eq_true rfl), (Nat.le_of_ble_eq_true rfl)⟩) (PC.preS hC hP hD [] rfl (by decide +kernel)) rfl rfl hl.1 rfl (lv_room (Nat.le_of_ble_eq_true rfl)) dX10_isIn_9 ⟨(Nat.le_of_ble_eq_true rfl), (Nat.le_of_ble_eq_true rfl)⟩) hP hD hS hA [] [] rfl rfl (by decide +kernel) (by decide +kernel) (fun r_12 u_14 H locs hw_13 hP hD hS => ?_)
      have hP : va_P D vwCl [] H := hP
      have hD : va_D A [] := hD
      refine lv_iload_n hx hb dX10_isIn_12 rfl (lv_at hl 2 rfl) ?_
      refine lv_icmp_ne (tgt := 18) hx hb dX10_isIn_13 (by decide +kernel) (fun c_15 => ?_) (fun c_15 => ?_)
      · refine lv_iinc (v := 3) (lv' := [(2, .int 3), (0, .int x1), (1, .int x2)]) hx hb dX10_isIn_18 hl (k := 0) rfl (by decide +kernel) (by decide +kernel) rfl (fun ls hl => ?_)
        refine lv_goto (tgt := 2) hx hb dX10_isIn_21 (by decide +kernel) ?_
        refine lv_iload_n hx hb dX10_isIn_2 rfl (lv_at hl 0 rfl) ?_
        refine lv_iconst (v := 4) hx hb dX10_isIn_3 (by decide +kernel) ?_
        refine lv_icmp_ge (tgt := 24) hx hb dX10_isIn_4 (by decide +kernel) (fun c_16 => absurd c_16 (by decide +kernel)) (fun c_16 => ?_)
        refine lv_iload_n hx hb dX10_isIn_7 rfl (lv_at hl 1 rfl) ?_
        refine lv_iload_n hx hb dX10_isIn_8 rfl (lv_at hl 0 rfl) ?_
        refine kc_i (wr := []) (va_runS (As := [.int x1, .int 3]) (rest := []) ⟨hx, hb, hml, hown, hts⟩ (s_X10_pick l D ca H.size x1 3) (va_cwS 2 hts gX10_isIn_X10_pick rfl rfl rfl (by decide +kernel) ⟨(Nat.le_of_ble_eq_true rfl), (Nat.le_of_ble_eq_true rfl)⟩) (PC.preS hC hP hD [] rfl (by decide +kernel)) rfl rfl hl.1 rfl (lv_room (Nat.le_of_ble_eq_true rfl)) dX10_isIn_9 ⟨(Nat.le_of_ble_eq_true rfl), (Nat.le_of_ble_eq_true rfl)⟩) hP hD hS hA [] [] rfl rfl (by decide +kernel) (by decide +kernel) (fun r_17 u_19 H locs hw_18 hP hD hS => ?_)
        have hP : va_P D vwCl [] H := hP
        have hD : va_D A [] := hD
        refine lv_iload_n hx hb dX10_isIn_12 rfl (lv_at hl 2 rfl) ?_
        refine lv_icmp_ne (tgt := 18) hx hb dX10_isIn_13 (by decide +kernel) (fun c_20 => ?_) (fun c_20 => ?_)
        · refine lv_iinc (v := 4) (lv' := [(2, .int 4), (0, .int x1), (1, .int x2)]) hx hb dX10_isIn_18 hl (k := 0) rfl (by decide +kernel) (by decide +kernel) rfl (fun ls hl => ?_)
          refine lv_goto (tgt := 2) hx hb dX10_isIn_21 (by decide +kernel) ?_
          refine lv_iload_n hx hb dX10_isIn_2 rfl (lv_at hl 0 rfl) ?_
          refine lv_iconst (v := 4) hx hb dX10_isIn_3 (by decide +kernel) ?_
          refine lv_icmp_ge (tgt := 24) hx hb dX10_isIn_4 (by decide +kernel) (fun c_21 => ?_) (fun c_21 => absurd (by decide +kernel) c_21)
          refine lv_iconst (v := 0) hx hb dX10_isIn_24 (by decide +kernel) ?_
          exact W.zret (v := 0) hx hb hr (rfl) (fun t ht hW => ⟨⟨0, (), rfl, (Or.inl rfl), by rw [ht]; exact hP.sub [] rfl, hDA (hD.sub [] (by decide +kernel) rfl)⟩, hS.F ht⟩) hS.2.2 dX10_isIn_25
        · refine lv_iconst (v := 1) hx hb dX10_isIn_16 (by decide +kernel) ?_
          exact W.zret (v := 1) hx hb hr (rfl) (fun t ht hW => ⟨⟨1, (), rfl, (Or.inr rfl), by rw [ht]; exact hP.sub [] rfl, hDA (hD.sub [] (by decide +kernel) rfl)⟩, hS.F ht⟩) hS.2.2 dX10_isIn_17
      · refine lv_iconst (v := 1) hx hb dX10_isIn_16 (by decide +kernel) ?_
        exact W.zret (v := 1) hx hb hr (rfl) (fun t ht hW => ⟨⟨1, (), rfl, (Or.inr rfl), by rw [ht]; exact hP.sub [] rfl, hDA (hD.sub [] (by decide +kernel) rfl)⟩, hS.F ht⟩) hS.2.2 dX10_isIn_17
    · refine lv_iconst (v := 1) hx hb dX10_isIn_16 (by decide +kernel) ?_
      exact W.zret (v := 1) hx hb hr (rfl) (fun t ht hW => ⟨⟨1, (), rfl, (Or.inr rfl), by rw [ht]; exact hP.sub [] rfl, hDA (hD.sub [] (by decide +kernel) rfl)⟩, hS.F ht⟩) hS.2.2 dX10_isIn_17
  · refine lv_iconst (v := 1) hx hb dX10_isIn_16 (by decide +kernel) ?_
    exact W.zret (v := 1) hx hb hr (rfl) (fun t ht hW => ⟨⟨1, (), rfl, (Or.inr rfl), by rw [ht]; exact hP.sub [] rfl, hDA (hD.sub [] (by decide +kernel) rfl)⟩, hS.F ht⟩) hS.2.2 dX10_isIn_17
theorem iw_X1_add_1 : ∀ w ∈ u_ws RX1 TX1 4, w ∈ wsX1_add := by decide +kernel
set_option maxHeartbeats 4000000 in
set_option maxRecDepth 100000 in
theorem s_X1_add (l : Launch) (D : va_G) (ca : Nat → ClassId) (sz : Nat) (h0 : Nat) (c1 : Nat) (c2 : Nat) (c3 : Nat) (kq : Nat) (f1 : Nat → Int32) (f2 : Nat → Int32) (f3 : Nat → Int32) (x1 : Int32) (x2 : Int32) (x3 : Int32) (hq : kq ≤ 60) : Met l yX1_add wsX1_add ({ frames := 0, cells := 0, slots := 0, locals := 0 }) (PC [.ref h0, .int x1, .int x2, .int x3] sz D ca [(h0, .inr (1, [.int (nI kq), .ref c1, .ref c2, .ref c3])), (c1, .inl (ca 1, 60, .inl f1)), (c2, .inl (ca 1, 60, .inl f2)), (c3, .inl (ca 1, 60, .inl f3))]) (QI (fun (r : Int32) (u : Nat × (Nat → Int32) × (Nat → Int32) × (Nat → Int32)) => (r = 0 ∨ r = 1) ∧ u.1 ≤ 60) (fun (u : Nat × (Nat → Int32) × (Nat → Int32) × (Nat → Int32)) => [(h0, .inr (1, [.int (nI u.1), .ref c1, .ref c2, .ref c3])), (c1, .inl (ca 1, 60, .inl u.2.1)), (c2, .inl (ca 1, 60, .inl u.2.2.1)), (c3, .inl (ca 1, 60, .inl u.2.2.2))]) [(h0, .inr (1, [.int (nI kq), .ref c1, .ref c2, .ref c3])), (c1, .inl (ca 1, 60, .inl f1)), (c2, .inl (ca 1, 60, .inl f2)), (c3, .inl (ca 1, 60, .inl f3))] sz D) 0 0 (va_A [(h0, .inr (1, [.int (nI kq), .ref c1, .ref c2, .ref c3])), (c1, .inl (ca 1, 60, .inl f1)), (c2, .inl (ca 1, 60, .inl f2)), (c3, .inl (ca 1, 60, .inl f3))] sz) := by
  refine Met.ofW (cc := cX1_add) (maxL := 4) (ret := (some .boolean)) (by decide +kernel) rfl ?_
  intro p e s m args below meth c s₁ B hml hv
  obtain ⟨rfl, hsz, hP, hC, hD0⟩ := hv
  have hx := B.exec
  have hb := B.bytes
  have hr := B.returns
  have hts := atoms_spec (ws := wsX1_add) B.pre
  have hown : s.vm.findClass RX1 = some m.cls := findClass_of_methodNamed B.named
  have hlocks := B.notSynchronized
  subst hsz
  have hD := hD0.self (sz := s.heap.size)
  dsimp only [QV, QI, QL, BQ]
  generalize hAe : va_A [(h0, .inr (1, [.int (nI kq), .ref c1, .ref c2, .ref c3])), (c1, .inl (ca 1, 60, .inl f1)), (c2, .inl (ca 1, 60, .inl f2)), (c3, .inl (ca 1, 60, .inl f3))] s.heap.size = A at hD ⊢
  have hA : ∀ q : Nat, s.heap.size ≤ q → A q := fun q h => by rw [← hAe]; exact Or.inr h
  have hDA : ∀ {w : va_W}, va_D A w → va_D (va_A [(h0, .inr (1, [.int (nI kq), .ref c1, .ref c2, .ref c3])), (c1, .inl (ca 1, 60, .inl f1)), (c2, .inl (ca 1, 60, .inl f2)), (c3, .inl (ca 1, 60, .inl f3))] s.heap.size) w := fun h => by rw [hAe]; exact h
  have hS : va_S A s.heap s.heap [] := va_S.rf
  have hP : va_P D vwCl [(h0, .inr (1, [.int (nI kq), .ref c1, .ref c2, .ref c3])), (c1, .inl (ca 1, 60, .inl f1)), (c2, .inl (ca 1, 60, .inl f2)), (c3, .inl (ca 1, 60, .inl f3))] s.heap := hP
  have hl := lv_entry ([.ref h0, .int x1, .int x2, .int x3]) (n := 4) (Nat.le_of_ble_eq_true rfl)
  rw [lg_entry_eq]
  generalize (lg_sl ([.ref h0, .int x1, .int x2, .int x3]) ++ List.replicate (4 - (lg_sl ([.ref h0, .int x1, .int x2, .int x3])).length) Slot.unset).toArray = ls at hl ⊢
  have hl : lv_has ls 4 [(0, .ref h0), (1, .int x1), (2, .int x2), (3, .int x3)] := hl
  refine lv_aload_n hx hb dX1_add_0 rfl (lv_at hl 0 rfl) ?_
  refine va_get (D := D) (ci := 1) (v := .int (nI kq)) (C := RX1) (T := TX1) (N := 4) hx hb hts iw_X1_add_1 hown hC.1 hP 0 rfl rfl 0 (by decide +kernel) (hts (.fieldLink RX1 9 "FairWheel$Choices" "count" "I") (by decide +kernel)) (fun _ h9 => h9) rfl dX1_add_1 ?_
  refine lv_bipush (v := 60) hx hb dX1_add_4 (by decide +kernel) ?_
  refine lv_icmp_lt (tgt := 11) hx hb dX1_add_6 (by decide +kernel) (fun c_1 => ?_) (fun c_1 => ?_)
  · have nc_1 : kq < 60 := (nI_ltI (a := kq) (b := 60) (by omega) (by omega)).mp c_1
    refine lv_aload_n hx hb dX1_add_11 rfl (lv_at hl 0 rfl) ?_
    refine va_get (D := D) (ci := 1) (v := .ref c1) (C := RX1) (T := TX1) (N := 4) hx hb hts iw_X1_add_1 hown hC.1 hP 0 rfl rfl 1 (by decide +kernel) (hts (.fieldLink RX1 15 "FairWheel$Choices" "ticks" "[I") (by decide +kernel)) (fun _ h9 => h9) rfl dX1_add_12 ?_
    refine lv_aload_n hx hb dX1_add_15 rfl (lv_at hl 0 rfl) ?_
    refine va_get (D := D) (ci := 1) (v := .int (nI kq)) (C := RX1) (T := TX1) (N := 4) hx hb hts iw_X1_add_1 hown hC.1 hP 0 rfl rfl 0 (by decide +kernel) (hts (.fieldLink RX1 9 "FairWheel$Choices" "count" "I") (by decide +kernel)) (fun _ h9 => h9) rfl dX1_add_16 ?_
    refine lv_iload_n hx hb dX1_add_19 rfl (lv_at hl 1 rfl) ?_
    refine ka_iast hx hb hC.1 hP hD hS 1 1 rfl rfl kq rfl (by omega) (by decide +kernel) dX1_add_20 (fun H locs hP hD hS => ?_)
    have hP : va_P D vwCl [(h0, .inr (1, [.int (nI kq), .ref c1, .ref c2, .ref c3])), (c1, .inl (ca 1, 60, .inl (upd f1 kq x1))), (c2, .inl (ca 1, 60, .inl f2)), (c3, .inl (ca 1, 60, .inl f3))] H := hP
    have hD : va_D A [(h0, .inr (1, [.int (nI kq), .ref c1, .ref c2, .ref c3])), (c1, .inl (ca 1, 60, .inl (upd f1 kq x1))), (c2, .inl (ca 1, 60, .inl f2)), (c3, .inl (ca 1, 60, .inl f3))] := hD
    generalize (upd f1 kq x1) = f_2 at hP hD
    refine lv_aload_n hx hb dX1_add_21 rfl (lv_at hl 0 rfl) ?_
    refine va_get (D := D) (ci := 1) (v := .ref c2) (C := RX1) (T := TX1) (N := 4) hx hb hts iw_X1_add_1 hown hC.1 hP 0 rfl rfl 2 (by decide +kernel) (hts (.fieldLink RX1 19 "FairWheel$Choices" "processors" "[I") (by decide +kernel)) (fun _ h9 => h9) rfl dX1_add_22 ?_
    refine lv_aload_n hx hb dX1_add_25 rfl (lv_at hl 0 rfl) ?_
    refine va_get (D := D) (ci := 1) (v := .int (nI kq)) (C := RX1) (T := TX1) (N := 4) hx hb hts iw_X1_add_1 hown hC.1 hP 0 rfl rfl 0 (by decide +kernel) (hts (.fieldLink RX1 9 "FairWheel$Choices" "count" "I") (by decide +kernel)) (fun _ h9 => h9) rfl dX1_add_26 ?_
    refine lv_iload_n hx hb dX1_add_29 rfl (lv_at hl 2 rfl) ?_
    refine ka_iast hx hb hC.1 hP hD hS 2 1 rfl rfl kq rfl (by omega) (by decide +kernel) dX1_add_30 (fun H locs hP hD hS => ?_)
    have hP : va_P D vwCl [(h0, .inr (1, [.int (nI kq), .ref c1, .ref c2, .ref c3])), (c1, .inl (ca 1, 60, .inl f_2)), (c2, .inl (ca 1, 60, .inl (upd f2 kq x2))), (c3, .inl (ca 1, 60, .inl f3))] H := hP
    have hD : va_D A [(h0, .inr (1, [.int (nI kq), .ref c1, .ref c2, .ref c3])), (c1, .inl (ca 1, 60, .inl f_2)), (c2, .inl (ca 1, 60, .inl (upd f2 kq x2))), (c3, .inl (ca 1, 60, .inl f3))] := hD
    generalize (upd f2 kq x2) = f_3 at hP hD
    refine lv_aload_n hx hb dX1_add_31 rfl (lv_at hl 0 rfl) ?_
    refine va_get (D := D) (ci := 1) (v := .ref c3) (C := RX1) (T := TX1) (N := 4) hx hb hts iw_X1_add_1 hown hC.1 hP 0 rfl rfl 3 (by decide +kernel) (hts (.fieldLink RX1 22 "FairWheel$Choices" "tasks" "[I") (by decide +kernel)) (fun _ h9 => h9) rfl dX1_add_32 ?_
    refine lv_aload_n hx hb dX1_add_35 rfl (lv_at hl 0 rfl) ?_
    refine va_get (D := D) (ci := 1) (v := .int (nI kq)) (C := RX1) (T := TX1) (N := 4) hx hb hts iw_X1_add_1 hown hC.1 hP 0 rfl rfl 0 (by decide +kernel) (hts (.fieldLink RX1 9 "FairWheel$Choices" "count" "I") (by decide +kernel)) (fun _ h9 => h9) rfl dX1_add_36 ?_
    refine lv_iload_n hx hb dX1_add_39 rfl (lv_at hl 3 rfl) ?_
    refine ka_iast hx hb hC.1 hP hD hS 3 1 rfl rfl kq rfl (by omega) (by decide +kernel) dX1_add_40 (fun H locs hP hD hS => ?_)
    have hP : va_P D vwCl [(h0, .inr (1, [.int (nI kq), .ref c1, .ref c2, .ref c3])), (c1, .inl (ca 1, 60, .inl f_2)), (c2, .inl (ca 1, 60, .inl f_3)), (c3, .inl (ca 1, 60, .inl (upd f3 kq x3)))] H := hP
    have hD : va_D A [(h0, .inr (1, [.int (nI kq), .ref c1, .ref c2, .ref c3])), (c1, .inl (ca 1, 60, .inl f_2)), (c2, .inl (ca 1, 60, .inl f_3)), (c3, .inl (ca 1, 60, .inl (upd f3 kq x3)))] := hD
    generalize (upd f3 kq x3) = f_4 at hP hD
    refine lv_aload_n hx hb dX1_add_41 rfl (lv_at hl 0 rfl) ?_
    refine lv_dup hx hb dX1_add_42 rfl ?_
    refine va_get (D := D) (ci := 1) (v := .int (nI kq)) (C := RX1) (T := TX1) (N := 4) hx hb hts iw_X1_add_1 hown hC.1 hP 0 rfl rfl 0 (by decide +kernel) (hts (.fieldLink RX1 9 "FairWheel$Choices" "count" "I") (by decide +kernel)) (fun _ h9 => h9) rfl dX1_add_43 ?_
    refine lv_iconst (v := 1) hx hb dX1_add_46 (by decide +kernel) ?_
    refine lv_iadd hx hb dX1_add_47 ?_
    refine nt_i (nI (kq + 1)) (nI_add kq 1) ?_
    refine va_put (D := D) (ci := 1) (v := .int (nI (kq + 1))) (ty := .int) (C := RX1) (T := TX1) (N := 4) hx hb hts iw_X1_add_1 tyX1 tyX1_ok nmX1 hown hC.1 hP hD hS 0 rfl rfl 0 (by decide +kernel) (hts (.fieldLink RX1 9 "FairWheel$Choices" "count" "I") (by decide +kernel)) (fun _ h9 => h9) rfl (by decide +kernel) rfl rfl (Nat.le_of_ble_eq_true rfl) dX1_add_48 (fun H locs hP hD hS => ?_)
    have hP : va_P D vwCl [(h0, .inr (1, [.int (nI (kq + 1)), .ref c1, .ref c2, .ref c3])), (c1, .inl (ca 1, 60, .inl f_2)), (c2, .inl (ca 1, 60, .inl f_3)), (c3, .inl (ca 1, 60, .inl f_4))] H := hP
    have hD : va_D A [(h0, .inr (1, [.int (nI (kq + 1)), .ref c1, .ref c2, .ref c3])), (c1, .inl (ca 1, 60, .inl f_2)), (c2, .inl (ca 1, 60, .inl f_3)), (c3, .inl (ca 1, 60, .inl f_4))] := hD
    refine lv_iconst (v := 1) hx hb dX1_add_51 (by decide +kernel) ?_
    exact W.zret (v := 1) hx hb hr (rfl) (fun t ht hW => ⟨⟨1, ((kq + 1), f_2, f_3, f_4), rfl, ⟨(Or.inr rfl), by dsimp only; omega⟩, by rw [ht]; exact hP.sub [0, 1, 2, 3] rfl, hDA (hD.sub [0, 1, 2, 3] (by decide +kernel) rfl)⟩, hS.F ht⟩) hS.2.2 dX1_add_52
  · have nc_1 : ¬ (kq < 60) := fun h => c_1 ((nI_ltI (a := kq) (b := 60) (by omega) (by omega)).mpr h)
    refine lv_iconst (v := 0) hx hb dX1_add_9 (by decide +kernel) ?_
    exact W.zret (v := 0) hx hb hr (rfl) (fun t ht hW => ⟨⟨0, (kq, f1, f2, f3), rfl, ⟨(Or.inl rfl), by dsimp only; omega⟩, by rw [ht]; exact hP.sub [0, 1, 2, 3] rfl, hDA (hD.sub [0, 1, 2, 3] (by decide +kernel) rfl)⟩, hS.F ht⟩) hS.2.2 dX1_add_10
theorem iw_X6_add_6 : ∀ w ∈ u_ws RX6 TX6 6, w ∈ wsX6_add := by decide +kernel
set_option maxHeartbeats 4000000 in
set_option maxRecDepth 100000 in
theorem s_X6_add (l : Launch) (D : va_G) (ca : Nat → ClassId) (sz : Nat) (h0 : Nat) (g1 : Nat) (g2 : Nat) (g3 : Nat) (g4 : Nat) (g5 : Nat) (kq : Nat) (fg1 : Nat → Int32) (fg2 : Nat → Int32) (fg3 : Nat → Int32) (fg4 : Nat → Int32) (fg5 : Nat → Int32) (x1 : Int32) (x2 : Int32) (x3 : Int32) (x4 : Int32) (hq : kq ≤ 20) : Met l yX6_add wsX6_add ({ frames := 0, cells := 0, slots := 0, locals := 0 }) (PC [.ref h0, .int x1, .int x2, .int x3, .int x4] sz D ca [(h0, .inr (6, [.int (nI kq), .ref g1, .ref g2, .ref g3, .ref g4, .ref g5])), (g1, .inl (ca 1, 20, .inl fg1)), (g2, .inl (ca 1, 20, .inl fg2)), (g3, .inl (ca 3, 20, .inl fg3)), (g4, .inl (ca 1, 20, .inl fg4)), (g5, .inl (ca 1, 20, .inl fg5))]) (QI (fun (r : Int32) (u : Nat × (Nat → Int32) × (Nat → Int32) × (Nat → Int32) × (Nat → Int32) × (Nat → Int32)) => (r = 0 ∨ r = 1) ∧ u.1 ≤ 20) (fun (u : Nat × (Nat → Int32) × (Nat → Int32) × (Nat → Int32) × (Nat → Int32) × (Nat → Int32)) => [(h0, .inr (6, [.int (nI u.1), .ref g1, .ref g2, .ref g3, .ref g4, .ref g5])), (g1, .inl (ca 1, 20, .inl u.2.1)), (g2, .inl (ca 1, 20, .inl u.2.2.1)), (g3, .inl (ca 3, 20, .inl u.2.2.2.1)), (g4, .inl (ca 1, 20, .inl u.2.2.2.2.1)), (g5, .inl (ca 1, 20, .inl u.2.2.2.2.2))]) [(h0, .inr (6, [.int (nI kq), .ref g1, .ref g2, .ref g3, .ref g4, .ref g5])), (g1, .inl (ca 1, 20, .inl fg1)), (g2, .inl (ca 1, 20, .inl fg2)), (g3, .inl (ca 3, 20, .inl fg3)), (g4, .inl (ca 1, 20, .inl fg4)), (g5, .inl (ca 1, 20, .inl fg5))] sz D) 0 0 (va_A [(h0, .inr (6, [.int (nI kq), .ref g1, .ref g2, .ref g3, .ref g4, .ref g5])), (g1, .inl (ca 1, 20, .inl fg1)), (g2, .inl (ca 1, 20, .inl fg2)), (g3, .inl (ca 3, 20, .inl fg3)), (g4, .inl (ca 1, 20, .inl fg4)), (g5, .inl (ca 1, 20, .inl fg5))] sz) := by
  refine Met.ofW (cc := cX6_add) (maxL := 5) (ret := (some .boolean)) (by decide +kernel) rfl ?_
  intro p e s m args below meth c s₁ B hml hv
  obtain ⟨rfl, hsz, hP, hC, hD0⟩ := hv
  have hx := B.exec
  have hb := B.bytes
  have hr := B.returns
  have hts := atoms_spec (ws := wsX6_add) B.pre
  have hown : s.vm.findClass RX6 = some m.cls := findClass_of_methodNamed B.named
  have hlocks := B.notSynchronized
  subst hsz
  have hD := hD0.self (sz := s.heap.size)
  dsimp only [QV, QI, QL, BQ]
  generalize hAe : va_A [(h0, .inr (6, [.int (nI kq), .ref g1, .ref g2, .ref g3, .ref g4, .ref g5])), (g1, .inl (ca 1, 20, .inl fg1)), (g2, .inl (ca 1, 20, .inl fg2)), (g3, .inl (ca 3, 20, .inl fg3)), (g4, .inl (ca 1, 20, .inl fg4)), (g5, .inl (ca 1, 20, .inl fg5))] s.heap.size = A at hD ⊢
  have hA : ∀ q : Nat, s.heap.size ≤ q → A q := fun q h => by rw [← hAe]; exact Or.inr h
  have hDA : ∀ {w : va_W}, va_D A w → va_D (va_A [(h0, .inr (6, [.int (nI kq), .ref g1, .ref g2, .ref g3, .ref g4, .ref g5])), (g1, .inl (ca 1, 20, .inl fg1)), (g2, .inl (ca 1, 20, .inl fg2)), (g3, .inl (ca 3, 20, .inl fg3)), (g4, .inl (ca 1, 20, .inl fg4)), (g5, .inl (ca 1, 20, .inl fg5))] s.heap.size) w := fun h => by rw [hAe]; exact h
  have hS : va_S A s.heap s.heap [] := va_S.rf
  have hP : va_P D vwCl [(h0, .inr (6, [.int (nI kq), .ref g1, .ref g2, .ref g3, .ref g4, .ref g5])), (g1, .inl (ca 1, 20, .inl fg1)), (g2, .inl (ca 1, 20, .inl fg2)), (g3, .inl (ca 3, 20, .inl fg3)), (g4, .inl (ca 1, 20, .inl fg4)), (g5, .inl (ca 1, 20, .inl fg5))] s.heap := hP
  have hl := lv_entry ([.ref h0, .int x1, .int x2, .int x3, .int x4]) (n := 5) (Nat.le_of_ble_eq_true rfl)
  rw [lg_entry_eq]
  generalize (lg_sl ([.ref h0, .int x1, .int x2, .int x3, .int x4]) ++ List.replicate (5 - (lg_sl ([.ref h0, .int x1, .int x2, .int x3, .int x4])).length) Slot.unset).toArray = ls at hl ⊢
  have hl : lv_has ls 5 [(0, .ref h0), (1, .int x1), (2, .int x2), (3, .int x3), (4, .int x4)] := hl
  refine lv_aload_n hx hb dX6_add_0 rfl (lv_at hl 0 rfl) ?_
  refine va_get (D := D) (ci := 6) (v := .int (nI kq)) (C := RX6) (T := TX6) (N := 6) hx hb hts iw_X6_add_6 hown hC.1 hP 0 rfl rfl 0 (by decide +kernel) (hts (.fieldLink RX6 9 "FairWheel$Sights" "count" "I") (by decide +kernel)) (fun _ h9 => h9) rfl dX6_add_1 ?_
  refine lv_bipush (v := 20) hx hb dX6_add_4 (by decide +kernel) ?_
  refine lv_icmp_lt (tgt := 11) hx hb dX6_add_6 (by decide +kernel) (fun c_1 => ?_) (fun c_1 => ?_)
  · have nc_1 : kq < 20 := (nI_ltI (a := kq) (b := 20) (by omega) (by omega)).mp c_1
    refine lv_aload_n hx hb dX6_add_11 rfl (lv_at hl 0 rfl) ?_
    refine va_get (D := D) (ci := 6) (v := .ref g1) (C := RX6) (T := TX6) (N := 6) hx hb hts iw_X6_add_6 hown hC.1 hP 0 rfl rfl 1 (by decide +kernel) (hts (.fieldLink RX6 15 "FairWheel$Sights" "ticks" "[I") (by decide +kernel)) (fun _ h9 => h9) rfl dX6_add_12 ?_
    refine lv_aload_n hx hb dX6_add_15 rfl (lv_at hl 0 rfl) ?_
    refine va_get (D := D) (ci := 6) (v := .int (nI kq)) (C := RX6) (T := TX6) (N := 6) hx hb hts iw_X6_add_6 hown hC.1 hP 0 rfl rfl 0 (by decide +kernel) (hts (.fieldLink RX6 9 "FairWheel$Sights" "count" "I") (by decide +kernel)) (fun _ h9 => h9) rfl dX6_add_16 ?_
    refine lv_iload_n hx hb dX6_add_19 rfl (lv_at hl 1 rfl) ?_
    refine ka_iast hx hb hC.1 hP hD hS 1 1 rfl rfl kq rfl (by omega) (by decide +kernel) dX6_add_20 (fun H locs hP hD hS => ?_)
    have hP : va_P D vwCl [(h0, .inr (6, [.int (nI kq), .ref g1, .ref g2, .ref g3, .ref g4, .ref g5])), (g1, .inl (ca 1, 20, .inl (upd fg1 kq x1))), (g2, .inl (ca 1, 20, .inl fg2)), (g3, .inl (ca 3, 20, .inl fg3)), (g4, .inl (ca 1, 20, .inl fg4)), (g5, .inl (ca 1, 20, .inl fg5))] H := hP
    have hD : va_D A [(h0, .inr (6, [.int (nI kq), .ref g1, .ref g2, .ref g3, .ref g4, .ref g5])), (g1, .inl (ca 1, 20, .inl (upd fg1 kq x1))), (g2, .inl (ca 1, 20, .inl fg2)), (g3, .inl (ca 3, 20, .inl fg3)), (g4, .inl (ca 1, 20, .inl fg4)), (g5, .inl (ca 1, 20, .inl fg5))] := hD
    generalize (upd fg1 kq x1) = f_2 at hP hD
    refine lv_aload_n hx hb dX6_add_21 rfl (lv_at hl 0 rfl) ?_
    refine va_get (D := D) (ci := 6) (v := .ref g2) (C := RX6) (T := TX6) (N := 6) hx hb hts iw_X6_add_6 hown hC.1 hP 0 rfl rfl 2 (by decide +kernel) (hts (.fieldLink RX6 19 "FairWheel$Sights" "tasks" "[I") (by decide +kernel)) (fun _ h9 => h9) rfl dX6_add_22 ?_
    refine lv_aload_n hx hb dX6_add_25 rfl (lv_at hl 0 rfl) ?_
    refine va_get (D := D) (ci := 6) (v := .int (nI kq)) (C := RX6) (T := TX6) (N := 6) hx hb hts iw_X6_add_6 hown hC.1 hP 0 rfl rfl 0 (by decide +kernel) (hts (.fieldLink RX6 9 "FairWheel$Sights" "count" "I") (by decide +kernel)) (fun _ h9 => h9) rfl dX6_add_26 ?_
    refine lv_iload_n hx hb dX6_add_29 rfl (lv_at hl 2 rfl) ?_
    refine ka_iast hx hb hC.1 hP hD hS 2 1 rfl rfl kq rfl (by omega) (by decide +kernel) dX6_add_30 (fun H locs hP hD hS => ?_)
    have hP : va_P D vwCl [(h0, .inr (6, [.int (nI kq), .ref g1, .ref g2, .ref g3, .ref g4, .ref g5])), (g1, .inl (ca 1, 20, .inl f_2)), (g2, .inl (ca 1, 20, .inl (upd fg2 kq x2))), (g3, .inl (ca 3, 20, .inl fg3)), (g4, .inl (ca 1, 20, .inl fg4)), (g5, .inl (ca 1, 20, .inl fg5))] H := hP
    have hD : va_D A [(h0, .inr (6, [.int (nI kq), .ref g1, .ref g2, .ref g3, .ref g4, .ref g5])), (g1, .inl (ca 1, 20, .inl f_2)), (g2, .inl (ca 1, 20, .inl (upd fg2 kq x2))), (g3, .inl (ca 3, 20, .inl fg3)), (g4, .inl (ca 1, 20, .inl fg4)), (g5, .inl (ca 1, 20, .inl fg5))] := hD
    generalize (upd fg2 kq x2) = f_3 at hP hD
    refine lv_aload_n hx hb dX6_add_31 rfl (lv_at hl 0 rfl) ?_
    refine va_get (D := D) (ci := 6) (v := .ref g3) (C := RX6) (T := TX6) (N := 6) hx hb hts iw_X6_add_6 hown hC.1 hP 0 rfl rfl 3 (by decide +kernel) (hts (.fieldLink RX6 22 "FairWheel$Sights" "ran" "[Z") (by decide +kernel)) (fun _ h9 => h9) rfl dX6_add_32 ?_
    refine lv_aload_n hx hb dX6_add_35 rfl (lv_at hl 0 rfl) ?_
    refine va_get (D := D) (ci := 6) (v := .int (nI kq)) (C := RX6) (T := TX6) (N := 6) hx hb hts iw_X6_add_6 hown hC.1 hP 0 rfl rfl 0 (by decide +kernel) (hts (.fieldLink RX6 9 "FairWheel$Sights" "count" "I") (by decide +kernel)) (fun _ h9 => h9) rfl dX6_add_36 ?_
    refine lv_iload_n hx hb dX6_add_39 rfl (lv_at hl 3 rfl) ?_
    refine ka_zast hx hb hC.1 hP hD hS 3 3 rfl rfl kq rfl (by omega) (by decide +kernel) dX6_add_40 (fun H locs hP hD hS => ?_)
    have hP : va_P D vwCl [(h0, .inr (6, [.int (nI kq), .ref g1, .ref g2, .ref g3, .ref g4, .ref g5])), (g1, .inl (ca 1, 20, .inl f_2)), (g2, .inl (ca 1, 20, .inl f_3)), (g3, .inl (ca 3, 20, .inl (upd fg3 kq (vp_nar .boolean x3)))), (g4, .inl (ca 1, 20, .inl fg4)), (g5, .inl (ca 1, 20, .inl fg5))] H := hP
    have hD : va_D A [(h0, .inr (6, [.int (nI kq), .ref g1, .ref g2, .ref g3, .ref g4, .ref g5])), (g1, .inl (ca 1, 20, .inl f_2)), (g2, .inl (ca 1, 20, .inl f_3)), (g3, .inl (ca 3, 20, .inl (upd fg3 kq (vp_nar .boolean x3)))), (g4, .inl (ca 1, 20, .inl fg4)), (g5, .inl (ca 1, 20, .inl fg5))] := hD
    generalize (upd fg3 kq (vp_nar .boolean x3)) = f_4 at hP hD
    refine lv_aload_n hx hb dX6_add_41 rfl (lv_at hl 0 rfl) ?_
    refine va_get (D := D) (ci := 6) (v := .ref g4) (C := RX6) (T := TX6) (N := 6) hx hb hts iw_X6_add_6 hown hC.1 hP 0 rfl rfl 4 (by decide +kernel) (hts (.fieldLink RX6 26 "FairWheel$Sights" "since" "[I") (by decide +kernel)) (fun _ h9 => h9) rfl dX6_add_42 ?_
    refine lv_aload_n hx hb dX6_add_45 rfl (lv_at hl 0 rfl) ?_
    refine va_get (D := D) (ci := 6) (v := .int (nI kq)) (C := RX6) (T := TX6) (N := 6) hx hb hts iw_X6_add_6 hown hC.1 hP 0 rfl rfl 0 (by decide +kernel) (hts (.fieldLink RX6 9 "FairWheel$Sights" "count" "I") (by decide +kernel)) (fun _ h9 => h9) rfl dX6_add_46 ?_
    refine lv_iload hx hb dX6_add_49 (lv_at hl 4 rfl) ?_
    refine ka_iast hx hb hC.1 hP hD hS 4 1 rfl rfl kq rfl (by omega) (by decide +kernel) dX6_add_51 (fun H locs hP hD hS => ?_)
    have hP : va_P D vwCl [(h0, .inr (6, [.int (nI kq), .ref g1, .ref g2, .ref g3, .ref g4, .ref g5])), (g1, .inl (ca 1, 20, .inl f_2)), (g2, .inl (ca 1, 20, .inl f_3)), (g3, .inl (ca 3, 20, .inl f_4)), (g4, .inl (ca 1, 20, .inl (upd fg4 kq x4))), (g5, .inl (ca 1, 20, .inl fg5))] H := hP
    have hD : va_D A [(h0, .inr (6, [.int (nI kq), .ref g1, .ref g2, .ref g3, .ref g4, .ref g5])), (g1, .inl (ca 1, 20, .inl f_2)), (g2, .inl (ca 1, 20, .inl f_3)), (g3, .inl (ca 3, 20, .inl f_4)), (g4, .inl (ca 1, 20, .inl (upd fg4 kq x4))), (g5, .inl (ca 1, 20, .inl fg5))] := hD
    generalize (upd fg4 kq x4) = f_5 at hP hD
    refine lv_aload_n hx hb dX6_add_52 rfl (lv_at hl 0 rfl) ?_
    refine va_get (D := D) (ci := 6) (v := .ref g5) (C := RX6) (T := TX6) (N := 6) hx hb hts iw_X6_add_6 hown hC.1 hP 0 rfl rfl 5 (by decide +kernel) (hts (.fieldLink RX6 29 "FairWheel$Sights" "untold" "[I") (by decide +kernel)) (fun _ h9 => h9) rfl dX6_add_53 ?_
    refine lv_aload_n hx hb dX6_add_56 rfl (lv_at hl 0 rfl) ?_
    refine va_get (D := D) (ci := 6) (v := .int (nI kq)) (C := RX6) (T := TX6) (N := 6) hx hb hts iw_X6_add_6 hown hC.1 hP 0 rfl rfl 0 (by decide +kernel) (hts (.fieldLink RX6 9 "FairWheel$Sights" "count" "I") (by decide +kernel)) (fun _ h9 => h9) rfl dX6_add_57 ?_
    refine lv_iconst (v := (-1)) hx hb dX6_add_60 (by decide +kernel) ?_
    refine ka_iast hx hb hC.1 hP hD hS 5 1 rfl rfl kq rfl (by omega) (by decide +kernel) dX6_add_61 (fun H locs hP hD hS => ?_)
    have hP : va_P D vwCl [(h0, .inr (6, [.int (nI kq), .ref g1, .ref g2, .ref g3, .ref g4, .ref g5])), (g1, .inl (ca 1, 20, .inl f_2)), (g2, .inl (ca 1, 20, .inl f_3)), (g3, .inl (ca 3, 20, .inl f_4)), (g4, .inl (ca 1, 20, .inl f_5)), (g5, .inl (ca 1, 20, .inl (upd fg5 kq (-1))))] H := hP
    have hD : va_D A [(h0, .inr (6, [.int (nI kq), .ref g1, .ref g2, .ref g3, .ref g4, .ref g5])), (g1, .inl (ca 1, 20, .inl f_2)), (g2, .inl (ca 1, 20, .inl f_3)), (g3, .inl (ca 3, 20, .inl f_4)), (g4, .inl (ca 1, 20, .inl f_5)), (g5, .inl (ca 1, 20, .inl (upd fg5 kq (-1))))] := hD
    generalize (upd fg5 kq (-1)) = f_6 at hP hD
    refine lv_aload_n hx hb dX6_add_62 rfl (lv_at hl 0 rfl) ?_
    refine lv_dup hx hb dX6_add_63 rfl ?_
    refine va_get (D := D) (ci := 6) (v := .int (nI kq)) (C := RX6) (T := TX6) (N := 6) hx hb hts iw_X6_add_6 hown hC.1 hP 0 rfl rfl 0 (by decide +kernel) (hts (.fieldLink RX6 9 "FairWheel$Sights" "count" "I") (by decide +kernel)) (fun _ h9 => h9) rfl dX6_add_64 ?_
    refine lv_iconst (v := 1) hx hb dX6_add_67 (by decide +kernel) ?_
    refine lv_iadd hx hb dX6_add_68 ?_
    refine nt_i (nI (kq + 1)) (nI_add kq 1) ?_
    refine va_put (D := D) (ci := 6) (v := .int (nI (kq + 1))) (ty := .int) (C := RX6) (T := TX6) (N := 6) hx hb hts iw_X6_add_6 tyX6 tyX6_ok nmX6 hown hC.1 hP hD hS 0 rfl rfl 0 (by decide +kernel) (hts (.fieldLink RX6 9 "FairWheel$Sights" "count" "I") (by decide +kernel)) (fun _ h9 => h9) rfl (by decide +kernel) rfl rfl (Nat.le_of_ble_eq_true rfl) dX6_add_69 (fun H locs hP hD hS => ?_)
    have hP : va_P D vwCl [(h0, .inr (6, [.int (nI (kq + 1)), .ref g1, .ref g2, .ref g3, .ref g4, .ref g5])), (g1, .inl (ca 1, 20, .inl f_2)), (g2, .inl (ca 1, 20, .inl f_3)), (g3, .inl (ca 3, 20, .inl f_4)), (g4, .inl (ca 1, 20, .inl f_5)), (g5, .inl (ca 1, 20, .inl f_6))] H := hP
    have hD : va_D A [(h0, .inr (6, [.int (nI (kq + 1)), .ref g1, .ref g2, .ref g3, .ref g4, .ref g5])), (g1, .inl (ca 1, 20, .inl f_2)), (g2, .inl (ca 1, 20, .inl f_3)), (g3, .inl (ca 3, 20, .inl f_4)), (g4, .inl (ca 1, 20, .inl f_5)), (g5, .inl (ca 1, 20, .inl f_6))] := hD
    refine lv_iconst (v := 1) hx hb dX6_add_72 (by decide +kernel) ?_
    exact W.zret (v := 1) hx hb hr (rfl) (fun t ht hW => ⟨⟨1, ((kq + 1), f_2, f_3, f_4, f_5, f_6), rfl, ⟨(Or.inr rfl), by dsimp only; omega⟩, by rw [ht]; exact hP.sub [0, 1, 2, 3, 4, 5] rfl, hDA (hD.sub [0, 1, 2, 3, 4, 5] (by decide +kernel) rfl)⟩, hS.F ht⟩) hS.2.2 dX6_add_73
  · have nc_1 : ¬ (kq < 20) := fun h => c_1 ((nI_ltI (a := kq) (b := 20) (by omega) (by omega)).mpr h)
    refine lv_iconst (v := 0) hx hb dX6_add_9 (by decide +kernel) ?_
    exact W.zret (v := 0) hx hb hr (rfl) (fun t ht hW => ⟨⟨0, (kq, fg1, fg2, fg3, fg4, fg5), rfl, ⟨(Or.inl rfl), by dsimp only; omega⟩, by rw [ht]; exact hP.sub [0, 1, 2, 3, 4, 5] rfl, hDA (hD.sub [0, 1, 2, 3, 4, 5] (by decide +kernel) rfl)⟩, hS.F ht⟩) hS.2.2 dX6_add_10
theorem iw_X6_counts_6 : ∀ w ∈ u_ws RX6 TX6 6, w ∈ wsX6_counts := by decide +kernel
set_option maxHeartbeats 4000000 in
set_option maxRecDepth 100000 in
theorem s_X6_counts (l : Launch) (D : va_G) (ca : Nat → ClassId) (sz : Nat) (h0 : Nat) (g1 : Nat) (g2 : Nat) (g3 : Nat) (g4 : Nat) (g5 : Nat) (kq : Nat) (fg4 : Nat → Int32) (fg5 : Nat → Int32) (k : Nat) (x2 : Int32) (hk : k < 20) : Met l yX6_counts wsX6_counts ({ frames := 0, cells := 0, slots := 0, locals := 0 }) (PC [.ref h0, .int (nI k), .int x2] sz D ca [(h0, .inr (6, [.int (nI kq), .ref g1, .ref g2, .ref g3, .ref g4, .ref g5])), (g4, .inl (ca 1, 20, .inl fg4)), (g5, .inl (ca 1, 20, .inl fg5))]) (QI (fun (r : Int32) (u : Unit) => r = 0 ∨ r = 1) (fun (_ : Unit) => [(h0, .inr (6, [.int (nI kq), .ref g1, .ref g2, .ref g3, .ref g4, .ref g5])), (g4, .inl (ca 1, 20, .inl fg4)), (g5, .inl (ca 1, 20, .inl fg5))]) [(h0, .inr (6, [.int (nI kq), .ref g1, .ref g2, .ref g3, .ref g4, .ref g5])), (g4, .inl (ca 1, 20, .inl fg4)), (g5, .inl (ca 1, 20, .inl fg5))] sz D) 0 0 (va_A [(h0, .inr (6, [.int (nI kq), .ref g1, .ref g2, .ref g3, .ref g4, .ref g5])), (g4, .inl (ca 1, 20, .inl fg4)), (g5, .inl (ca 1, 20, .inl fg5))] sz) := by
  refine Met.ofW (cc := cX6_counts) (maxL := 3) (ret := (some .boolean)) (by decide +kernel) rfl ?_
  intro p e s m args below meth c s₁ B hml hv
  obtain ⟨rfl, hsz, hP, hC, hD0⟩ := hv
  have hx := B.exec
  have hb := B.bytes
  have hr := B.returns
  have hts := atoms_spec (ws := wsX6_counts) B.pre
  have hown : s.vm.findClass RX6 = some m.cls := findClass_of_methodNamed B.named
  have hlocks := B.notSynchronized
  subst hsz
  have hD := hD0.self (sz := s.heap.size)
  dsimp only [QV, QI, QL, BQ]
  generalize hAe : va_A [(h0, .inr (6, [.int (nI kq), .ref g1, .ref g2, .ref g3, .ref g4, .ref g5])), (g4, .inl (ca 1, 20, .inl fg4)), (g5, .inl (ca 1, 20, .inl fg5))] s.heap.size = A at hD ⊢
  have hA : ∀ q : Nat, s.heap.size ≤ q → A q := fun q h => by rw [← hAe]; exact Or.inr h
  have hDA : ∀ {w : va_W}, va_D A w → va_D (va_A [(h0, .inr (6, [.int (nI kq), .ref g1, .ref g2, .ref g3, .ref g4, .ref g5])), (g4, .inl (ca 1, 20, .inl fg4)), (g5, .inl (ca 1, 20, .inl fg5))] s.heap.size) w := fun h => by rw [hAe]; exact h
  have hS : va_S A s.heap s.heap [] := va_S.rf
  have hP : va_P D vwCl [(h0, .inr (6, [.int (nI kq), .ref g1, .ref g2, .ref g3, .ref g4, .ref g5])), (g4, .inl (ca 1, 20, .inl fg4)), (g5, .inl (ca 1, 20, .inl fg5))] s.heap := hP
  have hl := lv_entry ([.ref h0, .int (nI k), .int x2]) (n := 3) (Nat.le_of_ble_eq_true rfl)
  rw [lg_entry_eq]
  generalize (lg_sl ([.ref h0, .int (nI k), .int x2]) ++ List.replicate (3 - (lg_sl ([.ref h0, .int (nI k), .int x2])).length) Slot.unset).toArray = ls at hl ⊢
  have hl : lv_has ls 3 [(0, .ref h0), (1, .int (nI k)), (2, .int x2)] := hl
  refine lv_aload_n hx hb dX6_counts_0 rfl (lv_at hl 0 rfl) ?_
  refine va_get (D := D) (ci := 6) (v := .ref g4) (C := RX6) (T := TX6) (N := 6) hx hb hts iw_X6_counts_6 hown hC.1 hP 0 rfl rfl 4 (by decide +kernel) (hts (.fieldLink RX6 26 "FairWheel$Sights" "since" "[I") (by decide +kernel)) (fun _ h9 => h9) rfl dX6_counts_1 ?_
  refine lv_iload_n hx hb dX6_counts_4 rfl (lv_at hl 1 rfl) ?_
  refine ka_iald hx hb hC.1 hP 1 1 rfl rfl k rfl (by omega) (by decide +kernel) dX6_counts_5 ?_
  refine lv_topi (fun y_1 ey_1 => ?_)
  refine lv_iload_n hx hb dX6_counts_6 rfl (lv_at hl 2 rfl) ?_
  refine lv_icmp_gt (tgt := 34) hx hb dX6_counts_7 (by decide +kernel) (fun c_2 => ?_) (fun c_2 => ?_)
  · refine lv_iconst (v := 0) hx hb dX6_counts_34 (by decide +kernel) ?_
    exact W.zret (v := 0) hx hb hr (rfl) (fun t ht hW => ⟨⟨0, (), rfl, (Or.inl rfl), by rw [ht]; exact hP.sub [0, 1, 2] rfl, hDA (hD.sub [0, 1, 2] (by decide +kernel) rfl)⟩, hS.F ht⟩) hS.2.2 dX6_counts_35
  · refine lv_aload_n hx hb dX6_counts_10 rfl (lv_at hl 0 rfl) ?_
    refine va_get (D := D) (ci := 6) (v := .ref g5) (C := RX6) (T := TX6) (N := 6) hx hb hts iw_X6_counts_6 hown hC.1 hP 0 rfl rfl 5 (by decide +kernel) (hts (.fieldLink RX6 29 "FairWheel$Sights" "untold" "[I") (by decide +kernel)) (fun _ h9 => h9) rfl dX6_counts_11 ?_
    refine lv_iload_n hx hb dX6_counts_14 rfl (lv_at hl 1 rfl) ?_
    refine ka_iald hx hb hC.1 hP 2 1 rfl rfl k rfl (by omega) (by decide +kernel) dX6_counts_15 ?_
    refine lv_topi (fun y_3 ey_3 => ?_)
    refine lv_iconst (v := (-1)) hx hb dX6_counts_16 (by decide +kernel) ?_
    refine lv_icmp_eq (tgt := 30) hx hb dX6_counts_17 (by decide +kernel) (fun c_4 => ?_) (fun c_4 => ?_)
    · refine lv_iconst (v := 1) hx hb dX6_counts_30 (by decide +kernel) ?_
      refine lv_goto (tgt := 35) hx hb dX6_counts_31 (by decide +kernel) ?_
      exact W.zret (v := 1) hx hb hr (rfl) (fun t ht hW => ⟨⟨1, (), rfl, (Or.inr rfl), by rw [ht]; exact hP.sub [0, 1, 2] rfl, hDA (hD.sub [0, 1, 2] (by decide +kernel) rfl)⟩, hS.F ht⟩) hS.2.2 dX6_counts_35
    · refine lv_aload_n hx hb dX6_counts_20 rfl (lv_at hl 0 rfl) ?_
      refine va_get (D := D) (ci := 6) (v := .ref g5) (C := RX6) (T := TX6) (N := 6) hx hb hts iw_X6_counts_6 hown hC.1 hP 0 rfl rfl 5 (by decide +kernel) (hts (.fieldLink RX6 29 "FairWheel$Sights" "untold" "[I") (by decide +kernel)) (fun _ h9 => h9) rfl dX6_counts_21 ?_
      refine lv_iload_n hx hb dX6_counts_24 rfl (lv_at hl 1 rfl) ?_
      refine ka_iald hx hb hC.1 hP 2 1 rfl rfl k rfl (by omega) (by decide +kernel) dX6_counts_25 ?_
      refine lv_topi (fun y_5 ey_5 => ?_)
      refine lv_iload_n hx hb dX6_counts_26 rfl (lv_at hl 2 rfl) ?_
      refine lv_icmp_le (tgt := 34) hx hb dX6_counts_27 (by decide +kernel) (fun c_6 => ?_) (fun c_6 => ?_)
      · refine lv_iconst (v := 0) hx hb dX6_counts_34 (by decide +kernel) ?_
        exact W.zret (v := 0) hx hb hr (rfl) (fun t ht hW => ⟨⟨0, (), rfl, (Or.inl rfl), by rw [ht]; exact hP.sub [0, 1, 2] rfl, hDA (hD.sub [0, 1, 2] (by decide +kernel) rfl)⟩, hS.F ht⟩) hS.2.2 dX6_counts_35
      · refine lv_iconst (v := 1) hx hb dX6_counts_30 (by decide +kernel) ?_
        refine lv_goto (tgt := 35) hx hb dX6_counts_31 (by decide +kernel) ?_
        exact W.zret (v := 1) hx hb hr (rfl) (fun t ht hW => ⟨⟨1, (), rfl, (Or.inr rfl), by rw [ht]; exact hP.sub [0, 1, 2] rfl, hDA (hD.sub [0, 1, 2] (by decide +kernel) rfl)⟩, hS.F ht⟩) hS.2.2 dX6_counts_35
theorem iw_X6_ticksKnown_6 : ∀ w ∈ u_ws RX6 TX6 6, w ∈ wsX6_ticksKnown := by decide +kernel
set_option maxHeartbeats 4000000 in
set_option maxRecDepth 100000 in
theorem s_X6_ticksKnown (l : Launch) (D : va_G) (ca : Nat → ClassId) (sz : Nat) (h0 : Nat) (g1 : Nat) (g2 : Nat) (g3 : Nat) (g4 : Nat) (g5 : Nat) (kq : Nat) (fg1 : Nat → Int32) (fg4 : Nat → Int32) (fg5 : Nat → Int32) (x1 : Int32) (hq : kq ≤ 20) : Met l yX6_ticksKnown wsX6_ticksKnown ({ frames := 1, cells := 0, slots := 0, locals := 22 }) (PC [.ref h0, .int x1] sz D ca [(h0, .inr (6, [.int (nI kq), .ref g1, .ref g2, .ref g3, .ref g4, .ref g5])), (g1, .inl (ca 1, 20, .inl fg1)), (g4, .inl (ca 1, 20, .inl fg4)), (g5, .inl (ca 1, 20, .inl fg5))]) (QI (fun (r : Int32) (u : Unit) => True) (fun (_ : Unit) => [(h0, .inr (6, [.int (nI kq), .ref g1, .ref g2, .ref g3, .ref g4, .ref g5])), (g1, .inl (ca 1, 20, .inl fg1)), (g4, .inl (ca 1, 20, .inl fg4)), (g5, .inl (ca 1, 20, .inl fg5))]) [(h0, .inr (6, [.int (nI kq), .ref g1, .ref g2, .ref g3, .ref g4, .ref g5])), (g1, .inl (ca 1, 20, .inl fg1)), (g4, .inl (ca 1, 20, .inl fg4)), (g5, .inl (ca 1, 20, .inl fg5))] sz D) 0 0 (va_A [(h0, .inr (6, [.int (nI kq), .ref g1, .ref g2, .ref g3, .ref g4, .ref g5])), (g1, .inl (ca 1, 20, .inl fg1)), (g4, .inl (ca 1, 20, .inl fg4)), (g5, .inl (ca 1, 20, .inl fg5))] sz) := by
  refine Met.ofW (cc := cX6_ticksKnown) (maxL := 4) (ret := (some .int)) (by decide +kernel) rfl ?_
  intro p e s m args below meth c s₁ B hml hv
  obtain ⟨rfl, hsz, hP, hC, hD0⟩ := hv
  have hx := B.exec
  have hb := B.bytes
  have hr := B.returns
  have hts := atoms_spec (ws := wsX6_ticksKnown) B.pre
  have hown : s.vm.findClass RX6 = some m.cls := findClass_of_methodNamed B.named
  have hlocks := B.notSynchronized
  subst hsz
  have hD := hD0.self (sz := s.heap.size)
  dsimp only [QV, QI, QL, BQ]
  generalize hAe : va_A [(h0, .inr (6, [.int (nI kq), .ref g1, .ref g2, .ref g3, .ref g4, .ref g5])), (g1, .inl (ca 1, 20, .inl fg1)), (g4, .inl (ca 1, 20, .inl fg4)), (g5, .inl (ca 1, 20, .inl fg5))] s.heap.size = A at hD ⊢
  have hA : ∀ q : Nat, s.heap.size ≤ q → A q := fun q h => by rw [← hAe]; exact Or.inr h
  have hDA : ∀ {w : va_W}, va_D A w → va_D (va_A [(h0, .inr (6, [.int (nI kq), .ref g1, .ref g2, .ref g3, .ref g4, .ref g5])), (g1, .inl (ca 1, 20, .inl fg1)), (g4, .inl (ca 1, 20, .inl fg4)), (g5, .inl (ca 1, 20, .inl fg5))] s.heap.size) w := fun h => by rw [hAe]; exact h
  have hS : va_S A s.heap s.heap [] := va_S.rf
  have hP : va_P D vwCl [(h0, .inr (6, [.int (nI kq), .ref g1, .ref g2, .ref g3, .ref g4, .ref g5])), (g1, .inl (ca 1, 20, .inl fg1)), (g4, .inl (ca 1, 20, .inl fg4)), (g5, .inl (ca 1, 20, .inl fg5))] s.heap := hP
  have hl := lv_entry ([.ref h0, .int x1]) (n := 4) (Nat.le_of_ble_eq_true rfl)
  rw [lg_entry_eq]
  generalize (lg_sl ([.ref h0, .int x1]) ++ List.replicate (4 - (lg_sl ([.ref h0, .int x1])).length) Slot.unset).toArray = ls at hl ⊢
  have hl : lv_has ls 4 [(0, .ref h0), (1, .int x1)] := hl
  refine lv_iconst (v := 0) hx hb dX6_ticksKnown_0 (by decide +kernel) ?_
  refine lv_istore_n (lv' := [(2, .int 0), (0, .ref h0), (1, .int x1)]) hx hb dX6_ticksKnown_1 rfl hl (by decide +kernel) rfl (fun ls hl => ?_)
  refine lv_iconst (v := 0) hx hb dX6_ticksKnown_2 (by decide +kernel) ?_
  refine lv_istore_n (lv' := [(3, .int 0), (2, .int 0), (0, .ref h0), (1, .int x1)]) hx hb dX6_ticksKnown_3 rfl hl (by decide +kernel) rfl (fun ls hl => ?_)
  refine lp_ind (I := fun (n : Nat) H locs ls => ∃ (ji : Nat) (jm : Int32), ji ≤ kq ∧ ji + n = kq + 1 ∧ lv_has ls 4 [(3, .int (nI ji)), (2, .int jm), (0, .ref h0), (1, .int x1)] ∧ va_P D vwCl [(h0, .inr (6, [.int (nI kq), .ref g1, .ref g2, .ref g3, .ref g4, .ref g5])), (g1, .inl (ca 1, 20, .inl fg1)), (g4, .inl (ca 1, 20, .inl fg4)), (g5, .inl (ca 1, 20, .inl fg5))] H ∧ va_D A [(h0, .inr (6, [.int (nI kq), .ref g1, .ref g2, .ref g3, .ref g4, .ref g5])), (g1, .inl (ca 1, 20, .inl fg1)), (g4, .inl (ca 1, 20, .inl fg4)), (g5, .inl (ca 1, 20, .inl fg5))] ∧ va_S A s.heap H locs) (Wf := fun H locs ls => W p l e _ s m _ below meth c H locs _ _ _ (F0 m 4 ls [])) (kq + 1) ⟨0, 0, (by omega), (by omega), hl, hP, hD, hS⟩ ?_ ?_
  · intro H locs ls hI
    obtain ⟨ji, jm, hji, hm, -⟩ := hI
    omega
  intro n ih_1 H locs ls hI
  obtain ⟨ji, jm, hji, hm, hl, hP, hD, hS⟩ := hI
  refine lv_iload_n hx hb dX6_ticksKnown_4 rfl (lv_at hl 0 rfl) ?_
  refine lv_aload_n hx hb dX6_ticksKnown_5 rfl (lv_at hl 2 rfl) ?_
  refine va_get (D := D) (ci := 6) (v := .int (nI kq)) (C := RX6) (T := TX6) (N := 6) hx hb hts iw_X6_ticksKnown_6 hown hC.1 hP 0 rfl rfl 0 (by decide +kernel) (hts (.fieldLink RX6 9 "FairWheel$Sights" "count" "I") (by decide +kernel)) (fun _ h9 => h9) rfl dX6_ticksKnown_6 ?_
  refine lv_icmp_ge (tgt := 40) hx hb dX6_ticksKnown_9 (by decide +kernel) (fun c_2 => ?_) (fun c_2 => ?_)
  · have nc_2 : kq ≤ ji := (nI_leI (a := kq) (b := ji) (by omega) (by omega)).mp c_2
    refine lv_iload_n hx hb dX6_ticksKnown_40 rfl (lv_at hl 1 rfl) ?_
    exact W.iret (v := jm) hx hb hr (fun t ht hW => ⟨⟨jm, (), rfl, trivial, by rw [ht]; exact hP.sub [0, 1, 2, 3] rfl, hDA (hD.sub [0, 1, 2, 3] (by decide +kernel) rfl)⟩, hS.F ht⟩) hS.2.2 dX6_ticksKnown_41
  · have nc_2 : ¬ (kq ≤ ji) := fun h => c_2 ((nI_leI (a := kq) (b := ji) (by omega) (by omega)).mpr h)
    refine lv_aload_n hx hb dX6_ticksKnown_12 rfl (lv_at hl 2 rfl) ?_
    refine lv_iload_n hx hb dX6_ticksKnown_13 rfl (lv_at hl 0 rfl) ?_
    refine lv_iload_n hx hb dX6_ticksKnown_14 rfl (lv_at hl 3 rfl) ?_
    refine kc_i (wr := [(g1, .inl (ca 1, 20, .inl fg1))]) (va_runV (As := [.int (nI ji), .int x1]) (rest := []) ⟨hx, hb, hml, hown, hts⟩ (s_X6_counts l D ca H.size h0 g1 g2 g3 g4 g5 kq fg4 fg5 ji x1 (by omega)) (cwV 2 hts gX6_ticksKnown_X6_counts rfl rfl rfl (by decide +kernel) ⟨(Nat.le_of_ble_eq_true rfl), (Nat.le_of_ble_eq_true rfl)⟩) (PC.preV (ci := 6) hC hP hD [0, 2, 3] rfl (by decide +kernel) rfl rfl) rfl rfl hl.1 rfl (lv_room (Nat.le_of_ble_eq_true rfl)) dX6_ticksKnown_15 ⟨(Nat.le_of_ble_eq_true rfl), (Nat.le_of_ble_eq_true rfl)⟩) hP hD hS hA [0, 2, 3] [1] rfl rfl (by decide +kernel) (by decide +kernel) (fun r_3 u_5 H locs hw_4 hP hD hS => ?_)
    have hu_6 := hw_4
    have hP : va_P D vwCl [(g1, .inl (ca 1, 20, .inl fg1)), (h0, .inr (6, [.int (nI kq), .ref g1, .ref g2, .ref g3, .ref g4, .ref g5])), (g4, .inl (ca 1, 20, .inl fg4)), (g5, .inl (ca 1, 20, .inl fg5))] H := hP
    have hD : va_D A [(g1, .inl (ca 1, 20, .inl fg1)), (h0, .inr (6, [.int (nI kq), .ref g1, .ref g2, .ref g3, .ref g4, .ref g5])), (g4, .inl (ca 1, 20, .inl fg4)), (g5, .inl (ca 1, 20, .inl fg5))] := hD
    refine lv_if_eq (tgt := 34) hx hb dX6_ticksKnown_18 (by decide +kernel) (fun c_7 => ?_) (fun c_7 => ?_)
    · refine lv_iinc (v := nI (ji + 1)) (lv' := [(3, .int (nI (ji + 1))), (2, .int jm), (0, .ref h0), (1, .int x1)]) hx hb dX6_ticksKnown_34 hl (k := 0) rfl (nI_1 _) (by decide +kernel) rfl (fun ls hl => ?_)
      refine lv_goto (tgt := 4) hx hb dX6_ticksKnown_37 (by decide +kernel) ?_
      exact ih_1 _ _ _ ⟨(ji + 1), jm, (by omega), (by omega), lv_sub hl [0, 1, 2, 3] rfl, (hP.sub [1, 0, 2, 3] rfl), (hD.sub [1, 0, 2, 3] (by decide +kernel) rfl), hS⟩
    · refine lv_iload_n hx hb dX6_ticksKnown_21 rfl (lv_at hl 1 rfl) ?_
      refine lv_aload_n hx hb dX6_ticksKnown_22 rfl (lv_at hl 2 rfl) ?_
      refine va_get (D := D) (ci := 6) (v := .ref g1) (C := RX6) (T := TX6) (N := 6) hx hb hts iw_X6_ticksKnown_6 hown hC.1 hP 1 rfl rfl 1 (by decide +kernel) (hts (.fieldLink RX6 15 "FairWheel$Sights" "ticks" "[I") (by decide +kernel)) (fun _ h9 => h9) rfl dX6_ticksKnown_23 ?_
      refine lv_iload_n hx hb dX6_ticksKnown_26 rfl (lv_at hl 0 rfl) ?_
      refine ka_iald hx hb hC.1 hP 0 1 rfl rfl ji rfl (by omega) (by decide +kernel) dX6_ticksKnown_27 ?_
      refine lv_topi (fun y_8 ey_8 => ?_)
      refine lv_iconst (v := 1) hx hb dX6_ticksKnown_28 (by decide +kernel) ?_
      refine lv_iadd hx hb dX6_ticksKnown_29 ?_
      refine lv_topi (fun y_9 ey_9 => ?_)
      refine va_mmax hx hb (hml.trans hl.1.symm) hown (hts (.methodLink RX6 36 Lib.Math.max.name) (by decide +kernel)) (hts (.static Lib.Math.max.name) (by decide +kernel)) (hts (.initialized "java/lang/Math") (by decide +kernel)) (hts (.code Lib.Math.max.name Lib.Math.max.code 2 (some .int)) (by decide +kernel)) (Nat.le_of_ble_eq_true rfl) (Nat.le_of_ble_eq_true rfl) (Nat.le_of_ble_eq_true rfl) (Nat.le_of_ble_eq_true rfl) dX6_ticksKnown_30 ?_
      refine lv_topi (fun y_10 ey_10 => ?_)
      refine lv_istore_n (lv' := [(2, .int y_10), (3, .int (nI ji)), (0, .ref h0), (1, .int x1)]) hx hb dX6_ticksKnown_33 rfl hl (by decide +kernel) rfl (fun ls hl => ?_)
      refine lv_iinc (v := nI (ji + 1)) (lv' := [(3, .int (nI (ji + 1))), (2, .int y_10), (0, .ref h0), (1, .int x1)]) hx hb dX6_ticksKnown_34 hl (k := 1) rfl (nI_1 _) (by decide +kernel) rfl (fun ls hl => ?_)
      refine lv_goto (tgt := 4) hx hb dX6_ticksKnown_37 (by decide +kernel) ?_
      exact ih_1 _ _ _ ⟨(ji + 1), y_10, (by omega), (by omega), lv_sub hl [0, 1, 2, 3] rfl, (hP.sub [1, 0, 2, 3] rfl), (hD.sub [1, 0, 2, 3] (by decide +kernel) rfl), hS⟩
theorem iw_X6_agree_6 : ∀ w ∈ u_ws RX6 TX6 6, w ∈ wsX6_agree := by decide +kernel
set_option maxHeartbeats 4000000 in
set_option maxRecDepth 100000 in
theorem s_X6_agree (l : Launch) (D : va_G) (ca : Nat → ClassId) (sz : Nat) (h0 : Nat) (g1 : Nat) (g2 : Nat) (g3 : Nat) (g4 : Nat) (g5 : Nat) (kq : Nat) (fg1 : Nat → Int32) (fg2 : Nat → Int32) (fg3 : Nat → Int32) (fg4 : Nat → Int32) (fg5 : Nat → Int32) (x1 : Int32) (x2 : Int32) (x3 : Int32) (hq : kq ≤ 20) : Met l yX6_agree wsX6_agree ({ frames := 2, cells := 0, slots := 0, locals := 43 }) (PC [.ref h0, .int x1, .int x2, .int x3] sz D ca [(h0, .inr (6, [.int (nI kq), .ref g1, .ref g2, .ref g3, .ref g4, .ref g5])), (g1, .inl (ca 1, 20, .inl fg1)), (g2, .inl (ca 1, 20, .inl fg2)), (g3, .inl (ca 3, 20, .inl fg3)), (g4, .inl (ca 1, 20, .inl fg4)), (g5, .inl (ca 1, 20, .inl fg5))]) (QI (fun (r : Int32) (u : Unit) => r = 0 ∨ r = 1) (fun (_ : Unit) => [(h0, .inr (6, [.int (nI kq), .ref g1, .ref g2, .ref g3, .ref g4, .ref g5])), (g1, .inl (ca 1, 20, .inl fg1)), (g2, .inl (ca 1, 20, .inl fg2)), (g3, .inl (ca 3, 20, .inl fg3)), (g4, .inl (ca 1, 20, .inl fg4)), (g5, .inl (ca 1, 20, .inl fg5))]) [(h0, .inr (6, [.int (nI kq), .ref g1, .ref g2, .ref g3, .ref g4, .ref g5])), (g1, .inl (ca 1, 20, .inl fg1)), (g2, .inl (ca 1, 20, .inl fg2)), (g3, .inl (ca 3, 20, .inl fg3)), (g4, .inl (ca 1, 20, .inl fg4)), (g5, .inl (ca 1, 20, .inl fg5))] sz D) 0 0 (va_A [(h0, .inr (6, [.int (nI kq), .ref g1, .ref g2, .ref g3, .ref g4, .ref g5])), (g1, .inl (ca 1, 20, .inl fg1)), (g2, .inl (ca 1, 20, .inl fg2)), (g3, .inl (ca 3, 20, .inl fg3)), (g4, .inl (ca 1, 20, .inl fg4)), (g5, .inl (ca 1, 20, .inl fg5))] sz) := by
  refine Met.ofW (cc := cX6_agree) (maxL := 5) (ret := (some .boolean)) (by decide +kernel) rfl ?_
  intro p e s m args below meth c s₁ B hml hv
  obtain ⟨rfl, hsz, hP, hC, hD0⟩ := hv
  have hx := B.exec
  have hb := B.bytes
  have hr := B.returns
  have hts := atoms_spec (ws := wsX6_agree) B.pre
  have hown : s.vm.findClass RX6 = some m.cls := findClass_of_methodNamed B.named
  have hlocks := B.notSynchronized
  subst hsz
  have hD := hD0.self (sz := s.heap.size)
  dsimp only [QV, QI, QL, BQ]
  generalize hAe : va_A [(h0, .inr (6, [.int (nI kq), .ref g1, .ref g2, .ref g3, .ref g4, .ref g5])), (g1, .inl (ca 1, 20, .inl fg1)), (g2, .inl (ca 1, 20, .inl fg2)), (g3, .inl (ca 3, 20, .inl fg3)), (g4, .inl (ca 1, 20, .inl fg4)), (g5, .inl (ca 1, 20, .inl fg5))] s.heap.size = A at hD ⊢
  have hA : ∀ q : Nat, s.heap.size ≤ q → A q := fun q h => by rw [← hAe]; exact Or.inr h
  have hDA : ∀ {w : va_W}, va_D A w → va_D (va_A [(h0, .inr (6, [.int (nI kq), .ref g1, .ref g2, .ref g3, .ref g4, .ref g5])), (g1, .inl (ca 1, 20, .inl fg1)), (g2, .inl (ca 1, 20, .inl fg2)), (g3, .inl (ca 3, 20, .inl fg3)), (g4, .inl (ca 1, 20, .inl fg4)), (g5, .inl (ca 1, 20, .inl fg5))] s.heap.size) w := fun h => by rw [hAe]; exact h
  have hS : va_S A s.heap s.heap [] := va_S.rf
  have hP : va_P D vwCl [(h0, .inr (6, [.int (nI kq), .ref g1, .ref g2, .ref g3, .ref g4, .ref g5])), (g1, .inl (ca 1, 20, .inl fg1)), (g2, .inl (ca 1, 20, .inl fg2)), (g3, .inl (ca 3, 20, .inl fg3)), (g4, .inl (ca 1, 20, .inl fg4)), (g5, .inl (ca 1, 20, .inl fg5))] s.heap := hP
  have hl := lv_entry ([.ref h0, .int x1, .int x2, .int x3]) (n := 5) (Nat.le_of_ble_eq_true rfl)
  rw [lg_entry_eq]
  generalize (lg_sl ([.ref h0, .int x1, .int x2, .int x3]) ++ List.replicate (5 - (lg_sl ([.ref h0, .int x1, .int x2, .int x3])).length) Slot.unset).toArray = ls at hl ⊢
  have hl : lv_has ls 5 [(0, .ref h0), (1, .int x1), (2, .int x2), (3, .int x3)] := hl
  refine lv_iconst (v := 0) hx hb dX6_agree_0 (by decide +kernel) ?_
  refine lv_istore (lv' := [(4, .int 0), (0, .ref h0), (1, .int x1), (2, .int x2), (3, .int x3)]) hx hb dX6_agree_1 hl (by decide +kernel) rfl (fun ls hl => ?_)
  refine lp_ind (I := fun (n : Nat) H locs ls => ∃ (ji : Nat), ji ≤ kq ∧ ji + n = kq + 1 ∧ lv_has ls 5 [(4, .int (nI ji)), (0, .ref h0), (1, .int x1), (2, .int x2), (3, .int x3)] ∧ va_P D vwCl [(h0, .inr (6, [.int (nI kq), .ref g1, .ref g2, .ref g3, .ref g4, .ref g5])), (g1, .inl (ca 1, 20, .inl fg1)), (g2, .inl (ca 1, 20, .inl fg2)), (g3, .inl (ca 3, 20, .inl fg3)), (g4, .inl (ca 1, 20, .inl fg4)), (g5, .inl (ca 1, 20, .inl fg5))] H ∧ va_D A [(h0, .inr (6, [.int (nI kq), .ref g1, .ref g2, .ref g3, .ref g4, .ref g5])), (g1, .inl (ca 1, 20, .inl fg1)), (g2, .inl (ca 1, 20, .inl fg2)), (g3, .inl (ca 3, 20, .inl fg3)), (g4, .inl (ca 1, 20, .inl fg4)), (g5, .inl (ca 1, 20, .inl fg5))] ∧ va_S A s.heap H locs) (Wf := fun H locs ls => W p l e _ s m _ below meth c H locs _ _ _ (F0 m 3 ls [])) (kq + 1) ⟨0, (by omega), (by omega), hl, hP, hD, hS⟩ ?_ ?_
  · intro H locs ls hI
    obtain ⟨ji, hji, hm, -⟩ := hI
    omega
  intro n ih_1 H locs ls hI
  obtain ⟨ji, hji, hm, hl, hP, hD, hS⟩ := hI
  refine lv_iload hx hb dX6_agree_3 (lv_at hl 0 rfl) ?_
  refine lv_aload_n hx hb dX6_agree_5 rfl (lv_at hl 1 rfl) ?_
  refine va_get (D := D) (ci := 6) (v := .int (nI kq)) (C := RX6) (T := TX6) (N := 6) hx hb hts iw_X6_agree_6 hown hC.1 hP 0 rfl rfl 0 (by decide +kernel) (hts (.fieldLink RX6 9 "FairWheel$Sights" "count" "I") (by decide +kernel)) (fun _ h9 => h9) rfl dX6_agree_6 ?_
  refine lv_icmp_ge (tgt := 62) hx hb dX6_agree_9 (by decide +kernel) (fun c_2 => ?_) (fun c_2 => ?_)
  · have nc_2 : kq ≤ ji := (nI_leI (a := kq) (b := ji) (by omega) (by omega)).mp c_2
    refine lv_iconst (v := 1) hx hb dX6_agree_62 (by decide +kernel) ?_
    exact W.zret (v := 1) hx hb hr (rfl) (fun t ht hW => ⟨⟨1, (), rfl, (Or.inr rfl), by rw [ht]; exact hP.sub [0, 1, 2, 3, 4, 5] rfl, hDA (hD.sub [0, 1, 2, 3, 4, 5] (by decide +kernel) rfl)⟩, hS.F ht⟩) hS.2.2 dX6_agree_63
  · have nc_2 : ¬ (kq ≤ ji) := fun h => c_2 ((nI_leI (a := kq) (b := ji) (by omega) (by omega)).mpr h)
    refine lv_aload_n hx hb dX6_agree_12 rfl (lv_at hl 1 rfl) ?_
    refine va_get (D := D) (ci := 6) (v := .ref g1) (C := RX6) (T := TX6) (N := 6) hx hb hts iw_X6_agree_6 hown hC.1 hP 0 rfl rfl 1 (by decide +kernel) (hts (.fieldLink RX6 15 "FairWheel$Sights" "ticks" "[I") (by decide +kernel)) (fun _ h9 => h9) rfl dX6_agree_13 ?_
    refine lv_iload hx hb dX6_agree_16 (lv_at hl 0 rfl) ?_
    refine ka_iald hx hb hC.1 hP 1 1 rfl rfl ji rfl (by omega) (by decide +kernel) dX6_agree_18 ?_
    refine lv_topi (fun y_3 ey_3 => ?_)
    refine lv_iload_n hx hb dX6_agree_19 rfl (lv_at hl 3 rfl) ?_
    refine lv_icmp_ne (tgt := 56) hx hb dX6_agree_20 (by decide +kernel) (fun c_4 => ?_) (fun c_4 => ?_)
    · refine lv_iinc (v := nI (ji + 1)) (lv' := [(4, .int (nI (ji + 1))), (0, .ref h0), (1, .int x1), (2, .int x2), (3, .int x3)]) hx hb dX6_agree_56 hl (k := 0) rfl (nI_1 _) (by decide +kernel) rfl (fun ls hl => ?_)
      refine lv_goto (tgt := 3) hx hb dX6_agree_59 (by decide +kernel) ?_
      exact ih_1 _ _ _ ⟨(ji + 1), (by omega), (by omega), lv_sub hl [0, 1, 2, 3, 4] rfl, hP, hD, hS⟩
    · refine lv_aload_n hx hb dX6_agree_23 rfl (lv_at hl 1 rfl) ?_
      refine lv_iload hx hb dX6_agree_24 (lv_at hl 0 rfl) ?_
      refine lv_iload_n hx hb dX6_agree_26 rfl (lv_at hl 4 rfl) ?_
      refine kc_i (wr := [(g1, .inl (ca 1, 20, .inl fg1)), (g2, .inl (ca 1, 20, .inl fg2)), (g3, .inl (ca 3, 20, .inl fg3))]) (va_runV (As := [.int (nI ji), .int x3]) (rest := []) ⟨hx, hb, hml, hown, hts⟩ (s_X6_counts l D ca H.size h0 g1 g2 g3 g4 g5 kq fg4 fg5 ji x3 (by omega)) (cwV 2 hts gX6_agree_X6_counts rfl rfl rfl (by decide +kernel) ⟨(Nat.le_of_ble_eq_true rfl), (Nat.le_of_ble_eq_true rfl)⟩) (PC.preV (ci := 6) hC hP hD [0, 4, 5] rfl (by decide +kernel) rfl rfl) rfl rfl hl.1 rfl (lv_room (Nat.le_of_ble_eq_true rfl)) dX6_agree_27 ⟨(Nat.le_of_ble_eq_true rfl), (Nat.le_of_ble_eq_true rfl)⟩) hP hD hS hA [0, 4, 5] [1, 2, 3] rfl rfl (by decide +kernel) (by decide +kernel) (fun r_5 u_7 H locs hw_6 hP hD hS => ?_)
      have hu_8 := hw_6
      have hP : va_P D vwCl [(g1, .inl (ca 1, 20, .inl fg1)), (g2, .inl (ca 1, 20, .inl fg2)), (g3, .inl (ca 3, 20, .inl fg3)), (h0, .inr (6, [.int (nI kq), .ref g1, .ref g2, .ref g3, .ref g4, .ref g5])), (g4, .inl (ca 1, 20, .inl fg4)), (g5, .inl (ca 1, 20, .inl fg5))] H := hP
      have hD : va_D A [(g1, .inl (ca 1, 20, .inl fg1)), (g2, .inl (ca 1, 20, .inl fg2)), (g3, .inl (ca 3, 20, .inl fg3)), (h0, .inr (6, [.int (nI kq), .ref g1, .ref g2, .ref g3, .ref g4, .ref g5])), (g4, .inl (ca 1, 20, .inl fg4)), (g5, .inl (ca 1, 20, .inl fg5))] := hD
      refine lv_if_eq (tgt := 56) hx hb dX6_agree_30 (by decide +kernel) (fun c_9 => ?_) (fun c_9 => ?_)
      · refine lv_iinc (v := nI (ji + 1)) (lv' := [(4, .int (nI (ji + 1))), (0, .ref h0), (1, .int x1), (2, .int x2), (3, .int x3)]) hx hb dX6_agree_56 hl (k := 0) rfl (nI_1 _) (by decide +kernel) rfl (fun ls hl => ?_)
        refine lv_goto (tgt := 3) hx hb dX6_agree_59 (by decide +kernel) ?_
        exact ih_1 _ _ _ ⟨(ji + 1), (by omega), (by omega), lv_sub hl [0, 1, 2, 3, 4] rfl, (hP.sub [3, 0, 1, 2, 4, 5] rfl), (hD.sub [3, 0, 1, 2, 4, 5] (by decide +kernel) rfl), hS⟩
      · refine lv_iload_n hx hb dX6_agree_33 rfl (lv_at hl 2 rfl) ?_
        refine lv_aload_n hx hb dX6_agree_34 rfl (lv_at hl 1 rfl) ?_
        refine va_get (D := D) (ci := 6) (v := .ref g2) (C := RX6) (T := TX6) (N := 6) hx hb hts iw_X6_agree_6 hown hC.1 hP 3 rfl rfl 2 (by decide +kernel) (hts (.fieldLink RX6 19 "FairWheel$Sights" "tasks" "[I") (by decide +kernel)) (fun _ h9 => h9) rfl dX6_agree_35 ?_
        refine lv_iload hx hb dX6_agree_38 (lv_at hl 0 rfl) ?_
        refine ka_iald hx hb hC.1 hP 1 1 rfl rfl ji rfl (by omega) (by decide +kernel) dX6_agree_40 ?_
        refine lv_topi (fun y_10 ey_10 => ?_)
        refine kc_i (wr := [(g1, .inl (ca 1, 20, .inl fg1)), (g2, .inl (ca 1, 20, .inl fg2)), (g3, .inl (ca 3, 20, .inl fg3)), (h0, .inr (6, [.int (nI kq), .ref g1, .ref g2, .ref g3, .ref g4, .ref g5])), (g4, .inl (ca 1, 20, .inl fg4)), (g5, .inl (ca 1, 20, .inl fg5))]) (va_runSN (As := [.int x1, .int y_10]) (rest := []) ⟨hx, hb, hml, hown, hts⟩ (s_X10_isIn l D ca H.size x1 y_10) (⟨va_cnB 2 hts gX6_agree_X10_isIn_n42 rfl rfl rfl hC.2.2.2.2.2.2.2.2.2 (hts (.initialized RX10) (by decide +kernel)) (by decide +kernel) ⟨(Nat.le_of_ble_eq_true rfl), (Nat.le_of_ble_eq_true rfl)⟩, hts (.static yX10_isIn) (by decide +kernel), trivial⟩) (PC.preS hC hP hD [] rfl (by decide +kernel)) rfl rfl hl.1 rfl (lv_room (Nat.le_of_ble_eq_true rfl)) dX6_agree_41 ⟨(Nat.le_of_ble_eq_true rfl), (Nat.le_of_ble_eq_true rfl)⟩) hP hD hS hA [] [0, 1, 2, 3, 4, 5] rfl rfl (by decide +kernel) (by decide +kernel) (fun r_11 u_13 H locs hw_12 hP hD hS => ?_)
        have hu_14 := hw_12
        have hP : va_P D vwCl [(g1, .inl (ca 1, 20, .inl fg1)), (g2, .inl (ca 1, 20, .inl fg2)), (g3, .inl (ca 3, 20, .inl fg3)), (h0, .inr (6, [.int (nI kq), .ref g1, .ref g2, .ref g3, .ref g4, .ref g5])), (g4, .inl (ca 1, 20, .inl fg4)), (g5, .inl (ca 1, 20, .inl fg5))] H := hP
        have hD : va_D A [(g1, .inl (ca 1, 20, .inl fg1)), (g2, .inl (ca 1, 20, .inl fg2)), (g3, .inl (ca 3, 20, .inl fg3)), (h0, .inr (6, [.int (nI kq), .ref g1, .ref g2, .ref g3, .ref g4, .ref g5])), (g4, .inl (ca 1, 20, .inl fg4)), (g5, .inl (ca 1, 20, .inl fg5))] := hD
        refine lv_aload_n hx hb dX6_agree_44 rfl (lv_at hl 1 rfl) ?_
        refine va_get (D := D) (ci := 6) (v := .ref g3) (C := RX6) (T := TX6) (N := 6) hx hb hts iw_X6_agree_6 hown hC.1 hP 3 rfl rfl 3 (by decide +kernel) (hts (.fieldLink RX6 22 "FairWheel$Sights" "ran" "[Z") (by decide +kernel)) (fun _ h9 => h9) rfl dX6_agree_45 ?_
        refine lv_iload hx hb dX6_agree_48 (lv_at hl 0 rfl) ?_
        refine ka_zald hx hb hC.1 hP 2 3 rfl rfl ji rfl (by omega) (by decide +kernel) dX6_agree_50 ?_
        refine lv_topi (fun y_15 ey_15 => ?_)
        refine lv_icmp_eq (tgt := 56) hx hb dX6_agree_51 (by decide +kernel) (fun c_16 => ?_) (fun c_16 => ?_)
        · refine lv_iinc (v := nI (ji + 1)) (lv' := [(4, .int (nI (ji + 1))), (0, .ref h0), (1, .int x1), (2, .int x2), (3, .int x3)]) hx hb dX6_agree_56 hl (k := 0) rfl (nI_1 _) (by decide +kernel) rfl (fun ls hl => ?_)
          refine lv_goto (tgt := 3) hx hb dX6_agree_59 (by decide +kernel) ?_
          exact ih_1 _ _ _ ⟨(ji + 1), (by omega), (by omega), lv_sub hl [0, 1, 2, 3, 4] rfl, (hP.sub [3, 0, 1, 2, 4, 5] rfl), (hD.sub [3, 0, 1, 2, 4, 5] (by decide +kernel) rfl), hS⟩
        · refine lv_iconst (v := 0) hx hb dX6_agree_54 (by decide +kernel) ?_
          exact W.zret (v := 0) hx hb hr (rfl) (fun t ht hW => ⟨⟨0, (), rfl, (Or.inl rfl), by rw [ht]; exact hP.sub [3, 0, 1, 2, 4, 5] rfl, hDA (hD.sub [3, 0, 1, 2, 4, 5] (by decide +kernel) rfl)⟩, hS.F ht⟩) hS.2.2 dX6_agree_55
