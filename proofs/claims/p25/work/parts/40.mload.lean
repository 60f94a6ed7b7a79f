set_option maxRecDepth 20000 in
theorem ggX11_later_X11_isIn : GoodIn wsX11_later wsX11_isIn := goodIn_r _ [6] (by decide +kernel) (by decide +kernel)
set_option maxRecDepth 20000 in
theorem gX11_later_X11_isIn : GoodIn wsX11_later (va_wsS RX11 279 yX11_isIn wsX11_isIn) := goodIn_app (goodIn_of _ (by decide +kernel)) ggX11_later_X11_isIn
theorem dX11_later_0 : decode cX11_later 0 = .ok (.iload_n 1, 1) := by decide +kernel
theorem dX11_later_1 : decode cX11_later 1 = .ok (.iconst 0, 1) := by decide +kernel
theorem dX11_later_2 : decode cX11_later 2 = .ok (.sipush 1000, 3) := by decide +kernel
theorem dX11_later_5 : decode cX11_later 5 = .ok (.invokestatic 279, 3) := by decide +kernel
theorem dX11_later_8 : decode cX11_later 8 = .ok (.ifCond .eq 15, 3) := by decide +kernel
theorem dX11_later_11 : decode cX11_later 11 = .ok (.aload_n 0, 1) := by decide +kernel
theorem dX11_later_12 : decode cX11_later 12 = .ok (.getfield 392, 3) := by decide +kernel
theorem dX11_later_15 : decode cX11_later 15 = .ok (.iload_n 1, 1) := by decide +kernel
theorem dX11_later_16 : decode cX11_later 16 = .ok (.iadd, 1) := by decide +kernel
theorem dX11_later_17 : decode cX11_later 17 = .ok (.ldc_w 395, 3) := by decide +kernel
theorem dX11_later_20 : decode cX11_later 20 = .ok (.if_icmp .le 5, 3) := by decide +kernel
theorem dX11_later_23 : decode cX11_later 23 = .ok (.iconst (-1), 1) := by decide +kernel
theorem dX11_later_24 : decode cX11_later 24 = .ok (.ireturn, 1) := by decide +kernel
theorem dX11_later_25 : decode cX11_later 25 = .ok (.aload_n 0, 1) := by decide +kernel
theorem dX11_later_26 : decode cX11_later 26 = .ok (.dup, 1) := by decide +kernel
theorem dX11_later_27 : decode cX11_later 27 = .ok (.getfield 392, 3) := by decide +kernel
theorem dX11_later_30 : decode cX11_later 30 = .ok (.iload_n 1, 1) := by decide +kernel
theorem dX11_later_31 : decode cX11_later 31 = .ok (.iadd, 1) := by decide +kernel
theorem dX11_later_32 : decode cX11_later 32 = .ok (.putfield 392, 3) := by decide +kernel
theorem dX11_later_35 : decode cX11_later 35 = .ok (.aload_n 0, 1) := by decide +kernel
theorem dX11_later_36 : decode cX11_later 36 = .ok (.getfield 392, 3) := by decide +kernel
theorem dX11_later_39 : decode cX11_later 39 = .ok (.ireturn, 1) := by decide +kernel
theorem dX11_common_0 : decode cX11_common 0 = .ok (.lload_n 0, 1) := by decide +kernel
theorem dX11_common_1 : decode cX11_common 1 = .ok (.lstore 4, 2) := by decide +kernel
theorem dX11_common_3 : decode cX11_common 3 = .ok (.lload_n 2, 1) := by decide +kernel
theorem dX11_common_4 : decode cX11_common 4 = .ok (.lstore 6, 2) := by decide +kernel
theorem dX11_common_6 : decode cX11_common 6 = .ok (.lload 6, 2) := by decide +kernel
theorem dX11_common_8 : decode cX11_common 8 = .ok (.lconst 0, 1) := by decide +kernel
theorem dX11_common_9 : decode cX11_common 9 = .ok (.lcmp, 1) := by decide +kernel
theorem dX11_common_10 : decode cX11_common 10 = .ok (.ifCond .eq 21, 3) := by decide +kernel
theorem dX11_common_13 : decode cX11_common 13 = .ok (.lload 4, 2) := by decide +kernel
theorem dX11_common_15 : decode cX11_common 15 = .ok (.lload 6, 2) := by decide +kernel
theorem dX11_common_17 : decode cX11_common 17 = .ok (.lrem, 1) := by decide +kernel
theorem dX11_common_18 : decode cX11_common 18 = .ok (.lstore 8, 2) := by decide +kernel
theorem dX11_common_20 : decode cX11_common 20 = .ok (.lload 6, 2) := by decide +kernel
theorem dX11_common_22 : decode cX11_common 22 = .ok (.lstore 4, 2) := by decide +kernel
theorem dX11_common_24 : decode cX11_common 24 = .ok (.lload 8, 2) := by decide +kernel
theorem dX11_common_26 : decode cX11_common 26 = .ok (.lstore 6, 2) := by decide +kernel
theorem dX11_common_28 : decode cX11_common 28 = .ok (.goto (-22), 3) := by decide +kernel
theorem dX11_common_31 : decode cX11_common 31 = .ok (.lload 4, 2) := by decide +kernel
theorem dX11_common_33 : decode cX11_common 33 = .ok (.lreturn, 1) := by decide +kernel
set_option maxRecDepth 20000 in
theorem ggX11_load_X11_common : GoodIn wsX11_load wsX11_common := goodIn_r _ [30] (by decide +kernel) (by decide +kernel)
set_option maxRecDepth 20000 in
theorem gX11_load_X11_common : GoodIn wsX11_load (va_wsS RX11 376 yX11_common wsX11_common) := goodIn_app (goodIn_of _ (by decide +kernel)) ggX11_load_X11_common
set_option maxRecDepth 20000 in
theorem ggX11_load_X11_isBudgeted : GoodIn wsX11_load wsX11_isBudgeted := goodIn_r _ [17, 18, 19, 20, 7, 21, 22, 3, 31, 32, 33, 34, 35, 36, 37, 38, 39, 40, 41, 42, 43, 44, 45, 46, 47, 48, 49, 50, 51, 52, 53, 54, 55, 56, 57, 58, 59, 60, 61, 62, 63, 64, 65, 66, 67, 68, 69, 70, 71, 72, 73, 74, 75, 76, 77, 78, 79, 80, 81, 82, 83, 84, 85] (by decide +kernel) (by decide +kernel)
set_option maxRecDepth 20000 in
theorem gX11_load_X11_isBudgeted : GoodIn wsX11_load (wsV RX11 303 RX11 yX11_isBudgeted wsX11_isBudgeted) := goodIn_app (goodIn_of _ (by decide +kernel)) ggX11_load_X11_isBudgeted
set_option maxRecDepth 20000 in
theorem ggX11_load_X11_isIn : GoodIn wsX11_load wsX11_isIn := goodIn_r _ [8] (by decide +kernel) (by decide +kernel)
set_option maxRecDepth 20000 in
theorem gX11_load_X11_isIn : GoodIn wsX11_load (va_wsS RX11 279 yX11_isIn wsX11_isIn) := goodIn_app (goodIn_of _ (by decide +kernel)) ggX11_load_X11_isIn
set_option maxRecDepth 20000 in
theorem ggX11_load_X11_of : GoodIn wsX11_load wsX11_of := goodIn_r _ [26, 27, 31, 32, 33, 34, 35, 36, 37, 38, 39, 40, 41, 42, 43, 44, 45, 46, 47, 48, 49, 50, 51, 52, 53, 54, 55, 56, 57, 58, 59, 60, 61, 62, 63, 64, 65, 66, 67, 68, 69, 70, 71, 72, 73, 74, 75, 76, 77, 78, 79, 80, 81, 82, 83, 84, 85] (by decide +kernel) (by decide +kernel)
set_option maxRecDepth 20000 in
theorem gX11_load_X11_of : GoodIn wsX11_load (wsV RX11 294 RX11 yX11_of wsX11_of) := goodIn_app (goodIn_of _ (by decide +kernel)) ggX11_load_X11_of
set_option maxRecDepth 20000 in
theorem ggX11_load_X11_taskMany : GoodIn wsX11_load wsX11_taskMany := goodIn_r _ [12, 13, 3, 31, 32, 33, 34, 35, 36, 37, 38, 39, 40, 41, 42, 43, 44, 45, 46, 47, 48, 49, 50, 51, 52, 53, 54, 55, 56, 57, 58, 59, 60, 61, 62, 63, 64, 65, 66, 67, 68, 69, 70, 71, 72, 73, 74, 75, 76, 77, 78, 79, 80, 81, 82, 83, 84, 85] (by decide +kernel) (by decide +kernel)
set_option maxRecDepth 20000 in
theorem gX11_load_X11_taskMany : GoodIn wsX11_load (wsV RX11 276 RX11 yX11_taskMany wsX11_taskMany) := goodIn_app (goodIn_of _ (by decide +kernel)) ggX11_load_X11_taskMany
theorem dX11_load_0 : decode cX11_load 0 = .ok (.iload_n 1, 1) := by decide +kernel
theorem dX11_load_1 : decode cX11_load 1 = .ok (.iconst 0, 1) := by decide +kernel
theorem dX11_load_2 : decode cX11_load 2 = .ok (.iconst 1, 1) := by decide +kernel
theorem dX11_load_3 : decode cX11_load 3 = .ok (.invokestatic 279, 3) := by decide +kernel
theorem dX11_load_6 : decode cX11_load 6 = .ok (.ifCond .ne 7, 3) := by decide +kernel
theorem dX11_load_9 : decode cX11_load 9 = .ok (.ldc2_w 374, 3) := by decide +kernel
theorem dX11_load_12 : decode cX11_load 12 = .ok (.lreturn, 1) := by decide +kernel
theorem dX11_load_13 : decode cX11_load 13 = .ok (.lconst 0, 1) := by decide +kernel
theorem dX11_load_14 : decode cX11_load 14 = .ok (.lstore_n 2, 1) := by decide +kernel
theorem dX11_load_15 : decode cX11_load 15 = .ok (.lconst 1, 1) := by decide +kernel
theorem dX11_load_16 : decode cX11_load 16 = .ok (.lstore 4, 2) := by decide +kernel
theorem dX11_load_18 : decode cX11_load 18 = .ok (.iconst 0, 1) := by decide +kernel
theorem dX11_load_19 : decode cX11_load 19 = .ok (.istore 6, 2) := by decide +kernel
theorem dX11_load_21 : decode cX11_load 21 = .ok (.iload 6, 2) := by decide +kernel
theorem dX11_load_23 : decode cX11_load 23 = .ok (.aload_n 0, 1) := by decide +kernel
theorem dX11_load_24 : decode cX11_load 24 = .ok (.invokevirtual 276, 3) := by decide +kernel
theorem dX11_load_27 : decode cX11_load 27 = .ok (.if_icmp .ge 103, 3) := by decide +kernel
theorem dX11_load_30 : decode cX11_load 30 = .ok (.aload_n 0, 1) := by decide +kernel
theorem dX11_load_31 : decode cX11_load 31 = .ok (.iload 6, 2) := by decide +kernel
theorem dX11_load_33 : decode cX11_load 33 = .ok (.invokevirtual 303, 3) := by decide +kernel
theorem dX11_load_36 : decode cX11_load 36 = .ok (.ifCond .eq 88, 3) := by decide +kernel
theorem dX11_load_39 : decode cX11_load 39 = .ok (.aload_n 0, 1) := by decide +kernel
theorem dX11_load_40 : decode cX11_load 40 = .ok (.iload 6, 2) := by decide +kernel
theorem dX11_load_42 : decode cX11_load 42 = .ok (.iconst 0, 1) := by decide +kernel
theorem dX11_load_43 : decode cX11_load 43 = .ok (.invokevirtual 294, 3) := by decide +kernel
theorem dX11_load_46 : decode cX11_load 46 = .ok (.iconst 4, 1) := by decide +kernel
theorem dX11_load_47 : decode cX11_load 47 = .ok (.if_icmp .ne 6, 3) := by decide +kernel
theorem dX11_load_50 : decode cX11_load 50 = .ok (.goto 74, 3) := by decide +kernel
theorem dX11_load_53 : decode cX11_load 53 = .ok (.aload_n 0, 1) := by decide +kernel
theorem dX11_load_54 : decode cX11_load 54 = .ok (.getfield 45, 3) := by decide +kernel
theorem dX11_load_57 : decode cX11_load 57 = .ok (.bipush 10, 2) := by decide +kernel
theorem dX11_load_59 : decode cX11_load 59 = .ok (.aload_n 0, 1) := by decide +kernel
theorem dX11_load_60 : decode cX11_load 60 = .ok (.getfield 244, 3) := by decide +kernel
theorem dX11_load_63 : decode cX11_load 63 = .ok (.imul, 1) := by decide +kernel
theorem dX11_load_64 : decode cX11_load 64 = .ok (.iload 6, 2) := by decide +kernel
theorem dX11_load_66 : decode cX11_load 66 = .ok (.iadd, 1) := by decide +kernel
theorem dX11_load_67 : decode cX11_load 67 = .ok (.iaload, 1) := by decide +kernel
theorem dX11_load_68 : decode cX11_load 68 = .ok (.istore 7, 2) := by decide +kernel
theorem dX11_load_70 : decode cX11_load 70 = .ok (.lload_n 2, 1) := by decide +kernel
theorem dX11_load_71 : decode cX11_load 71 = .ok (.iload 7, 2) := by decide +kernel
theorem dX11_load_73 : decode cX11_load 73 = .ok (.i2l, 1) := by decide +kernel
theorem dX11_load_74 : decode cX11_load 74 = .ok (.lmul, 1) := by decide +kernel
theorem dX11_load_75 : decode cX11_load 75 = .ok (.aload_n 0, 1) := by decide +kernel
theorem dX11_load_76 : decode cX11_load 76 = .ok (.getfield 48, 3) := by decide +kernel
theorem dX11_load_79 : decode cX11_load 79 = .ok (.bipush 10, 2) := by decide +kernel
theorem dX11_load_81 : decode cX11_load 81 = .ok (.aload_n 0, 1) := by decide +kernel
theorem dX11_load_82 : decode cX11_load 82 = .ok (.getfield 244, 3) := by decide +kernel
theorem dX11_load_85 : decode cX11_load 85 = .ok (.imul, 1) := by decide +kernel
theorem dX11_load_86 : decode cX11_load 86 = .ok (.iload 6, 2) := by decide +kernel
theorem dX11_load_88 : decode cX11_load 88 = .ok (.iadd, 1) := by decide +kernel
theorem dX11_load_89 : decode cX11_load 89 = .ok (.iaload, 1) := by decide +kernel
theorem dX11_load_90 : decode cX11_load 90 = .ok (.i2l, 1) := by decide +kernel
theorem dX11_load_91 : decode cX11_load 91 = .ok (.lload 4, 2) := by decide +kernel
theorem dX11_load_93 : decode cX11_load 93 = .ok (.lmul, 1) := by decide +kernel
theorem dX11_load_94 : decode cX11_load 94 = .ok (.ladd, 1) := by decide +kernel
theorem dX11_load_95 : decode cX11_load 95 = .ok (.lstore_n 2, 1) := by decide +kernel
theorem dX11_load_96 : decode cX11_load 96 = .ok (.lload 4, 2) := by decide +kernel
theorem dX11_load_98 : decode cX11_load 98 = .ok (.iload 7, 2) := by decide +kernel
theorem dX11_load_100 : decode cX11_load 100 = .ok (.i2l, 1) := by decide +kernel
theorem dX11_load_101 : decode cX11_load 101 = .ok (.lmul, 1) := by decide +kernel
theorem dX11_load_102 : decode cX11_load 102 = .ok (.lstore 4, 2) := by decide +kernel
theorem dX11_load_104 : decode cX11_load 104 = .ok (.lload_n 2, 1) := by decide +kernel
theorem dX11_load_105 : decode cX11_load 105 = .ok (.lload 4, 2) := by decide +kernel
theorem dX11_load_107 : decode cX11_load 107 = .ok (.invokestatic 376, 3) := by decide +kernel
theorem dX11_load_110 : decode cX11_load 110 = .ok (.lstore 8, 2) := by decide +kernel
theorem dX11_load_112 : decode cX11_load 112 = .ok (.lload_n 2, 1) := by decide +kernel
theorem dX11_load_113 : decode cX11_load 113 = .ok (.lload 8, 2) := by decide +kernel
theorem dX11_load_115 : decode cX11_load 115 = .ok (.ldiv, 1) := by decide +kernel
theorem dX11_load_116 : decode cX11_load 116 = .ok (.lstore_n 2, 1) := by decide +kernel
theorem dX11_load_117 : decode cX11_load 117 = .ok (.lload 4, 2) := by decide +kernel
theorem dX11_load_119 : decode cX11_load 119 = .ok (.lload 8, 2) := by decide +kernel
theorem dX11_load_121 : decode cX11_load 121 = .ok (.ldiv, 1) := by decide +kernel
theorem dX11_load_122 : decode cX11_load 122 = .ok (.lstore 4, 2) := by decide +kernel
theorem dX11_load_124 : decode cX11_load 124 = .ok (.iinc 6 1, 3) := by decide +kernel
theorem dX11_load_127 : decode cX11_load 127 = .ok (.goto (-106), 3) := by decide +kernel
theorem dX11_load_130 : decode cX11_load 130 = .ok (.iload_n 1, 1) := by decide +kernel
theorem dX11_load_131 : decode cX11_load 131 = .ok (.ifCond .ne 7, 3) := by decide +kernel
theorem dX11_load_134 : decode cX11_load 134 = .ok (.lload_n 2, 1) := by decide +kernel
theorem dX11_load_135 : decode cX11_load 135 = .ok (.goto 5, 3) := by decide +kernel
theorem dX11_load_138 : decode cX11_load 138 = .ok (.lload 4, 2) := by decide +kernel
theorem dX11_load_140 : decode cX11_load 140 = .ok (.lreturn, 1) := by decide +kernel
theorem iw_X11_later_11 : ∀ w ∈ u_ws RX11 TX11 55, w ∈ wsX11_later := by decide +kernel
set_option maxHeartbeats 4000000 in
set_option maxRecDepth 100000 in
theorem m_later (l : Launch) (D : va_G) (ca : Nat → ClassId) (sz : Nat) (h0 : Nat) (ztape : Nat) (ztext : Nat) (zcores : Nat) (zlocks : Nat) (zbells : Nat) (ztasks : Nat) (zops : Nat) (zopSort : Nat) (zopNumber : Nat) (zkind : Nat) (zevery : Nat) (zbudget : Nat) (zshareTold : Nat) (zfirstOp : Nat) (zopMany : Nat) (zisCores : Nat) (zisLocks : Nat) (zisBells : Nat) (ztName : Nat) (zall : Nat) (zrows : Nat) (zpicked : Nat) (zpileTask : Nat) (zpileLock : Nat) (zwas : Nat) (zbehind : Nat) (zriskRow : Nat) (zriskBest : Nat) (zcTick : Nat) (zcProcessor : Nat) (zcTask : Nat) (zgTick : Nat) (zgTask : Nat) (zgTold : Nat) (zgUntold : Nat) (zgRan : Nat) (zboxAll : Nat) (zboxRows : Nat) (zisBoxed : Nat) (ktp : Nat) (ksz : Nat) (nfaultKind : Int32) (nfaultPlace : Int32) (kat : Nat) (ken : Nat) (ntoken : Int32) (nnumber : Int32) (nname : Int64) (kb : Nat) (kr : Nat) (kp : Nat) (nriskMany : Int32) (kto : Nat) (ksi : Nat) (ntime : Int32) (x1 : Int32) : Met l yX11_later wsX11_later ({ frames := 1, cells := 0, slots := 0, locals := 22 }) (PC [.ref h0, .int x1] sz D ca [(h0, .inr (11, [.ref ztape, .ref ztext, .int (nI ktp), .int (nI ksz), .int nfaultKind, .int nfaultPlace, .int (nI kat), .int (nI ken), .int ntoken, .int nnumber, .long nname, .ref zcores, .ref zlocks, .ref zbells, .ref ztasks, .ref zops, .ref zopSort, .ref zopNumber, .ref zkind, .ref zevery, .ref zbudget, .ref zshareTold, .ref zfirstOp, .ref zopMany, .ref zisCores, .ref zisLocks, .ref zisBells, .ref ztName, .int (nI kb), .int (nI kr), .ref zall, .ref zrows, .ref zpicked, .ref zpileTask, .ref zpileLock, .int (nI kp), .ref zwas, .ref zbehind, .ref zriskRow, .ref zriskBest, .int nriskMany, .ref zcTick, .ref zcProcessor, .ref zcTask, .int (nI kto), .ref zgTick, .ref zgTask, .ref zgTold, .ref zgUntold, .ref zgRan, .int (nI ksi), .int ntime, .ref zboxAll, .ref zboxRows, .ref zisBoxed]))]) (QI (fun (r : Int32) (u : Int32) => r = sp_lat ntime x1 ∧ u = sp_tim ntime x1) (fun (u : Int32) => [(h0, .inr (11, [.ref ztape, .ref ztext, .int (nI ktp), .int (nI ksz), .int nfaultKind, .int nfaultPlace, .int (nI kat), .int (nI ken), .int ntoken, .int nnumber, .long nname, .ref zcores, .ref zlocks, .ref zbells, .ref ztasks, .ref zops, .ref zopSort, .ref zopNumber, .ref zkind, .ref zevery, .ref zbudget, .ref zshareTold, .ref zfirstOp, .ref zopMany, .ref zisCores, .ref zisLocks, .ref zisBells, .ref ztName, .int (nI kb), .int (nI kr), .ref zall, .ref zrows, .ref zpicked, .ref zpileTask, .ref zpileLock, .int (nI kp), .ref zwas, .ref zbehind, .ref zriskRow, .ref zriskBest, .int nriskMany, .ref zcTick, .ref zcProcessor, .ref zcTask, .int (nI kto), .ref zgTick, .ref zgTask, .ref zgTold, .ref zgUntold, .ref zgRan, .int (nI ksi), .int u, .ref zboxAll, .ref zboxRows, .ref zisBoxed]))]) [(h0, .inr (11, [.ref ztape, .ref ztext, .int (nI ktp), .int (nI ksz), .int nfaultKind, .int nfaultPlace, .int (nI kat), .int (nI ken), .int ntoken, .int nnumber, .long nname, .ref zcores, .ref zlocks, .ref zbells, .ref ztasks, .ref zops, .ref zopSort, .ref zopNumber, .ref zkind, .ref zevery, .ref zbudget, .ref zshareTold, .ref zfirstOp, .ref zopMany, .ref zisCores, .ref zisLocks, .ref zisBells, .ref ztName, .int (nI kb), .int (nI kr), .ref zall, .ref zrows, .ref zpicked, .ref zpileTask, .ref zpileLock, .int (nI kp), .ref zwas, .ref zbehind, .ref zriskRow, .ref zriskBest, .int nriskMany, .ref zcTick, .ref zcProcessor, .ref zcTask, .int (nI kto), .ref zgTick, .ref zgTask, .ref zgTold, .ref zgUntold, .ref zgRan, .int (nI ksi), .int ntime, .ref zboxAll, .ref zboxRows, .ref zisBoxed]))] sz D) 0 0 (va_A [(h0, .inr (11, [.ref ztape, .ref ztext, .int (nI ktp), .int (nI ksz), .int nfaultKind, .int nfaultPlace, .int (nI kat), .int (nI ken), .int ntoken, .int nnumber, .long nname, .ref zcores, .ref zlocks, .ref zbells, .ref ztasks, .ref zops, .ref zopSort, .ref zopNumber, .ref zkind, .ref zevery, .ref zbudget, .ref zshareTold, .ref zfirstOp, .ref zopMany, .ref zisCores, .ref zisLocks, .ref zisBells, .ref ztName, .int (nI kb), .int (nI kr), .ref zall, .ref zrows, .ref zpicked, .ref zpileTask, .ref zpileLock, .int (nI kp), .ref zwas, .ref zbehind, .ref zriskRow, .ref zriskBest, .int nriskMany, .ref zcTick, .ref zcProcessor, .ref zcTask, .int (nI kto), .ref zgTick, .ref zgTask, .ref zgTold, .ref zgUntold, .ref zgRan, .int (nI ksi), .int ntime, .ref zboxAll, .ref zboxRows, .ref zisBoxed]))] sz) := by
  refine Met.ofW (cc := cX11_later) (maxL := 2) (ret := (some .int)) (by decide +kernel) rfl ?_
  intro p e s m args below meth c s₁ B hml hv
  obtain ⟨rfl, hsz, hP, hC, hD0⟩ := hv
  have hx := B.exec
  have hb := B.bytes
  have hr := B.returns
  have hts := atoms_spec (ws := wsX11_later) B.pre
  have hown : s.vm.findClass RX11 = some m.cls := findClass_of_methodNamed B.named
  have hlocks := B.notSynchronized
  subst hsz
  have hD := hD0.self (sz := s.heap.size)
  dsimp only [QV, QI, QL, BQ]
  generalize hAe : va_A [(h0, .inr (11, [.ref ztape, .ref ztext, .int (nI ktp), .int (nI ksz), .int nfaultKind, .int nfaultPlace, .int (nI kat), .int (nI ken), .int ntoken, .int nnumber, .long nname, .ref zcores, .ref zlocks, .ref zbells, .ref ztasks, .ref zops, .ref zopSort, .ref zopNumber, .ref zkind, .ref zevery, .ref zbudget, .ref zshareTold, .ref zfirstOp, .ref zopMany, .ref zisCores, .ref zisLocks, .ref zisBells, .ref ztName, .int (nI kb), .int (nI kr), .ref zall, .ref zrows, .ref zpicked, .ref zpileTask, .ref zpileLock, .int (nI kp), .ref zwas, .ref zbehind, .ref zriskRow, .ref zriskBest, .int nriskMany, .ref zcTick, .ref zcProcessor, .ref zcTask, .int (nI kto), .ref zgTick, .ref zgTask, .ref zgTold, .ref zgUntold, .ref zgRan, .int (nI ksi), .int ntime, .ref zboxAll, .ref zboxRows, .ref zisBoxed]))] s.heap.size = A at hD ⊢
  have hA : ∀ q : Nat, s.heap.size ≤ q → A q := fun q h => by rw [← hAe]; exact Or.inr h
  have hDA : ∀ {w : va_W}, va_D A w → va_D (va_A [(h0, .inr (11, [.ref ztape, .ref ztext, .int (nI ktp), .int (nI ksz), .int nfaultKind, .int nfaultPlace, .int (nI kat), .int (nI ken), .int ntoken, .int nnumber, .long nname, .ref zcores, .ref zlocks, .ref zbells, .ref ztasks, .ref zops, .ref zopSort, .ref zopNumber, .ref zkind, .ref zevery, .ref zbudget, .ref zshareTold, .ref zfirstOp, .ref zopMany, .ref zisCores, .ref zisLocks, .ref zisBells, .ref ztName, .int (nI kb), .int (nI kr), .ref zall, .ref zrows, .ref zpicked, .ref zpileTask, .ref zpileLock, .int (nI kp), .ref zwas, .ref zbehind, .ref zriskRow, .ref zriskBest, .int nriskMany, .ref zcTick, .ref zcProcessor, .ref zcTask, .int (nI kto), .ref zgTick, .ref zgTask, .ref zgTold, .ref zgUntold, .ref zgRan, .int (nI ksi), .int ntime, .ref zboxAll, .ref zboxRows, .ref zisBoxed]))] s.heap.size) w := fun h => by rw [hAe]; exact h
  have hS : va_S A s.heap s.heap [] := va_S.rf
  have hP : va_P D vwCl [(h0, .inr (11, [.ref ztape, .ref ztext, .int (nI ktp), .int (nI ksz), .int nfaultKind, .int nfaultPlace, .int (nI kat), .int (nI ken), .int ntoken, .int nnumber, .long nname, .ref zcores, .ref zlocks, .ref zbells, .ref ztasks, .ref zops, .ref zopSort, .ref zopNumber, .ref zkind, .ref zevery, .ref zbudget, .ref zshareTold, .ref zfirstOp, .ref zopMany, .ref zisCores, .ref zisLocks, .ref zisBells, .ref ztName, .int (nI kb), .int (nI kr), .ref zall, .ref zrows, .ref zpicked, .ref zpileTask, .ref zpileLock, .int (nI kp), .ref zwas, .ref zbehind, .ref zriskRow, .ref zriskBest, .int nriskMany, .ref zcTick, .ref zcProcessor, .ref zcTask, .int (nI kto), .ref zgTick, .ref zgTask, .ref zgTold, .ref zgUntold, .ref zgRan, .int (nI ksi), .int ntime, .ref zboxAll, .ref zboxRows, .ref zisBoxed]))] s.heap := hP
  have hl := lv_entry ([.ref h0, .int x1]) (n := 2) (Nat.le_of_ble_eq_true rfl)
  rw [lg_entry_eq]
  generalize (lg_sl ([.ref h0, .int x1]) ++ List.replicate (2 - (lg_sl ([.ref h0, .int x1])).length) Slot.unset).toArray = ls at hl ⊢
  have hl : lv_has ls 2 [(0, .ref h0), (1, .int x1)] := hl
  refine lv_iload_n hx hb dX11_later_0 rfl (lv_at hl 1 rfl) ?_
  refine lv_iconst (v := 0) hx hb dX11_later_1 (by decide +kernel) ?_
  refine lv_sipush (v := 1000) hx hb dX11_later_2 (by decide +kernel) ?_
  refine kc_i (wr := [(h0, .inr (11, [.ref ztape, .ref ztext, .int (nI ktp), .int (nI ksz), .int nfaultKind, .int nfaultPlace, .int (nI kat), .int (nI ken), .int ntoken, .int nnumber, .long nname, .ref zcores, .ref zlocks, .ref zbells, .ref ztasks, .ref zops, .ref zopSort, .ref zopNumber, .ref zkind, .ref zevery, .ref zbudget, .ref zshareTold, .ref zfirstOp, .ref zopMany, .ref zisCores, .ref zisLocks, .ref zisBells, .ref ztName, .int (nI kb), .int (nI kr), .ref zall, .ref zrows, .ref zpicked, .ref zpileTask, .ref zpileLock, .int (nI kp), .ref zwas, .ref zbehind, .ref zriskRow, .ref zriskBest, .int nriskMany, .ref zcTick, .ref zcProcessor, .ref zcTask, .int (nI kto), .ref zgTick, .ref zgTask, .ref zgTold, .ref zgUntold, .ref zgRan, .int (nI ksi), .int ntime, .ref zboxAll, .ref zboxRows, .ref zisBoxed]))]) (va_runS (As := [.int x1, .int 0, .int 1000]) (rest := []) ⟨hx, hb, hml, hown, hts⟩ (m_isIn l D ca s.heap.size x1 0 1000) (va_cwS 3 hts gX11_later_X11_isIn rfl rfl rfl (by decide +kernel) ⟨(Nat.le_of_ble_eq_true rfl), (Nat.le_of_ble_eq_true rfl)⟩) (PC.preS hC hP hD [] rfl (by decide +kernel)) rfl rfl hl.1 rfl (lv_room (Nat.le_of_ble_eq_true rfl)) dX11_later_5 ⟨(Nat.le_of_ble_eq_true rfl), (Nat.le_of_ble_eq_true rfl)⟩) hP hD hS hA [] [0] rfl rfl (by decide +kernel) (by decide +kernel) (fun r_1 u_3 H locs hw_2 hP hD hS => ?_)
  have hu_4 := hw_2
  have hP : va_P D vwCl [(h0, .inr (11, [.ref ztape, .ref ztext, .int (nI ktp), .int (nI ksz), .int nfaultKind, .int nfaultPlace, .int (nI kat), .int (nI ken), .int ntoken, .int nnumber, .long nname, .ref zcores, .ref zlocks, .ref zbells, .ref ztasks, .ref zops, .ref zopSort, .ref zopNumber, .ref zkind, .ref zevery, .ref zbudget, .ref zshareTold, .ref zfirstOp, .ref zopMany, .ref zisCores, .ref zisLocks, .ref zisBells, .ref ztName, .int (nI kb), .int (nI kr), .ref zall, .ref zrows, .ref zpicked, .ref zpileTask, .ref zpileLock, .int (nI kp), .ref zwas, .ref zbehind, .ref zriskRow, .ref zriskBest, .int nriskMany, .ref zcTick, .ref zcProcessor, .ref zcTask, .int (nI kto), .ref zgTick, .ref zgTask, .ref zgTold, .ref zgUntold, .ref zgRan, .int (nI ksi), .int ntime, .ref zboxAll, .ref zboxRows, .ref zisBoxed]))] H := hP
  have hD : va_D A [(h0, .inr (11, [.ref ztape, .ref ztext, .int (nI ktp), .int (nI ksz), .int nfaultKind, .int nfaultPlace, .int (nI kat), .int (nI ken), .int ntoken, .int nnumber, .long nname, .ref zcores, .ref zlocks, .ref zbells, .ref ztasks, .ref zops, .ref zopSort, .ref zopNumber, .ref zkind, .ref zevery, .ref zbudget, .ref zshareTold, .ref zfirstOp, .ref zopMany, .ref zisCores, .ref zisLocks, .ref zisBells, .ref ztName, .int (nI kb), .int (nI kr), .ref zall, .ref zrows, .ref zpicked, .ref zpileTask, .ref zpileLock, .int (nI kp), .ref zwas, .ref zbehind, .ref zriskRow, .ref zriskBest, .int nriskMany, .ref zcTick, .ref zcProcessor, .ref zcTask, .int (nI kto), .ref zgTick, .ref zgTask, .ref zgTold, .ref zgUntold, .ref zgRan, .int (nI ksi), .int ntime, .ref zboxAll, .ref zboxRows, .ref zisBoxed]))] := hD
  refine lv_if_eq (tgt := 23) hx hb dX11_later_8 (by decide +kernel) (fun c_5 => ?_) (fun c_5 => ?_)
  · have d_6 : ¬ (0 ≤ x1 ∧ x1 ≤ 1000) := (hu_4.resolve_left (fun h => absurd (c_5.symm.trans h.1) (by decide +kernel))).2
    refine lv_iconst (v := (-1)) hx hb dX11_later_23 (by decide +kernel) ?_
    exact W.iret (v := (-1)) hx hb hr (fun t ht hW => ⟨⟨(-1), ntime, rfl, ⟨(lat_c d_6).1.symm, (lat_c d_6).2.symm⟩, by rw [ht]; exact hP.sub [0] rfl, hDA (hD.sub [0] (by decide +kernel) rfl)⟩, hS.F ht⟩) hS.2.2 dX11_later_24
  · have d_7 : 0 ≤ x1 ∧ x1 ≤ 1000 := (hu_4.resolve_right (fun h => c_5 h.1)).2
    refine lv_aload_n hx hb dX11_later_11 rfl (lv_at hl 0 rfl) ?_
    refine va_get (D := D) (ci := 11) (v := .int ntime) (C := RX11) (T := TX11) (N := 55) hx hb hts iw_X11_later_11 hown hC.1 hP 0 rfl rfl 51 (by decide +kernel) (hts (.fieldLink RX11 392 "FairWheelModel" "time" "I") (by decide +kernel)) (fun _ h9 => h9) rfl dX11_later_12 ?_
    refine lv_iload_n hx hb dX11_later_15 rfl (lv_at hl 1 rfl) ?_
    refine lv_iadd hx hb dX11_later_16 ?_
    refine lv_topi (fun y_8 ey_8 => ?_)
    refine lv_ldcw (v := 100000) hx hb hown (hts (.constant RX11 395 (100000)) (by decide +kernel)) dX11_later_17 ?_
    refine lv_icmp_le (tgt := 25) hx hb dX11_later_20 (by decide +kernel) (fun c_9 => ?_) (fun c_9 => ?_)
    · refine lv_aload_n hx hb dX11_later_25 rfl (lv_at hl 0 rfl) ?_
      refine lv_dup hx hb dX11_later_26 rfl ?_
      refine va_get (D := D) (ci := 11) (v := .int ntime) (C := RX11) (T := TX11) (N := 55) hx hb hts iw_X11_later_11 hown hC.1 hP 0 rfl rfl 51 (by decide +kernel) (hts (.fieldLink RX11 392 "FairWheelModel" "time" "I") (by decide +kernel)) (fun _ h9 => h9) rfl dX11_later_27 ?_
      refine lv_iload_n hx hb dX11_later_30 rfl (lv_at hl 1 rfl) ?_
      refine lv_iadd hx hb dX11_later_31 ?_
      refine lv_topi (fun y_10 ey_10 => ?_)
      refine va_put (D := D) (ci := 11) (v := .int y_10) (ty := .int) (C := RX11) (T := TX11) (N := 55) hx hb hts iw_X11_later_11 tyX11 tyX11_ok nmX11 hown hC.1 hP hD hS 0 rfl rfl 51 (by decide +kernel) (hts (.fieldLink RX11 392 "FairWheelModel" "time" "I") (by decide +kernel)) (fun _ h9 => h9) rfl (by decide +kernel) rfl rfl (Nat.le_of_ble_eq_true rfl) dX11_later_32 (fun H locs hP hD hS => ?_)
      have hP : va_P D vwCl [(h0, .inr (11, [.ref ztape, .ref ztext, .int (nI ktp), .int (nI ksz), .int nfaultKind, .int nfaultPlace, .int (nI kat), .int (nI ken), .int ntoken, .int nnumber, .long nname, .ref zcores, .ref zlocks, .ref zbells, .ref ztasks, .ref zops, .ref zopSort, .ref zopNumber, .ref zkind, .ref zevery, .ref zbudget, .ref zshareTold, .ref zfirstOp, .ref zopMany, .ref zisCores, .ref zisLocks, .ref zisBells, .ref ztName, .int (nI kb), .int (nI kr), .ref zall, .ref zrows, .ref zpicked, .ref zpileTask, .ref zpileLock, .int (nI kp), .ref zwas, .ref zbehind, .ref zriskRow, .ref zriskBest, .int nriskMany, .ref zcTick, .ref zcProcessor, .ref zcTask, .int (nI kto), .ref zgTick, .ref zgTask, .ref zgTold, .ref zgUntold, .ref zgRan, .int (nI ksi), .int y_10, .ref zboxAll, .ref zboxRows, .ref zisBoxed]))] H := hP
      have hD : va_D A [(h0, .inr (11, [.ref ztape, .ref ztext, .int (nI ktp), .int (nI ksz), .int nfaultKind, .int nfaultPlace, .int (nI kat), .int (nI ken), .int ntoken, .int nnumber, .long nname, .ref zcores, .ref zlocks, .ref zbells, .ref ztasks, .ref zops, .ref zopSort, .ref zopNumber, .ref zkind, .ref zevery, .ref zbudget, .ref zshareTold, .ref zfirstOp, .ref zopMany, .ref zisCores, .ref zisLocks, .ref zisBells, .ref ztName, .int (nI kb), .int (nI kr), .ref zall, .ref zrows, .ref zpicked, .ref zpileTask, .ref zpileLock, .int (nI kp), .ref zwas, .ref zbehind, .ref zriskRow, .ref zriskBest, .int nriskMany, .ref zcTick, .ref zcProcessor, .ref zcTask, .int (nI kto), .ref zgTick, .ref zgTask, .ref zgTold, .ref zgUntold, .ref zgRan, .int (nI ksi), .int y_10, .ref zboxAll, .ref zboxRows, .ref zisBoxed]))] := hD
      refine lv_aload_n hx hb dX11_later_35 rfl (lv_at hl 0 rfl) ?_
      refine va_get (D := D) (ci := 11) (v := .int y_10) (C := RX11) (T := TX11) (N := 55) hx hb hts iw_X11_later_11 hown hC.1 hP 0 rfl rfl 51 (by decide +kernel) (hts (.fieldLink RX11 392 "FairWheelModel" "time" "I") (by decide +kernel)) (fun _ h9 => h9) rfl dX11_later_36 ?_
      exact W.iret (v := y_10) hx hb hr (fun t ht hW => ⟨⟨y_10, y_10, rfl, ⟨ey_10.trans (lat_a d_7 c_9 ey_8).1.symm, ey_10.trans (lat_a d_7 c_9 ey_8).2.symm⟩, by rw [ht]; exact hP.sub [0] rfl, hDA (hD.sub [0] (by decide +kernel) rfl)⟩, hS.F ht⟩) hS.2.2 dX11_later_39
    · refine lv_iconst (v := (-1)) hx hb dX11_later_23 (by decide +kernel) ?_
      exact W.iret (v := (-1)) hx hb hr (fun t ht hW => ⟨⟨(-1), ntime, rfl, ⟨(lat_b d_7 c_9 ey_8).1.symm, (lat_b d_7 c_9 ey_8).2.symm⟩, by rw [ht]; exact hP.sub [0] rfl, hDA (hD.sub [0] (by decide +kernel) rfl)⟩, hS.F ht⟩) hS.2.2 dX11_later_24
set_option maxHeartbeats 4000000 in
set_option maxRecDepth 100000 in
theorem m_common (l : Launch) (D : va_G) (ca : Nat → ClassId) (sz : Nat) (ka : Nat) (kz : Nat) (hka : ka < 2 ^ 63) (hkz : kz < 2 ^ 63) : Met l yX11_common wsX11_common ({ frames := 0, cells := 0, slots := 0, locals := 0 }) (PC [.long (lN ka), .long (lN kz)] sz D ca []) (QL (fun (r : Int64) (u : Unit) => r = lN (Nat.gcd ka kz)) (fun (_ : Unit) => []) [] sz D) 0 0 (va_A [] sz) := by
  refine Met.ofW (cc := cX11_common) (maxL := 10) (ret := (some .long)) (by decide +kernel) rfl ?_
  intro p e s m args below meth c s₁ B hml hv
  obtain ⟨rfl, hsz, hP, hC, hD0⟩ := hv
  have hx := B.exec
  have hb := B.bytes
  have hr := B.returns
  have hts := atoms_spec (ws := wsX11_common) B.pre
  have hown : s.vm.findClass RX11 = some m.cls := findClass_of_methodNamed B.named
  have hlocks := B.notSynchronized
  subst hsz
  have hD := hD0.self (sz := s.heap.size)
  dsimp only [QV, QI, QL, BQ]
  generalize hAe : va_A [] s.heap.size = A at hD ⊢
  have hA : ∀ q : Nat, s.heap.size ≤ q → A q := fun q h => by rw [← hAe]; exact Or.inr h
  have hDA : ∀ {w : va_W}, va_D A w → va_D (va_A [] s.heap.size) w := fun h => by rw [hAe]; exact h
  have hS : va_S A s.heap s.heap [] := va_S.rf
  have hP : va_P D vwCl [] s.heap := hP
  have hl := lv_entry ([.long (lN ka), .long (lN kz)]) (n := 10) (Nat.le_of_ble_eq_true rfl)
  rw [lg_entry_eq]
  generalize (lg_sl ([.long (lN ka), .long (lN kz)]) ++ List.replicate (10 - (lg_sl ([.long (lN ka), .long (lN kz)])).length) Slot.unset).toArray = ls at hl ⊢
  have hl : lv_has ls 10 [(0, .long (lN ka)), (2, .long (lN kz))] := hl
  refine lv_lload_n hx hb dX11_common_0 rfl (lv_at hl 0 rfl) ?_
  refine lv_lstore (lv' := [(4, .long (lN ka)), (0, .long (lN ka)), (2, .long (lN kz))]) hx hb dX11_common_1 hl (by decide +kernel) rfl (fun ls hl => ?_)
  refine lv_lload_n hx hb dX11_common_3 rfl (lv_at hl 2 rfl) ?_
  refine lv_lstore (lv' := [(6, .long (lN kz)), (4, .long (lN ka)), (0, .long (lN ka)), (2, .long (lN kz))]) hx hb dX11_common_4 hl (by decide +kernel) rfl (fun ls hl => ?_)
  refine lp_ind (I := fun (n : Nat) H locs ls => ∃ (ja : Nat) (jb : Nat), ja < 2 ^ 63 ∧ jb < 2 ^ 63 ∧ Nat.gcd ja jb = Nat.gcd ka kz ∧ jb < n ∧ lv_has ls 10 [(6, .long (lN jb)), (4, .long (lN ja)), (0, .long (lN ka)), (2, .long (lN kz))] ∧ va_P D vwCl [] H ∧ va_D A [] ∧ va_S A s.heap H locs) (Wf := fun H locs ls => W p l e _ s m _ below meth c H locs _ _ _ (F0 m 6 ls [])) (kz + 1) ⟨ka, kz, hka, hkz, rfl, (Nat.lt_succ_self _), hl, hP, hD, hS⟩ ?_ ?_
  · intro H locs ls hI
    obtain ⟨ja, jb, hja, hjb, hg, hm, -⟩ := hI
    omega
  intro n ih_1 H locs ls hI
  obtain ⟨ja, jb, hja, hjb, hg, hm, hl, hP, hD, hS⟩ := hI
  refine lv_lload hx hb dX11_common_6 (lv_at hl 0 rfl) ?_
  refine lv_lconst (v := 0) hx hb dX11_common_8 (by decide +kernel) ?_
  refine W.lcmp hx hb dX11_common_9 ?_
  refine lv_topi (fun y_2 ey_2 => ?_)
  refine lv_if_eq (tgt := 31) hx hb dX11_common_10 (by decide +kernel) (fun c_3 => ?_) (fun c_3 => ?_)
  · refine lv_lload hx hb dX11_common_31 (lv_at hl 1 rfl) ?_
    exact W.lret (v := lN ja) hx hb hr (fun t ht hW => ⟨⟨lN ja, (), rfl, (congrArg lN (by rw [← hg, lN_0 (lcmp_eq c_3 ey_2) hjb, Nat.gcd_zero_right])), by rw [ht]; exact hP.sub [] rfl, hDA (hD.sub [] (by decide +kernel) rfl)⟩, hS.F ht⟩) hS.2.2 dX11_common_33
  · refine lv_lload hx hb dX11_common_13 (lv_at hl 1 rfl) ?_
    refine lv_lload hx hb dX11_common_15 (lv_at hl 0 rfl) ?_
    refine lv_lrem hx hb dX11_common_17 (lcmp_ne c_3 ey_2) ?_
    refine lv_topl (fun y_4 ey_4 => ?_)
    have hpos : 0 < jb := Nat.pos_of_ne_zero (fun e => lcmp_ne c_3 ey_2 (by rw [e]; rfl))
    refine nt_l (lN (ja % jb)) (ey_4.trans (pk_lRem hja hpos hjb)) ?_
    refine lv_lstore (lv' := [(8, .long (lN (ja % jb))), (6, .long (lN jb)), (4, .long (lN ja)), (0, .long (lN ka)), (2, .long (lN kz))]) hx hb dX11_common_18 hl (by decide +kernel) rfl (fun ls hl => ?_)
    refine lv_lload hx hb dX11_common_20 (lv_at hl 1 rfl) ?_
    refine lv_lstore (lv' := [(4, .long (lN jb)), (8, .long (lN (ja % jb))), (6, .long (lN jb)), (0, .long (lN ka)), (2, .long (lN kz))]) hx hb dX11_common_22 hl (by decide +kernel) rfl (fun ls hl => ?_)
    refine lv_lload hx hb dX11_common_24 (lv_at hl 1 rfl) ?_
    refine lv_lstore (lv' := [(6, .long (lN (ja % jb))), (4, .long (lN jb)), (8, .long (lN (ja % jb))), (0, .long (lN ka)), (2, .long (lN kz))]) hx hb dX11_common_26 hl (by decide +kernel) rfl (fun ls hl => ?_)
    refine lv_goto (tgt := 6) hx hb dX11_common_28 (by decide +kernel) ?_
    exact ih_1 _ _ _ ⟨jb, (ja % jb), hjb, (Nat.lt_trans (Nat.mod_lt _ hpos) hjb), (gcd_st.trans hg), (by have := Nat.mod_lt ja hpos; omega), lv_sub hl [0, 1, 3, 4] rfl, hP, hD, hS⟩
theorem iw_X11_load_11 : ∀ w ∈ u_ws RX11 TX11 55, w ∈ wsX11_load := by decide +kernel
set_option maxHeartbeats 4000000 in
set_option maxRecDepth 100000 in
theorem m_load (l : Launch) (D : va_G) (ca : Nat → ClassId) (sz : Nat) (h0 : Nat) (ztape : Nat) (ztext : Nat) (zcores : Nat) (zlocks : Nat) (zbells : Nat) (ztasks : Nat) (zops : Nat) (zopSort : Nat) (zopNumber : Nat) (zkind : Nat) (zevery : Nat) (zbudget : Nat) (zshareTold : Nat) (zfirstOp : Nat) (zopMany : Nat) (zisCores : Nat) (zisLocks : Nat) (zisBells : Nat) (ztName : Nat) (zall : Nat) (zrows : Nat) (zpicked : Nat) (zpileTask : Nat) (zpileLock : Nat) (zwas : Nat) (zbehind : Nat) (zriskRow : Nat) (zriskBest : Nat) (zcTick : Nat) (zcProcessor : Nat) (zcTask : Nat) (zgTick : Nat) (zgTask : Nat) (zgTold : Nat) (zgUntold : Nat) (zgRan : Nat) (zboxAll : Nat) (zboxRows : Nat) (zisBoxed : Nat) (ktp : Nat) (ksz : Nat) (nfaultKind : Int32) (nfaultPlace : Int32) (kat : Nat) (ken : Nat) (ntoken : Int32) (nnumber : Int32) (nname : Int64) (kb : Nat) (kr : Nat) (kp : Nat) (nriskMany : Int32) (kto : Nat) (ksi : Nat) (ntime : Int32) (f_tasks : Nat → Int32) (f_kind : Nat → Int32) (f_every : Nat → Int32) (f_budget : Nat → Int32) (fa : Nat → Int32) (kn : Nat) (x1 : Int32) (htk : f_tasks kb = nI kn) (hkb : kb < 2) (hkn : kn ≤ 10) (hP2 : PB2 kb kn f_kind f_every f_budget) : Met l yX11_load wsX11_load ({ frames := 2, cells := 0, slots := 0, locals := 42 }) (PC [.ref h0, .int x1] sz D ca [(h0, .inr (11, [.ref ztape, .ref ztext, .int (nI ktp), .int (nI ksz), .int nfaultKind, .int nfaultPlace, .int (nI kat), .int (nI ken), .int ntoken, .int nnumber, .long nname, .ref zcores, .ref zlocks, .ref zbells, .ref ztasks, .ref zops, .ref zopSort, .ref zopNumber, .ref zkind, .ref zevery, .ref zbudget, .ref zshareTold, .ref zfirstOp, .ref zopMany, .ref zisCores, .ref zisLocks, .ref zisBells, .ref ztName, .int (nI kb), .int (nI kr), .ref zall, .ref zrows, .ref zpicked, .ref zpileTask, .ref zpileLock, .int (nI kp), .ref zwas, .ref zbehind, .ref zriskRow, .ref zriskBest, .int nriskMany, .ref zcTick, .ref zcProcessor, .ref zcTask, .int (nI kto), .ref zgTick, .ref zgTask, .ref zgTold, .ref zgUntold, .ref zgRan, .int (nI ksi), .int ntime, .ref zboxAll, .ref zboxRows, .ref zisBoxed])), (ztasks, .inl (ca 1, 2, .inl f_tasks)), (zkind, .inl (ca 1, 20, .inl f_kind)), (zevery, .inl (ca 1, 20, .inl f_every)), (zbudget, .inl (ca 1, 20, .inl f_budget)), (zall, .inl (ca 1, 340, .inl fa))]) (QL (fun (r : Int64) (u : Unit) => True) (fun (_ : Unit) => [(h0, .inr (11, [.ref ztape, .ref ztext, .int (nI ktp), .int (nI ksz), .int nfaultKind, .int nfaultPlace, .int (nI kat), .int (nI ken), .int ntoken, .int nnumber, .long nname, .ref zcores, .ref zlocks, .ref zbells, .ref ztasks, .ref zops, .ref zopSort, .ref zopNumber, .ref zkind, .ref zevery, .ref zbudget, .ref zshareTold, .ref zfirstOp, .ref zopMany, .ref zisCores, .ref zisLocks, .ref zisBells, .ref ztName, .int (nI kb), .int (nI kr), .ref zall, .ref zrows, .ref zpicked, .ref zpileTask, .ref zpileLock, .int (nI kp), .ref zwas, .ref zbehind, .ref zriskRow, .ref zriskBest, .int nriskMany, .ref zcTick, .ref zcProcessor, .ref zcTask, .int (nI kto), .ref zgTick, .ref zgTask, .ref zgTold, .ref zgUntold, .ref zgRan, .int (nI ksi), .int ntime, .ref zboxAll, .ref zboxRows, .ref zisBoxed])), (ztasks, .inl (ca 1, 2, .inl f_tasks)), (zkind, .inl (ca 1, 20, .inl f_kind)), (zevery, .inl (ca 1, 20, .inl f_every)), (zbudget, .inl (ca 1, 20, .inl f_budget)), (zall, .inl (ca 1, 340, .inl fa))]) [(h0, .inr (11, [.ref ztape, .ref ztext, .int (nI ktp), .int (nI ksz), .int nfaultKind, .int nfaultPlace, .int (nI kat), .int (nI ken), .int ntoken, .int nnumber, .long nname, .ref zcores, .ref zlocks, .ref zbells, .ref ztasks, .ref zops, .ref zopSort, .ref zopNumber, .ref zkind, .ref zevery, .ref zbudget, .ref zshareTold, .ref zfirstOp, .ref zopMany, .ref zisCores, .ref zisLocks, .ref zisBells, .ref ztName, .int (nI kb), .int (nI kr), .ref zall, .ref zrows, .ref zpicked, .ref zpileTask, .ref zpileLock, .int (nI kp), .ref zwas, .ref zbehind, .ref zriskRow, .ref zriskBest, .int nriskMany, .ref zcTick, .ref zcProcessor, .ref zcTask, .int (nI kto), .ref zgTick, .ref zgTask, .ref zgTold, .ref zgUntold, .ref zgRan, .int (nI ksi), .int ntime, .ref zboxAll, .ref zboxRows, .ref zisBoxed])), (ztasks, .inl (ca 1, 2, .inl f_tasks)), (zkind, .inl (ca 1, 20, .inl f_kind)), (zevery, .inl (ca 1, 20, .inl f_every)), (zbudget, .inl (ca 1, 20, .inl f_budget)), (zall, .inl (ca 1, 340, .inl fa))] sz D) 0 0 (va_A [(h0, .inr (11, [.ref ztape, .ref ztext, .int (nI ktp), .int (nI ksz), .int nfaultKind, .int nfaultPlace, .int (nI kat), .int (nI ken), .int ntoken, .int nnumber, .long nname, .ref zcores, .ref zlocks, .ref zbells, .ref ztasks, .ref zops, .ref zopSort, .ref zopNumber, .ref zkind, .ref zevery, .ref zbudget, .ref zshareTold, .ref zfirstOp, .ref zopMany, .ref zisCores, .ref zisLocks, .ref zisBells, .ref ztName, .int (nI kb), .int (nI kr), .ref zall, .ref zrows, .ref zpicked, .ref zpileTask, .ref zpileLock, .int (nI kp), .ref zwas, .ref zbehind, .ref zriskRow, .ref zriskBest, .int nriskMany, .ref zcTick, .ref zcProcessor, .ref zcTask, .int (nI kto), .ref zgTick, .ref zgTask, .ref zgTold, .ref zgUntold, .ref zgRan, .int (nI ksi), .int ntime, .ref zboxAll, .ref zboxRows, .ref zisBoxed])), (ztasks, .inl (ca 1, 2, .inl f_tasks)), (zkind, .inl (ca 1, 20, .inl f_kind)), (zevery, .inl (ca 1, 20, .inl f_every)), (zbudget, .inl (ca 1, 20, .inl f_budget)), (zall, .inl (ca 1, 340, .inl fa))] sz) := by
  refine Met.ofW (cc := cX11_load) (maxL := 10) (ret := (some .long)) (by decide +kernel) rfl ?_
  intro p e s m args below meth c s₁ B hml hv
  obtain ⟨rfl, hsz, hP, hC, hD0⟩ := hv
  have hx := B.exec
  have hb := B.bytes
  have hr := B.returns
  have hts := atoms_spec (ws := wsX11_load) B.pre
  have hown : s.vm.findClass RX11 = some m.cls := findClass_of_methodNamed B.named
  have hlocks := B.notSynchronized
  subst hsz
  have hD := hD0.self (sz := s.heap.size)
  dsimp only [QV, QI, QL, BQ]
  generalize hAe : va_A [(h0, .inr (11, [.ref ztape, .ref ztext, .int (nI ktp), .int (nI ksz), .int nfaultKind, .int nfaultPlace, .int (nI kat), .int (nI ken), .int ntoken, .int nnumber, .long nname, .ref zcores, .ref zlocks, .ref zbells, .ref ztasks, .ref zops, .ref zopSort, .ref zopNumber, .ref zkind, .ref zevery, .ref zbudget, .ref zshareTold, .ref zfirstOp, .ref zopMany, .ref zisCores, .ref zisLocks, .ref zisBells, .ref ztName, .int (nI kb), .int (nI kr), .ref zall, .ref zrows, .ref zpicked, .ref zpileTask, .ref zpileLock, .int (nI kp), .ref zwas, .ref zbehind, .ref zriskRow, .ref zriskBest, .int nriskMany, .ref zcTick, .ref zcProcessor, .ref zcTask, .int (nI kto), .ref zgTick, .ref zgTask, .ref zgTold, .ref zgUntold, .ref zgRan, .int (nI ksi), .int ntime, .ref zboxAll, .ref zboxRows, .ref zisBoxed])), (ztasks, .inl (ca 1, 2, .inl f_tasks)), (zkind, .inl (ca 1, 20, .inl f_kind)), (zevery, .inl (ca 1, 20, .inl f_every)), (zbudget, .inl (ca 1, 20, .inl f_budget)), (zall, .inl (ca 1, 340, .inl fa))] s.heap.size = A at hD ⊢
  have hA : ∀ q : Nat, s.heap.size ≤ q → A q := fun q h => by rw [← hAe]; exact Or.inr h
  have hDA : ∀ {w : va_W}, va_D A w → va_D (va_A [(h0, .inr (11, [.ref ztape, .ref ztext, .int (nI ktp), .int (nI ksz), .int nfaultKind, .int nfaultPlace, .int (nI kat), .int (nI ken), .int ntoken, .int nnumber, .long nname, .ref zcores, .ref zlocks, .ref zbells, .ref ztasks, .ref zops, .ref zopSort, .ref zopNumber, .ref zkind, .ref zevery, .ref zbudget, .ref zshareTold, .ref zfirstOp, .ref zopMany, .ref zisCores, .ref zisLocks, .ref zisBells, .ref ztName, .int (nI kb), .int (nI kr), .ref zall, .ref zrows, .ref zpicked, .ref zpileTask, .ref zpileLock, .int (nI kp), .ref zwas, .ref zbehind, .ref zriskRow, .ref zriskBest, .int nriskMany, .ref zcTick, .ref zcProcessor, .ref zcTask, .int (nI kto), .ref zgTick, .ref zgTask, .ref zgTold, .ref zgUntold, .ref zgRan, .int (nI ksi), .int ntime, .ref zboxAll, .ref zboxRows, .ref zisBoxed])), (ztasks, .inl (ca 1, 2, .inl f_tasks)), (zkind, .inl (ca 1, 20, .inl f_kind)), (zevery, .inl (ca 1, 20, .inl f_every)), (zbudget, .inl (ca 1, 20, .inl f_budget)), (zall, .inl (ca 1, 340, .inl fa))] s.heap.size) w := fun h => by rw [hAe]; exact h
  have hS : va_S A s.heap s.heap [] := va_S.rf
  have hP : va_P D vwCl [(h0, .inr (11, [.ref ztape, .ref ztext, .int (nI ktp), .int (nI ksz), .int nfaultKind, .int nfaultPlace, .int (nI kat), .int (nI ken), .int ntoken, .int nnumber, .long nname, .ref zcores, .ref zlocks, .ref zbells, .ref ztasks, .ref zops, .ref zopSort, .ref zopNumber, .ref zkind, .ref zevery, .ref zbudget, .ref zshareTold, .ref zfirstOp, .ref zopMany, .ref zisCores, .ref zisLocks, .ref zisBells, .ref ztName, .int (nI kb), .int (nI kr), .ref zall, .ref zrows, .ref zpicked, .ref zpileTask, .ref zpileLock, .int (nI kp), .ref zwas, .ref zbehind, .ref zriskRow, .ref zriskBest, .int nriskMany, .ref zcTick, .ref zcProcessor, .ref zcTask, .int (nI kto), .ref zgTick, .ref zgTask, .ref zgTold, .ref zgUntold, .ref zgRan, .int (nI ksi), .int ntime, .ref zboxAll, .ref zboxRows, .ref zisBoxed])), (ztasks, .inl (ca 1, 2, .inl f_tasks)), (zkind, .inl (ca 1, 20, .inl f_kind)), (zevery, .inl (ca 1, 20, .inl f_every)), (zbudget, .inl (ca 1, 20, .inl f_budget)), (zall, .inl (ca 1, 340, .inl fa))] s.heap := hP
  have hl := lv_entry ([.ref h0, .int x1]) (n := 10) (Nat.le_of_ble_eq_true rfl)
  rw [lg_entry_eq]
  generalize (lg_sl ([.ref h0, .int x1]) ++ List.replicate (10 - (lg_sl ([.ref h0, .int x1])).length) Slot.unset).toArray = ls at hl ⊢
  have hl : lv_has ls 10 [(0, .ref h0), (1, .int x1)] := hl
  refine lv_iload_n hx hb dX11_load_0 rfl (lv_at hl 1 rfl) ?_
  refine lv_iconst (v := 0) hx hb dX11_load_1 (by decide +kernel) ?_
  refine lv_iconst (v := 1) hx hb dX11_load_2 (by decide +kernel) ?_
  refine kc_i (wr := [(h0, .inr (11, [.ref ztape, .ref ztext, .int (nI ktp), .int (nI ksz), .int nfaultKind, .int nfaultPlace, .int (nI kat), .int (nI ken), .int ntoken, .int nnumber, .long nname, .ref zcores, .ref zlocks, .ref zbells, .ref ztasks, .ref zops, .ref zopSort, .ref zopNumber, .ref zkind, .ref zevery, .ref zbudget, .ref zshareTold, .ref zfirstOp, .ref zopMany, .ref zisCores, .ref zisLocks, .ref zisBells, .ref ztName, .int (nI kb), .int (nI kr), .ref zall, .ref zrows, .ref zpicked, .ref zpileTask, .ref zpileLock, .int (nI kp), .ref zwas, .ref zbehind, .ref zriskRow, .ref zriskBest, .int nriskMany, .ref zcTick, .ref zcProcessor, .ref zcTask, .int (nI kto), .ref zgTick, .ref zgTask, .ref zgTold, .ref zgUntold, .ref zgRan, .int (nI ksi), .int ntime, .ref zboxAll, .ref zboxRows, .ref zisBoxed])), (ztasks, .inl (ca 1, 2, .inl f_tasks)), (zkind, .inl (ca 1, 20, .inl f_kind)), (zevery, .inl (ca 1, 20, .inl f_every)), (zbudget, .inl (ca 1, 20, .inl f_budget)), (zall, .inl (ca 1, 340, .inl fa))]) (va_runS (As := [.int x1, .int 0, .int 1]) (rest := []) ⟨hx, hb, hml, hown, hts⟩ (m_isIn l D ca s.heap.size x1 0 1) (va_cwS 3 hts gX11_load_X11_isIn rfl rfl rfl (by decide +kernel) ⟨(Nat.le_of_ble_eq_true rfl), (Nat.le_of_ble_eq_true rfl)⟩) (PC.preS hC hP hD [] rfl (by decide +kernel)) rfl rfl hl.1 rfl (lv_room (Nat.le_of_ble_eq_true rfl)) dX11_load_3 ⟨(Nat.le_of_ble_eq_true rfl), (Nat.le_of_ble_eq_true rfl)⟩) hP hD hS hA [] [0, 1, 2, 3, 4, 5] rfl rfl (by decide +kernel) (by decide +kernel) (fun r_1 u_3 H locs hw_2 hP hD hS => ?_)
  have hu_4 := hw_2
  have hP : va_P D vwCl [(h0, .inr (11, [.ref ztape, .ref ztext, .int (nI ktp), .int (nI ksz), .int nfaultKind, .int nfaultPlace, .int (nI kat), .int (nI ken), .int ntoken, .int nnumber, .long nname, .ref zcores, .ref zlocks, .ref zbells, .ref ztasks, .ref zops, .ref zopSort, .ref zopNumber, .ref zkind, .ref zevery, .ref zbudget, .ref zshareTold, .ref zfirstOp, .ref zopMany, .ref zisCores, .ref zisLocks, .ref zisBells, .ref ztName, .int (nI kb), .int (nI kr), .ref zall, .ref zrows, .ref zpicked, .ref zpileTask, .ref zpileLock, .int (nI kp), .ref zwas, .ref zbehind, .ref zriskRow, .ref zriskBest, .int nriskMany, .ref zcTick, .ref zcProcessor, .ref zcTask, .int (nI kto), .ref zgTick, .ref zgTask, .ref zgTold, .ref zgUntold, .ref zgRan, .int (nI ksi), .int ntime, .ref zboxAll, .ref zboxRows, .ref zisBoxed])), (ztasks, .inl (ca 1, 2, .inl f_tasks)), (zkind, .inl (ca 1, 20, .inl f_kind)), (zevery, .inl (ca 1, 20, .inl f_every)), (zbudget, .inl (ca 1, 20, .inl f_budget)), (zall, .inl (ca 1, 340, .inl fa))] H := hP
  have hD : va_D A [(h0, .inr (11, [.ref ztape, .ref ztext, .int (nI ktp), .int (nI ksz), .int nfaultKind, .int nfaultPlace, .int (nI kat), .int (nI ken), .int ntoken, .int nnumber, .long nname, .ref zcores, .ref zlocks, .ref zbells, .ref ztasks, .ref zops, .ref zopSort, .ref zopNumber, .ref zkind, .ref zevery, .ref zbudget, .ref zshareTold, .ref zfirstOp, .ref zopMany, .ref zisCores, .ref zisLocks, .ref zisBells, .ref ztName, .int (nI kb), .int (nI kr), .ref zall, .ref zrows, .ref zpicked, .ref zpileTask, .ref zpileLock, .int (nI kp), .ref zwas, .ref zbehind, .ref zriskRow, .ref zriskBest, .int nriskMany, .ref zcTick, .ref zcProcessor, .ref zcTask, .int (nI kto), .ref zgTick, .ref zgTask, .ref zgTold, .ref zgUntold, .ref zgRan, .int (nI ksi), .int ntime, .ref zboxAll, .ref zboxRows, .ref zisBoxed])), (ztasks, .inl (ca 1, 2, .inl f_tasks)), (zkind, .inl (ca 1, 20, .inl f_kind)), (zevery, .inl (ca 1, 20, .inl f_every)), (zbudget, .inl (ca 1, 20, .inl f_budget)), (zall, .inl (ca 1, 340, .inl fa))] := hD
  refine lv_if_ne (tgt := 13) hx hb dX11_load_6 (by decide +kernel) (fun c_5 => ?_) (fun c_5 => ?_)
  · have d_6 : 0 ≤ x1 ∧ x1 ≤ 1 := (hu_4.resolve_right (fun h => c_5 h.1)).2
    refine lv_lconst (v := 0) hx hb dX11_load_13 (by decide +kernel) ?_
    refine lv_lstore_n (lv' := [(2, .long 0), (0, .ref h0), (1, .int x1)]) hx hb dX11_load_14 rfl hl (by decide +kernel) rfl (fun ls hl => ?_)
    refine lv_lconst (v := 1) hx hb dX11_load_15 (by decide +kernel) ?_
    refine lv_lstore (lv' := [(4, .long 1), (2, .long 0), (0, .ref h0), (1, .int x1)]) hx hb dX11_load_16 hl (by decide +kernel) rfl (fun ls hl => ?_)
    refine lv_iconst (v := 0) hx hb dX11_load_18 (by decide +kernel) ?_
    refine lv_istore (lv' := [(6, .int 0), (4, .long 1), (2, .long 0), (0, .ref h0), (1, .int x1)]) hx hb dX11_load_19 hl (by decide +kernel) rfl (fun ls hl => ?_)
    refine lp_ind (I := fun (n : Nat) H locs ls => ∃ (ji : Nat) (ju : Nat) (jd : Nat), ji ≤ kn ∧ ji + n = kn + 1 ∧ LD ji ju jd ∧ lv_has ls 10 [(6, .int (nI ji)), (4, .long (lN jd)), (2, .long (lN ju)), (0, .ref h0), (1, .int x1)] ∧ va_P D vwCl [(h0, .inr (11, [.ref ztape, .ref ztext, .int (nI ktp), .int (nI ksz), .int nfaultKind, .int nfaultPlace, .int (nI kat), .int (nI ken), .int ntoken, .int nnumber, .long nname, .ref zcores, .ref zlocks, .ref zbells, .ref ztasks, .ref zops, .ref zopSort, .ref zopNumber, .ref zkind, .ref zevery, .ref zbudget, .ref zshareTold, .ref zfirstOp, .ref zopMany, .ref zisCores, .ref zisLocks, .ref zisBells, .ref ztName, .int (nI kb), .int (nI kr), .ref zall, .ref zrows, .ref zpicked, .ref zpileTask, .ref zpileLock, .int (nI kp), .ref zwas, .ref zbehind, .ref zriskRow, .ref zriskBest, .int nriskMany, .ref zcTick, .ref zcProcessor, .ref zcTask, .int (nI kto), .ref zgTick, .ref zgTask, .ref zgTold, .ref zgUntold, .ref zgRan, .int (nI ksi), .int ntime, .ref zboxAll, .ref zboxRows, .ref zisBoxed])), (ztasks, .inl (ca 1, 2, .inl f_tasks)), (zkind, .inl (ca 1, 20, .inl f_kind)), (zevery, .inl (ca 1, 20, .inl f_every)), (zbudget, .inl (ca 1, 20, .inl f_budget)), (zall, .inl (ca 1, 340, .inl fa))] H ∧ va_D A [(h0, .inr (11, [.ref ztape, .ref ztext, .int (nI ktp), .int (nI ksz), .int nfaultKind, .int nfaultPlace, .int (nI kat), .int (nI ken), .int ntoken, .int nnumber, .long nname, .ref zcores, .ref zlocks, .ref zbells, .ref ztasks, .ref zops, .ref zopSort, .ref zopNumber, .ref zkind, .ref zevery, .ref zbudget, .ref zshareTold, .ref zfirstOp, .ref zopMany, .ref zisCores, .ref zisLocks, .ref zisBells, .ref ztName, .int (nI kb), .int (nI kr), .ref zall, .ref zrows, .ref zpicked, .ref zpileTask, .ref zpileLock, .int (nI kp), .ref zwas, .ref zbehind, .ref zriskRow, .ref zriskBest, .int nriskMany, .ref zcTick, .ref zcProcessor, .ref zcTask, .int (nI kto), .ref zgTick, .ref zgTask, .ref zgTold, .ref zgUntold, .ref zgRan, .int (nI ksi), .int ntime, .ref zboxAll, .ref zboxRows, .ref zisBoxed])), (ztasks, .inl (ca 1, 2, .inl f_tasks)), (zkind, .inl (ca 1, 20, .inl f_kind)), (zevery, .inl (ca 1, 20, .inl f_every)), (zbudget, .inl (ca 1, 20, .inl f_budget)), (zall, .inl (ca 1, 340, .inl fa))] ∧ va_S A s.heap H locs) (Wf := fun H locs ls => W p l e _ s m _ below meth c H locs _ _ _ (F0 m 21 ls [])) (kn + 1) ⟨0, 0, 1, (by omega), (by omega), LD.z, hl, hP, hD, hS⟩ ?_ ?_
    · intro H locs ls hI
      obtain ⟨ji, ju, jd, hji, hm, hLD, -⟩ := hI
      omega
    intro n ih_7 H locs ls hI
    obtain ⟨ji, ju, jd, hji, hm, hLD, hl, hP, hD, hS⟩ := hI
    refine lv_iload hx hb dX11_load_21 (lv_at hl 0 rfl) ?_
    refine lv_aload_n hx hb dX11_load_23 rfl (lv_at hl 3 rfl) ?_
    refine kc_i (wr := [(zkind, .inl (ca 1, 20, .inl f_kind)), (zevery, .inl (ca 1, 20, .inl f_every)), (zbudget, .inl (ca 1, 20, .inl f_budget)), (zall, .inl (ca 1, 340, .inl fa))]) (va_runV (As := []) (rest := [.int (nI ji)]) ⟨hx, hb, hml, hown, hts⟩ (m_taskMany l D ca H.size h0 ztape ztext zcores zlocks zbells ztasks zops zopSort zopNumber zkind zevery zbudget zshareTold zfirstOp zopMany zisCores zisLocks zisBells ztName zall zrows zpicked zpileTask zpileLock zwas zbehind zriskRow zriskBest zcTick zcProcessor zcTask zgTick zgTask zgTold zgUntold zgRan zboxAll zboxRows zisBoxed ktp ksz nfaultKind nfaultPlace kat ken ntoken nnumber nname kb kr kp nriskMany kto ksi ntime f_tasks kn htk hkb) (cwV 0 hts gX11_load_X11_taskMany rfl rfl rfl (by decide +kernel) ⟨(Nat.le_of_ble_eq_true rfl), (Nat.le_of_ble_eq_true rfl)⟩) (PC.preV (ci := 11) hC hP hD [0, 1] rfl (by decide +kernel) rfl rfl) rfl rfl hl.1 rfl (lv_room (Nat.le_of_ble_eq_true rfl)) dX11_load_24 ⟨(Nat.le_of_ble_eq_true rfl), (Nat.le_of_ble_eq_true rfl)⟩) hP hD hS hA [0, 1] [2, 3, 4, 5] rfl rfl (by decide +kernel) (by decide +kernel) (fun r_8 u_10 H locs hw_9 hP hD hS => ?_)
    subst hw_9
    have hP : va_P D vwCl [(zkind, .inl (ca 1, 20, .inl f_kind)), (zevery, .inl (ca 1, 20, .inl f_every)), (zbudget, .inl (ca 1, 20, .inl f_budget)), (zall, .inl (ca 1, 340, .inl fa)), (h0, .inr (11, [.ref ztape, .ref ztext, .int (nI ktp), .int (nI ksz), .int nfaultKind, .int nfaultPlace, .int (nI kat), .int (nI ken), .int ntoken, .int nnumber, .long nname, .ref zcores, .ref zlocks, .ref zbells, .ref ztasks, .ref zops, .ref zopSort, .ref zopNumber, .ref zkind, .ref zevery, .ref zbudget, .ref zshareTold, .ref zfirstOp, .ref zopMany, .ref zisCores, .ref zisLocks, .ref zisBells, .ref ztName, .int (nI kb), .int (nI kr), .ref zall, .ref zrows, .ref zpicked, .ref zpileTask, .ref zpileLock, .int (nI kp), .ref zwas, .ref zbehind, .ref zriskRow, .ref zriskBest, .int nriskMany, .ref zcTick, .ref zcProcessor, .ref zcTask, .int (nI kto), .ref zgTick, .ref zgTask, .ref zgTold, .ref zgUntold, .ref zgRan, .int (nI ksi), .int ntime, .ref zboxAll, .ref zboxRows, .ref zisBoxed])), (ztasks, .inl (ca 1, 2, .inl f_tasks))] H := hP
    have hD : va_D A [(zkind, .inl (ca 1, 20, .inl f_kind)), (zevery, .inl (ca 1, 20, .inl f_every)), (zbudget, .inl (ca 1, 20, .inl f_budget)), (zall, .inl (ca 1, 340, .inl fa)), (h0, .inr (11, [.ref ztape, .ref ztext, .int (nI ktp), .int (nI ksz), .int nfaultKind, .int nfaultPlace, .int (nI kat), .int (nI ken), .int ntoken, .int nnumber, .long nname, .ref zcores, .ref zlocks, .ref zbells, .ref ztasks, .ref zops, .ref zopSort, .ref zopNumber, .ref zkind, .ref zevery, .ref zbudget, .ref zshareTold, .ref zfirstOp, .ref zopMany, .ref zisCores, .ref zisLocks, .ref zisBells, .ref ztName, .int (nI kb), .int (nI kr), .ref zall, .ref zrows, .ref zpicked, .ref zpileTask, .ref zpileLock, .int (nI kp), .ref zwas, .ref zbehind, .ref zriskRow, .ref zriskBest, .int nriskMany, .ref zcTick, .ref zcProcessor, .ref zcTask, .int (nI kto), .ref zgTick, .ref zgTask, .ref zgTold, .ref zgUntold, .ref zgRan, .int (nI ksi), .int ntime, .ref zboxAll, .ref zboxRows, .ref zisBoxed])), (ztasks, .inl (ca 1, 2, .inl f_tasks))] := hD
    refine lv_icmp_ge (tgt := 130) hx hb dX11_load_27 (by decide +kernel) (fun c_11 => ?_) (fun c_11 => ?_)
    · have nc_11 : kn ≤ ji := (nI_leI (a := kn) (b := ji) (by omega) (by omega)).mp c_11
      refine lv_iload_n hx hb dX11_load_130 rfl (lv_at hl 4 rfl) ?_
      refine lv_if_ne (tgt := 138) hx hb dX11_load_131 (by decide +kernel) (fun c_12 => ?_) (fun c_12 => ?_)
      · refine lv_lload hx hb dX11_load_138 (lv_at hl 1 rfl) ?_
        exact W.lret (v := lN jd) hx hb hr (fun t ht hW => ⟨⟨lN jd, (), rfl, trivial, by rw [ht]; exact hP.sub [4, 5, 0, 1, 2, 3] rfl, hDA (hD.sub [4, 5, 0, 1, 2, 3] (by decide +kernel) rfl)⟩, hS.F ht⟩) hS.2.2 dX11_load_140
      · refine lv_lload_n hx hb dX11_load_134 rfl (lv_at hl 2 rfl) ?_
        refine lv_goto (tgt := 140) hx hb dX11_load_135 (by decide +kernel) ?_
        exact W.lret (v := lN ju) hx hb hr (fun t ht hW => ⟨⟨lN ju, (), rfl, trivial, by rw [ht]; exact hP.sub [4, 5, 0, 1, 2, 3] rfl, hDA (hD.sub [4, 5, 0, 1, 2, 3] (by decide +kernel) rfl)⟩, hS.F ht⟩) hS.2.2 dX11_load_140
    · have nc_11 : ¬ (kn ≤ ji) := fun h => c_11 ((nI_leI (a := kn) (b := ji) (by omega) (by omega)).mpr h)
      refine lv_aload_n hx hb dX11_load_30 rfl (lv_at hl 3 rfl) ?_
      refine lv_iload hx hb dX11_load_31 (lv_at hl 0 rfl) ?_
      refine kc_i (wr := [(zevery, .inl (ca 1, 20, .inl f_every)), (zbudget, .inl (ca 1, 20, .inl f_budget)), (zall, .inl (ca 1, 340, .inl fa)), (ztasks, .inl (ca 1, 2, .inl f_tasks))]) (va_runV (As := [.int (nI ji)]) (rest := []) ⟨hx, hb, hml, hown, hts⟩ (m_isBudgeted l D ca H.size h0 ztape ztext zcores zlocks zbells ztasks zops zopSort zopNumber zkind zevery zbudget zshareTold zfirstOp zopMany zisCores zisLocks zisBells ztName zall zrows zpicked zpileTask zpileLock zwas zbehind zriskRow zriskBest zcTick zcProcessor zcTask zgTick zgTask zgTold zgUntold zgRan zboxAll zboxRows zisBoxed ktp ksz nfaultKind nfaultPlace kat ken ntoken nnumber nname kb kr kp nriskMany kto ksi ntime f_kind ji hkb (by omega)) (cwV 1 hts gX11_load_X11_isBudgeted rfl rfl rfl (by decide +kernel) ⟨(Nat.le_of_ble_eq_true rfl), (Nat.le_of_ble_eq_true rfl)⟩) (PC.preV (ci := 11) hC hP hD [4, 0] rfl (by decide +kernel) rfl rfl) rfl rfl hl.1 rfl (lv_room (Nat.le_of_ble_eq_true rfl)) dX11_load_33 ⟨(Nat.le_of_ble_eq_true rfl), (Nat.le_of_ble_eq_true rfl)⟩) hP hD hS hA [4, 0] [1, 2, 3, 5] rfl rfl (by decide +kernel) (by decide +kernel) (fun r_13 u_15 H locs hw_14 hP hD hS => ?_)
      have hu_16 := hw_14
      have hP : va_P D vwCl [(zevery, .inl (ca 1, 20, .inl f_every)), (zbudget, .inl (ca 1, 20, .inl f_budget)), (zall, .inl (ca 1, 340, .inl fa)), (ztasks, .inl (ca 1, 2, .inl f_tasks)), (h0, .inr (11, [.ref ztape, .ref ztext, .int (nI ktp), .int (nI ksz), .int nfaultKind, .int nfaultPlace, .int (nI kat), .int (nI ken), .int ntoken, .int nnumber, .long nname, .ref zcores, .ref zlocks, .ref zbells, .ref ztasks, .ref zops, .ref zopSort, .ref zopNumber, .ref zkind, .ref zevery, .ref zbudget, .ref zshareTold, .ref zfirstOp, .ref zopMany, .ref zisCores, .ref zisLocks, .ref zisBells, .ref ztName, .int (nI kb), .int (nI kr), .ref zall, .ref zrows, .ref zpicked, .ref zpileTask, .ref zpileLock, .int (nI kp), .ref zwas, .ref zbehind, .ref zriskRow, .ref zriskBest, .int nriskMany, .ref zcTick, .ref zcProcessor, .ref zcTask, .int (nI kto), .ref zgTick, .ref zgTask, .ref zgTold, .ref zgUntold, .ref zgRan, .int (nI ksi), .int ntime, .ref zboxAll, .ref zboxRows, .ref zisBoxed])), (zkind, .inl (ca 1, 20, .inl f_kind))] H := hP
      have hD : va_D A [(zevery, .inl (ca 1, 20, .inl f_every)), (zbudget, .inl (ca 1, 20, .inl f_budget)), (zall, .inl (ca 1, 340, .inl fa)), (ztasks, .inl (ca 1, 2, .inl f_tasks)), (h0, .inr (11, [.ref ztape, .ref ztext, .int (nI ktp), .int (nI ksz), .int nfaultKind, .int nfaultPlace, .int (nI kat), .int (nI ken), .int ntoken, .int nnumber, .long nname, .ref zcores, .ref zlocks, .ref zbells, .ref ztasks, .ref zops, .ref zopSort, .ref zopNumber, .ref zkind, .ref zevery, .ref zbudget, .ref zshareTold, .ref zfirstOp, .ref zopMany, .ref zisCores, .ref zisLocks, .ref zisBells, .ref ztName, .int (nI kb), .int (nI kr), .ref zall, .ref zrows, .ref zpicked, .ref zpileTask, .ref zpileLock, .int (nI kp), .ref zwas, .ref zbehind, .ref zriskRow, .ref zriskBest, .int nriskMany, .ref zcTick, .ref zcProcessor, .ref zcTask, .int (nI kto), .ref zgTick, .ref zgTask, .ref zgTold, .ref zgUntold, .ref zgRan, .int (nI ksi), .int ntime, .ref zboxAll, .ref zboxRows, .ref zisBoxed])), (zkind, .inl (ca 1, 20, .inl f_kind))] := hD
      refine lv_if_eq (tgt := 124) hx hb dX11_load_36 (by decide +kernel) (fun c_17 => ?_) (fun c_17 => ?_)
      · have d_18 : ¬ (3 ≤ f_kind (10 * kb + ji)) := (hu_16.resolve_left (fun h => absurd (c_17.symm.trans h.1) (by decide +kernel))).2
        refine lv_iinc (v := nI (ji + 1)) (lv' := [(6, .int (nI (ji + 1))), (4, .long (lN jd)), (2, .long (lN ju)), (0, .ref h0), (1, .int x1)]) hx hb dX11_load_124 hl (k := 0) rfl (nI_1 _) (by decide +kernel) rfl (fun ls hl => ?_)
        refine lv_goto (tgt := 21) hx hb dX11_load_127 (by decide +kernel) ?_
        exact ih_7 _ _ _ ⟨(ji + 1), ju, jd, (by omega), (by omega), hLD.sk, lv_sub hl [0, 1, 2, 3, 4] rfl, (hP.sub [4, 3, 5, 0, 1, 2] rfl), (hD.sub [4, 3, 5, 0, 1, 2] (by decide +kernel) rfl), hS⟩
      · have d_19 : 3 ≤ f_kind (10 * kb + ji) := (hu_16.resolve_right (fun h => c_17 h.1)).2
        refine lv_aload_n hx hb dX11_load_39 rfl (lv_at hl 3 rfl) ?_
        refine lv_iload hx hb dX11_load_40 (lv_at hl 0 rfl) ?_
        refine lv_iconst (v := 0) hx hb dX11_load_42 (by decide +kernel) ?_
        refine kc_i (wr := [(zevery, .inl (ca 1, 20, .inl f_every)), (zbudget, .inl (ca 1, 20, .inl f_budget)), (ztasks, .inl (ca 1, 2, .inl f_tasks)), (zkind, .inl (ca 1, 20, .inl f_kind))]) (va_runV (As := [.int (nI ji), .int 0]) (rest := []) ⟨hx, hb, hml, hown, hts⟩ (m_of l D ca H.size h0 ztape ztext zcores zlocks zbells ztasks zops zopSort zopNumber zkind zevery zbudget zshareTold zfirstOp zopMany zisCores zisLocks zisBells ztName zall zrows zpicked zpileTask zpileLock zwas zbehind zriskRow zriskBest zcTick zcProcessor zcTask zgTick zgTask zgTold zgUntold zgRan zboxAll zboxRows zisBoxed ktp ksz nfaultKind nfaultPlace kat ken ntoken nnumber nname kb kr kp nriskMany kto ksi ntime fa ji 0 (by omega)) (cwV 2 hts gX11_load_X11_of rfl rfl rfl (by decide +kernel) ⟨(Nat.le_of_ble_eq_true rfl), (Nat.le_of_ble_eq_true rfl)⟩) (PC.preV (ci := 11) hC hP hD [4, 2] rfl (by decide +kernel) rfl rfl) rfl rfl hl.1 rfl (lv_room (Nat.le_of_ble_eq_true rfl)) dX11_load_43 ⟨(Nat.le_of_ble_eq_true rfl), (Nat.le_of_ble_eq_true rfl)⟩) hP hD hS hA [4, 2] [0, 1, 3, 5] rfl rfl (by decide +kernel) (by decide +kernel) (fun r_20 u_22 H locs hw_21 hP hD hS => ?_)
        subst hw_21
        have hP : va_P D vwCl [(zevery, .inl (ca 1, 20, .inl f_every)), (zbudget, .inl (ca 1, 20, .inl f_budget)), (ztasks, .inl (ca 1, 2, .inl f_tasks)), (zkind, .inl (ca 1, 20, .inl f_kind)), (h0, .inr (11, [.ref ztape, .ref ztext, .int (nI ktp), .int (nI ksz), .int nfaultKind, .int nfaultPlace, .int (nI kat), .int (nI ken), .int ntoken, .int nnumber, .long nname, .ref zcores, .ref zlocks, .ref zbells, .ref ztasks, .ref zops, .ref zopSort, .ref zopNumber, .ref zkind, .ref zevery, .ref zbudget, .ref zshareTold, .ref zfirstOp, .ref zopMany, .ref zisCores, .ref zisLocks, .ref zisBells, .ref ztName, .int (nI kb), .int (nI kr), .ref zall, .ref zrows, .ref zpicked, .ref zpileTask, .ref zpileLock, .int (nI kp), .ref zwas, .ref zbehind, .ref zriskRow, .ref zriskBest, .int nriskMany, .ref zcTick, .ref zcProcessor, .ref zcTask, .int (nI kto), .ref zgTick, .ref zgTask, .ref zgTold, .ref zgUntold, .ref zgRan, .int (nI ksi), .int ntime, .ref zboxAll, .ref zboxRows, .ref zisBoxed])), (zall, .inl (ca 1, 340, .inl fa))] H := hP
        have hD : va_D A [(zevery, .inl (ca 1, 20, .inl f_every)), (zbudget, .inl (ca 1, 20, .inl f_budget)), (ztasks, .inl (ca 1, 2, .inl f_tasks)), (zkind, .inl (ca 1, 20, .inl f_kind)), (h0, .inr (11, [.ref ztape, .ref ztext, .int (nI ktp), .int (nI ksz), .int nfaultKind, .int nfaultPlace, .int (nI kat), .int (nI ken), .int ntoken, .int nnumber, .long nname, .ref zcores, .ref zlocks, .ref zbells, .ref ztasks, .ref zops, .ref zopSort, .ref zopNumber, .ref zkind, .ref zevery, .ref zbudget, .ref zshareTold, .ref zfirstOp, .ref zopMany, .ref zisCores, .ref zisLocks, .ref zisBells, .ref ztName, .int (nI kb), .int (nI kr), .ref zall, .ref zrows, .ref zpicked, .ref zpileTask, .ref zpileLock, .int (nI kp), .ref zwas, .ref zbehind, .ref zriskRow, .ref zriskBest, .int nriskMany, .ref zcTick, .ref zcProcessor, .ref zcTask, .int (nI kto), .ref zgTick, .ref zgTask, .ref zgTold, .ref zgUntold, .ref zgRan, .int (nI ksi), .int ntime, .ref zboxAll, .ref zboxRows, .ref zisBoxed])), (zall, .inl (ca 1, 340, .inl fa))] := hD
        refine lv_iconst (v := 4) hx hb dX11_load_46 (by decide +kernel) ?_
        refine lv_icmp_ne (tgt := 53) hx hb dX11_load_47 (by decide +kernel) (fun c_23 => ?_) (fun c_23 => ?_)
        · obtain ⟨⟨ke, hke1, hke2, eke⟩, ⟨kbu, hkbu, ebu⟩⟩ := hP2 ji (by omega) d_19
          have hLU := hLD.up hke1 hke2 hkbu
          have hLB := hLU.bd (by omega)
          have hgp : 0 < Nat.gcd (ju * ke + kbu * jd) (jd * ke) := Nat.gcd_pos_of_pos_right _ hLU.1
          have hgb : Nat.gcd (ju * ke + kbu * jd) (jd * ke) < 2 ^ 63 := Nat.lt_of_le_of_lt (Nat.le_of_dvd hLU.1 (Nat.gcd_dvd_right _ _)) hLB.1
          refine lv_aload_n hx hb dX11_load_53 rfl (lv_at hl 3 rfl) ?_
          refine va_get (D := D) (ci := 11) (v := .ref zevery) (C := RX11) (T := TX11) (N := 55) hx hb hts iw_X11_load_11 hown hC.1 hP 4 rfl rfl 19 (by decide +kernel) (hts (.fieldLink RX11 45 "FairWheelModel" "every" "[I") (by decide +kernel)) (fun _ h9 => h9) rfl dX11_load_54 ?_
          refine lv_bipush (v := 10) hx hb dX11_load_57 (by decide +kernel) ?_
          refine lv_aload_n hx hb dX11_load_59 rfl (lv_at hl 3 rfl) ?_
          refine va_get (D := D) (ci := 11) (v := .int (nI kb)) (C := RX11) (T := TX11) (N := 55) hx hb hts iw_X11_load_11 hown hC.1 hP 4 rfl rfl 28 (by decide +kernel) (hts (.fieldLink RX11 244 "FairWheelModel" "bank" "I") (by decide +kernel)) (fun _ h9 => h9) rfl dX11_load_60 ?_
          refine lv_imul hx hb dX11_load_63 ?_
          refine nt_i (nI (10 * kb)) (pk_mul 10 kb) ?_
          refine lv_iload hx hb dX11_load_64 (lv_at hl 0 rfl) ?_
          refine lv_iadd hx hb dX11_load_66 ?_
          refine nt_i (nI (10 * kb + ji)) (nI_add (10 * kb) ji) ?_
          refine ka_iald hx hb hC.1 hP 0 1 rfl rfl (10 * kb + ji) rfl (by omega) (by decide +kernel) dX11_load_67 ?_
          refine nt_i (nI ke) eke ?_
          refine lv_istore (lv' := [(7, .int (nI ke)), (6, .int (nI ji)), (4, .long (lN jd)), (2, .long (lN ju)), (0, .ref h0), (1, .int x1)]) hx hb dX11_load_68 hl (by decide +kernel) rfl (fun ls hl => ?_)
          refine lv_lload_n hx hb dX11_load_70 rfl (lv_at hl 3 rfl) ?_
          refine lv_iload hx hb dX11_load_71 (lv_at hl 0 rfl) ?_
          refine lv_i2l hx hb dX11_load_73 rfl ?_
          refine lv_topl (fun y_24 ey_24 => ?_)
          refine nt_l (lN ke) (ey_24.trans (nI_l (by omega))) ?_
          refine lv_lmul hx hb dX11_load_74 ?_
          refine lv_topl (fun y_25 ey_25 => ?_)
          refine nt_l (lN (ju * ke)) (ey_25.trans (lN_mul ju ke)) ?_
          refine lv_aload_n hx hb dX11_load_75 rfl (lv_at hl 4 rfl) ?_
          refine va_get (D := D) (ci := 11) (v := .ref zbudget) (C := RX11) (T := TX11) (N := 55) hx hb hts iw_X11_load_11 hown hC.1 hP 4 rfl rfl 20 (by decide +kernel) (hts (.fieldLink RX11 48 "FairWheelModel" "budget" "[I") (by decide +kernel)) (fun _ h9 => h9) rfl dX11_load_76 ?_
          refine lv_bipush (v := 10) hx hb dX11_load_79 (by decide +kernel) ?_
          refine lv_aload_n hx hb dX11_load_81 rfl (lv_at hl 4 rfl) ?_
          refine va_get (D := D) (ci := 11) (v := .int (nI kb)) (C := RX11) (T := TX11) (N := 55) hx hb hts iw_X11_load_11 hown hC.1 hP 4 rfl rfl 28 (by decide +kernel) (hts (.fieldLink RX11 244 "FairWheelModel" "bank" "I") (by decide +kernel)) (fun _ h9 => h9) rfl dX11_load_82 ?_
          refine lv_imul hx hb dX11_load_85 ?_
          refine nt_i (nI (10 * kb)) (pk_mul 10 kb) ?_
          refine lv_iload hx hb dX11_load_86 (lv_at hl 1 rfl) ?_
          refine lv_iadd hx hb dX11_load_88 ?_
          refine nt_i (nI (10 * kb + ji)) (nI_add (10 * kb) ji) ?_
          refine ka_iald hx hb hC.1 hP 1 1 rfl rfl (10 * kb + ji) rfl (by omega) (by decide +kernel) dX11_load_89 ?_
          refine nt_i (nI kbu) ebu ?_
          refine lv_i2l hx hb dX11_load_90 rfl ?_
          refine lv_topl (fun y_26 ey_26 => ?_)
          refine nt_l (lN kbu) (ey_26.trans (nI_l (by omega))) ?_
          refine lv_lload hx hb dX11_load_91 (lv_at hl 2 rfl) ?_
          refine lv_lmul hx hb dX11_load_93 ?_
          refine lv_topl (fun y_27 ey_27 => ?_)
          refine nt_l (lN (kbu * jd)) (ey_27.trans (lN_mul kbu jd)) ?_
          refine lv_ladd hx hb dX11_load_94 ?_
          refine lv_topl (fun y_28 ey_28 => ?_)
          refine nt_l (lN (ju * ke + kbu * jd)) (ey_28.trans (lN_add _ _)) ?_
          refine lv_lstore_n (lv' := [(2, .long (lN (ju * ke + kbu * jd))), (7, .int (nI ke)), (6, .int (nI ji)), (4, .long (lN jd)), (0, .ref h0), (1, .int x1)]) hx hb dX11_load_95 rfl hl (by decide +kernel) rfl (fun ls hl => ?_)
          refine lv_lload hx hb dX11_load_96 (lv_at hl 3 rfl) ?_
          refine lv_iload hx hb dX11_load_98 (lv_at hl 1 rfl) ?_
          refine lv_i2l hx hb dX11_load_100 rfl ?_
          refine lv_topl (fun y_29 ey_29 => ?_)
          refine nt_l (lN ke) (ey_29.trans (nI_l (by omega))) ?_
          refine lv_lmul hx hb dX11_load_101 ?_
          refine lv_topl (fun y_30 ey_30 => ?_)
          refine nt_l (lN (jd * ke)) (ey_30.trans (lN_mul jd ke)) ?_
          refine lv_lstore (lv' := [(4, .long (lN (jd * ke))), (2, .long (lN (ju * ke + kbu * jd))), (7, .int (nI ke)), (6, .int (nI ji)), (0, .ref h0), (1, .int x1)]) hx hb dX11_load_102 hl (by decide +kernel) rfl (fun ls hl => ?_)
          refine lv_lload_n hx hb dX11_load_104 rfl (lv_at hl 1 rfl) ?_
          refine lv_lload hx hb dX11_load_105 (lv_at hl 0 rfl) ?_
          refine kc_l (wr := [(zevery, .inl (ca 1, 20, .inl f_every)), (zbudget, .inl (ca 1, 20, .inl f_budget)), (ztasks, .inl (ca 1, 2, .inl f_tasks)), (zkind, .inl (ca 1, 20, .inl f_kind)), (h0, .inr (11, [.ref ztape, .ref ztext, .int (nI ktp), .int (nI ksz), .int nfaultKind, .int nfaultPlace, .int (nI kat), .int (nI ken), .int ntoken, .int nnumber, .long nname, .ref zcores, .ref zlocks, .ref zbells, .ref ztasks, .ref zops, .ref zopSort, .ref zopNumber, .ref zkind, .ref zevery, .ref zbudget, .ref zshareTold, .ref zfirstOp, .ref zopMany, .ref zisCores, .ref zisLocks, .ref zisBells, .ref ztName, .int (nI kb), .int (nI kr), .ref zall, .ref zrows, .ref zpicked, .ref zpileTask, .ref zpileLock, .int (nI kp), .ref zwas, .ref zbehind, .ref zriskRow, .ref zriskBest, .int nriskMany, .ref zcTick, .ref zcProcessor, .ref zcTask, .int (nI kto), .ref zgTick, .ref zgTask, .ref zgTold, .ref zgUntold, .ref zgRan, .int (nI ksi), .int ntime, .ref zboxAll, .ref zboxRows, .ref zisBoxed])), (zall, .inl (ca 1, 340, .inl fa))]) (va_runS (As := [.long (lN (ju * ke + kbu * jd)), .long (lN (jd * ke))]) (rest := []) ⟨hx, hb, hml, hown, hts⟩ (m_common l D ca H.size (ju * ke + kbu * jd) (jd * ke) hLB.2 hLB.1) (va_cwS 2 hts gX11_load_X11_common rfl rfl rfl (by decide +kernel) ⟨(Nat.le_of_ble_eq_true rfl), (Nat.le_of_ble_eq_true rfl)⟩) (PC.preS hC hP hD [] rfl (by decide +kernel)) rfl rfl hl.1 rfl (lv_room (Nat.le_of_ble_eq_true rfl)) dX11_load_107 ⟨(Nat.le_of_ble_eq_true rfl), (Nat.le_of_ble_eq_true rfl)⟩) hP hD hS hA [] [0, 1, 2, 3, 4, 5] rfl rfl (by decide +kernel) (by decide +kernel) (fun r_31 u_33 H locs hw_32 hP hD hS => ?_)
          subst hw_32
          have hP : va_P D vwCl [(zevery, .inl (ca 1, 20, .inl f_every)), (zbudget, .inl (ca 1, 20, .inl f_budget)), (ztasks, .inl (ca 1, 2, .inl f_tasks)), (zkind, .inl (ca 1, 20, .inl f_kind)), (h0, .inr (11, [.ref ztape, .ref ztext, .int (nI ktp), .int (nI ksz), .int nfaultKind, .int nfaultPlace, .int (nI kat), .int (nI ken), .int ntoken, .int nnumber, .long nname, .ref zcores, .ref zlocks, .ref zbells, .ref ztasks, .ref zops, .ref zopSort, .ref zopNumber, .ref zkind, .ref zevery, .ref zbudget, .ref zshareTold, .ref zfirstOp, .ref zopMany, .ref zisCores, .ref zisLocks, .ref zisBells, .ref ztName, .int (nI kb), .int (nI kr), .ref zall, .ref zrows, .ref zpicked, .ref zpileTask, .ref zpileLock, .int (nI kp), .ref zwas, .ref zbehind, .ref zriskRow, .ref zriskBest, .int nriskMany, .ref zcTick, .ref zcProcessor, .ref zcTask, .int (nI kto), .ref zgTick, .ref zgTask, .ref zgTold, .ref zgUntold, .ref zgRan, .int (nI ksi), .int ntime, .ref zboxAll, .ref zboxRows, .ref zisBoxed])), (zall, .inl (ca 1, 340, .inl fa))] H := hP
          have hD : va_D A [(zevery, .inl (ca 1, 20, .inl f_every)), (zbudget, .inl (ca 1, 20, .inl f_budget)), (ztasks, .inl (ca 1, 2, .inl f_tasks)), (zkind, .inl (ca 1, 20, .inl f_kind)), (h0, .inr (11, [.ref ztape, .ref ztext, .int (nI ktp), .int (nI ksz), .int nfaultKind, .int nfaultPlace, .int (nI kat), .int (nI ken), .int ntoken, .int nnumber, .long nname, .ref zcores, .ref zlocks, .ref zbells, .ref ztasks, .ref zops, .ref zopSort, .ref zopNumber, .ref zkind, .ref zevery, .ref zbudget, .ref zshareTold, .ref zfirstOp, .ref zopMany, .ref zisCores, .ref zisLocks, .ref zisBells, .ref ztName, .int (nI kb), .int (nI kr), .ref zall, .ref zrows, .ref zpicked, .ref zpileTask, .ref zpileLock, .int (nI kp), .ref zwas, .ref zbehind, .ref zriskRow, .ref zriskBest, .int nriskMany, .ref zcTick, .ref zcProcessor, .ref zcTask, .int (nI kto), .ref zgTick, .ref zgTask, .ref zgTold, .ref zgUntold, .ref zgRan, .int (nI ksi), .int ntime, .ref zboxAll, .ref zboxRows, .ref zisBoxed])), (zall, .inl (ca 1, 340, .inl fa))] := hD
          refine lv_lstore (lv' := [(8, .long (lN (Nat.gcd (ju * ke + kbu * jd) (jd * ke)))), (4, .long (lN (jd * ke))), (2, .long (lN (ju * ke + kbu * jd))), (7, .int (nI ke)), (6, .int (nI ji)), (0, .ref h0), (1, .int x1)]) hx hb dX11_load_110 hl (by decide +kernel) rfl (fun ls hl => ?_)
          refine lv_lload_n hx hb dX11_load_112 rfl (lv_at hl 2 rfl) ?_
          refine lv_lload hx hb dX11_load_113 (lv_at hl 0 rfl) ?_
          refine lv_ldiv hx hb dX11_load_115 (lN_ne hgp hgb) ?_
          refine lv_topl (fun y_34 ey_34 => ?_)
          refine nt_l (lN ((ju * ke + kbu * jd) / (Nat.gcd (ju * ke + kbu * jd) (jd * ke)))) (ey_34.trans (pk_lDiv hLB.2 hgp hgb)) ?_
          refine lv_lstore_n (lv' := [(2, .long (lN ((ju * ke + kbu * jd) / (Nat.gcd (ju * ke + kbu * jd) (jd * ke))))), (8, .long (lN (Nat.gcd (ju * ke + kbu * jd) (jd * ke)))), (4, .long (lN (jd * ke))), (7, .int (nI ke)), (6, .int (nI ji)), (0, .ref h0), (1, .int x1)]) hx hb dX11_load_116 rfl hl (by decide +kernel) rfl (fun ls hl => ?_)
          refine lv_lload hx hb dX11_load_117 (lv_at hl 2 rfl) ?_
          refine lv_lload hx hb dX11_load_119 (lv_at hl 1 rfl) ?_
          refine lv_ldiv hx hb dX11_load_121 (lN_ne hgp hgb) ?_
          refine lv_topl (fun y_35 ey_35 => ?_)
          refine nt_l (lN ((jd * ke) / (Nat.gcd (ju * ke + kbu * jd) (jd * ke)))) (ey_35.trans (pk_lDiv hLB.1 hgp hgb)) ?_
          refine lv_lstore (lv' := [(4, .long (lN ((jd * ke) / (Nat.gcd (ju * ke + kbu * jd) (jd * ke))))), (2, .long (lN ((ju * ke + kbu * jd) / (Nat.gcd (ju * ke + kbu * jd) (jd * ke))))), (8, .long (lN (Nat.gcd (ju * ke + kbu * jd) (jd * ke)))), (7, .int (nI ke)), (6, .int (nI ji)), (0, .ref h0), (1, .int x1)]) hx hb dX11_load_122 hl (by decide +kernel) rfl (fun ls hl => ?_)
          refine lv_iinc (v := nI (ji + 1)) (lv' := [(6, .int (nI (ji + 1))), (4, .long (lN ((jd * ke) / (Nat.gcd (ju * ke + kbu * jd) (jd * ke))))), (2, .long (lN ((ju * ke + kbu * jd) / (Nat.gcd (ju * ke + kbu * jd) (jd * ke))))), (8, .long (lN (Nat.gcd (ju * ke + kbu * jd) (jd * ke)))), (7, .int (nI ke)), (0, .ref h0), (1, .int x1)]) hx hb dX11_load_124 hl (k := 4) rfl (nI_1 _) (by decide +kernel) rfl (fun ls hl => ?_)
          refine lv_goto (tgt := 21) hx hb dX11_load_127 (by decide +kernel) ?_
          exact ih_7 _ _ _ ⟨(ji + 1), ((ju * ke + kbu * jd) / (Nat.gcd (ju * ke + kbu * jd) (jd * ke))), ((jd * ke) / (Nat.gcd (ju * ke + kbu * jd) (jd * ke))), (by omega), (by omega), hLU.dv, lv_sub hl [0, 1, 2, 5, 6] rfl, (hP.sub [4, 2, 3, 0, 1, 5] rfl), (hD.sub [4, 2, 3, 0, 1, 5] (by decide +kernel) rfl), hS⟩
        · refine lv_goto (tgt := 124) hx hb dX11_load_50 (by decide +kernel) ?_
          refine lv_iinc (v := nI (ji + 1)) (lv' := [(6, .int (nI (ji + 1))), (4, .long (lN jd)), (2, .long (lN ju)), (0, .ref h0), (1, .int x1)]) hx hb dX11_load_124 hl (k := 0) rfl (nI_1 _) (by decide +kernel) rfl (fun ls hl => ?_)
          refine lv_goto (tgt := 21) hx hb dX11_load_127 (by decide +kernel) ?_
          exact ih_7 _ _ _ ⟨(ji + 1), ju, jd, (by omega), (by omega), hLD.sk, lv_sub hl [0, 1, 2, 3, 4] rfl, (hP.sub [4, 2, 3, 0, 1, 5] rfl), (hD.sub [4, 2, 3, 0, 1, 5] (by decide +kernel) rfl), hS⟩
  · have d_36 : ¬ (0 ≤ x1 ∧ x1 ≤ 1) := (hu_4.resolve_left (fun h => absurd (c_5.symm.trans h.1) (by decide +kernel))).2
    refine lv_ldc2 (v := (-1)) hx hb hown (hts (.constantLong RX11 374 (-1)) (by decide +kernel)) dX11_load_9 ?_
    exact W.lret (v := (-1)) hx hb hr (fun t ht hW => ⟨⟨(-1), (), rfl, trivial, by rw [ht]; exact hP.sub [0, 1, 2, 3, 4, 5] rfl, hDA (hD.sub [0, 1, 2, 3, 4, 5] (by decide +kernel) rfl)⟩, hS.F ht⟩) hS.2.2 dX11_load_12
