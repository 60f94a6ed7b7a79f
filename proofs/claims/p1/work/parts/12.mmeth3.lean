set_option maxRecDepth 20000 in
theorem ggX11_image_X11_isIn : GoodIn wsX11_image wsX11_isIn := goodIn_r _ [9] (by decide +kernel) (by decide +kernel)
set_option maxRecDepth 20000 in
theorem gX11_image_X11_isIn : GoodIn wsX11_image (va_wsS RX11 279 yX11_isIn wsX11_isIn) := goodIn_app (goodIn_of _ (by decide +kernel)) ggX11_image_X11_isIn
theorem dX11_image_0 : decode cX11_image 0 = .ok (.iload_n 1, 1) := by decide +kernel
theorem dX11_image_1 : decode cX11_image 1 = .ok (.iconst 0, 1) := by decide +kernel
theorem dX11_image_2 : decode cX11_image 2 = .ok (.iconst 2, 1) := by decide +kernel
theorem dX11_image_3 : decode cX11_image 3 = .ok (.invokestatic 279, 3) := by decide +kernel
theorem dX11_image_6 : decode cX11_image 6 = .ok (.ifCond .ne 5, 3) := by decide +kernel
theorem dX11_image_9 : decode cX11_image 9 = .ok (.iconst (-1), 1) := by decide +kernel
theorem dX11_image_10 : decode cX11_image 10 = .ok (.ireturn, 1) := by decide +kernel
theorem dX11_image_11 : decode cX11_image 11 = .ok (.iconst 0, 1) := by decide +kernel
theorem dX11_image_12 : decode cX11_image 12 = .ok (.istore_n 2, 1) := by decide +kernel
theorem dX11_image_13 : decode cX11_image 13 = .ok (.iload_n 2, 1) := by decide +kernel
theorem dX11_image_14 : decode cX11_image 14 = .ok (.sipush 340, 3) := by decide +kernel
theorem dX11_image_17 : decode cX11_image 17 = .ok (.if_icmp .ge 27, 3) := by decide +kernel
theorem dX11_image_20 : decode cX11_image 20 = .ok (.aload_n 0, 1) := by decide +kernel
theorem dX11_image_21 : decode cX11_image 21 = .ok (.getfield 125, 3) := by decide +kernel
theorem dX11_image_24 : decode cX11_image 24 = .ok (.sipush 340, 3) := by decide +kernel
theorem dX11_image_27 : decode cX11_image 27 = .ok (.iload_n 1, 1) := by decide +kernel
theorem dX11_image_28 : decode cX11_image 28 = .ok (.imul, 1) := by decide +kernel
theorem dX11_image_29 : decode cX11_image 29 = .ok (.iload_n 2, 1) := by decide +kernel
theorem dX11_image_30 : decode cX11_image 30 = .ok (.iadd, 1) := by decide +kernel
theorem dX11_image_31 : decode cX11_image 31 = .ok (.aload_n 0, 1) := by decide +kernel
theorem dX11_image_32 : decode cX11_image 32 = .ok (.getfield 74, 3) := by decide +kernel
theorem dX11_image_35 : decode cX11_image 35 = .ok (.iload_n 2, 1) := by decide +kernel
theorem dX11_image_36 : decode cX11_image 36 = .ok (.iaload, 1) := by decide +kernel
theorem dX11_image_37 : decode cX11_image 37 = .ok (.iastore, 1) := by decide +kernel
theorem dX11_image_38 : decode cX11_image 38 = .ok (.iinc 2 1, 3) := by decide +kernel
theorem dX11_image_41 : decode cX11_image 41 = .ok (.goto (-28), 3) := by decide +kernel
theorem dX11_image_44 : decode cX11_image 44 = .ok (.iconst 0, 1) := by decide +kernel
theorem dX11_image_45 : decode cX11_image 45 = .ok (.istore_n 2, 1) := by decide +kernel
theorem dX11_image_46 : decode cX11_image 46 = .ok (.iload_n 2, 1) := by decide +kernel
theorem dX11_image_47 : decode cX11_image 47 = .ok (.iconst 4, 1) := by decide +kernel
theorem dX11_image_48 : decode cX11_image 48 = .ok (.aload_n 0, 1) := by decide +kernel
theorem dX11_image_49 : decode cX11_image 49 = .ok (.getfield 74, 3) := by decide +kernel
theorem dX11_image_52 : decode cX11_image 52 = .ok (.sipush 330, 3) := by decide +kernel
theorem dX11_image_55 : decode cX11_image 55 = .ok (.iaload, 1) := by decide +kernel
theorem dX11_image_56 : decode cX11_image 56 = .ok (.imul, 1) := by decide +kernel
theorem dX11_image_57 : decode cX11_image 57 = .ok (.if_icmp .ge 27, 3) := by decide +kernel
theorem dX11_image_84 : decode cX11_image 84 = .ok (.aload_n 0, 1) := by decide +kernel
theorem dX11_image_85 : decode cX11_image 85 = .ok (.getfield 131, 3) := by decide +kernel
theorem dX11_image_88 : decode cX11_image 88 = .ok (.iload_n 1, 1) := by decide +kernel
theorem dX11_image_89 : decode cX11_image 89 = .ok (.iconst 1, 1) := by decide +kernel
theorem dX11_image_90 : decode cX11_image 90 = .ok (.bastore, 1) := by decide +kernel
theorem dX11_image_91 : decode cX11_image 91 = .ok (.aload_n 0, 1) := by decide +kernel
theorem dX11_image_92 : decode cX11_image 92 = .ok (.getfield 74, 3) := by decide +kernel
theorem dX11_image_95 : decode cX11_image 95 = .ok (.sipush 330, 3) := by decide +kernel
theorem dX11_image_98 : decode cX11_image 98 = .ok (.iaload, 1) := by decide +kernel
theorem dX11_image_99 : decode cX11_image 99 = .ok (.ireturn, 1) := by decide +kernel
set_option maxRecDepth 20000 in
theorem ggX11_back_X11_isIn : GoodIn wsX11_back wsX11_isIn := goodIn_r _ [9] (by decide +kernel) (by decide +kernel)
set_option maxRecDepth 20000 in
theorem gX11_back_X11_isIn : GoodIn wsX11_back (va_wsS RX11 279 yX11_isIn wsX11_isIn) := goodIn_app (goodIn_of _ (by decide +kernel)) ggX11_back_X11_isIn
theorem dX11_back_0 : decode cX11_back 0 = .ok (.iload_n 1, 1) := by decide +kernel
theorem dX11_back_1 : decode cX11_back 1 = .ok (.iconst 0, 1) := by decide +kernel
theorem dX11_back_2 : decode cX11_back 2 = .ok (.iconst 2, 1) := by decide +kernel
theorem dX11_back_3 : decode cX11_back 3 = .ok (.invokestatic 279, 3) := by decide +kernel
theorem dX11_back_6 : decode cX11_back 6 = .ok (.ifCond .eq 12, 3) := by decide +kernel
theorem dX11_back_9 : decode cX11_back 9 = .ok (.aload_n 0, 1) := by decide +kernel
theorem dX11_back_10 : decode cX11_back 10 = .ok (.getfield 131, 3) := by decide +kernel
theorem dX11_back_13 : decode cX11_back 13 = .ok (.iload_n 1, 1) := by decide +kernel
theorem dX11_back_14 : decode cX11_back 14 = .ok (.baload, 1) := by decide +kernel
theorem dX11_back_15 : decode cX11_back 15 = .ok (.ifCond .ne 5, 3) := by decide +kernel
theorem dX11_back_18 : decode cX11_back 18 = .ok (.iconst (-1), 1) := by decide +kernel
theorem dX11_back_19 : decode cX11_back 19 = .ok (.ireturn, 1) := by decide +kernel
set_option maxRecDepth 20000 in
theorem ggX11_layBehind_X11_taskMany : GoodIn wsX11_layBehind wsX11_taskMany := goodIn_r _ [11, 12, 2, 18, 19, 20, 21, 22, 23, 24, 25, 26, 27, 28, 29, 30, 31, 32, 33, 34, 35, 36, 37, 38, 39, 40, 41, 42, 43, 44, 45, 46, 47, 48, 49, 50, 51, 52, 53, 54, 55, 56, 57, 58, 59, 60, 61, 62, 63, 64, 65, 66, 67, 68, 69, 70, 71, 72] (by decide +kernel) (by decide +kernel)
set_option maxRecDepth 20000 in
theorem gX11_layBehind_X11_taskMany : GoodIn wsX11_layBehind (wsV RX11 276 RX11 yX11_taskMany wsX11_taskMany) := goodIn_app (goodIn_of _ (by decide +kernel)) ggX11_layBehind_X11_taskMany
theorem dX11_layBehind_0 : decode cX11_layBehind 0 = .ok (.iconst 0, 1) := by decide +kernel
theorem dX11_layBehind_1 : decode cX11_layBehind 1 = .ok (.istore_n 1, 1) := by decide +kernel
theorem dX11_layBehind_2 : decode cX11_layBehind 2 = .ok (.iload_n 1, 1) := by decide +kernel
theorem dX11_layBehind_3 : decode cX11_layBehind 3 = .ok (.bipush 6, 2) := by decide +kernel
theorem dX11_layBehind_5 : decode cX11_layBehind 5 = .ok (.if_icmp .ge 16, 3) := by decide +kernel
theorem dX11_layBehind_8 : decode cX11_layBehind 8 = .ok (.aload_n 0, 1) := by decide +kernel
theorem dX11_layBehind_9 : decode cX11_layBehind 9 = .ok (.getfield 92, 3) := by decide +kernel
theorem dX11_layBehind_12 : decode cX11_layBehind 12 = .ok (.iload_n 1, 1) := by decide +kernel
theorem dX11_layBehind_13 : decode cX11_layBehind 13 = .ok (.iconst 0, 1) := by decide +kernel
theorem dX11_layBehind_14 : decode cX11_layBehind 14 = .ok (.iastore, 1) := by decide +kernel
theorem dX11_layBehind_15 : decode cX11_layBehind 15 = .ok (.iinc 1 1, 3) := by decide +kernel
theorem dX11_layBehind_18 : decode cX11_layBehind 18 = .ok (.goto (-16), 3) := by decide +kernel
theorem dX11_layBehind_21 : decode cX11_layBehind 21 = .ok (.iconst 0, 1) := by decide +kernel
theorem dX11_layBehind_22 : decode cX11_layBehind 22 = .ok (.istore_n 1, 1) := by decide +kernel
theorem dX11_layBehind_23 : decode cX11_layBehind 23 = .ok (.iload_n 1, 1) := by decide +kernel
theorem dX11_layBehind_24 : decode cX11_layBehind 24 = .ok (.aload_n 0, 1) := by decide +kernel
theorem dX11_layBehind_25 : decode cX11_layBehind 25 = .ok (.invokevirtual 276, 3) := by decide +kernel
theorem dX11_layBehind_28 : decode cX11_layBehind 28 = .ok (.if_icmp .ge 194, 3) := by decide +kernel
theorem dX11_layBehind_222 : decode cX11_layBehind 222 = .ok (.return_, 1) := by decide +kernel
theorem dX11_findRound_0 : decode cX11_findRound 0 = .ok (.iconst 1, 1) := by decide +kernel
theorem dX11_findRound_1 : decode cX11_findRound 1 = .ok (.istore_n 3, 1) := by decide +kernel
theorem dX11_findRound_2 : decode cX11_findRound 2 = .ok (.aload_n 0, 1) := by decide +kernel
theorem dX11_findRound_3 : decode cX11_findRound 3 = .ok (.getfield 95, 3) := by decide +kernel
theorem dX11_findRound_6 : decode cX11_findRound 6 = .ok (.iconst 0, 1) := by decide +kernel
theorem dX11_findRound_7 : decode cX11_findRound 7 = .ok (.iload_n 1, 1) := by decide +kernel
theorem dX11_findRound_8 : decode cX11_findRound 8 = .ok (.iastore, 1) := by decide +kernel
theorem dX11_findRound_9 : decode cX11_findRound 9 = .ok (.aload_n 0, 1) := by decide +kernel
theorem dX11_findRound_10 : decode cX11_findRound 10 = .ok (.getfield 95, 3) := by decide +kernel
theorem dX11_findRound_13 : decode cX11_findRound 13 = .ok (.iconst 1, 1) := by decide +kernel
theorem dX11_findRound_14 : decode cX11_findRound 14 = .ok (.iconst (-1), 1) := by decide +kernel
theorem dX11_findRound_15 : decode cX11_findRound 15 = .ok (.iastore, 1) := by decide +kernel
theorem dX11_findRound_16 : decode cX11_findRound 16 = .ok (.iload_n 2, 1) := by decide +kernel
theorem dX11_findRound_17 : decode cX11_findRound 17 = .ok (.iconst 1, 1) := by decide +kernel
theorem dX11_findRound_18 : decode cX11_findRound 18 = .ok (.if_icmp .ne 23, 3) := by decide +kernel
theorem dX11_findRound_21 : decode cX11_findRound 21 = .ok (.aload_n 0, 1) := by decide +kernel
theorem dX11_findRound_22 : decode cX11_findRound 22 = .ok (.getfield 92, 3) := by decide +kernel
theorem dX11_findRound_25 : decode cX11_findRound 25 = .ok (.iload_n 1, 1) := by decide +kernel
theorem dX11_findRound_26 : decode cX11_findRound 26 = .ok (.iaload, 1) := by decide +kernel
theorem dX11_findRound_27 : decode cX11_findRound 27 = .ok (.iload_n 1, 1) := by decide +kernel
theorem dX11_findRound_28 : decode cX11_findRound 28 = .ok (.ishr, 1) := by decide +kernel
theorem dX11_findRound_29 : decode cX11_findRound 29 = .ok (.iconst 1, 1) := by decide +kernel
theorem dX11_findRound_30 : decode cX11_findRound 30 = .ok (.iand, 1) := by decide +kernel
theorem dX11_findRound_31 : decode cX11_findRound 31 = .ok (.iconst 1, 1) := by decide +kernel
theorem dX11_findRound_32 : decode cX11_findRound 32 = .ok (.if_icmp .ne 7, 3) := by decide +kernel
theorem dX11_findRound_39 : decode cX11_findRound 39 = .ok (.iconst 0, 1) := by decide +kernel
theorem dX11_findRound_40 : decode cX11_findRound 40 = .ok (.ireturn, 1) := by decide +kernel
theorem dX11_findRound_41 : decode cX11_findRound 41 = .ok (.iload_n 3, 1) := by decide +kernel
theorem dX11_findRound_42 : decode cX11_findRound 42 = .ok (.ifCond .le 105, 3) := by decide +kernel
theorem dX11_findRound_45 : decode cX11_findRound 45 = .ok (.aload_n 0, 1) := by decide +kernel
theorem dX11_findRound_46 : decode cX11_findRound 46 = .ok (.getfield 95, 3) := by decide +kernel
theorem dX11_findRound_49 : decode cX11_findRound 49 = .ok (.iload_n 3, 1) := by decide +kernel
theorem dX11_findRound_50 : decode cX11_findRound 50 = .ok (.iaload, 1) := by decide +kernel
theorem dX11_findRound_51 : decode cX11_findRound 51 = .ok (.iconst 1, 1) := by decide +kernel
theorem dX11_findRound_52 : decode cX11_findRound 52 = .ok (.iadd, 1) := by decide +kernel
theorem dX11_findRound_53 : decode cX11_findRound 53 = .ok (.istore 4, 2) := by decide +kernel
theorem dX11_findRound_55 : decode cX11_findRound 55 = .ok (.iload 4, 2) := by decide +kernel
theorem dX11_findRound_57 : decode cX11_findRound 57 = .ok (.bipush 6, 2) := by decide +kernel
theorem dX11_findRound_59 : decode cX11_findRound 59 = .ok (.if_icmp .ge 30, 3) := by decide +kernel
theorem dX11_findRound_62 : decode cX11_findRound 62 = .ok (.aload_n 0, 1) := by decide +kernel
theorem dX11_findRound_63 : decode cX11_findRound 63 = .ok (.getfield 92, 3) := by decide +kernel
theorem dX11_findRound_66 : decode cX11_findRound 66 = .ok (.aload_n 0, 1) := by decide +kernel
theorem dX11_findRound_67 : decode cX11_findRound 67 = .ok (.getfield 95, 3) := by decide +kernel
theorem dX11_findRound_70 : decode cX11_findRound 70 = .ok (.iload_n 3, 1) := by decide +kernel
theorem dX11_findRound_71 : decode cX11_findRound 71 = .ok (.iconst 1, 1) := by decide +kernel
theorem dX11_findRound_72 : decode cX11_findRound 72 = .ok (.isub, 1) := by decide +kernel
theorem dX11_findRound_73 : decode cX11_findRound 73 = .ok (.iaload, 1) := by decide +kernel
theorem dX11_findRound_74 : decode cX11_findRound 74 = .ok (.iaload, 1) := by decide +kernel
theorem dX11_findRound_75 : decode cX11_findRound 75 = .ok (.iload 4, 2) := by decide +kernel
theorem dX11_findRound_77 : decode cX11_findRound 77 = .ok (.ishr, 1) := by decide +kernel
theorem dX11_findRound_78 : decode cX11_findRound 78 = .ok (.iconst 1, 1) := by decide +kernel
theorem dX11_findRound_79 : decode cX11_findRound 79 = .ok (.iand, 1) := by decide +kernel
theorem dX11_findRound_80 : decode cX11_findRound 80 = .ok (.ifCond .ne 9, 3) := by decide +kernel
theorem dX11_findRound_83 : decode cX11_findRound 83 = .ok (.iinc 4 1, 3) := by decide +kernel
theorem dX11_findRound_86 : decode cX11_findRound 86 = .ok (.goto (-31), 3) := by decide +kernel
theorem dX11_findRound_89 : decode cX11_findRound 89 = .ok (.aload_n 0, 1) := by decide +kernel
theorem dX11_findRound_90 : decode cX11_findRound 90 = .ok (.getfield 95, 3) := by decide +kernel
theorem dX11_findRound_93 : decode cX11_findRound 93 = .ok (.iload_n 3, 1) := by decide +kernel
theorem dX11_findRound_94 : decode cX11_findRound 94 = .ok (.iload 4, 2) := by decide +kernel
theorem dX11_findRound_96 : decode cX11_findRound 96 = .ok (.iastore, 1) := by decide +kernel
theorem dX11_findRound_97 : decode cX11_findRound 97 = .ok (.iload 4, 2) := by decide +kernel
theorem dX11_findRound_99 : decode cX11_findRound 99 = .ok (.bipush 6, 2) := by decide +kernel
theorem dX11_findRound_101 : decode cX11_findRound 101 = .ok (.if_icmp .ne 9, 3) := by decide +kernel
theorem dX11_findRound_104 : decode cX11_findRound 104 = .ok (.iinc 3 (-1), 3) := by decide +kernel
theorem dX11_findRound_107 : decode cX11_findRound 107 = .ok (.goto 37, 3) := by decide +kernel
theorem dX11_findRound_144 : decode cX11_findRound 144 = .ok (.goto (-103), 3) := by decide +kernel
theorem dX11_findRound_147 : decode cX11_findRound 147 = .ok (.iconst 0, 1) := by decide +kernel
theorem dX11_findRound_148 : decode cX11_findRound 148 = .ok (.ireturn, 1) := by decide +kernel
theorem iw_X11_image_11 : ∀ w ∈ u_ws RX11 TX11 55, w ∈ wsX11_image := by decide +kernel
def sp_k_X11_image (x1 : Int32) : Int32 := (if x1 < 0 then (-1) else (if 2 < x1 then (-1) else 0))
set_option maxHeartbeats 4000000 in
set_option maxRecDepth 100000 in
theorem k_X11_image (l : Launch) (D : va_G) (ca : Nat → ClassId) (sz : Nat) (h0 : Nat) (ztape : Nat) (ztext : Nat) (zcores : Nat) (zlocks : Nat) (zbells : Nat) (ztasks : Nat) (zops : Nat) (zopSort : Nat) (zopNumber : Nat) (zkind : Nat) (zevery : Nat) (zbudget : Nat) (zshareTold : Nat) (zfirstOp : Nat) (zopMany : Nat) (zisCores : Nat) (zisLocks : Nat) (zisBells : Nat) (ztName : Nat) (zall : Nat) (zrows : Nat) (zpicked : Nat) (zpileTask : Nat) (zpileLock : Nat) (zwas : Nat) (zbehind : Nat) (zriskRow : Nat) (zriskBest : Nat) (zcTick : Nat) (zcProcessor : Nat) (zcTask : Nat) (zgTick : Nat) (zgTask : Nat) (zgTold : Nat) (zgUntold : Nat) (zgRan : Nat) (zboxAll : Nat) (zboxRows : Nat) (zisBoxed : Nat) (fa : Nat → Int32) (fb : Nat → Int32) (x1 : Int32) (ha : fa 330 = 0) : Met l yX11_image wsX11_image ({ frames := 1, cells := 0, slots := 0, locals := 22 }) (PC [.ref h0, .int x1] sz D ca [(h0, .inr (11, [.ref ztape, .ref ztext, .int 0, .int 0, .int 0, .int (-1), .int 0, .int 0, .int 0, .int 0, .long 0, .ref zcores, .ref zlocks, .ref zbells, .ref ztasks, .ref zops, .ref zopSort, .ref zopNumber, .ref zkind, .ref zevery, .ref zbudget, .ref zshareTold, .ref zfirstOp, .ref zopMany, .ref zisCores, .ref zisLocks, .ref zisBells, .ref ztName, .int 0, .int 0, .ref zall, .ref zrows, .ref zpicked, .ref zpileTask, .ref zpileLock, .int 0, .ref zwas, .ref zbehind, .ref zriskRow, .ref zriskBest, .int 0, .ref zcTick, .ref zcProcessor, .ref zcTask, .int 0, .ref zgTick, .ref zgTask, .ref zgTold, .ref zgUntold, .ref zgRan, .int 0, .int 0, .ref zboxAll, .ref zboxRows, .ref zisBoxed])), (zall, .inl (ca 1, 340, .inl fa)), (zboxAll, .inl (ca 1, 1020, .inl fb)), (zisBoxed, .inl (ca 3, 3, .inl (fun _ => 0)))]) (QI (fun (r : Int32) (u : Unit) => r = sp_k_X11_image x1) (fun (_ : Unit) => []) [(h0, .inr (11, [.ref ztape, .ref ztext, .int 0, .int 0, .int 0, .int (-1), .int 0, .int 0, .int 0, .int 0, .long 0, .ref zcores, .ref zlocks, .ref zbells, .ref ztasks, .ref zops, .ref zopSort, .ref zopNumber, .ref zkind, .ref zevery, .ref zbudget, .ref zshareTold, .ref zfirstOp, .ref zopMany, .ref zisCores, .ref zisLocks, .ref zisBells, .ref ztName, .int 0, .int 0, .ref zall, .ref zrows, .ref zpicked, .ref zpileTask, .ref zpileLock, .int 0, .ref zwas, .ref zbehind, .ref zriskRow, .ref zriskBest, .int 0, .ref zcTick, .ref zcProcessor, .ref zcTask, .int 0, .ref zgTick, .ref zgTask, .ref zgTold, .ref zgUntold, .ref zgRan, .int 0, .int 0, .ref zboxAll, .ref zboxRows, .ref zisBoxed])), (zall, .inl (ca 1, 340, .inl fa)), (zboxAll, .inl (ca 1, 1020, .inl fb)), (zisBoxed, .inl (ca 3, 3, .inl (fun _ => 0)))] sz D) 0 0 (va_A [(h0, .inr (11, [.ref ztape, .ref ztext, .int 0, .int 0, .int 0, .int (-1), .int 0, .int 0, .int 0, .int 0, .long 0, .ref zcores, .ref zlocks, .ref zbells, .ref ztasks, .ref zops, .ref zopSort, .ref zopNumber, .ref zkind, .ref zevery, .ref zbudget, .ref zshareTold, .ref zfirstOp, .ref zopMany, .ref zisCores, .ref zisLocks, .ref zisBells, .ref ztName, .int 0, .int 0, .ref zall, .ref zrows, .ref zpicked, .ref zpileTask, .ref zpileLock, .int 0, .ref zwas, .ref zbehind, .ref zriskRow, .ref zriskBest, .int 0, .ref zcTick, .ref zcProcessor, .ref zcTask, .int 0, .ref zgTick, .ref zgTask, .ref zgTold, .ref zgUntold, .ref zgRan, .int 0, .int 0, .ref zboxAll, .ref zboxRows, .ref zisBoxed])), (zall, .inl (ca 1, 340, .inl fa)), (zboxAll, .inl (ca 1, 1020, .inl fb)), (zisBoxed, .inl (ca 3, 3, .inl (fun _ => 0)))] sz) := by
  refine Met.ofW (cc := cX11_image) (maxL := 3) (ret := (some .int)) (by decide +kernel) rfl ?_
  intro p e s m args below meth c s₁ B hml hv
  obtain ⟨rfl, hsz, hP, hC, hD0⟩ := hv
  have hx := B.exec
  have hb := B.bytes
  have hr := B.returns
  have hts := atoms_spec (ws := wsX11_image) B.pre
  have hown : s.vm.findClass RX11 = some m.cls := findClass_of_methodNamed B.named
  have hlocks := B.notSynchronized
  subst hsz
  have hD := hD0.self (sz := s.heap.size)
  dsimp only [QV, QI, QL, BQ]
  generalize hAe : va_A [(h0, .inr (11, [.ref ztape, .ref ztext, .int 0, .int 0, .int 0, .int (-1), .int 0, .int 0, .int 0, .int 0, .long 0, .ref zcores, .ref zlocks, .ref zbells, .ref ztasks, .ref zops, .ref zopSort, .ref zopNumber, .ref zkind, .ref zevery, .ref zbudget, .ref zshareTold, .ref zfirstOp, .ref zopMany, .ref zisCores, .ref zisLocks, .ref zisBells, .ref ztName, .int 0, .int 0, .ref zall, .ref zrows, .ref zpicked, .ref zpileTask, .ref zpileLock, .int 0, .ref zwas, .ref zbehind, .ref zriskRow, .ref zriskBest, .int 0, .ref zcTick, .ref zcProcessor, .ref zcTask, .int 0, .ref zgTick, .ref zgTask, .ref zgTold, .ref zgUntold, .ref zgRan, .int 0, .int 0, .ref zboxAll, .ref zboxRows, .ref zisBoxed])), (zall, .inl (ca 1, 340, .inl fa)), (zboxAll, .inl (ca 1, 1020, .inl fb)), (zisBoxed, .inl (ca 3, 3, .inl (fun _ => 0)))] s.heap.size = A at hD ⊢
  have hA : ∀ q : Nat, s.heap.size ≤ q → A q := fun q h => by rw [← hAe]; exact Or.inr h
  have hDA : ∀ {w : va_W}, va_D A w → va_D (va_A [(h0, .inr (11, [.ref ztape, .ref ztext, .int 0, .int 0, .int 0, .int (-1), .int 0, .int 0, .int 0, .int 0, .long 0, .ref zcores, .ref zlocks, .ref zbells, .ref ztasks, .ref zops, .ref zopSort, .ref zopNumber, .ref zkind, .ref zevery, .ref zbudget, .ref zshareTold, .ref zfirstOp, .ref zopMany, .ref zisCores, .ref zisLocks, .ref zisBells, .ref ztName, .int 0, .int 0, .ref zall, .ref zrows, .ref zpicked, .ref zpileTask, .ref zpileLock, .int 0, .ref zwas, .ref zbehind, .ref zriskRow, .ref zriskBest, .int 0, .ref zcTick, .ref zcProcessor, .ref zcTask, .int 0, .ref zgTick, .ref zgTask, .ref zgTold, .ref zgUntold, .ref zgRan, .int 0, .int 0, .ref zboxAll, .ref zboxRows, .ref zisBoxed])), (zall, .inl (ca 1, 340, .inl fa)), (zboxAll, .inl (ca 1, 1020, .inl fb)), (zisBoxed, .inl (ca 3, 3, .inl (fun _ => 0)))] s.heap.size) w := fun h => by rw [hAe]; exact h
  have hS : va_S A s.heap s.heap [] := va_S.rf
  have hP : va_P D vwCl [(h0, .inr (11, [.ref ztape, .ref ztext, .int 0, .int 0, .int 0, .int (-1), .int 0, .int 0, .int 0, .int 0, .long 0, .ref zcores, .ref zlocks, .ref zbells, .ref ztasks, .ref zops, .ref zopSort, .ref zopNumber, .ref zkind, .ref zevery, .ref zbudget, .ref zshareTold, .ref zfirstOp, .ref zopMany, .ref zisCores, .ref zisLocks, .ref zisBells, .ref ztName, .int 0, .int 0, .ref zall, .ref zrows, .ref zpicked, .ref zpileTask, .ref zpileLock, .int 0, .ref zwas, .ref zbehind, .ref zriskRow, .ref zriskBest, .int 0, .ref zcTick, .ref zcProcessor, .ref zcTask, .int 0, .ref zgTick, .ref zgTask, .ref zgTold, .ref zgUntold, .ref zgRan, .int 0, .int 0, .ref zboxAll, .ref zboxRows, .ref zisBoxed])), (zall, .inl (ca 1, 340, .inl fa)), (zboxAll, .inl (ca 1, 1020, .inl fb)), (zisBoxed, .inl (ca 3, 3, .inl (fun _ => 0)))] s.heap := hP
  have hl := lv_entry ([.ref h0, .int x1]) (n := 3) (Nat.le_of_ble_eq_true rfl)
  rw [lg_entry_eq]
  generalize (lg_sl ([.ref h0, .int x1]) ++ List.replicate (3 - (lg_sl ([.ref h0, .int x1])).length) Slot.unset).toArray = ls at hl ⊢
  have hl : lv_has ls 3 [(0, .ref h0), (1, .int x1)] := hl
  refine lv_iload_n hx hb dX11_image_0 rfl (lv_at hl 1 rfl) ?_
  refine lv_iconst (v := 0) hx hb dX11_image_1 (by decide +kernel) ?_
  refine lv_iconst (v := 2) hx hb dX11_image_2 (by decide +kernel) ?_
  refine kc_i (wr := [(h0, .inr (11, [.ref ztape, .ref ztext, .int 0, .int 0, .int 0, .int (-1), .int 0, .int 0, .int 0, .int 0, .long 0, .ref zcores, .ref zlocks, .ref zbells, .ref ztasks, .ref zops, .ref zopSort, .ref zopNumber, .ref zkind, .ref zevery, .ref zbudget, .ref zshareTold, .ref zfirstOp, .ref zopMany, .ref zisCores, .ref zisLocks, .ref zisBells, .ref ztName, .int 0, .int 0, .ref zall, .ref zrows, .ref zpicked, .ref zpileTask, .ref zpileLock, .int 0, .ref zwas, .ref zbehind, .ref zriskRow, .ref zriskBest, .int 0, .ref zcTick, .ref zcProcessor, .ref zcTask, .int 0, .ref zgTick, .ref zgTask, .ref zgTold, .ref zgUntold, .ref zgRan, .int 0, .int 0, .ref zboxAll, .ref zboxRows, .ref zisBoxed])), (zall, .inl (ca 1, 340, .inl fa)), (zboxAll, .inl (ca 1, 1020, .inl fb)), (zisBoxed, .inl (ca 3, 3, .inl (fun _ => 0)))]) (va_runS (As := [.int x1, .int 0, .int 2]) (rest := []) ⟨hx, hb, hml, hown, hts⟩ (k_X11_isIn_0_2 l D ca s.heap.size x1) (va_cwS 3 hts gX11_image_X11_isIn rfl rfl rfl (by decide +kernel) ⟨(Nat.le_of_ble_eq_true rfl), (Nat.le_of_ble_eq_true rfl)⟩) (PC.preS hC hP hD [] rfl (by decide +kernel)) rfl rfl hl.1 rfl (lv_room (Nat.le_of_ble_eq_true rfl)) dX11_image_3 ⟨(Nat.le_of_ble_eq_true rfl), (Nat.le_of_ble_eq_true rfl)⟩) hP hD hS hA [] [0, 1, 2, 3] rfl rfl (by decide +kernel) (by decide +kernel) (fun r_1 u_3 H locs hw_2 hP hD hS => ?_)
  have hP : va_P D vwCl [(h0, .inr (11, [.ref ztape, .ref ztext, .int 0, .int 0, .int 0, .int (-1), .int 0, .int 0, .int 0, .int 0, .long 0, .ref zcores, .ref zlocks, .ref zbells, .ref ztasks, .ref zops, .ref zopSort, .ref zopNumber, .ref zkind, .ref zevery, .ref zbudget, .ref zshareTold, .ref zfirstOp, .ref zopMany, .ref zisCores, .ref zisLocks, .ref zisBells, .ref ztName, .int 0, .int 0, .ref zall, .ref zrows, .ref zpicked, .ref zpileTask, .ref zpileLock, .int 0, .ref zwas, .ref zbehind, .ref zriskRow, .ref zriskBest, .int 0, .ref zcTick, .ref zcProcessor, .ref zcTask, .int 0, .ref zgTick, .ref zgTask, .ref zgTold, .ref zgUntold, .ref zgRan, .int 0, .int 0, .ref zboxAll, .ref zboxRows, .ref zisBoxed])), (zall, .inl (ca 1, 340, .inl fa)), (zboxAll, .inl (ca 1, 1020, .inl fb)), (zisBoxed, .inl (ca 3, 3, .inl (fun _ => 0)))] H := hP
  have hD : va_D A [(h0, .inr (11, [.ref ztape, .ref ztext, .int 0, .int 0, .int 0, .int (-1), .int 0, .int 0, .int 0, .int 0, .long 0, .ref zcores, .ref zlocks, .ref zbells, .ref ztasks, .ref zops, .ref zopSort, .ref zopNumber, .ref zkind, .ref zevery, .ref zbudget, .ref zshareTold, .ref zfirstOp, .ref zopMany, .ref zisCores, .ref zisLocks, .ref zisBells, .ref ztName, .int 0, .int 0, .ref zall, .ref zrows, .ref zpicked, .ref zpileTask, .ref zpileLock, .int 0, .ref zwas, .ref zbehind, .ref zriskRow, .ref zriskBest, .int 0, .ref zcTick, .ref zcProcessor, .ref zcTask, .int 0, .ref zgTick, .ref zgTask, .ref zgTold, .ref zgUntold, .ref zgRan, .int 0, .int 0, .ref zboxAll, .ref zboxRows, .ref zisBoxed])), (zall, .inl (ca 1, 340, .inl fa)), (zboxAll, .inl (ca 1, 1020, .inl fb)), (zisBoxed, .inl (ca 3, 3, .inl (fun _ => 0)))] := hD
  rcases Decidable.em (x1 < 0) with c_4 | c_4
  · obtain rfl : r_1 = 0 := hw_2.trans (by unfold sp_k_X11_isIn_0_2; rw [if_pos c_4])
    refine lv_if_ne (tgt := 11) hx hb dX11_image_6 (by decide +kernel) (fun c_5 => absurd (by decide +kernel) c_5) (fun c_5 => ?_)
    refine lv_iconst (v := (-1)) hx hb dX11_image_9 (by decide +kernel) ?_
    exact W.iret (v := (-1)) hx hb hr (fun t ht hW => ⟨⟨(-1), (), rfl, (by unfold sp_k_X11_image; rw [if_pos c_4]), by rw [ht]; exact hP.sub [] rfl, hDA (hD.sub [] (by decide +kernel) rfl)⟩, hS.F ht⟩) hS.2.2 dX11_image_10
  · rcases Decidable.em (2 < x1) with c_6 | c_6
    · obtain rfl : r_1 = 0 := hw_2.trans (by unfold sp_k_X11_isIn_0_2; rw [if_neg c_4, if_pos c_6])
      refine lv_if_ne (tgt := 11) hx hb dX11_image_6 (by decide +kernel) (fun c_7 => absurd (by decide +kernel) c_7) (fun c_7 => ?_)
      refine lv_iconst (v := (-1)) hx hb dX11_image_9 (by decide +kernel) ?_
      exact W.iret (v := (-1)) hx hb hr (fun t ht hW => ⟨⟨(-1), (), rfl, (by unfold sp_k_X11_image; rw [if_neg c_4, if_pos c_6]), by rw [ht]; exact hP.sub [] rfl, hDA (hD.sub [] (by decide +kernel) rfl)⟩, hS.F ht⟩) hS.2.2 dX11_image_10
    · obtain rfl : r_1 = 1 := hw_2.trans (by unfold sp_k_X11_isIn_0_2; rw [if_neg c_4, if_neg c_6])
      refine lv_if_ne (tgt := 11) hx hb dX11_image_6 (by decide +kernel) (fun c_8 => ?_) (fun c_8 => absurd c_8 (by decide +kernel))
      obtain rfl | rfl | rfl : x1 = 0 ∨ x1 = 1 ∨ x1 = 2 := i012b c_4 c_6
      · refine lv_iconst (v := 0) hx hb dX11_image_11 (by decide +kernel) ?_
        refine lv_istore_n (lv' := [(2, .int 0), (0, .ref h0), (1, .int 0)]) hx hb dX11_image_12 rfl hl (by decide +kernel) rfl (fun ls hl => ?_)
        refine lp_ind (I := fun (n : Nat) H locs ls => ∃ (i : Nat) (fi0 : Nat → Int32), i ≤ 340 ∧ i + n = 341 ∧ lv_has ls 3 [(2, .int (nI i)), (0, .ref h0), (1, .int 0)] ∧ va_P D vwCl [(h0, .inr (11, [.ref ztape, .ref ztext, .int 0, .int 0, .int 0, .int (-1), .int 0, .int 0, .int 0, .int 0, .long 0, .ref zcores, .ref zlocks, .ref zbells, .ref ztasks, .ref zops, .ref zopSort, .ref zopNumber, .ref zkind, .ref zevery, .ref zbudget, .ref zshareTold, .ref zfirstOp, .ref zopMany, .ref zisCores, .ref zisLocks, .ref zisBells, .ref ztName, .int 0, .int 0, .ref zall, .ref zrows, .ref zpicked, .ref zpileTask, .ref zpileLock, .int 0, .ref zwas, .ref zbehind, .ref zriskRow, .ref zriskBest, .int 0, .ref zcTick, .ref zcProcessor, .ref zcTask, .int 0, .ref zgTick, .ref zgTask, .ref zgTold, .ref zgUntold, .ref zgRan, .int 0, .int 0, .ref zboxAll, .ref zboxRows, .ref zisBoxed])), (zall, .inl (ca 1, 340, .inl fa)), (zboxAll, .inl (ca 1, 1020, .inl fi0)), (zisBoxed, .inl (ca 3, 3, .inl (fun _ => 0)))] H ∧ va_D A [(h0, .inr (11, [.ref ztape, .ref ztext, .int 0, .int 0, .int 0, .int (-1), .int 0, .int 0, .int 0, .int 0, .long 0, .ref zcores, .ref zlocks, .ref zbells, .ref ztasks, .ref zops, .ref zopSort, .ref zopNumber, .ref zkind, .ref zevery, .ref zbudget, .ref zshareTold, .ref zfirstOp, .ref zopMany, .ref zisCores, .ref zisLocks, .ref zisBells, .ref ztName, .int 0, .int 0, .ref zall, .ref zrows, .ref zpicked, .ref zpileTask, .ref zpileLock, .int 0, .ref zwas, .ref zbehind, .ref zriskRow, .ref zriskBest, .int 0, .ref zcTick, .ref zcProcessor, .ref zcTask, .int 0, .ref zgTick, .ref zgTask, .ref zgTold, .ref zgUntold, .ref zgRan, .int 0, .int 0, .ref zboxAll, .ref zboxRows, .ref zisBoxed])), (zall, .inl (ca 1, 340, .inl fa)), (zboxAll, .inl (ca 1, 1020, .inl fi0)), (zisBoxed, .inl (ca 3, 3, .inl (fun _ => 0)))] ∧ va_S A s.heap H locs) (Wf := fun H locs ls => W p l e _ s m _ below meth c H locs _ _ _ (F0 m 13 ls [])) (341) ⟨0, fb, (by decide), (by decide), hl, hP, hD, hS⟩ ?_ ?_
        · intro H locs ls hI
          obtain ⟨i, fi0, hii, hni, -⟩ := hI
          omega
        intro n ih_9 H locs ls hI
        obtain ⟨i, fi0, hii, hni, hl, hP, hD, hS⟩ := hI
        refine lv_iload_n hx hb dX11_image_13 rfl (lv_at hl 0 rfl) ?_
        refine lv_sipush (v := 340) hx hb dX11_image_14 (by decide +kernel) ?_
        refine lv_icmp_ge (tgt := 44) hx hb dX11_image_17 (by decide +kernel) (fun c_10 => ?_) (fun c_10 => ?_)
        · refine lv_iconst (v := 0) hx hb dX11_image_44 (by decide +kernel) ?_
          refine lv_istore_n (lv' := [(2, .int 0), (0, .ref h0), (1, .int 0)]) hx hb dX11_image_45 rfl hl (by decide +kernel) rfl (fun ls hl => ?_)
          refine lv_iload_n hx hb dX11_image_46 rfl (lv_at hl 0 rfl) ?_
          refine lv_iconst (v := 4) hx hb dX11_image_47 (by decide +kernel) ?_
          refine lv_aload_n hx hb dX11_image_48 rfl (lv_at hl 1 rfl) ?_
          refine va_get (D := D) (ci := 11) (v := .ref zall) (C := RX11) (T := TX11) (N := 55) hx hb hts iw_X11_image_11 hown hC.1 hP 0 rfl rfl 30 (by decide +kernel) (hts (.fieldLink RX11 74 "FairWheelModel" "all" "[I") (by decide +kernel)) (fun _ h9 => h9) rfl dX11_image_49 ?_
          refine lv_sipush (v := 330) hx hb dX11_image_52 (by decide +kernel) ?_
          refine ka_iald hx hb hC.1 hP 1 1 rfl rfl 330 rfl (by decide +kernel) (by decide +kernel) dX11_image_55 ?_
          refine nt_i 0 ha ?_
          refine lv_imul hx hb dX11_image_56 ?_
          refine nt_i 0 (by decide +kernel) ?_
          refine lv_icmp_ge (tgt := 84) hx hb dX11_image_57 (by decide +kernel) (fun c_11 => ?_) (fun c_11 => absurd (by decide +kernel) c_11)
          refine lv_aload_n hx hb dX11_image_84 rfl (lv_at hl 1 rfl) ?_
          refine va_get (D := D) (ci := 11) (v := .ref zisBoxed) (C := RX11) (T := TX11) (N := 55) hx hb hts iw_X11_image_11 hown hC.1 hP 0 rfl rfl 54 (by decide +kernel) (hts (.fieldLink RX11 131 "FairWheelModel" "isBoxed" "[Z") (by decide +kernel)) (fun _ h9 => h9) rfl dX11_image_85 ?_
          refine lv_iload_n hx hb dX11_image_88 rfl (lv_at hl 2 rfl) ?_
          refine lv_iconst (v := 1) hx hb dX11_image_89 (by decide +kernel) ?_
          refine ka_zast hx hb hC.1 hP hD hS 3 3 rfl rfl 0 rfl (by decide +kernel) (by decide +kernel) dX11_image_90 (fun H locs hP hD hS => ?_)
          have hP : va_P D vwCl [(h0, .inr (11, [.ref ztape, .ref ztext, .int 0, .int 0, .int 0, .int (-1), .int 0, .int 0, .int 0, .int 0, .long 0, .ref zcores, .ref zlocks, .ref zbells, .ref ztasks, .ref zops, .ref zopSort, .ref zopNumber, .ref zkind, .ref zevery, .ref zbudget, .ref zshareTold, .ref zfirstOp, .ref zopMany, .ref zisCores, .ref zisLocks, .ref zisBells, .ref ztName, .int 0, .int 0, .ref zall, .ref zrows, .ref zpicked, .ref zpileTask, .ref zpileLock, .int 0, .ref zwas, .ref zbehind, .ref zriskRow, .ref zriskBest, .int 0, .ref zcTick, .ref zcProcessor, .ref zcTask, .int 0, .ref zgTick, .ref zgTask, .ref zgTold, .ref zgUntold, .ref zgRan, .int 0, .int 0, .ref zboxAll, .ref zboxRows, .ref zisBoxed])), (zall, .inl (ca 1, 340, .inl fa)), (zboxAll, .inl (ca 1, 1020, .inl fi0)), (zisBoxed, .inl (ca 3, 3, .inl (upd (fun _ => 0) 0 1)))] H := hP
          have hD : va_D A [(h0, .inr (11, [.ref ztape, .ref ztext, .int 0, .int 0, .int 0, .int (-1), .int 0, .int 0, .int 0, .int 0, .long 0, .ref zcores, .ref zlocks, .ref zbells, .ref ztasks, .ref zops, .ref zopSort, .ref zopNumber, .ref zkind, .ref zevery, .ref zbudget, .ref zshareTold, .ref zfirstOp, .ref zopMany, .ref zisCores, .ref zisLocks, .ref zisBells, .ref ztName, .int 0, .int 0, .ref zall, .ref zrows, .ref zpicked, .ref zpileTask, .ref zpileLock, .int 0, .ref zwas, .ref zbehind, .ref zriskRow, .ref zriskBest, .int 0, .ref zcTick, .ref zcProcessor, .ref zcTask, .int 0, .ref zgTick, .ref zgTask, .ref zgTold, .ref zgUntold, .ref zgRan, .int 0, .int 0, .ref zboxAll, .ref zboxRows, .ref zisBoxed])), (zall, .inl (ca 1, 340, .inl fa)), (zboxAll, .inl (ca 1, 1020, .inl fi0)), (zisBoxed, .inl (ca 3, 3, .inl (upd (fun _ => 0) 0 1)))] := hD
          refine lv_aload_n hx hb dX11_image_91 rfl (lv_at hl 1 rfl) ?_
          refine va_get (D := D) (ci := 11) (v := .ref zall) (C := RX11) (T := TX11) (N := 55) hx hb hts iw_X11_image_11 hown hC.1 hP 0 rfl rfl 30 (by decide +kernel) (hts (.fieldLink RX11 74 "FairWheelModel" "all" "[I") (by decide +kernel)) (fun _ h9 => h9) rfl dX11_image_92 ?_
          refine lv_sipush (v := 330) hx hb dX11_image_95 (by decide +kernel) ?_
          refine ka_iald hx hb hC.1 hP 1 1 rfl rfl 330 rfl (by decide +kernel) (by decide +kernel) dX11_image_98 ?_
          refine nt_i 0 ha ?_
          exact W.iret (v := 0) hx hb hr (fun t ht hW => ⟨⟨0, (), rfl, (by unfold sp_k_X11_image; rw [if_neg c_4, if_neg c_6]), by rw [ht]; exact hP.sub [] rfl, hDA (hD.sub [] (by decide +kernel) rfl)⟩, hS.F ht⟩) hS.2.2 dX11_image_99
        · have hli : i < 340 := Nat.lt_of_not_le (fun h => c_10 (nI_le (a := 340) h (by omega)))
          refine lv_aload_n hx hb dX11_image_20 rfl (lv_at hl 1 rfl) ?_
          refine va_get (D := D) (ci := 11) (v := .ref zboxAll) (C := RX11) (T := TX11) (N := 55) hx hb hts iw_X11_image_11 hown hC.1 hP 0 rfl rfl 52 (by decide +kernel) (hts (.fieldLink RX11 125 "FairWheelModel" "boxAll" "[I") (by decide +kernel)) (fun _ h9 => h9) rfl dX11_image_21 ?_
          refine lv_sipush (v := 340) hx hb dX11_image_24 (by decide +kernel) ?_
          refine lv_iload_n hx hb dX11_image_27 rfl (lv_at hl 2 rfl) ?_
          refine lv_imul hx hb dX11_image_28 ?_
          refine nt_i 0 (by decide +kernel) ?_
          refine lv_iload_n hx hb dX11_image_29 rfl (lv_at hl 0 rfl) ?_
          refine lv_iadd hx hb dX11_image_30 ?_
          refine nt_i (nI i) (Int32.zero_add _) ?_
          refine lv_aload_n hx hb dX11_image_31 rfl (lv_at hl 1 rfl) ?_
          refine va_get (D := D) (ci := 11) (v := .ref zall) (C := RX11) (T := TX11) (N := 55) hx hb hts iw_X11_image_11 hown hC.1 hP 0 rfl rfl 30 (by decide +kernel) (hts (.fieldLink RX11 74 "FairWheelModel" "all" "[I") (by decide +kernel)) (fun _ h9 => h9) rfl dX11_image_32 ?_
          refine lv_iload_n hx hb dX11_image_35 rfl (lv_at hl 0 rfl) ?_
          refine ka_iald hx hb hC.1 hP 1 1 rfl rfl i rfl (by omega) (by decide +kernel) dX11_image_36 ?_
          refine ka_iast hx hb hC.1 hP hD hS 2 1 rfl rfl i rfl (by omega) (by decide +kernel) dX11_image_37 (fun H locs hP hD hS => ?_)
          have hP : va_P D vwCl [(h0, .inr (11, [.ref ztape, .ref ztext, .int 0, .int 0, .int 0, .int (-1), .int 0, .int 0, .int 0, .int 0, .long 0, .ref zcores, .ref zlocks, .ref zbells, .ref ztasks, .ref zops, .ref zopSort, .ref zopNumber, .ref zkind, .ref zevery, .ref zbudget, .ref zshareTold, .ref zfirstOp, .ref zopMany, .ref zisCores, .ref zisLocks, .ref zisBells, .ref ztName, .int 0, .int 0, .ref zall, .ref zrows, .ref zpicked, .ref zpileTask, .ref zpileLock, .int 0, .ref zwas, .ref zbehind, .ref zriskRow, .ref zriskBest, .int 0, .ref zcTick, .ref zcProcessor, .ref zcTask, .int 0, .ref zgTick, .ref zgTask, .ref zgTold, .ref zgUntold, .ref zgRan, .int 0, .int 0, .ref zboxAll, .ref zboxRows, .ref zisBoxed])), (zall, .inl (ca 1, 340, .inl fa)), (zboxAll, .inl (ca 1, 1020, .inl (upd fi0 i (fa i)))), (zisBoxed, .inl (ca 3, 3, .inl (fun _ => 0)))] H := hP
          have hD : va_D A [(h0, .inr (11, [.ref ztape, .ref ztext, .int 0, .int 0, .int 0, .int (-1), .int 0, .int 0, .int 0, .int 0, .long 0, .ref zcores, .ref zlocks, .ref zbells, .ref ztasks, .ref zops, .ref zopSort, .ref zopNumber, .ref zkind, .ref zevery, .ref zbudget, .ref zshareTold, .ref zfirstOp, .ref zopMany, .ref zisCores, .ref zisLocks, .ref zisBells, .ref ztName, .int 0, .int 0, .ref zall, .ref zrows, .ref zpicked, .ref zpileTask, .ref zpileLock, .int 0, .ref zwas, .ref zbehind, .ref zriskRow, .ref zriskBest, .int 0, .ref zcTick, .ref zcProcessor, .ref zcTask, .int 0, .ref zgTick, .ref zgTask, .ref zgTold, .ref zgUntold, .ref zgRan, .int 0, .int 0, .ref zboxAll, .ref zboxRows, .ref zisBoxed])), (zall, .inl (ca 1, 340, .inl fa)), (zboxAll, .inl (ca 1, 1020, .inl (upd fi0 i (fa i)))), (zisBoxed, .inl (ca 3, 3, .inl (fun _ => 0)))] := hD
          refine lv_iinc (v := nI (i + 1)) (lv' := [(2, .int (nI (i + 1))), (0, .ref h0), (1, .int 0)]) hx hb dX11_image_38 hl (k := 0) rfl (nI_1 _) (by decide +kernel) rfl (fun ls hl => ?_)
          refine lv_goto (tgt := 13) hx hb dX11_image_41 (by decide +kernel) ?_
          exact ih_9 _ _ _ ⟨(i + 1), (upd fi0 i (fa i)), (by omega), (by omega), lv_sub hl [0, 1, 2] rfl, hP, hD, hS⟩
      · refine lv_iconst (v := 0) hx hb dX11_image_11 (by decide +kernel) ?_
        refine lv_istore_n (lv' := [(2, .int 0), (0, .ref h0), (1, .int 1)]) hx hb dX11_image_12 rfl hl (by decide +kernel) rfl (fun ls hl => ?_)
        refine lp_ind (I := fun (n : Nat) H locs ls => ∃ (i : Nat) (fi0 : Nat → Int32), i ≤ 340 ∧ i + n = 341 ∧ lv_has ls 3 [(2, .int (nI i)), (0, .ref h0), (1, .int 1)] ∧ va_P D vwCl [(h0, .inr (11, [.ref ztape, .ref ztext, .int 0, .int 0, .int 0, .int (-1), .int 0, .int 0, .int 0, .int 0, .long 0, .ref zcores, .ref zlocks, .ref zbells, .ref ztasks, .ref zops, .ref zopSort, .ref zopNumber, .ref zkind, .ref zevery, .ref zbudget, .ref zshareTold, .ref zfirstOp, .ref zopMany, .ref zisCores, .ref zisLocks, .ref zisBells, .ref ztName, .int 0, .int 0, .ref zall, .ref zrows, .ref zpicked, .ref zpileTask, .ref zpileLock, .int 0, .ref zwas, .ref zbehind, .ref zriskRow, .ref zriskBest, .int 0, .ref zcTick, .ref zcProcessor, .ref zcTask, .int 0, .ref zgTick, .ref zgTask, .ref zgTold, .ref zgUntold, .ref zgRan, .int 0, .int 0, .ref zboxAll, .ref zboxRows, .ref zisBoxed])), (zall, .inl (ca 1, 340, .inl fa)), (zboxAll, .inl (ca 1, 1020, .inl fi0)), (zisBoxed, .inl (ca 3, 3, .inl (fun _ => 0)))] H ∧ va_D A [(h0, .inr (11, [.ref ztape, .ref ztext, .int 0, .int 0, .int 0, .int (-1), .int 0, .int 0, .int 0, .int 0, .long 0, .ref zcores, .ref zlocks, .ref zbells, .ref ztasks, .ref zops, .ref zopSort, .ref zopNumber, .ref zkind, .ref zevery, .ref zbudget, .ref zshareTold, .ref zfirstOp, .ref zopMany, .ref zisCores, .ref zisLocks, .ref zisBells, .ref ztName, .int 0, .int 0, .ref zall, .ref zrows, .ref zpicked, .ref zpileTask, .ref zpileLock, .int 0, .ref zwas, .ref zbehind, .ref zriskRow, .ref zriskBest, .int 0, .ref zcTick, .ref zcProcessor, .ref zcTask, .int 0, .ref zgTick, .ref zgTask, .ref zgTold, .ref zgUntold, .ref zgRan, .int 0, .int 0, .ref zboxAll, .ref zboxRows, .ref zisBoxed])), (zall, .inl (ca 1, 340, .inl fa)), (zboxAll, .inl (ca 1, 1020, .inl fi0)), (zisBoxed, .inl (ca 3, 3, .inl (fun _ => 0)))] ∧ va_S A s.heap H locs) (Wf := fun H locs ls => W p l e _ s m _ below meth c H locs _ _ _ (F0 m 13 ls [])) (341) ⟨0, fb, (by decide), (by decide), hl, hP, hD, hS⟩ ?_ ?_
        · intro H locs ls hI
          obtain ⟨i, fi0, hii, hni, -⟩ := hI
          omega
        intro n ih_12 H locs ls hI
        obtain ⟨i, fi0, hii, hni, hl, hP, hD, hS⟩ := hI
        refine lv_iload_n hx hb dX11_image_13 rfl (lv_at hl 0 rfl) ?_
        refine lv_sipush (v := 340) hx hb dX11_image_14 (by decide +kernel) ?_
        refine lv_icmp_ge (tgt := 44) hx hb dX11_image_17 (by decide +kernel) (fun c_13 => ?_) (fun c_13 => ?_)
        · refine lv_iconst (v := 0) hx hb dX11_image_44 (by decide +kernel) ?_
          refine lv_istore_n (lv' := [(2, .int 0), (0, .ref h0), (1, .int 1)]) hx hb dX11_image_45 rfl hl (by decide +kernel) rfl (fun ls hl => ?_)
          refine lv_iload_n hx hb dX11_image_46 rfl (lv_at hl 0 rfl) ?_
          refine lv_iconst (v := 4) hx hb dX11_image_47 (by decide +kernel) ?_
          refine lv_aload_n hx hb dX11_image_48 rfl (lv_at hl 1 rfl) ?_
          refine va_get (D := D) (ci := 11) (v := .ref zall) (C := RX11) (T := TX11) (N := 55) hx hb hts iw_X11_image_11 hown hC.1 hP 0 rfl rfl 30 (by decide +kernel) (hts (.fieldLink RX11 74 "FairWheelModel" "all" "[I") (by decide +kernel)) (fun _ h9 => h9) rfl dX11_image_49 ?_
          refine lv_sipush (v := 330) hx hb dX11_image_52 (by decide +kernel) ?_
          refine ka_iald hx hb hC.1 hP 1 1 rfl rfl 330 rfl (by decide +kernel) (by decide +kernel) dX11_image_55 ?_
          refine nt_i 0 ha ?_
          refine lv_imul hx hb dX11_image_56 ?_
          refine nt_i 0 (by decide +kernel) ?_
          refine lv_icmp_ge (tgt := 84) hx hb dX11_image_57 (by decide +kernel) (fun c_14 => ?_) (fun c_14 => absurd (by decide +kernel) c_14)
          refine lv_aload_n hx hb dX11_image_84 rfl (lv_at hl 1 rfl) ?_
          refine va_get (D := D) (ci := 11) (v := .ref zisBoxed) (C := RX11) (T := TX11) (N := 55) hx hb hts iw_X11_image_11 hown hC.1 hP 0 rfl rfl 54 (by decide +kernel) (hts (.fieldLink RX11 131 "FairWheelModel" "isBoxed" "[Z") (by decide +kernel)) (fun _ h9 => h9) rfl dX11_image_85 ?_
          refine lv_iload_n hx hb dX11_image_88 rfl (lv_at hl 2 rfl) ?_
          refine lv_iconst (v := 1) hx hb dX11_image_89 (by decide +kernel) ?_
          refine ka_zast hx hb hC.1 hP hD hS 3 3 rfl rfl 1 rfl (by decide +kernel) (by decide +kernel) dX11_image_90 (fun H locs hP hD hS => ?_)
          have hP : va_P D vwCl [(h0, .inr (11, [.ref ztape, .ref ztext, .int 0, .int 0, .int 0, .int (-1), .int 0, .int 0, .int 0, .int 0, .long 0, .ref zcores, .ref zlocks, .ref zbells, .ref ztasks, .ref zops, .ref zopSort, .ref zopNumber, .ref zkind, .ref zevery, .ref zbudget, .ref zshareTold, .ref zfirstOp, .ref zopMany, .ref zisCores, .ref zisLocks, .ref zisBells, .ref ztName, .int 0, .int 0, .ref zall, .ref zrows, .ref zpicked, .ref zpileTask, .ref zpileLock, .int 0, .ref zwas, .ref zbehind, .ref zriskRow, .ref zriskBest, .int 0, .ref zcTick, .ref zcProcessor, .ref zcTask, .int 0, .ref zgTick, .ref zgTask, .ref zgTold, .ref zgUntold, .ref zgRan, .int 0, .int 0, .ref zboxAll, .ref zboxRows, .ref zisBoxed])), (zall, .inl (ca 1, 340, .inl fa)), (zboxAll, .inl (ca 1, 1020, .inl fi0)), (zisBoxed, .inl (ca 3, 3, .inl (upd (fun _ => 0) 1 1)))] H := hP
          have hD : va_D A [(h0, .inr (11, [.ref ztape, .ref ztext, .int 0, .int 0, .int 0, .int (-1), .int 0, .int 0, .int 0, .int 0, .long 0, .ref zcores, .ref zlocks, .ref zbells, .ref ztasks, .ref zops, .ref zopSort, .ref zopNumber, .ref zkind, .ref zevery, .ref zbudget, .ref zshareTold, .ref zfirstOp, .ref zopMany, .ref zisCores, .ref zisLocks, .ref zisBells, .ref ztName, .int 0, .int 0, .ref zall, .ref zrows, .ref zpicked, .ref zpileTask, .ref zpileLock, .int 0, .ref zwas, .ref zbehind, .ref zriskRow, .ref zriskBest, .int 0, .ref zcTick, .ref zcProcessor, .ref zcTask, .int 0, .ref zgTick, .ref zgTask, .ref zgTold, .ref zgUntold, .ref zgRan, .int 0, .int 0, .ref zboxAll, .ref zboxRows, .ref zisBoxed])), (zall, .inl (ca 1, 340, .inl fa)), (zboxAll, .inl (ca 1, 1020, .inl fi0)), (zisBoxed, .inl (ca 3, 3, .inl (upd (fun _ => 0) 1 1)))] := hD
          refine lv_aload_n hx hb dX11_image_91 rfl (lv_at hl 1 rfl) ?_
          refine va_get (D := D) (ci := 11) (v := .ref zall) (C := RX11) (T := TX11) (N := 55) hx hb hts iw_X11_image_11 hown hC.1 hP 0 rfl rfl 30 (by decide +kernel) (hts (.fieldLink RX11 74 "FairWheelModel" "all" "[I") (by decide +kernel)) (fun _ h9 => h9) rfl dX11_image_92 ?_
          refine lv_sipush (v := 330) hx hb dX11_image_95 (by decide +kernel) ?_
          refine ka_iald hx hb hC.1 hP 1 1 rfl rfl 330 rfl (by decide +kernel) (by decide +kernel) dX11_image_98 ?_
          refine nt_i 0 ha ?_
          exact W.iret (v := 0) hx hb hr (fun t ht hW => ⟨⟨0, (), rfl, (by unfold sp_k_X11_image; rw [if_neg c_4, if_neg c_6]), by rw [ht]; exact hP.sub [] rfl, hDA (hD.sub [] (by decide +kernel) rfl)⟩, hS.F ht⟩) hS.2.2 dX11_image_99
        · have hli : i < 340 := Nat.lt_of_not_le (fun h => c_13 (nI_le (a := 340) h (by omega)))
          refine lv_aload_n hx hb dX11_image_20 rfl (lv_at hl 1 rfl) ?_
          refine va_get (D := D) (ci := 11) (v := .ref zboxAll) (C := RX11) (T := TX11) (N := 55) hx hb hts iw_X11_image_11 hown hC.1 hP 0 rfl rfl 52 (by decide +kernel) (hts (.fieldLink RX11 125 "FairWheelModel" "boxAll" "[I") (by decide +kernel)) (fun _ h9 => h9) rfl dX11_image_21 ?_
          refine lv_sipush (v := 340) hx hb dX11_image_24 (by decide +kernel) ?_
          refine lv_iload_n hx hb dX11_image_27 rfl (lv_at hl 2 rfl) ?_
          refine lv_imul hx hb dX11_image_28 ?_
          refine nt_i 340 (by decide +kernel) ?_
          refine lv_iload_n hx hb dX11_image_29 rfl (lv_at hl 0 rfl) ?_
          refine lv_iadd hx hb dX11_image_30 ?_
          refine nt_i (nI (340 + i)) (nI_add 340 i) ?_
          refine lv_aload_n hx hb dX11_image_31 rfl (lv_at hl 1 rfl) ?_
          refine va_get (D := D) (ci := 11) (v := .ref zall) (C := RX11) (T := TX11) (N := 55) hx hb hts iw_X11_image_11 hown hC.1 hP 0 rfl rfl 30 (by decide +kernel) (hts (.fieldLink RX11 74 "FairWheelModel" "all" "[I") (by decide +kernel)) (fun _ h9 => h9) rfl dX11_image_32 ?_
          refine lv_iload_n hx hb dX11_image_35 rfl (lv_at hl 0 rfl) ?_
          refine ka_iald hx hb hC.1 hP 1 1 rfl rfl i rfl (by omega) (by decide +kernel) dX11_image_36 ?_
          refine ka_iast hx hb hC.1 hP hD hS 2 1 rfl rfl (340 + i) rfl (by omega) (by decide +kernel) dX11_image_37 (fun H locs hP hD hS => ?_)
          have hP : va_P D vwCl [(h0, .inr (11, [.ref ztape, .ref ztext, .int 0, .int 0, .int 0, .int (-1), .int 0, .int 0, .int 0, .int 0, .long 0, .ref zcores, .ref zlocks, .ref zbells, .ref ztasks, .ref zops, .ref zopSort, .ref zopNumber, .ref zkind, .ref zevery, .ref zbudget, .ref zshareTold, .ref zfirstOp, .ref zopMany, .ref zisCores, .ref zisLocks, .ref zisBells, .ref ztName, .int 0, .int 0, .ref zall, .ref zrows, .ref zpicked, .ref zpileTask, .ref zpileLock, .int 0, .ref zwas, .ref zbehind, .ref zriskRow, .ref zriskBest, .int 0, .ref zcTick, .ref zcProcessor, .ref zcTask, .int 0, .ref zgTick, .ref zgTask, .ref zgTold, .ref zgUntold, .ref zgRan, .int 0, .int 0, .ref zboxAll, .ref zboxRows, .ref zisBoxed])), (zall, .inl (ca 1, 340, .inl fa)), (zboxAll, .inl (ca 1, 1020, .inl (upd fi0 (340 + i) (fa i)))), (zisBoxed, .inl (ca 3, 3, .inl (fun _ => 0)))] H := hP
          have hD : va_D A [(h0, .inr (11, [.ref ztape, .ref ztext, .int 0, .int 0, .int 0, .int (-1), .int 0, .int 0, .int 0, .int 0, .long 0, .ref zcores, .ref zlocks, .ref zbells, .ref ztasks, .ref zops, .ref zopSort, .ref zopNumber, .ref zkind, .ref zevery, .ref zbudget, .ref zshareTold, .ref zfirstOp, .ref zopMany, .ref zisCores, .ref zisLocks, .ref zisBells, .ref ztName, .int 0, .int 0, .ref zall, .ref zrows, .ref zpicked, .ref zpileTask, .ref zpileLock, .int 0, .ref zwas, .ref zbehind, .ref zriskRow, .ref zriskBest, .int 0, .ref zcTick, .ref zcProcessor, .ref zcTask, .int 0, .ref zgTick, .ref zgTask, .ref zgTold, .ref zgUntold, .ref zgRan, .int 0, .int 0, .ref zboxAll, .ref zboxRows, .ref zisBoxed])), (zall, .inl (ca 1, 340, .inl fa)), (zboxAll, .inl (ca 1, 1020, .inl (upd fi0 (340 + i) (fa i)))), (zisBoxed, .inl (ca 3, 3, .inl (fun _ => 0)))] := hD
          refine lv_iinc (v := nI (i + 1)) (lv' := [(2, .int (nI (i + 1))), (0, .ref h0), (1, .int 1)]) hx hb dX11_image_38 hl (k := 0) rfl (nI_1 _) (by decide +kernel) rfl (fun ls hl => ?_)
          refine lv_goto (tgt := 13) hx hb dX11_image_41 (by decide +kernel) ?_
          exact ih_12 _ _ _ ⟨(i + 1), (upd fi0 (340 + i) (fa i)), (by omega), (by omega), lv_sub hl [0, 1, 2] rfl, hP, hD, hS⟩
      · refine lv_iconst (v := 0) hx hb dX11_image_11 (by decide +kernel) ?_
        refine lv_istore_n (lv' := [(2, .int 0), (0, .ref h0), (1, .int 2)]) hx hb dX11_image_12 rfl hl (by decide +kernel) rfl (fun ls hl => ?_)
        refine lp_ind (I := fun (n : Nat) H locs ls => ∃ (i : Nat) (fi0 : Nat → Int32), i ≤ 340 ∧ i + n = 341 ∧ lv_has ls 3 [(2, .int (nI i)), (0, .ref h0), (1, .int 2)] ∧ va_P D vwCl [(h0, .inr (11, [.ref ztape, .ref ztext, .int 0, .int 0, .int 0, .int (-1), .int 0, .int 0, .int 0, .int 0, .long 0, .ref zcores, .ref zlocks, .ref zbells, .ref ztasks, .ref zops, .ref zopSort, .ref zopNumber, .ref zkind, .ref zevery, .ref zbudget, .ref zshareTold, .ref zfirstOp, .ref zopMany, .ref zisCores, .ref zisLocks, .ref zisBells, .ref ztName, .int 0, .int 0, .ref zall, .ref zrows, .ref zpicked, .ref zpileTask, .ref zpileLock, .int 0, .ref zwas, .ref zbehind, .ref zriskRow, .ref zriskBest, .int 0, .ref zcTick, .ref zcProcessor, .ref zcTask, .int 0, .ref zgTick, .ref zgTask, .ref zgTold, .ref zgUntold, .ref zgRan, .int 0, .int 0, .ref zboxAll, .ref zboxRows, .ref zisBoxed])), (zall, .inl (ca 1, 340, .inl fa)), (zboxAll, .inl (ca 1, 1020, .inl fi0)), (zisBoxed, .inl (ca 3, 3, .inl (fun _ => 0)))] H ∧ va_D A [(h0, .inr (11, [.ref ztape, .ref ztext, .int 0, .int 0, .int 0, .int (-1), .int 0, .int 0, .int 0, .int 0, .long 0, .ref zcores, .ref zlocks, .ref zbells, .ref ztasks, .ref zops, .ref zopSort, .ref zopNumber, .ref zkind, .ref zevery, .ref zbudget, .ref zshareTold, .ref zfirstOp, .ref zopMany, .ref zisCores, .ref zisLocks, .ref zisBells, .ref ztName, .int 0, .int 0, .ref zall, .ref zrows, .ref zpicked, .ref zpileTask, .ref zpileLock, .int 0, .ref zwas, .ref zbehind, .ref zriskRow, .ref zriskBest, .int 0, .ref zcTick, .ref zcProcessor, .ref zcTask, .int 0, .ref zgTick, .ref zgTask, .ref zgTold, .ref zgUntold, .ref zgRan, .int 0, .int 0, .ref zboxAll, .ref zboxRows, .ref zisBoxed])), (zall, .inl (ca 1, 340, .inl fa)), (zboxAll, .inl (ca 1, 1020, .inl fi0)), (zisBoxed, .inl (ca 3, 3, .inl (fun _ => 0)))] ∧ va_S A s.heap H locs) (Wf := fun H locs ls => W p l e _ s m _ below meth c H locs _ _ _ (F0 m 13 ls [])) (341) ⟨0, fb, (by decide), (by decide), hl, hP, hD, hS⟩ ?_ ?_
        · intro H locs ls hI
          obtain ⟨i, fi0, hii, hni, -⟩ := hI
          omega
        intro n ih_15 H locs ls hI
        obtain ⟨i, fi0, hii, hni, hl, hP, hD, hS⟩ := hI
        refine lv_iload_n hx hb dX11_image_13 rfl (lv_at hl 0 rfl) ?_
        refine lv_sipush (v := 340) hx hb dX11_image_14 (by decide +kernel) ?_
        refine lv_icmp_ge (tgt := 44) hx hb dX11_image_17 (by decide +kernel) (fun c_16 => ?_) (fun c_16 => ?_)
        · refine lv_iconst (v := 0) hx hb dX11_image_44 (by decide +kernel) ?_
          refine lv_istore_n (lv' := [(2, .int 0), (0, .ref h0), (1, .int 2)]) hx hb dX11_image_45 rfl hl (by decide +kernel) rfl (fun ls hl => ?_)
          refine lv_iload_n hx hb dX11_image_46 rfl (lv_at hl 0 rfl) ?_
          refine lv_iconst (v := 4) hx hb dX11_image_47 (by decide +kernel) ?_
          refine lv_aload_n hx hb dX11_image_48 rfl (lv_at hl 1 rfl) ?_
          refine va_get (D := D) (ci := 11) (v := .ref zall) (C := RX11) (T := TX11) (N := 55) hx hb hts iw_X11_image_11 hown hC.1 hP 0 rfl rfl 30 (by decide +kernel) (hts (.fieldLink RX11 74 "FairWheelModel" "all" "[I") (by decide +kernel)) (fun _ h9 => h9) rfl dX11_image_49 ?_
          refine lv_sipush (v := 330) hx hb dX11_image_52 (by decide +kernel) ?_
          refine ka_iald hx hb hC.1 hP 1 1 rfl rfl 330 rfl (by decide +kernel) (by decide +kernel) dX11_image_55 ?_
          refine nt_i 0 ha ?_
          refine lv_imul hx hb dX11_image_56 ?_
          refine nt_i 0 (by decide +kernel) ?_
          refine lv_icmp_ge (tgt := 84) hx hb dX11_image_57 (by decide +kernel) (fun c_17 => ?_) (fun c_17 => absurd (by decide +kernel) c_17)
          refine lv_aload_n hx hb dX11_image_84 rfl (lv_at hl 1 rfl) ?_
          refine va_get (D := D) (ci := 11) (v := .ref zisBoxed) (C := RX11) (T := TX11) (N := 55) hx hb hts iw_X11_image_11 hown hC.1 hP 0 rfl rfl 54 (by decide +kernel) (hts (.fieldLink RX11 131 "FairWheelModel" "isBoxed" "[Z") (by decide +kernel)) (fun _ h9 => h9) rfl dX11_image_85 ?_
          refine lv_iload_n hx hb dX11_image_88 rfl (lv_at hl 2 rfl) ?_
          refine lv_iconst (v := 1) hx hb dX11_image_89 (by decide +kernel) ?_
          refine ka_zast hx hb hC.1 hP hD hS 3 3 rfl rfl 2 rfl (by decide +kernel) (by decide +kernel) dX11_image_90 (fun H locs hP hD hS => ?_)
          have hP : va_P D vwCl [(h0, .inr (11, [.ref ztape, .ref ztext, .int 0, .int 0, .int 0, .int (-1), .int 0, .int 0, .int 0, .int 0, .long 0, .ref zcores, .ref zlocks, .ref zbells, .ref ztasks, .ref zops, .ref zopSort, .ref zopNumber, .ref zkind, .ref zevery, .ref zbudget, .ref zshareTold, .ref zfirstOp, .ref zopMany, .ref zisCores, .ref zisLocks, .ref zisBells, .ref ztName, .int 0, .int 0, .ref zall, .ref zrows, .ref zpicked, .ref zpileTask, .ref zpileLock, .int 0, .ref zwas, .ref zbehind, .ref zriskRow, .ref zriskBest, .int 0, .ref zcTick, .ref zcProcessor, .ref zcTask, .int 0, .ref zgTick, .ref zgTask, .ref zgTold, .ref zgUntold, .ref zgRan, .int 0, .int 0, .ref zboxAll, .ref zboxRows, .ref zisBoxed])), (zall, .inl (ca 1, 340, .inl fa)), (zboxAll, .inl (ca 1, 1020, .inl fi0)), (zisBoxed, .inl (ca 3, 3, .inl (upd (fun _ => 0) 2 1)))] H := hP
          have hD : va_D A [(h0, .inr (11, [.ref ztape, .ref ztext, .int 0, .int 0, .int 0, .int (-1), .int 0, .int 0, .int 0, .int 0, .long 0, .ref zcores, .ref zlocks, .ref zbells, .ref ztasks, .ref zops, .ref zopSort, .ref zopNumber, .ref zkind, .ref zevery, .ref zbudget, .ref zshareTold, .ref zfirstOp, .ref zopMany, .ref zisCores, .ref zisLocks, .ref zisBells, .ref ztName, .int 0, .int 0, .ref zall, .ref zrows, .ref zpicked, .ref zpileTask, .ref zpileLock, .int 0, .ref zwas, .ref zbehind, .ref zriskRow, .ref zriskBest, .int 0, .ref zcTick, .ref zcProcessor, .ref zcTask, .int 0, .ref zgTick, .ref zgTask, .ref zgTold, .ref zgUntold, .ref zgRan, .int 0, .int 0, .ref zboxAll, .ref zboxRows, .ref zisBoxed])), (zall, .inl (ca 1, 340, .inl fa)), (zboxAll, .inl (ca 1, 1020, .inl fi0)), (zisBoxed, .inl (ca 3, 3, .inl (upd (fun _ => 0) 2 1)))] := hD
          refine lv_aload_n hx hb dX11_image_91 rfl (lv_at hl 1 rfl) ?_
          refine va_get (D := D) (ci := 11) (v := .ref zall) (C := RX11) (T := TX11) (N := 55) hx hb hts iw_X11_image_11 hown hC.1 hP 0 rfl rfl 30 (by decide +kernel) (hts (.fieldLink RX11 74 "FairWheelModel" "all" "[I") (by decide +kernel)) (fun _ h9 => h9) rfl dX11_image_92 ?_
          refine lv_sipush (v := 330) hx hb dX11_image_95 (by decide +kernel) ?_
          refine ka_iald hx hb hC.1 hP 1 1 rfl rfl 330 rfl (by decide +kernel) (by decide +kernel) dX11_image_98 ?_
          refine nt_i 0 ha ?_
          exact W.iret (v := 0) hx hb hr (fun t ht hW => ⟨⟨0, (), rfl, (by unfold sp_k_X11_image; rw [if_neg c_4, if_neg c_6]), by rw [ht]; exact hP.sub [] rfl, hDA (hD.sub [] (by decide +kernel) rfl)⟩, hS.F ht⟩) hS.2.2 dX11_image_99
        · have hli : i < 340 := Nat.lt_of_not_le (fun h => c_16 (nI_le (a := 340) h (by omega)))
          refine lv_aload_n hx hb dX11_image_20 rfl (lv_at hl 1 rfl) ?_
          refine va_get (D := D) (ci := 11) (v := .ref zboxAll) (C := RX11) (T := TX11) (N := 55) hx hb hts iw_X11_image_11 hown hC.1 hP 0 rfl rfl 52 (by decide +kernel) (hts (.fieldLink RX11 125 "FairWheelModel" "boxAll" "[I") (by decide +kernel)) (fun _ h9 => h9) rfl dX11_image_21 ?_
          refine lv_sipush (v := 340) hx hb dX11_image_24 (by decide +kernel) ?_
          refine lv_iload_n hx hb dX11_image_27 rfl (lv_at hl 2 rfl) ?_
          refine lv_imul hx hb dX11_image_28 ?_
          refine nt_i 680 (by decide +kernel) ?_
          refine lv_iload_n hx hb dX11_image_29 rfl (lv_at hl 0 rfl) ?_
          refine lv_iadd hx hb dX11_image_30 ?_
          refine nt_i (nI (680 + i)) (nI_add 680 i) ?_
          refine lv_aload_n hx hb dX11_image_31 rfl (lv_at hl 1 rfl) ?_
          refine va_get (D := D) (ci := 11) (v := .ref zall) (C := RX11) (T := TX11) (N := 55) hx hb hts iw_X11_image_11 hown hC.1 hP 0 rfl rfl 30 (by decide +kernel) (hts (.fieldLink RX11 74 "FairWheelModel" "all" "[I") (by decide +kernel)) (fun _ h9 => h9) rfl dX11_image_32 ?_
          refine lv_iload_n hx hb dX11_image_35 rfl (lv_at hl 0 rfl) ?_
          refine ka_iald hx hb hC.1 hP 1 1 rfl rfl i rfl (by omega) (by decide +kernel) dX11_image_36 ?_
          refine ka_iast hx hb hC.1 hP hD hS 2 1 rfl rfl (680 + i) rfl (by omega) (by decide +kernel) dX11_image_37 (fun H locs hP hD hS => ?_)
          have hP : va_P D vwCl [(h0, .inr (11, [.ref ztape, .ref ztext, .int 0, .int 0, .int 0, .int (-1), .int 0, .int 0, .int 0, .int 0, .long 0, .ref zcores, .ref zlocks, .ref zbells, .ref ztasks, .ref zops, .ref zopSort, .ref zopNumber, .ref zkind, .ref zevery, .ref zbudget, .ref zshareTold, .ref zfirstOp, .ref zopMany, .ref zisCores, .ref zisLocks, .ref zisBells, .ref ztName, .int 0, .int 0, .ref zall, .ref zrows, .ref zpicked, .ref zpileTask, .ref zpileLock, .int 0, .ref zwas, .ref zbehind, .ref zriskRow, .ref zriskBest, .int 0, .ref zcTick, .ref zcProcessor, .ref zcTask, .int 0, .ref zgTick, .ref zgTask, .ref zgTold, .ref zgUntold, .ref zgRan, .int 0, .int 0, .ref zboxAll, .ref zboxRows, .ref zisBoxed])), (zall, .inl (ca 1, 340, .inl fa)), (zboxAll, .inl (ca 1, 1020, .inl (upd fi0 (680 + i) (fa i)))), (zisBoxed, .inl (ca 3, 3, .inl (fun _ => 0)))] H := hP
          have hD : va_D A [(h0, .inr (11, [.ref ztape, .ref ztext, .int 0, .int 0, .int 0, .int (-1), .int 0, .int 0, .int 0, .int 0, .long 0, .ref zcores, .ref zlocks, .ref zbells, .ref ztasks, .ref zops, .ref zopSort, .ref zopNumber, .ref zkind, .ref zevery, .ref zbudget, .ref zshareTold, .ref zfirstOp, .ref zopMany, .ref zisCores, .ref zisLocks, .ref zisBells, .ref ztName, .int 0, .int 0, .ref zall, .ref zrows, .ref zpicked, .ref zpileTask, .ref zpileLock, .int 0, .ref zwas, .ref zbehind, .ref zriskRow, .ref zriskBest, .int 0, .ref zcTick, .ref zcProcessor, .ref zcTask, .int 0, .ref zgTick, .ref zgTask, .ref zgTold, .ref zgUntold, .ref zgRan, .int 0, .int 0, .ref zboxAll, .ref zboxRows, .ref zisBoxed])), (zall, .inl (ca 1, 340, .inl fa)), (zboxAll, .inl (ca 1, 1020, .inl (upd fi0 (680 + i) (fa i)))), (zisBoxed, .inl (ca 3, 3, .inl (fun _ => 0)))] := hD
          refine lv_iinc (v := nI (i + 1)) (lv' := [(2, .int (nI (i + 1))), (0, .ref h0), (1, .int 2)]) hx hb dX11_image_38 hl (k := 0) rfl (nI_1 _) (by decide +kernel) rfl (fun ls hl => ?_)
          refine lv_goto (tgt := 13) hx hb dX11_image_41 (by decide +kernel) ?_
          exact ih_15 _ _ _ ⟨(i + 1), (upd fi0 (680 + i) (fa i)), (by omega), (by omega), lv_sub hl [0, 1, 2] rfl, hP, hD, hS⟩
theorem iw_X11_back_11 : ∀ w ∈ u_ws RX11 TX11 55, w ∈ wsX11_back := by decide +kernel
set_option maxHeartbeats 4000000 in
set_option maxRecDepth 100000 in
theorem k_X11_back (l : Launch) (D : va_G) (ca : Nat → ClassId) (sz : Nat) (h0 : Nat) (ztape : Nat) (ztext : Nat) (zcores : Nat) (zlocks : Nat) (zbells : Nat) (ztasks : Nat) (zops : Nat) (zopSort : Nat) (zopNumber : Nat) (zkind : Nat) (zevery : Nat) (zbudget : Nat) (zshareTold : Nat) (zfirstOp : Nat) (zopMany : Nat) (zisCores : Nat) (zisLocks : Nat) (zisBells : Nat) (ztName : Nat) (zall : Nat) (zrows : Nat) (zpicked : Nat) (zpileTask : Nat) (zpileLock : Nat) (zwas : Nat) (zbehind : Nat) (zriskRow : Nat) (zriskBest : Nat) (zcTick : Nat) (zcProcessor : Nat) (zcTask : Nat) (zgTick : Nat) (zgTask : Nat) (zgTold : Nat) (zgUntold : Nat) (zgRan : Nat) (zboxAll : Nat) (zboxRows : Nat) (zisBoxed : Nat) (x1 : Int32) : Met l yX11_back wsX11_back ({ frames := 1, cells := 0, slots := 0, locals := 22 }) (PC [.ref h0, .int x1] sz D ca [(h0, .inr (11, [.ref ztape, .ref ztext, .int 0, .int 0, .int 0, .int (-1), .int 0, .int 0, .int 0, .int 0, .long 0, .ref zcores, .ref zlocks, .ref zbells, .ref ztasks, .ref zops, .ref zopSort, .ref zopNumber, .ref zkind, .ref zevery, .ref zbudget, .ref zshareTold, .ref zfirstOp, .ref zopMany, .ref zisCores, .ref zisLocks, .ref zisBells, .ref ztName, .int 0, .int 0, .ref zall, .ref zrows, .ref zpicked, .ref zpileTask, .ref zpileLock, .int 0, .ref zwas, .ref zbehind, .ref zriskRow, .ref zriskBest, .int 0, .ref zcTick, .ref zcProcessor, .ref zcTask, .int 0, .ref zgTick, .ref zgTask, .ref zgTold, .ref zgUntold, .ref zgRan, .int 0, .int 0, .ref zboxAll, .ref zboxRows, .ref zisBoxed])), (zisBoxed, .inl (ca 3, 3, .inl (fun _ => 0)))]) (QI (fun (r : Int32) (u : Unit) => r = (-1)) (fun (_ : Unit) => []) [(h0, .inr (11, [.ref ztape, .ref ztext, .int 0, .int 0, .int 0, .int (-1), .int 0, .int 0, .int 0, .int 0, .long 0, .ref zcores, .ref zlocks, .ref zbells, .ref ztasks, .ref zops, .ref zopSort, .ref zopNumber, .ref zkind, .ref zevery, .ref zbudget, .ref zshareTold, .ref zfirstOp, .ref zopMany, .ref zisCores, .ref zisLocks, .ref zisBells, .ref ztName, .int 0, .int 0, .ref zall, .ref zrows, .ref zpicked, .ref zpileTask, .ref zpileLock, .int 0, .ref zwas, .ref zbehind, .ref zriskRow, .ref zriskBest, .int 0, .ref zcTick, .ref zcProcessor, .ref zcTask, .int 0, .ref zgTick, .ref zgTask, .ref zgTold, .ref zgUntold, .ref zgRan, .int 0, .int 0, .ref zboxAll, .ref zboxRows, .ref zisBoxed])), (zisBoxed, .inl (ca 3, 3, .inl (fun _ => 0)))] sz D) 0 0 (va_A [(h0, .inr (11, [.ref ztape, .ref ztext, .int 0, .int 0, .int 0, .int (-1), .int 0, .int 0, .int 0, .int 0, .long 0, .ref zcores, .ref zlocks, .ref zbells, .ref ztasks, .ref zops, .ref zopSort, .ref zopNumber, .ref zkind, .ref zevery, .ref zbudget, .ref zshareTold, .ref zfirstOp, .ref zopMany, .ref zisCores, .ref zisLocks, .ref zisBells, .ref ztName, .int 0, .int 0, .ref zall, .ref zrows, .ref zpicked, .ref zpileTask, .ref zpileLock, .int 0, .ref zwas, .ref zbehind, .ref zriskRow, .ref zriskBest, .int 0, .ref zcTick, .ref zcProcessor, .ref zcTask, .int 0, .ref zgTick, .ref zgTask, .ref zgTold, .ref zgUntold, .ref zgRan, .int 0, .int 0, .ref zboxAll, .ref zboxRows, .ref zisBoxed])), (zisBoxed, .inl (ca 3, 3, .inl (fun _ => 0)))] sz) := by
  refine Met.ofW (cc := cX11_back) (maxL := 3) (ret := (some .int)) (by decide +kernel) rfl ?_
  intro p e s m args below meth c s₁ B hml hv
  obtain ⟨rfl, hsz, hP, hC, hD0⟩ := hv
  have hx := B.exec
  have hb := B.bytes
  have hr := B.returns
  have hts := atoms_spec (ws := wsX11_back) B.pre
  have hown : s.vm.findClass RX11 = some m.cls := findClass_of_methodNamed B.named
  have hlocks := B.notSynchronized
  subst hsz
  have hD := hD0.self (sz := s.heap.size)
  dsimp only [QV, QI, QL, BQ]
  generalize hAe : va_A [(h0, .inr (11, [.ref ztape, .ref ztext, .int 0, .int 0, .int 0, .int (-1), .int 0, .int 0, .int 0, .int 0, .long 0, .ref zcores, .ref zlocks, .ref zbells, .ref ztasks, .ref zops, .ref zopSort, .ref zopNumber, .ref zkind, .ref zevery, .ref zbudget, .ref zshareTold, .ref zfirstOp, .ref zopMany, .ref zisCores, .ref zisLocks, .ref zisBells, .ref ztName, .int 0, .int 0, .ref zall, .ref zrows, .ref zpicked, .ref zpileTask, .ref zpileLock, .int 0, .ref zwas, .ref zbehind, .ref zriskRow, .ref zriskBest, .int 0, .ref zcTick, .ref zcProcessor, .ref zcTask, .int 0, .ref zgTick, .ref zgTask, .ref zgTold, .ref zgUntold, .ref zgRan, .int 0, .int 0, .ref zboxAll, .ref zboxRows, .ref zisBoxed])), (zisBoxed, .inl (ca 3, 3, .inl (fun _ => 0)))] s.heap.size = A at hD ⊢
  have hA : ∀ q : Nat, s.heap.size ≤ q → A q := fun q h => by rw [← hAe]; exact Or.inr h
  have hDA : ∀ {w : va_W}, va_D A w → va_D (va_A [(h0, .inr (11, [.ref ztape, .ref ztext, .int 0, .int 0, .int 0, .int (-1), .int 0, .int 0, .int 0, .int 0, .long 0, .ref zcores, .ref zlocks, .ref zbells, .ref ztasks, .ref zops, .ref zopSort, .ref zopNumber, .ref zkind, .ref zevery, .ref zbudget, .ref zshareTold, .ref zfirstOp, .ref zopMany, .ref zisCores, .ref zisLocks, .ref zisBells, .ref ztName, .int 0, .int 0, .ref zall, .ref zrows, .ref zpicked, .ref zpileTask, .ref zpileLock, .int 0, .ref zwas, .ref zbehind, .ref zriskRow, .ref zriskBest, .int 0, .ref zcTick, .ref zcProcessor, .ref zcTask, .int 0, .ref zgTick, .ref zgTask, .ref zgTold, .ref zgUntold, .ref zgRan, .int 0, .int 0, .ref zboxAll, .ref zboxRows, .ref zisBoxed])), (zisBoxed, .inl (ca 3, 3, .inl (fun _ => 0)))] s.heap.size) w := fun h => by rw [hAe]; exact h
  have hS : va_S A s.heap s.heap [] := va_S.rf
  have hP : va_P D vwCl [(h0, .inr (11, [.ref ztape, .ref ztext, .int 0, .int 0, .int 0, .int (-1), .int 0, .int 0, .int 0, .int 0, .long 0, .ref zcores, .ref zlocks, .ref zbells, .ref ztasks, .ref zops, .ref zopSort, .ref zopNumber, .ref zkind, .ref zevery, .ref zbudget, .ref zshareTold, .ref zfirstOp, .ref zopMany, .ref zisCores, .ref zisLocks, .ref zisBells, .ref ztName, .int 0, .int 0, .ref zall, .ref zrows, .ref zpicked, .ref zpileTask, .ref zpileLock, .int 0, .ref zwas, .ref zbehind, .ref zriskRow, .ref zriskBest, .int 0, .ref zcTick, .ref zcProcessor, .ref zcTask, .int 0, .ref zgTick, .ref zgTask, .ref zgTold, .ref zgUntold, .ref zgRan, .int 0, .int 0, .ref zboxAll, .ref zboxRows, .ref zisBoxed])), (zisBoxed, .inl (ca 3, 3, .inl (fun _ => 0)))] s.heap := hP
  have hl := lv_entry ([.ref h0, .int x1]) (n := 3) (Nat.le_of_ble_eq_true rfl)
  rw [lg_entry_eq]
  generalize (lg_sl ([.ref h0, .int x1]) ++ List.replicate (3 - (lg_sl ([.ref h0, .int x1])).length) Slot.unset).toArray = ls at hl ⊢
  have hl : lv_has ls 3 [(0, .ref h0), (1, .int x1)] := hl
  refine lv_iload_n hx hb dX11_back_0 rfl (lv_at hl 1 rfl) ?_
  refine lv_iconst (v := 0) hx hb dX11_back_1 (by decide +kernel) ?_
  refine lv_iconst (v := 2) hx hb dX11_back_2 (by decide +kernel) ?_
  refine kc_i (wr := [(h0, .inr (11, [.ref ztape, .ref ztext, .int 0, .int 0, .int 0, .int (-1), .int 0, .int 0, .int 0, .int 0, .long 0, .ref zcores, .ref zlocks, .ref zbells, .ref ztasks, .ref zops, .ref zopSort, .ref zopNumber, .ref zkind, .ref zevery, .ref zbudget, .ref zshareTold, .ref zfirstOp, .ref zopMany, .ref zisCores, .ref zisLocks, .ref zisBells, .ref ztName, .int 0, .int 0, .ref zall, .ref zrows, .ref zpicked, .ref zpileTask, .ref zpileLock, .int 0, .ref zwas, .ref zbehind, .ref zriskRow, .ref zriskBest, .int 0, .ref zcTick, .ref zcProcessor, .ref zcTask, .int 0, .ref zgTick, .ref zgTask, .ref zgTold, .ref zgUntold, .ref zgRan, .int 0, .int 0, .ref zboxAll, .ref zboxRows, .ref zisBoxed])), (zisBoxed, .inl (ca 3, 3, .inl (fun _ => 0)))]) (va_runS (As := [.int x1, .int 0, .int 2]) (rest := []) ⟨hx, hb, hml, hown, hts⟩ (k_X11_isIn_0_2 l D ca s.heap.size x1) (va_cwS 3 hts gX11_back_X11_isIn rfl rfl rfl (by decide +kernel) ⟨(Nat.le_of_ble_eq_true rfl), (Nat.le_of_ble_eq_true rfl)⟩) (PC.preS hC hP hD [] rfl (by decide +kernel)) rfl rfl hl.1 rfl (lv_room (Nat.le_of_ble_eq_true rfl)) dX11_back_3 ⟨(Nat.le_of_ble_eq_true rfl), (Nat.le_of_ble_eq_true rfl)⟩) hP hD hS hA [] [0, 1] rfl rfl (by decide +kernel) (by decide +kernel) (fun r_1 u_3 H locs hw_2 hP hD hS => ?_)
  have hP : va_P D vwCl [(h0, .inr (11, [.ref ztape, .ref ztext, .int 0, .int 0, .int 0, .int (-1), .int 0, .int 0, .int 0, .int 0, .long 0, .ref zcores, .ref zlocks, .ref zbells, .ref ztasks, .ref zops, .ref zopSort, .ref zopNumber, .ref zkind, .ref zevery, .ref zbudget, .ref zshareTold, .ref zfirstOp, .ref zopMany, .ref zisCores, .ref zisLocks, .ref zisBells, .ref ztName, .int 0, .int 0, .ref zall, .ref zrows, .ref zpicked, .ref zpileTask, .ref zpileLock, .int 0, .ref zwas, .ref zbehind, .ref zriskRow, .ref zriskBest, .int 0, .ref zcTick, .ref zcProcessor, .ref zcTask, .int 0, .ref zgTick, .ref zgTask, .ref zgTold, .ref zgUntold, .ref zgRan, .int 0, .int 0, .ref zboxAll, .ref zboxRows, .ref zisBoxed])), (zisBoxed, .inl (ca 3, 3, .inl (fun _ => 0)))] H := hP
  have hD : va_D A [(h0, .inr (11, [.ref ztape, .ref ztext, .int 0, .int 0, .int 0, .int (-1), .int 0, .int 0, .int 0, .int 0, .long 0, .ref zcores, .ref zlocks, .ref zbells, .ref ztasks, .ref zops, .ref zopSort, .ref zopNumber, .ref zkind, .ref zevery, .ref zbudget, .ref zshareTold, .ref zfirstOp, .ref zopMany, .ref zisCores, .ref zisLocks, .ref zisBells, .ref ztName, .int 0, .int 0, .ref zall, .ref zrows, .ref zpicked, .ref zpileTask, .ref zpileLock, .int 0, .ref zwas, .ref zbehind, .ref zriskRow, .ref zriskBest, .int 0, .ref zcTick, .ref zcProcessor, .ref zcTask, .int 0, .ref zgTick, .ref zgTask, .ref zgTold, .ref zgUntold, .ref zgRan, .int 0, .int 0, .ref zboxAll, .ref zboxRows, .ref zisBoxed])), (zisBoxed, .inl (ca 3, 3, .inl (fun _ => 0)))] := hD
  rcases Decidable.em (x1 < 0) with c_4 | c_4
  · obtain rfl : r_1 = 0 := hw_2.trans (by unfold sp_k_X11_isIn_0_2; rw [if_pos c_4])
    refine lv_if_eq (tgt := 18) hx hb dX11_back_6 (by decide +kernel) (fun c_5 => ?_) (fun c_5 => absurd (by decide +kernel) c_5)
    refine lv_iconst (v := (-1)) hx hb dX11_back_18 (by decide +kernel) ?_
    exact W.iret (v := (-1)) hx hb hr (fun t ht hW => ⟨⟨(-1), (), rfl, rfl, by rw [ht]; exact hP.sub [] rfl, hDA (hD.sub [] (by decide +kernel) rfl)⟩, hS.F ht⟩) hS.2.2 dX11_back_19
  · rcases Decidable.em (2 < x1) with c_6 | c_6
    · obtain rfl : r_1 = 0 := hw_2.trans (by unfold sp_k_X11_isIn_0_2; rw [if_neg c_4, if_pos c_6])
      refine lv_if_eq (tgt := 18) hx hb dX11_back_6 (by decide +kernel) (fun c_7 => ?_) (fun c_7 => absurd (by decide +kernel) c_7)
      refine lv_iconst (v := (-1)) hx hb dX11_back_18 (by decide +kernel) ?_
      exact W.iret (v := (-1)) hx hb hr (fun t ht hW => ⟨⟨(-1), (), rfl, rfl, by rw [ht]; exact hP.sub [] rfl, hDA (hD.sub [] (by decide +kernel) rfl)⟩, hS.F ht⟩) hS.2.2 dX11_back_19
    · obtain rfl : r_1 = 1 := hw_2.trans (by unfold sp_k_X11_isIn_0_2; rw [if_neg c_4, if_neg c_6])
      refine lv_if_eq (tgt := 18) hx hb dX11_back_6 (by decide +kernel) (fun c_8 => absurd c_8 (by decide +kernel)) (fun c_8 => ?_)
      obtain rfl | rfl | rfl : x1 = 0 ∨ x1 = 1 ∨ x1 = 2 := i012b c_4 c_6
      · refine lv_aload_n hx hb dX11_back_9 rfl (lv_at hl 0 rfl) ?_
        refine va_get (D := D) (ci := 11) (v := .ref zisBoxed) (C := RX11) (T := TX11) (N := 55) hx hb hts iw_X11_back_11 hown hC.1 hP 0 rfl rfl 54 (by decide +kernel) (hts (.fieldLink RX11 131 "FairWheelModel" "isBoxed" "[Z") (by decide +kernel)) (fun _ h9 => h9) rfl dX11_back_10 ?_
        refine lv_iload_n hx hb dX11_back_13 rfl (lv_at hl 1 rfl) ?_
        refine ka_zald hx hb hC.1 hP 1 3 rfl rfl 0 rfl (by decide +kernel) (by decide +kernel) dX11_back_14 ?_
        refine nt_i 0 rfl ?_
        refine lv_if_ne (tgt := 20) hx hb dX11_back_15 (by decide +kernel) (fun c_9 => absurd (by decide +kernel) c_9) (fun c_9 => ?_)
        refine lv_iconst (v := (-1)) hx hb dX11_back_18 (by decide +kernel) ?_
        exact W.iret (v := (-1)) hx hb hr (fun t ht hW => ⟨⟨(-1), (), rfl, rfl, by rw [ht]; exact hP.sub [] rfl, hDA (hD.sub [] (by decide +kernel) rfl)⟩, hS.F ht⟩) hS.2.2 dX11_back_19
      · refine lv_aload_n hx hb dX11_back_9 rfl (lv_at hl 0 rfl) ?_
        refine va_get (D := D) (ci := 11) (v := .ref zisBoxed) (C := RX11) (T := TX11) (N := 55) hx hb hts iw_X11_back_11 hown hC.1 hP 0 rfl rfl 54 (by decide +kernel) (hts (.fieldLink RX11 131 "FairWheelModel" "isBoxed" "[Z") (by decide +kernel)) (fun _ h9 => h9) rfl dX11_back_10 ?_
        refine lv_iload_n hx hb dX11_back_13 rfl (lv_at hl 1 rfl) ?_
        refine ka_zald hx hb hC.1 hP 1 3 rfl rfl 1 rfl (by decide +kernel) (by decide +kernel) dX11_back_14 ?_
        refine nt_i 0 rfl ?_
        refine lv_if_ne (tgt := 20) hx hb dX11_back_15 (by decide +kernel) (fun c_10 => absurd (by decide +kernel) c_10) (fun c_10 => ?_)
        refine lv_iconst (v := (-1)) hx hb dX11_back_18 (by decide +kernel) ?_
        exact W.iret (v := (-1)) hx hb hr (fun t ht hW => ⟨⟨(-1), (), rfl, rfl, by rw [ht]; exact hP.sub [] rfl, hDA (hD.sub [] (by decide +kernel) rfl)⟩, hS.F ht⟩) hS.2.2 dX11_back_19
      · refine lv_aload_n hx hb dX11_back_9 rfl (lv_at hl 0 rfl) ?_
        refine va_get (D := D) (ci := 11) (v := .ref zisBoxed) (C := RX11) (T := TX11) (N := 55) hx hb hts iw_X11_back_11 hown hC.1 hP 0 rfl rfl 54 (by decide +kernel) (hts (.fieldLink RX11 131 "FairWheelModel" "isBoxed" "[Z") (by decide +kernel)) (fun _ h9 => h9) rfl dX11_back_10 ?_
        refine lv_iload_n hx hb dX11_back_13 rfl (lv_at hl 1 rfl) ?_
        refine ka_zald hx hb hC.1 hP 1 3 rfl rfl 2 rfl (by decide +kernel) (by decide +kernel) dX11_back_14 ?_
        refine nt_i 0 rfl ?_
        refine lv_if_ne (tgt := 20) hx hb dX11_back_15 (by decide +kernel) (fun c_11 => absurd (by decide +kernel) c_11) (fun c_11 => ?_)
        refine lv_iconst (v := (-1)) hx hb dX11_back_18 (by decide +kernel) ?_
        exact W.iret (v := (-1)) hx hb hr (fun t ht hW => ⟨⟨(-1), (), rfl, rfl, by rw [ht]; exact hP.sub [] rfl, hDA (hD.sub [] (by decide +kernel) rfl)⟩, hS.F ht⟩) hS.2.2 dX11_back_19
theorem iw_X11_layBehind_11 : ∀ w ∈ u_ws RX11 TX11 55, w ∈ wsX11_layBehind := by decide +kernel
set_option maxHeartbeats 4000000 in
set_option maxRecDepth 100000 in
theorem k_X11_layBehind (l : Launch) (D : va_G) (ca : Nat → ClassId) (sz : Nat) (h0 : Nat) (ztape : Nat) (ztext : Nat) (zcores : Nat) (zlocks : Nat) (zbells : Nat) (ztasks : Nat) (zops : Nat) (zopSort : Nat) (zopNumber : Nat) (zkind : Nat) (zevery : Nat) (zbudget : Nat) (zshareTold : Nat) (zfirstOp : Nat) (zopMany : Nat) (zisCores : Nat) (zisLocks : Nat) (zisBells : Nat) (ztName : Nat) (zall : Nat) (zrows : Nat) (zpicked : Nat) (zpileTask : Nat) (zpileLock : Nat) (zwas : Nat) (zbehind : Nat) (zriskRow : Nat) (zriskBest : Nat) (zcTick : Nat) (zcProcessor : Nat) (zcTask : Nat) (zgTick : Nat) (zgTask : Nat) (zgTold : Nat) (zgUntold : Nat) (zgRan : Nat) (zboxAll : Nat) (zboxRows : Nat) (zisBoxed : Nat) (ntaped : Int32) (nsize : Int32) (nfaultKind : Int32) (nfaultPlace : Int32) (nat : Int32) (nend : Int32) (ntoken : Int32) (nnumber : Int32) (nname : Int64) (nrb : Int32) (npiled : Int32) (nriskMany : Int32) (ntoldMany : Int32) (nsights : Int32) (ntime : Int32) : Met l yX11_layBehind wsX11_layBehind ({ frames := 1, cells := 0, slots := 0, locals := 20 }) (PC [.ref h0] sz D ca [(h0, .inr (11, [.ref ztape, .ref ztext, .int ntaped, .int nsize, .int nfaultKind, .int nfaultPlace, .int nat, .int nend, .int ntoken, .int nnumber, .long nname, .ref zcores, .ref zlocks, .ref zbells, .ref ztasks, .ref zops, .ref zopSort, .ref zopNumber, .ref zkind, .ref zevery, .ref zbudget, .ref zshareTold, .ref zfirstOp, .ref zopMany, .ref zisCores, .ref zisLocks, .ref zisBells, .ref ztName, .int 0, .int nrb, .ref zall, .ref zrows, .ref zpicked, .ref zpileTask, .ref zpileLock, .int npiled, .ref zwas, .ref zbehind, .ref zriskRow, .ref zriskBest, .int nriskMany, .ref zcTick, .ref zcProcessor, .ref zcTask, .int ntoldMany, .ref zgTick, .ref zgTask, .ref zgTold, .ref zgUntold, .ref zgRan, .int nsights, .int ntime, .ref zboxAll, .ref zboxRows, .ref zisBoxed])), (ztasks, .inl (ca 1, 2, .inl (fun _ => 0))), (zbehind, .inl (ca 1, 6, .inl (fun _ => 0)))]) (QV (fun (u : Unit) => True) (fun (_ : Unit) => [(zbehind, .inl (ca 1, 6, .inl (fun _ => 0))), (h0, .inr (11, [.ref ztape, .ref ztext, .int ntaped, .int nsize, .int nfaultKind, .int nfaultPlace, .int nat, .int nend, .int ntoken, .int nnumber, .long nname, .ref zcores, .ref zlocks, .ref zbells, .ref ztasks, .ref zops, .ref zopSort, .ref zopNumber, .ref zkind, .ref zevery, .ref zbudget, .ref zshareTold, .ref zfirstOp, .ref zopMany, .ref zisCores, .ref zisLocks, .ref zisBells, .ref ztName, .int 0, .int nrb, .ref zall, .ref zrows, .ref zpicked, .ref zpileTask, .ref zpileLock, .int npiled, .ref zwas, .ref zbehind, .ref zriskRow, .ref zriskBest, .int nriskMany, .ref zcTick, .ref zcProcessor, .ref zcTask, .int ntoldMany, .ref zgTick, .ref zgTask, .ref zgTold, .ref zgUntold, .ref zgRan, .int nsights, .int ntime, .ref zboxAll, .ref zboxRows, .ref zisBoxed])), (ztasks, .inl (ca 1, 2, .inl (fun _ => 0)))]) [(h0, .inr (11, [.ref ztape, .ref ztext, .int ntaped, .int nsize, .int nfaultKind, .int nfaultPlace, .int nat, .int nend, .int ntoken, .int nnumber, .long nname, .ref zcores, .ref zlocks, .ref zbells, .ref ztasks, .ref zops, .ref zopSort, .ref zopNumber, .ref zkind, .ref zevery, .ref zbudget, .ref zshareTold, .ref zfirstOp, .ref zopMany, .ref zisCores, .ref zisLocks, .ref zisBells, .ref ztName, .int 0, .int nrb, .ref zall, .ref zrows, .ref zpicked, .ref zpileTask, .ref zpileLock, .int npiled, .ref zwas, .ref zbehind, .ref zriskRow, .ref zriskBest, .int nriskMany, .ref zcTick, .ref zcProcessor, .ref zcTask, .int ntoldMany, .ref zgTick, .ref zgTask, .ref zgTold, .ref zgUntold, .ref zgRan, .int nsights, .int ntime, .ref zboxAll, .ref zboxRows, .ref zisBoxed])), (ztasks, .inl (ca 1, 2, .inl (fun _ => 0))), (zbehind, .inl (ca 1, 6, .inl (fun _ => 0)))] sz D) 0 0 (va_A [(h0, .inr (11, [.ref ztape, .ref ztext, .int ntaped, .int nsize, .int nfaultKind, .int nfaultPlace, .int nat, .int nend, .int ntoken, .int nnumber, .long nname, .ref zcores, .ref zlocks, .ref zbells, .ref ztasks, .ref zops, .ref zopSort, .ref zopNumber, .ref zkind, .ref zevery, .ref zbudget, .ref zshareTold, .ref zfirstOp, .ref zopMany, .ref zisCores, .ref zisLocks, .ref zisBells, .ref ztName, .int 0, .int nrb, .ref zall, .ref zrows, .ref zpicked, .ref zpileTask, .ref zpileLock, .int npiled, .ref zwas, .ref zbehind, .ref zriskRow, .ref zriskBest, .int nriskMany, .ref zcTick, .ref zcProcessor, .ref zcTask, .int ntoldMany, .ref zgTick, .ref zgTask, .ref zgTold, .ref zgUntold, .ref zgRan, .int nsights, .int ntime, .ref zboxAll, .ref zboxRows, .ref zisBoxed])), (ztasks, .inl (ca 1, 2, .inl (fun _ => 0))), (zbehind, .inl (ca 1, 6, .inl (fun _ => 0)))] sz) := by
  refine Met.ofW (cc := cX11_layBehind) (maxL := 8) (ret := none) (by decide +kernel) rfl ?_
  intro p e s m args below meth c s₁ B hml hv
  obtain ⟨rfl, hsz, hP, hC, hD0⟩ := hv
  have hx := B.exec
  have hb := B.bytes
  have hr := B.returns
  have hts := atoms_spec (ws := wsX11_layBehind) B.pre
  have hown : s.vm.findClass RX11 = some m.cls := findClass_of_methodNamed B.named
  have hlocks := B.notSynchronized
  subst hsz
  have hD := hD0.self (sz := s.heap.size)
  dsimp only [QV, QI, QL, BQ]
  generalize hAe : va_A [(h0, .inr (11, [.ref ztape, .ref ztext, .int ntaped, .int nsize, .int nfaultKind, .int nfaultPlace, .int nat, .int nend, .int ntoken, .int nnumber, .long nname, .ref zcores, .ref zlocks, .ref zbells, .ref ztasks, .ref zops, .ref zopSort, .ref zopNumber, .ref zkind, .ref zevery, .ref zbudget, .ref zshareTold, .ref zfirstOp, .ref zopMany, .ref zisCores, .ref zisLocks, .ref zisBells, .ref ztName, .int 0, .int nrb, .ref zall, .ref zrows, .ref zpicked, .ref zpileTask, .ref zpileLock, .int npiled, .ref zwas, .ref zbehind, .ref zriskRow, .ref zriskBest, .int nriskMany, .ref zcTick, .ref zcProcessor, .ref zcTask, .int ntoldMany, .ref zgTick, .ref zgTask, .ref zgTold, .ref zgUntold, .ref zgRan, .int nsights, .int ntime, .ref zboxAll, .ref zboxRows, .ref zisBoxed])), (ztasks, .inl (ca 1, 2, .inl (fun _ => 0))), (zbehind, .inl (ca 1, 6, .inl (fun _ => 0)))] s.heap.size = A at hD ⊢
  have hA : ∀ q : Nat, s.heap.size ≤ q → A q := fun q h => by rw [← hAe]; exact Or.inr h
  have hDA : ∀ {w : va_W}, va_D A w → va_D (va_A [(h0, .inr (11, [.ref ztape, .ref ztext, .int ntaped, .int nsize, .int nfaultKind, .int nfaultPlace, .int nat, .int nend, .int ntoken, .int nnumber, .long nname, .ref zcores, .ref zlocks, .ref zbells, .ref ztasks, .ref zops, .ref zopSort, .ref zopNumber, .ref zkind, .ref zevery, .ref zbudget, .ref zshareTold, .ref zfirstOp, .ref zopMany, .ref zisCores, .ref zisLocks, .ref zisBells, .ref ztName, .int 0, .int nrb, .ref zall, .ref zrows, .ref zpicked, .ref zpileTask, .ref zpileLock, .int npiled, .ref zwas, .ref zbehind, .ref zriskRow, .ref zriskBest, .int nriskMany, .ref zcTick, .ref zcProcessor, .ref zcTask, .int ntoldMany, .ref zgTick, .ref zgTask, .ref zgTold, .ref zgUntold, .ref zgRan, .int nsights, .int ntime, .ref zboxAll, .ref zboxRows, .ref zisBoxed])), (ztasks, .inl (ca 1, 2, .inl (fun _ => 0))), (zbehind, .inl (ca 1, 6, .inl (fun _ => 0)))] s.heap.size) w := fun h => by rw [hAe]; exact h
  have hS : va_S A s.heap s.heap [] := va_S.rf
  have hP : va_P D vwCl [(h0, .inr (11, [.ref ztape, .ref ztext, .int ntaped, .int nsize, .int nfaultKind, .int nfaultPlace, .int nat, .int nend, .int ntoken, .int nnumber, .long nname, .ref zcores, .ref zlocks, .ref zbells, .ref ztasks, .ref zops, .ref zopSort, .ref zopNumber, .ref zkind, .ref zevery, .ref zbudget, .ref zshareTold, .ref zfirstOp, .ref zopMany, .ref zisCores, .ref zisLocks, .ref zisBells, .ref ztName, .int 0, .int nrb, .ref zall, .ref zrows, .ref zpicked, .ref zpileTask, .ref zpileLock, .int npiled, .ref zwas, .ref zbehind, .ref zriskRow, .ref zriskBest, .int nriskMany, .ref zcTick, .ref zcProcessor, .ref zcTask, .int ntoldMany, .ref zgTick, .ref zgTask, .ref zgTold, .ref zgUntold, .ref zgRan, .int nsights, .int ntime, .ref zboxAll, .ref zboxRows, .ref zisBoxed])), (ztasks, .inl (ca 1, 2, .inl (fun _ => 0))), (zbehind, .inl (ca 1, 6, .inl (fun _ => 0)))] s.heap := hP
  have hl := lv_entry ([.ref h0]) (n := 8) (Nat.le_of_ble_eq_true rfl)
  rw [lg_entry_eq]
  generalize (lg_sl ([.ref h0]) ++ List.replicate (8 - (lg_sl ([.ref h0])).length) Slot.unset).toArray = ls at hl ⊢
  have hl : lv_has ls 8 [(0, .ref h0)] := hl
  refine lv_iconst (v := 0) hx hb dX11_layBehind_0 (by decide +kernel) ?_
  refine lv_istore_n (lv' := [(1, .int 0), (0, .ref h0)]) hx hb dX11_layBehind_1 rfl hl (by decide +kernel) rfl (fun ls hl => ?_)
  refine lv_iload_n hx hb dX11_layBehind_2 rfl (lv_at hl 0 rfl) ?_
  refine lv_bipush (v := 6) hx hb dX11_layBehind_3 (by decide +kernel) ?_
  refine lv_icmp_ge (tgt := 21) hx hb dX11_layBehind_5 (by decide +kernel) (fun c_1 => absurd c_1 (by decide +kernel)) (fun c_1 => ?_)
  refine lv_aload_n hx hb dX11_layBehind_8 rfl (lv_at hl 1 rfl) ?_
  refine va_get (D := D) (ci := 11) (v := .ref zbehind) (C := RX11) (T := TX11) (N := 55) hx hb hts iw_X11_layBehind_11 hown hC.1 hP 0 rfl rfl 37 (by decide +kernel) (hts (.fieldLink RX11 92 "FairWheelModel" "behind" "[I") (by decide +kernel)) (fun _ h9 => h9) rfl dX11_layBehind_9 ?_
  refine lv_iload_n hx hb dX11_layBehind_12 rfl (lv_at hl 0 rfl) ?_
  refine lv_iconst (v := 0) hx hb dX11_layBehind_13 (by decide +kernel) ?_
  refine ka_iast hx hb hC.1 hP hD hS 2 1 rfl rfl 0 rfl (by decide +kernel) (by decide +kernel) dX11_layBehind_14 (fun H locs hP hD hS => ?_)
  rw [up_c0] at hP hD
  have hP : va_P D vwCl [(h0, .inr (11, [.ref ztape, .ref ztext, .int ntaped, .int nsize, .int nfaultKind, .int nfaultPlace, .int nat, .int nend, .int ntoken, .int nnumber, .long nname, .ref zcores, .ref zlocks, .ref zbells, .ref ztasks, .ref zops, .ref zopSort, .ref zopNumber, .ref zkind, .ref zevery, .ref zbudget, .ref zshareTold, .ref zfirstOp, .ref zopMany, .ref zisCores, .ref zisLocks, .ref zisBells, .ref ztName, .int 0, .int nrb, .ref zall, .ref zrows, .ref zpicked, .ref zpileTask, .ref zpileLock, .int npiled, .ref zwas, .ref zbehind, .ref zriskRow, .ref zriskBest, .int nriskMany, .ref zcTick, .ref zcProcessor, .ref zcTask, .int ntoldMany, .ref zgTick, .ref zgTask, .ref zgTold, .ref zgUntold, .ref zgRan, .int nsights, .int ntime, .ref zboxAll, .ref zboxRows, .ref zisBoxed])), (ztasks, .inl (ca 1, 2, .inl (fun _ => 0))), (zbehind, .inl (ca 1, 6, .inl (fun _ => 0)))] H := hP
  have hD : va_D A [(h0, .inr (11, [.ref ztape, .ref ztext, .int ntaped, .int nsize, .int nfaultKind, .int nfaultPlace, .int nat, .int nend, .int ntoken, .int nnumber, .long nname, .ref zcores, .ref zlocks, .ref zbells, .ref ztasks, .ref zops, .ref zopSort, .ref zopNumber, .ref zkind, .ref zevery, .ref zbudget, .ref zshareTold, .ref zfirstOp, .ref zopMany, .ref zisCores, .ref zisLocks, .ref zisBells, .ref ztName, .int 0, .int nrb, .ref zall, .ref zrows, .ref zpicked, .ref zpileTask, .ref zpileLock, .int npiled, .ref zwas, .ref zbehind, .ref zriskRow, .ref zriskBest, .int nriskMany, .ref zcTick, .ref zcProcessor, .ref zcTask, .int ntoldMany, .ref zgTick, .ref zgTask, .ref zgTold, .ref zgUntold, .ref zgRan, .int nsights, .int ntime, .ref zboxAll, .ref zboxRows, .ref zisBoxed])), (ztasks, .inl (ca 1, 2, .inl (fun _ => 0))), (zbehind, .inl (ca 1, 6, .inl (fun _ => 0)))] := hD
  refine lv_iinc (v := 1) (lv' := [(1, .int 1), (0, .ref h0)]) hx hb dX11_layBehind_15 hl (k := 0) rfl (by decide +kernel) (by decide +kernel) rfl (fun ls hl => ?_)
  refine lv_goto (tgt := 2) hx hb dX11_layBehind_18 (by decide +kernel) ?_
  refine lv_iload_n hx hb dX11_layBehind_2 rfl (lv_at hl 0 rfl) ?_
  refine lv_bipush (v := 6) hx hb dX11_layBehind_3 (by decide +kernel) ?_
  refine lv_icmp_ge (tgt := 21) hx hb dX11_layBehind_5 (by decide +kernel) (fun c_2 => absurd c_2 (by decide +kernel)) (fun c_2 => ?_)
  refine lv_aload_n hx hb dX11_layBehind_8 rfl (lv_at hl 1 rfl) ?_
  refine va_get (D := D) (ci := 11) (v := .ref zbehind) (C := RX11) (T := TX11) (N := 55) hx hb hts iw_X11_layBehind_11 hown hC.1 hP 0 rfl rfl 37 (by decide +kernel) (hts (.fieldLink RX11 92 "FairWheelModel" "behind" "[I") (by decide +kernel)) (fun _ h9 => h9) rfl dX11_layBehind_9 ?_
  refine lv_iload_n hx hb dX11_layBehind_12 rfl (lv_at hl 0 rfl) ?_
  refine lv_iconst (v := 0) hx hb dX11_layBehind_13 (by decide +kernel) ?_
  refine ka_iast hx hb hC.1 hP hD hS 2 1 rfl rfl 1 rfl (by decide +kernel) (by decide +kernel) dX11_layBehind_14 (fun H locs hP hD hS => ?_)
  rw [up_c0] at hP hD
  have hP : va_P D vwCl [(h0, .inr (11, [.ref ztape, .ref ztext, .int ntaped, .int nsize, .int nfaultKind, .int nfaultPlace, .int nat, .int nend, .int ntoken, .int nnumber, .long nname, .ref zcores, .ref zlocks, .ref zbells, .ref ztasks, .ref zops, .ref zopSort, .ref zopNumber, .ref zkind, .ref zevery, .ref zbudget, .ref zshareTold, .ref zfirstOp, .ref zopMany, .ref zisCores, .ref zisLocks, .ref zisBells, .ref ztName, .int 0, .int nrb, .ref zall, .ref zrows, .ref zpicked, .ref zpileTask, .ref zpileLock, .int npiled, .ref zwas, .ref zbehind, .ref zriskRow, .ref zriskBest, .int nriskMany, .ref zcTick, .ref zcProcessor, .ref zcTask, .int ntoldMany, .ref zgTick, .ref zgTask, .ref zgTold, .ref zgUntold, .ref zgRan, .int nsights, .int ntime, .ref zboxAll, .ref zboxRows, .ref zisBoxed])), (ztasks, .inl (ca 1, 2, .inl (fun _ => 0))), (zbehind, .inl (ca 1, 6, .inl (fun _ => 0)))] H := hP
  have hD : va_D A [(h0, .inr (11, [.ref ztape, .ref ztext, .int ntaped, .int nsize, .int nfaultKind, .int nfaultPlace, .int nat, .int nend, .int ntoken, .int nnumber, .long nname, .ref zcores, .ref zlocks, .ref zbells, .ref ztasks, .ref zops, .ref zopSort, .ref zopNumber, .ref zkind, .ref zevery, .ref zbudget, .ref zshareTold, .ref zfirstOp, .ref zopMany, .ref zisCores, .ref zisLocks, .ref zisBells, .ref ztName, .int 0, .int nrb, .ref zall, .ref zrows, .ref zpicked, .ref zpileTask, .ref zpileLock, .int npiled, .ref zwas, .ref zbehind, .ref zriskRow, .ref zriskBest, .int nriskMany, .ref zcTick, .ref zcProcessor, .ref zcTask, .int ntoldMany, .ref zgTick, .ref zgTask, .ref zgTold, .ref zgUntold, .ref zgRan, .int nsights, .int ntime, .ref zboxAll, .ref zboxRows, .ref zisBoxed])), (ztasks, .inl (ca 1, 2, .inl (fun _ => 0))), (zbehind, .inl (ca 1, 6, .inl (fun _ => 0)))] := hD
  refine lv_iinc (v := 2) (lv' := [(1, .int 2), (0, .ref h0)]) hx hb dX11_layBehind_15 hl (k := 0) rfl (by decide +kernel) (by decide +kernel) rfl (fun ls hl => ?_)
  refine lv_goto (tgt := 2) hx hb dX11_layBehind_18 (by decide +kernel) ?_
  refine lv_iload_n hx hb dX11_layBehind_2 rfl (lv_at hl 0 rfl) ?_
  refine lv_bipush (v := 6) hx hb dX11_layBehind_3 (by decide +kernel) ?_
  refine lv_icmp_ge (tgt := 21) hx hb dX11_layBehind_5 (by decide +kernel) (fun c_3 => absurd c_3 (by decide +kernel)) (fun c_3 => ?_)
  refine lv_aload_n hx hb dX11_layBehind_8 rfl (lv_at hl 1 rfl) ?_
  refine va_get (D := D) (ci := 11) (v := .ref zbehind) (C := RX11) (T := TX11) (N := 55) hx hb hts iw_X11_layBehind_11 hown hC.1 hP 0 rfl rfl 37 (by decide +kernel) (hts (.fieldLink RX11 92 "FairWheelModel" "behind" "[I") (by decide +kernel)) (fun _ h9 => h9) rfl dX11_layBehind_9 ?_
  refine lv_iload_n hx hb dX11_layBehind_12 rfl (lv_at hl 0 rfl) ?_
  refine lv_iconst (v := 0) hx hb dX11_layBehind_13 (by decide +kernel) ?_
  refine ka_iast hx hb hC.1 hP hD hS 2 1 rfl rfl 2 rfl (by decide +kernel) (by decide +kernel) dX11_layBehind_14 (fun H locs hP hD hS => ?_)
  rw [up_c0] at hP hD
  have hP : va_P D vwCl [(h0, .inr (11, [.ref ztape, .ref ztext, .int ntaped, .int nsize, .int nfaultKind, .int nfaultPlace, .int nat, .int nend, .int ntoken, .int nnumber, .long nname, .ref zcores, .ref zlocks, .ref zbells, .ref ztasks, .ref zops, .ref zopSort, .ref zopNumber, .ref zkind, .ref zevery, .ref zbudget, .ref zshareTold, .ref zfirstOp, .ref zopMany, .ref zisCores, .ref zisLocks, .ref zisBells, .ref ztName, .int 0, .int nrb, .ref zall, .ref zrows, .ref zpicked, .ref zpileTask, .ref zpileLock, .int npiled, .ref zwas, .ref zbehind, .ref zriskRow, .ref zriskBest, .int nriskMany, .ref zcTick, .ref zcProcessor, .ref zcTask, .int ntoldMany, .ref zgTick, .ref zgTask, .ref zgTold, .ref zgUntold, .ref zgRan, .int nsights, .int ntime, .ref zboxAll, .ref zboxRows, .ref zisBoxed])), (ztasks, .inl (ca 1, 2, .inl (fun _ => 0))), (zbehind, .inl (ca 1, 6, .inl (fun _ => 0)))] H := hP
  have hD : va_D A [(h0, .inr (11, [.ref ztape, .ref ztext, .int ntaped, .int nsize, .int nfaultKind, .int nfaultPlace, .int nat, .int nend, .int ntoken, .int nnumber, .long nname, .ref zcores, .ref zlocks, .ref zbells, .ref ztasks, .ref zops, .ref zopSort, .ref zopNumber, .ref zkind, .ref zevery, .ref zbudget, .ref zshareTold, .ref zfirstOp, .ref zopMany, .ref zisCores, .ref zisLocks, .ref zisBells, .ref ztName, .int 0, .int nrb, .ref zall, .ref zrows, .ref zpicked, .ref zpileTask, .ref zpileLock, .int npiled, .ref zwas, .ref zbehind, .ref zriskRow, .ref zriskBest, .int nriskMany, .ref zcTick, .ref zcProcessor, .ref zcTask, .int ntoldMany, .ref zgTick, .ref zgTask, .ref zgTold, .ref zgUntold, .ref zgRan, .int nsights, .int ntime, .ref zboxAll, .ref zboxRows, .ref zisBoxed])), (ztasks, .inl (ca 1, 2, .inl (fun _ => 0))), (zbehind, .inl (ca 1, 6, .inl (fun _ => 0)))] := hD
  refine lv_iinc (v := 3) (lv' := [(1, .int 3), (0, .ref h0)]) hx hb dX11_layBehind_15 hl (k := 0) rfl (by decide +kernel) (by decide +kernel) rfl (fun ls hl => ?_)
  refine lv_goto (tgt := 2) hx hb dX11_layBehind_18 (by decide +kernel) ?_
  refine lv_iload_n hx hb dX11_layBehind_2 rfl (lv_at hl 0 rfl) ?_
  refine lv_bipush (v := 6) hx hb dX11_layBehind_3 (by decide +kernel) ?_
  refine lv_icmp_ge (tgt := 21) hx hb dX11_layBehind_5 (by decide +kernel) (fun c_4 => absurd c_4 (by decide +kernel)) (fun c_4 => ?_)
  refine lv_aload_n hx hb dX11_layBehind_8 rfl (lv_at hl 1 rfl) ?_
  refine va_get (D := D) (ci := 11) (v := .ref zbehind) (C := RX11) (T := TX11) (N := 55) hx hb hts iw_X11_layBehind_11 hown hC.1 hP 0 rfl rfl 37 (by decide +kernel) (hts (.fieldLink RX11 92 "FairWheelModel" "behind" "[I") (by decide +kernel)) (fun _ h9 => h9) rfl dX11_layBehind_9 ?_
  refine lv_iload_n hx hb dX11_layBehind_12 rfl (lv_at hl 0 rfl) ?_
  refine lv_iconst (v := 0) hx hb dX11_layBehind_13 (by decide +kernel) ?_
  refine ka_iast hx hb hC.1 hP hD hS 2 1 rfl rfl 3 rfl (by decide +kernel) (by decide +kernel) dX11_layBehind_14 (fun H locs hP hD hS => ?_)
  rw [up_c0] at hP hD
  have hP : va_P D vwCl [(h0, .inr (11, [.ref ztape, .ref ztext, .int ntaped, .int nsize, .int nfaultKind, .int nfaultPlace, .int nat, .int nend, .int ntoken, .int nnumber, .long nname, .ref zcores, .ref zlocks, .ref zbells, .ref ztasks, .ref zops, .ref zopSort, .ref zopNumber, .ref zkind, .ref zevery, .ref zbudget, .ref zshareTold, .ref zfirstOp, .ref zopMany, .ref zisCores, .ref zisLocks, .ref zisBells, .ref ztName, .int 0, .int nrb, .ref zall, .ref zrows, .ref zpicked, .ref zpileTask, .ref zpileLock, .int npiled, .ref zwas, .ref zbehind, .ref zriskRow, .ref zriskBest, .int nriskMany, .ref zcTick, .ref zcProcessor, .ref zcTask, .int ntoldMany, .ref zgTick, .ref zgTask, .ref zgTold, .ref zgUntold, .ref zgRan, .int nsights, .int ntime, .ref zboxAll, .ref zboxRows, .ref zisBoxed])), (ztasks, .inl (ca 1, 2, .inl (fun _ => 0))), (zbehind, .inl (ca 1, 6, .inl (fun _ => 0)))] H := hP
  have hD : va_D A [(h0, .inr (11, [.ref ztape, .ref ztext, .int ntaped, .int nsize, .int nfaultKind, .int nfaultPlace, .int nat, .int nend, .int ntoken, .int nnumber, .long nname, .ref zcores, .ref zlocks, .ref zbells, .ref ztasks, .ref zops, .ref zopSort, .ref zopNumber, .ref zkind, .ref zevery, .ref zbudget, .ref zshareTold, .ref zfirstOp, .ref zopMany, .ref zisCores, .ref zisLocks, .ref zisBells, .ref ztName, .int 0, .int nrb, .ref zall, .ref zrows, .ref zpicked, .ref zpileTask, .ref zpileLock, .int npiled, .ref zwas, .ref zbehind, .ref zriskRow, .ref zriskBest, .int nriskMany, .ref zcTick, .ref zcProcessor, .ref zcTask, .int ntoldMany, .ref zgTick, .ref zgTask, .ref zgTold, .ref zgUntold, .ref zgRan, .int nsights, .int ntime, .ref zboxAll, .ref zboxRows, .ref zisBoxed])), (ztasks, .inl (ca 1, 2, .inl (fun _ => 0))), (zbehind, .inl (ca 1, 6, .inl (fun _ => 0)))] := hD
  refine lv_iinc (v := 4) (lv' := [(1, .int 4), (0, .ref h0)]) hx hb dX11_layBehind_15 hl (k := 0) rfl (by decide +kernel) (by decide +kernel) rfl (fun ls hl => ?_)
  refine lv_goto (tgt := 2) hx hb dX11_layBehind_18 (by decide +kernel) ?_
  refine lv_iload_n hx hb dX11_layBehind_2 rfl (lv_at hl 0 rfl) ?_
  refine lv_bipush (v := 6) hx hb dX11_layBehind_3 (by decide +kernel) ?_
  refine lv_icmp_ge (tgt := 21) hx hb dX11_layBehind_5 (by decide +kernel) (fun c_5 => absurd c_5 (by decide +kernel)) (fun c_5 => ?_)
  refine lv_aload_n hx hb dX11_layBehind_8 rfl (lv_at hl 1 rfl) ?_
  refine va_get (D := D) (ci := 11) (v := .ref zbehind) (C := RX11) (T := TX11) (N := 55) hx hb hts iw_X11_layBehind_11 hown hC.1 hP 0 rfl rfl 37 (by decide +kernel) (hts (.fieldLink RX11 92 "FairWheelModel" "behind" "[I") (by decide +kernel)) (fun _ h9 => h9) rfl dX11_layBehind_9 ?_
  refine lv_iload_n hx hb dX11_layBehind_12 rfl (lv_at hl 0 rfl) ?_
  refine lv_iconst (v := 0) hx hb dX11_layBehind_13 (by decide +kernel) ?_
  refine ka_iast hx hb hC.1 hP hD hS 2 1 rfl rfl 4 rfl (by decide +kernel) (by decide +kernel) dX11_layBehind_14 (fun H locs hP hD hS => ?_)
  rw [up_c0] at hP hD
  have hP : va_P D vwCl [(h0, .inr (11, [.ref ztape, .ref ztext, .int ntaped, .int nsize, .int nfaultKind, .int nfaultPlace, .int nat, .int nend, .int ntoken, .int nnumber, .long nname, .ref zcores, .ref zlocks, .ref zbells, .ref ztasks, .ref zops, .ref zopSort, .ref zopNumber, .ref zkind, .ref zevery, .ref zbudget, .ref zshareTold, .ref zfirstOp, .ref zopMany, .ref zisCores, .ref zisLocks, .ref zisBells, .ref ztName, .int 0, .int nrb, .ref zall, .ref zrows, .ref zpicked, .ref zpileTask, .ref zpileLock, .int npiled, .ref zwas, .ref zbehind, .ref zriskRow, .ref zriskBest, .int nriskMany, .ref zcTick, .ref zcProcessor, .ref zcTask, .int ntoldMany, .ref zgTick, .ref zgTask, .ref zgTold, .ref zgUntold, .ref zgRan, .int nsights, .int ntime, .ref zboxAll, .ref zboxRows, .ref zisBoxed])), (ztasks, .inl (ca 1, 2, .inl (fun _ => 0))), (zbehind, .inl (ca 1, 6, .inl (fun _ => 0)))] H := hP
  have hD : va_D A [(h0, .inr (11, [.ref ztape, .ref ztext, .int ntaped, .int nsize, .int nfaultKind, .int nfaultPlace, .int nat, .int nend, .int ntoken, .int nnumber, .long nname, .ref zcores, .ref zlocks, .ref zbells, .ref ztasks, .ref zops, .ref zopSort, .ref zopNumber, .ref zkind, .ref zevery, .ref zbudget, .ref zshareTold, .ref zfirstOp, .ref zopMany, .ref zisCores, .ref zisLocks, .ref zisBells, .ref ztName, .int 0, .int nrb, .ref zall, .ref zrows, .ref zpicked, .ref zpileTask, .ref zpileLock, .int npiled, .ref zwas, .ref zbehind, .ref zriskRow, .ref zriskBest, .int nriskMany, .ref zcTick, .ref zcProcessor, .ref zcTask, .int ntoldMany, .ref zgTick, .ref zgTask, .ref zgTold, .ref zgUntold, .ref zgRan, .int nsights, .int ntime, .ref zboxAll, .ref zboxRows, .ref zisBoxed])), (ztasks, .inl (ca 1, 2, .inl (fun _ => 0))), (zbehind, .inl (ca 1, 6, .inl (fun _ => 0)))] := hD
  refine lv_iinc (v := 5) (lv' := [(1, .int 5), (0, .ref h0)]) hx hb dX11_layBehind_15 hl (k := 0) rfl (by decide +kernel) (by decide +kernel) rfl (fun ls hl => ?_)
  refine lv_goto (tgt := 2) hx hb dX11_layBehind_18 (by decide +kernel) ?_
  refine lv_iload_n hx hb dX11_layBehind_2 rfl (lv_at hl 0 rfl) ?_
  refine lv_bipush (v := 6) hx hb dX11_layBehind_3 (by decide +kernel) ?_
  refine lv_icmp_ge (tgt := 21) hx hb dX11_layBehind_5 (by decide +kernel) (fun c_6 => absurd c_6 (by decide +kernel)) (fun c_6 => ?_)
  refine lv_aload_n hx hb dX11_layBehind_8 rfl (lv_at hl 1 rfl) ?_
  refine va_get (D := D) (ci := 11) (v := .ref zbehind) (C := RX11) (T := TX11) (N := 55) hx hb hts iw_X11_layBehind_11 hown hC.1 hP 0 rfl rfl 37 (by decide +kernel) (hts (.fieldLink RX11 92 "FairWheelModel" "behind" "[I") (by decide +kernel)) (fun _ h9 => h9) rfl dX11_layBehind_9 ?_
  refine lv_iload_n hx hb dX11_layBehind_12 rfl (lv_at hl 0 rfl) ?_
  refine lv_iconst (v := 0) hx hb dX11_layBehind_13 (by decide +kernel) ?_
  refine ka_iast hx hb hC.1 hP hD hS 2 1 rfl rfl 5 rfl (by decide +kernel) (by decide +kernel) dX11_layBehind_14 (fun H locs hP hD hS => ?_)
  rw [up_c0] at hP hD
  have hP : va_P D vwCl [(h0, .inr (11, [.ref ztape, .ref ztext, .int ntaped, .int nsize, .int nfaultKind, .int nfaultPlace, .int nat, .int nend, .int ntoken, .int nnumber, .long nname, .ref zcores, .ref zlocks, .ref zbells, .ref ztasks, .ref zops, .ref zopSort, .ref zopNumber, .ref zkind, .ref zevery, .ref zbudget, .ref zshareTold, .ref zfirstOp, .ref zopMany, .ref zisCores, .ref zisLocks, .ref zisBells, .ref ztName, .int 0, .int nrb, .ref zall, .ref zrows, .ref zpicked, .ref zpileTask, .ref zpileLock, .int npiled, .ref zwas, .ref zbehind, .ref zriskRow, .ref zriskBest, .int nriskMany, .ref zcTick, .ref zcProcessor, .ref zcTask, .int ntoldMany, .ref zgTick, .ref zgTask, .ref zgTold, .ref zgUntold, .ref zgRan, .int nsights, .int ntime, .ref zboxAll, .ref zboxRows, .ref zisBoxed])), (ztasks, .inl (ca 1, 2, .inl (fun _ => 0))), (zbehind, .inl (ca 1, 6, .inl (fun _ => 0)))] H := hP
  have hD : va_D A [(h0, .inr (11, [.ref ztape, .ref ztext, .int ntaped, .int nsize, .int nfaultKind, .int nfaultPlace, .int nat, .int nend, .int ntoken, .int nnumber, .long nname, .ref zcores, .ref zlocks, .ref zbells, .ref ztasks, .ref zops, .ref zopSort, .ref zopNumber, .ref zkind, .ref zevery, .ref zbudget, .ref zshareTold, .ref zfirstOp, .ref zopMany, .ref zisCores, .ref zisLocks, .ref zisBells, .ref ztName, .int 0, .int nrb, .ref zall, .ref zrows, .ref zpicked, .ref zpileTask, .ref zpileLock, .int npiled, .ref zwas, .ref zbehind, .ref zriskRow, .ref zriskBest, .int nriskMany, .ref zcTick, .ref zcProcessor, .ref zcTask, .int ntoldMany, .ref zgTick, .ref zgTask, .ref zgTold, .ref zgUntold, .ref zgRan, .int nsights, .int ntime, .ref zboxAll, .ref zboxRows, .ref zisBoxed])), (ztasks, .inl (ca 1, 2, .inl (fun _ => 0))), (zbehind, .inl (ca 1, 6, .inl (fun _ => 0)))] := hD
  refine lv_iinc (v := 6) (lv' := [(1, .int 6), (0, .ref h0)]) hx hb dX11_layBehind_15 hl (k := 0) rfl (by decide +kernel) (by decide +kernel) rfl (fun ls hl => ?_)
  refine lv_goto (tgt := 2) hx hb dX11_layBehind_18 (by decide +kernel) ?_
  refine lv_iload_n hx hb dX11_layBehind_2 rfl (lv_at hl 0 rfl) ?_
  refine lv_bipush (v := 6) hx hb dX11_layBehind_3 (by decide +kernel) ?_
  refine lv_icmp_ge (tgt := 21) hx hb dX11_layBehind_5 (by decide +kernel) (fun c_7 => ?_) (fun c_7 => absurd (by decide +kernel) c_7)
  refine lv_iconst (v := 0) hx hb dX11_layBehind_21 (by decide +kernel) ?_
  refine lv_istore_n (lv' := [(1, .int 0), (0, .ref h0)]) hx hb dX11_layBehind_22 rfl hl (by decide +kernel) rfl (fun ls hl => ?_)
  refine lv_iload_n hx hb dX11_layBehind_23 rfl (lv_at hl 0 rfl) ?_
  refine lv_aload_n hx hb dX11_layBehind_24 rfl (lv_at hl 1 rfl) ?_
  refine kc_i (wr := [(zbehind, .inl (ca 1, 6, .inl (fun _ => 0)))]) (va_runV (As := []) (rest := [.int 0]) ⟨hx, hb, hml, hown, hts⟩ (k_X11_taskMany_0 l D ca H.size h0 ztape ztext zcores zlocks zbells ztasks zops zopSort zopNumber zkind zevery zbudget zshareTold zfirstOp zopMany zisCores zisLocks zisBells ztName zall zrows zpicked zpileTask zpileLock zwas zbehind zriskRow zriskBest zcTick zcProcessor zcTask zgTick zgTask zgTold zgUntold zgRan zboxAll zboxRows zisBoxed ntaped nsize nfaultKind nfaultPlace nat nend ntoken nnumber nname nrb npiled nriskMany ntoldMany nsights ntime) (cwV 0 hts gX11_layBehind_X11_taskMany rfl rfl rfl (by decide +kernel) ⟨(Nat.le_of_ble_eq_true rfl), (Nat.le_of_ble_eq_true rfl)⟩) (PC.preV (ci := 11) hC hP hD [0, 1] rfl (by decide +kernel) rfl rfl) rfl rfl hl.1 rfl (lv_room (Nat.le_of_ble_eq_true rfl)) dX11_layBehind_25 ⟨(Nat.le_of_ble_eq_true rfl), (Nat.le_of_ble_eq_true rfl)⟩) hP hD hS hA [0, 1] [2] rfl rfl (by decide +kernel) (by decide +kernel) (fun r_8 u_10 H locs hw_9 hP hD hS => ?_)
  subst hw_9
  have hP : va_P D vwCl [(zbehind, .inl (ca 1, 6, .inl (fun _ => 0))), (h0, .inr (11, [.ref ztape, .ref ztext, .int ntaped, .int nsize, .int nfaultKind, .int nfaultPlace, .int nat, .int nend, .int ntoken, .int nnumber, .long nname, .ref zcores, .ref zlocks, .ref zbells, .ref ztasks, .ref zops, .ref zopSort, .ref zopNumber, .ref zkind, .ref zevery, .ref zbudget, .ref zshareTold, .ref zfirstOp, .ref zopMany, .ref zisCores, .ref zisLocks, .ref zisBells, .ref ztName, .int 0, .int nrb, .ref zall, .ref zrows, .ref zpicked, .ref zpileTask, .ref zpileLock, .int npiled, .ref zwas, .ref zbehind, .ref zriskRow, .ref zriskBest, .int nriskMany, .ref zcTick, .ref zcProcessor, .ref zcTask, .int ntoldMany, .ref zgTick, .ref zgTask, .ref zgTold, .ref zgUntold, .ref zgRan, .int nsights, .int ntime, .ref zboxAll, .ref zboxRows, .ref zisBoxed])), (ztasks, .inl (ca 1, 2, .inl (fun _ => 0)))] H := hP
  have hD : va_D A [(zbehind, .inl (ca 1, 6, .inl (fun _ => 0))), (h0, .inr (11, [.ref ztape, .ref ztext, .int ntaped, .int nsize, .int nfaultKind, .int nfaultPlace, .int nat, .int nend, .int ntoken, .int nnumber, .long nname, .ref zcores, .ref zlocks, .ref zbells, .ref ztasks, .ref zops, .ref zopSort, .ref zopNumber, .ref zkind, .ref zevery, .ref zbudget, .ref zshareTold, .ref zfirstOp, .ref zopMany, .ref zisCores, .ref zisLocks, .ref zisBells, .ref ztName, .int 0, .int nrb, .ref zall, .ref zrows, .ref zpicked, .ref zpileTask, .ref zpileLock, .int npiled, .ref zwas, .ref zbehind, .ref zriskRow, .ref zriskBest, .int nriskMany, .ref zcTick, .ref zcProcessor, .ref zcTask, .int ntoldMany, .ref zgTick, .ref zgTask, .ref zgTold, .ref zgUntold, .ref zgRan, .int nsights, .int ntime, .ref zboxAll, .ref zboxRows, .ref zisBoxed])), (ztasks, .inl (ca 1, 2, .inl (fun _ => 0)))] := hD
  refine lv_icmp_ge (tgt := 222) hx hb dX11_layBehind_28 (by decide +kernel) (fun c_11 => ?_) (fun c_11 => absurd (by decide +kernel) c_11)
  exact W.vret hx hb hr (fun t ht hW => ⟨⟨(), rfl, trivial, by rw [ht]; exact hP.sub [0, 1, 2] rfl, hDA (hD.sub [0, 1, 2] (by decide +kernel) rfl)⟩, hS.F ht⟩) hS.2.2 dX11_layBehind_222
theorem iw_X11_findRound_11 : ∀ w ∈ u_ws RX11 TX11 55, w ∈ wsX11_findRound := by decide +kernel
set_option maxHeartbeats 4000000 in
set_option maxRecDepth 100000 in
theorem k_X11_findRound (l : Launch) (D : va_G) (ca : Nat → ClassId) (sz : Nat) (h0 : Nat) (ztape : Nat) (ztext : Nat) (zcores : Nat) (zlocks : Nat) (zbells : Nat) (ztasks : Nat) (zops : Nat) (zopSort : Nat) (zopNumber : Nat) (zkind : Nat) (zevery : Nat) (zbudget : Nat) (zshareTold : Nat) (zfirstOp : Nat) (zopMany : Nat) (zisCores : Nat) (zisLocks : Nat) (zisBells : Nat) (ztName : Nat) (zall : Nat) (zrows : Nat) (zpicked : Nat) (zpileTask : Nat) (zpileLock : Nat) (zwas : Nat) (zbehind : Nat) (zriskRow : Nat) (zriskBest : Nat) (zcTick : Nat) (zcProcessor : Nat) (zcTask : Nat) (zgTick : Nat) (zgTask : Nat) (zgTold : Nat) (zgUntold : Nat) (zgRan : Nat) (zboxAll : Nat) (zboxRows : Nat) (zisBoxed : Nat) (ntaped : Int32) (nsize : Int32) (nfaultKind : Int32) (nfaultPlace : Int32) (nat : Int32) (nend : Int32) (ntoken : Int32) (nnumber : Int32) (nname : Int64) (nbank : Int32) (nrb : Int32) (npiled : Int32) (nriskMany : Int32) (ntoldMany : Int32) (nsights : Int32) (ntime : Int32) (fr : Nat → Int32) (k : Nat) (x2 : Int32) (hk : k < 6) : Met l yX11_findRound wsX11_findRound ({ frames := 0, cells := 0, slots := 0, locals := 0 }) (PC [.ref h0, .int (nI k), .int x2] sz D ca [(h0, .inr (11, [.ref ztape, .ref ztext, .int ntaped, .int nsize, .int nfaultKind, .int nfaultPlace, .int nat, .int nend, .int ntoken, .int nnumber, .long nname, .ref zcores, .ref zlocks, .ref zbells, .ref ztasks, .ref zops, .ref zopSort, .ref zopNumber, .ref zkind, .ref zevery, .ref zbudget, .ref zshareTold, .ref zfirstOp, .ref zopMany, .ref zisCores, .ref zisLocks, .ref zisBells, .ref ztName, .int nbank, .int nrb, .ref zall, .ref zrows, .ref zpicked, .ref zpileTask, .ref zpileLock, .int npiled, .ref zwas, .ref zbehind, .ref zriskRow, .ref zriskBest, .int nriskMany, .ref zcTick, .ref zcProcessor, .ref zcTask, .int ntoldMany, .ref zgTick, .ref zgTask, .ref zgTold, .ref zgUntold, .ref zgRan, .int nsights, .int ntime, .ref zboxAll, .ref zboxRows, .ref zisBoxed])), (zbehind, .inl (ca 1, 6, .inl (fun _ => 0))), (zriskRow, .inl (ca 1, 8, .inl fr))]) (QI (fun (r : Int32) (u : (Nat → Int32)) => r = 0) (fun (u : (Nat → Int32)) => [(h0, .inr (11, [.ref ztape, .ref ztext, .int ntaped, .int nsize, .int nfaultKind, .int nfaultPlace, .int nat, .int nend, .int ntoken, .int nnumber, .long nname, .ref zcores, .ref zlocks, .ref zbells, .ref ztasks, .ref zops, .ref zopSort, .ref zopNumber, .ref zkind, .ref zevery, .ref zbudget, .ref zshareTold, .ref zfirstOp, .ref zopMany, .ref zisCores, .ref zisLocks, .ref zisBells, .ref ztName, .int nbank, .int nrb, .ref zall, .ref zrows, .ref zpicked, .ref zpileTask, .ref zpileLock, .int npiled, .ref zwas, .ref zbehind, .ref zriskRow, .ref zriskBest, .int nriskMany, .ref zcTick, .ref zcProcessor, .ref zcTask, .int ntoldMany, .ref zgTick, .ref zgTask, .ref zgTold, .ref zgUntold, .ref zgRan, .int nsights, .int ntime, .ref zboxAll, .ref zboxRows, .ref zisBoxed])), (zbehind, .inl (ca 1, 6, .inl (fun _ => 0))), (zriskRow, .inl (ca 1, 8, .inl u))]) [(h0, .inr (11, [.ref ztape, .ref ztext, .int ntaped, .int nsize, .int nfaultKind, .int nfaultPlace, .int nat, .int nend, .int ntoken, .int nnumber, .long nname, .ref zcores, .ref zlocks, .ref zbells, .ref ztasks, .ref zops, .ref zopSort, .ref zopNumber, .ref zkind, .ref zevery, .ref zbudget, .ref zshareTold, .ref zfirstOp, .ref zopMany, .ref zisCores, .ref zisLocks, .ref zisBells, .ref ztName, .int nbank, .int nrb, .ref zall, .ref zrows, .ref zpicked, .ref zpileTask, .ref zpileLock, .int npiled, .ref zwas, .ref zbehind, .ref zriskRow, .ref zriskBest, .int nriskMany, .ref zcTick, .ref zcProcessor, .ref zcTask, .int ntoldMany, .ref zgTick, .ref zgTask, .ref zgTold, .ref zgUntold, .ref zgRan, .int nsights, .int ntime, .ref zboxAll, .ref zboxRows, .ref zisBoxed])), (zbehind, .inl (ca 1, 6, .inl (fun _ => 0))), (zriskRow, .inl (ca 1, 8, .inl fr))] sz D) 0 0 (va_A [(h0, .inr (11, [.ref ztape, .ref ztext, .int ntaped, .int nsize, .int nfaultKind, .int nfaultPlace, .int nat, .int nend, .int ntoken, .int nnumber, .long nname, .ref zcores, .ref zlocks, .ref zbells, .ref ztasks, .ref zops, .ref zopSort, .ref zopNumber, .ref zkind, .ref zevery, .ref zbudget, .ref zshareTold, .ref zfirstOp, .ref zopMany, .ref zisCores, .ref zisLocks, .ref zisBells, .ref ztName, .int nbank, .int nrb, .ref zall, .ref zrows, .ref zpicked, .ref zpileTask, .ref zpileLock, .int npiled, .ref zwas, .ref zbehind, .ref zriskRow, .ref zriskBest, .int nriskMany, .ref zcTick, .ref zcProcessor, .ref zcTask, .int ntoldMany, .ref zgTick, .ref zgTask, .ref zgTold, .ref zgUntold, .ref zgRan, .int nsights, .int ntime, .ref zboxAll, .ref zboxRows, .ref zisBoxed])), (zbehind, .inl (ca 1, 6, .inl (fun _ => 0))), (zriskRow, .inl (ca 1, 8, .inl fr))] sz) := by
  refine Met.ofW (cc := cX11_findRound) (maxL := 5) (ret := (some .boolean)) (by decide +kernel) rfl ?_
  intro p e s m args below meth c s₁ B hml hv
  obtain ⟨rfl, hsz, hP, hC, hD0⟩ := hv
  have hx := B.exec
  have hb := B.bytes
  have hr := B.returns
  have hts := atoms_spec (ws := wsX11_findRound) B.pre
  have hown : s.vm.findClass RX11 = some m.cls := findClass_of_methodNamed B.named
  have hlocks := B.notSynchronized
  subst hsz
  have hD := hD0.self (sz := s.heap.size)
  dsimp only [QV, QI, QL, BQ]
  generalize hAe : va_A [(h0, .inr (11, [.ref ztape, .ref ztext, .int ntaped, .int nsize, .int nfaultKind, .int nfaultPlace, .int nat, .int nend, .int ntoken, .int nnumber, .long nname, .ref zcores, .ref zlocks, .ref zbells, .ref ztasks, .ref zops, .ref zopSort, .ref zopNumber, .ref zkind, .ref zevery, .ref zbudget, .ref zshareTold, .ref zfirstOp, .ref zopMany, .ref zisCores, .ref zisLocks, .ref zisBells, .ref ztName, .int nbank, .int nrb, .ref zall, .ref zrows, .ref zpicked, .ref zpileTask, .ref zpileLock, .int npiled, .ref zwas, .ref zbehind, .ref zriskRow, .ref zriskBest, .int nriskMany, .ref zcTick, .ref zcProcessor, .ref zcTask, .int ntoldMany, .ref zgTick, .ref zgTask, .ref zgTold, .ref zgUntold, .ref zgRan, .int nsights, .int ntime, .ref zboxAll, .ref zboxRows, .ref zisBoxed])), (zbehind, .inl (ca 1, 6, .inl (fun _ => 0))), (zriskRow, .inl (ca 1, 8, .inl fr))] s.heap.size = A at hD ⊢
  have hA : ∀ q : Nat, s.heap.size ≤ q → A q := fun q h => by rw [← hAe]; exact Or.inr h
  have hDA : ∀ {w : va_W}, va_D A w → va_D (va_A [(h0, .inr (11, [.ref ztape, .ref ztext, .int ntaped, .int nsize, .int nfaultKind, .int nfaultPlace, .int nat, .int nend, .int ntoken, .int nnumber, .long nname, .ref zcores, .ref zlocks, .ref zbells, .ref ztasks, .ref zops, .ref zopSort, .ref zopNumber, .ref zkind, .ref zevery, .ref zbudget, .ref zshareTold, .ref zfirstOp, .ref zopMany, .ref zisCores, .ref zisLocks, .ref zisBells, .ref ztName, .int nbank, .int nrb, .ref zall, .ref zrows, .ref zpicked, .ref zpileTask, .ref zpileLock, .int npiled, .ref zwas, .ref zbehind, .ref zriskRow, .ref zriskBest, .int nriskMany, .ref zcTick, .ref zcProcessor, .ref zcTask, .int ntoldMany, .ref zgTick, .ref zgTask, .ref zgTold, .ref zgUntold, .ref zgRan, .int nsights, .int ntime, .ref zboxAll, .ref zboxRows, .ref zisBoxed])), (zbehind, .inl (ca 1, 6, .inl (fun _ => 0))), (zriskRow, .inl (ca 1, 8, .inl fr))] s.heap.size) w := fun h => by rw [hAe]; exact h
  have hS : va_S A s.heap s.heap [] := va_S.rf
  have hP : va_P D vwCl [(h0, .inr (11, [.ref ztape, .ref ztext, .int ntaped, .int nsize, .int nfaultKind, .int nfaultPlace, .int nat, .int nend, .int ntoken, .int nnumber, .long nname, .ref zcores, .ref zlocks, .ref zbells, .ref ztasks, .ref zops, .ref zopSort, .ref zopNumber, .ref zkind, .ref zevery, .ref zbudget, .ref zshareTold, .ref zfirstOp, .ref zopMany, .ref zisCores, .ref zisLocks, .ref zisBells, .ref ztName, .int nbank, .int nrb, .ref zall, .ref zrows, .ref zpicked, .ref zpileTask, .ref zpileLock, .int npiled, .ref zwas, .ref zbehind, .ref zriskRow, .ref zriskBest, .int nriskMany, .ref zcTick, .ref zcProcessor, .ref zcTask, .int ntoldMany, .ref zgTick, .ref zgTask, .ref zgTold, .ref zgUntold, .ref zgRan, .int nsights, .int ntime, .ref zboxAll, .ref zboxRows, .ref zisBoxed])), (zbehind, .inl (ca 1, 6, .inl (fun _ => 0))), (zriskRow, .inl (ca 1, 8, .inl fr))] s.heap := hP
  have hl := lv_entry ([.ref h0, .int (nI k), .int x2]) (n := 5) (Nat.le_of_ble_eq_true rfl)
  rw [lg_entry_eq]
  generalize (lg_sl ([.ref h0, .int (nI k), .int x2]) ++ List.replicate (5 - (lg_sl ([.ref h0, .int (nI k), .int x2])).length) Slot.unset).toArray = ls at hl ⊢
  have hl : lv_has ls 5 [(0, .ref h0), (1, .int (nI k)), (2, .int x2)] := hl
  refine lv_iconst (v := 1) hx hb dX11_findRound_0 (by decide +kernel) ?_
  refine lv_istore_n (lv' := [(3, .int 1), (0, .ref h0), (1, .int (nI k)), (2, .int x2)]) hx hb dX11_findRound_1 rfl hl (by decide +kernel) rfl (fun ls hl => ?_)
  refine lv_aload_n hx hb dX11_findRound_2 rfl (lv_at hl 1 rfl) ?_
  refine va_get (D := D) (ci := 11) (v := .ref zriskRow) (C := RX11) (T := TX11) (N := 55) hx hb hts iw_X11_findRound_11 hown hC.1 hP 0 rfl rfl 38 (by decide +kernel) (hts (.fieldLink RX11 95 "FairWheelModel" "riskRow" "[I") (by decide +kernel)) (fun _ h9 => h9) rfl dX11_findRound_3 ?_
  refine lv_iconst (v := 0) hx hb dX11_findRound_6 (by decide +kernel) ?_
  refine lv_iload_n hx hb dX11_findRound_7 rfl (lv_at hl 2 rfl) ?_
  refine ka_iast hx hb hC.1 hP hD hS 2 1 rfl rfl 0 rfl (by decide +kernel) (by decide +kernel) dX11_findRound_8 (fun H locs hP hD hS => ?_)
  have hP : va_P D vwCl [(h0, .inr (11, [.ref ztape, .ref ztext, .int ntaped, .int nsize, .int nfaultKind, .int nfaultPlace, .int nat, .int nend, .int ntoken, .int nnumber, .long nname, .ref zcores, .ref zlocks, .ref zbells, .ref ztasks, .ref zops, .ref zopSort, .ref zopNumber, .ref zkind, .ref zevery, .ref zbudget, .ref zshareTold, .ref zfirstOp, .ref zopMany, .ref zisCores, .ref zisLocks, .ref zisBells, .ref ztName, .int nbank, .int nrb, .ref zall, .ref zrows, .ref zpicked, .ref zpileTask, .ref zpileLock, .int npiled, .ref zwas, .ref zbehind, .ref zriskRow, .ref zriskBest, .int nriskMany, .ref zcTick, .ref zcProcessor, .ref zcTask, .int ntoldMany, .ref zgTick, .ref zgTask, .ref zgTold, .ref zgUntold, .ref zgRan, .int nsights, .int ntime, .ref zboxAll, .ref zboxRows, .ref zisBoxed])), (zbehind, .inl (ca 1, 6, .inl (fun _ => 0))), (zriskRow, .inl (ca 1, 8, .inl (upd fr 0 (nI k))))] H := hP
  have hD : va_D A [(h0, .inr (11, [.ref ztape, .ref ztext, .int ntaped, .int nsize, .int nfaultKind, .int nfaultPlace, .int nat, .int nend, .int ntoken, .int nnumber, .long nname, .ref zcores, .ref zlocks, .ref zbells, .ref ztasks, .ref zops, .ref zopSort, .ref zopNumber, .ref zkind, .ref zevery, .ref zbudget, .ref zshareTold, .ref zfirstOp, .ref zopMany, .ref zisCores, .ref zisLocks, .ref zisBells, .ref ztName, .int nbank, .int nrb, .ref zall, .ref zrows, .ref zpicked, .ref zpileTask, .ref zpileLock, .int npiled, .ref zwas, .ref zbehind, .ref zriskRow, .ref zriskBest, .int nriskMany, .ref zcTick, .ref zcProcessor, .ref zcTask, .int ntoldMany, .ref zgTick, .ref zgTask, .ref zgTold, .ref zgUntold, .ref zgRan, .int nsights, .int ntime, .ref zboxAll, .ref zboxRows, .ref zisBoxed])), (zbehind, .inl (ca 1, 6, .inl (fun _ => 0))), (zriskRow, .inl (ca 1, 8, .inl (upd fr 0 (nI k))))] := hD
  refine lv_aload_n hx hb dX11_findRound_9 rfl (lv_at hl 1 rfl) ?_
  refine va_get (D := D) (ci := 11) (v := .ref zriskRow) (C := RX11) (T := TX11) (N := 55) hx hb hts iw_X11_findRound_11 hown hC.1 hP 0 rfl rfl 38 (by decide +kernel) (hts (.fieldLink RX11 95 "FairWheelModel" "riskRow" "[I") (by decide +kernel)) (fun _ h9 => h9) rfl dX11_findRound_10 ?_
  refine lv_iconst (v := 1) hx hb dX11_findRound_13 (by decide +kernel) ?_
  refine lv_iconst (v := (-1)) hx hb dX11_findRound_14 (by decide +kernel) ?_
  refine ka_iast hx hb hC.1 hP hD hS 2 1 rfl rfl 1 rfl (by decide +kernel) (by decide +kernel) dX11_findRound_15 (fun H locs hP hD hS => ?_)
  have hP : va_P D vwCl [(h0, .inr (11, [.ref ztape, .ref ztext, .int ntaped, .int nsize, .int nfaultKind, .int nfaultPlace, .int nat, .int nend, .int ntoken, .int nnumber, .long nname, .ref zcores, .ref zlocks, .ref zbells, .ref ztasks, .ref zops, .ref zopSort, .ref zopNumber, .ref zkind, .ref zevery, .ref zbudget, .ref zshareTold, .ref zfirstOp, .ref zopMany, .ref zisCores, .ref zisLocks, .ref zisBells, .ref ztName, .int nbank, .int nrb, .ref zall, .ref zrows, .ref zpicked, .ref zpileTask, .ref zpileLock, .int npiled, .ref zwas, .ref zbehind, .ref zriskRow, .ref zriskBest, .int nriskMany, .ref zcTick, .ref zcProcessor, .ref zcTask, .int ntoldMany, .ref zgTick, .ref zgTask, .ref zgTold, .ref zgUntold, .ref zgRan, .int nsights, .int ntime, .ref zboxAll, .ref zboxRows, .ref zisBoxed])), (zbehind, .inl (ca 1, 6, .inl (fun _ => 0))), (zriskRow, .inl (ca 1, 8, .inl (upd (upd fr 0 (nI k)) 1 (-1))))] H := hP
  have hD : va_D A [(h0, .inr (11, [.ref ztape, .ref ztext, .int ntaped, .int nsize, .int nfaultKind, .int nfaultPlace, .int nat, .int nend, .int ntoken, .int nnumber, .long nname, .ref zcores, .ref zlocks, .ref zbells, .ref ztasks, .ref zops, .ref zopSort, .ref zopNumber, .ref zkind, .ref zevery, .ref zbudget, .ref zshareTold, .ref zfirstOp, .ref zopMany, .ref zisCores, .ref zisLocks, .ref zisBells, .ref ztName, .int nbank, .int nrb, .ref zall, .ref zrows, .ref zpicked, .ref zpileTask, .ref zpileLock, .int npiled, .ref zwas, .ref zbehind, .ref zriskRow, .ref zriskBest, .int nriskMany, .ref zcTick, .ref zcProcessor, .ref zcTask, .int ntoldMany, .ref zgTick, .ref zgTask, .ref zgTold, .ref zgUntold, .ref zgRan, .int nsights, .int ntime, .ref zboxAll, .ref zboxRows, .ref zisBoxed])), (zbehind, .inl (ca 1, 6, .inl (fun _ => 0))), (zriskRow, .inl (ca 1, 8, .inl (upd (upd fr 0 (nI k)) 1 (-1))))] := hD
  refine lv_iload_n hx hb dX11_findRound_16 rfl (lv_at hl 3 rfl) ?_
  refine lv_iconst (v := 1) hx hb dX11_findRound_17 (by decide +kernel) ?_
  refine lv_icmp_ne (tgt := 41) hx hb dX11_findRound_18 (by decide +kernel) (fun c_1 => ?_) (fun c_1 => ?_)
  · refine lv_iload_n hx hb dX11_findRound_41 rfl (lv_at hl 0 rfl) ?_
    refine lv_if_le (tgt := 147) hx hb dX11_findRound_42 (by decide +kernel) (fun c_2 => absurd c_2 (by decide +kernel)) (fun c_2 => ?_)
    refine lv_aload_n hx hb dX11_findRound_45 rfl (lv_at hl 1 rfl) ?_
    refine va_get (D := D) (ci := 11) (v := .ref zriskRow) (C := RX11) (T := TX11) (N := 55) hx hb hts iw_X11_findRound_11 hown hC.1 hP 0 rfl rfl 38 (by decide +kernel) (hts (.fieldLink RX11 95 "FairWheelModel" "riskRow" "[I") (by decide +kernel)) (fun _ h9 => h9) rfl dX11_findRound_46 ?_
    refine lv_iload_n hx hb dX11_findRound_49 rfl (lv_at hl 0 rfl) ?_
    refine ka_iald hx hb hC.1 hP 2 1 rfl rfl 1 rfl (by decide +kernel) (by decide +kernel) dX11_findRound_50 ?_
    refine nt_i (-1) rfl ?_
    refine lv_iconst (v := 1) hx hb dX11_findRound_51 (by decide +kernel) ?_
    refine lv_iadd hx hb dX11_findRound_52 ?_
    refine nt_i 0 (by decide +kernel) ?_
    refine lv_istore (lv' := [(4, .int 0), (3, .int 1), (0, .ref h0), (1, .int (nI k)), (2, .int x2)]) hx hb dX11_findRound_53 hl (by decide +kernel) rfl (fun ls hl => ?_)
    refine lv_iload hx hb dX11_findRound_55 (lv_at hl 0 rfl) ?_
    refine lv_bipush (v := 6) hx hb dX11_findRound_57 (by decide +kernel) ?_
    refine lv_icmp_ge (tgt := 89) hx hb dX11_findRound_59 (by decide +kernel) (fun c_3 => absurd c_3 (by decide +kernel)) (fun c_3 => ?_)
    refine lv_aload_n hx hb dX11_findRound_62 rfl (lv_at hl 2 rfl) ?_
    refine va_get (D := D) (ci := 11) (v := .ref zbehind) (C := RX11) (T := TX11) (N := 55) hx hb hts iw_X11_findRound_11 hown hC.1 hP 0 rfl rfl 37 (by decide +kernel) (hts (.fieldLink RX11 92 "FairWheelModel" "behind" "[I") (by decide +kernel)) (fun _ h9 => h9) rfl dX11_findRound_63 ?_
    refine lv_aload_n hx hb dX11_findRound_66 rfl (lv_at hl 2 rfl) ?_
    refine va_get (D := D) (ci := 11) (v := .ref zriskRow) (C := RX11) (T := TX11) (N := 55) hx hb hts iw_X11_findRound_11 hown hC.1 hP 0 rfl rfl 38 (by decide +kernel) (hts (.fieldLink RX11 95 "FairWheelModel" "riskRow" "[I") (by decide +kernel)) (fun _ h9 => h9) rfl dX11_findRound_67 ?_
    refine lv_iload_n hx hb dX11_findRound_70 rfl (lv_at hl 1 rfl) ?_
    refine lv_iconst (v := 1) hx hb dX11_findRound_71 (by decide +kernel) ?_
    refine lv_isub hx hb dX11_findRound_72 ?_
    refine nt_i 0 (by decide +kernel) ?_
    refine ka_iald hx hb hC.1 hP 2 1 rfl rfl 0 rfl (by decide +kernel) (by decide +kernel) dX11_findRound_73 ?_
    refine nt_i (nI k) rfl ?_
    refine ka_iald hx hb hC.1 hP 1 1 rfl rfl k rfl (by omega) (by decide +kernel) dX11_findRound_74 ?_
    refine nt_i 0 rfl ?_
    refine lv_iload hx hb dX11_findRound_75 (lv_at hl 0 rfl) ?_
    refine lv_ishr hx hb dX11_findRound_77 ?_
    refine nt_i 0 (by decide +kernel) ?_
    refine lv_iconst (v := 1) hx hb dX11_findRound_78 (by decide +kernel) ?_
    refine lv_iand hx hb dX11_findRound_79 ?_
    refine nt_i 0 (by decide +kernel) ?_
    refine lv_if_ne (tgt := 89) hx hb dX11_findRound_80 (by decide +kernel) (fun c_4 => absurd (by decide +kernel) c_4) (fun c_4 => ?_)
    refine lv_iinc (v := 1) (lv' := [(4, .int 1), (3, .int 1), (0, .ref h0), (1, .int (nI k)), (2, .int x2)]) hx hb dX11_findRound_83 hl (k := 0) rfl (by decide +kernel) (by decide +kernel) rfl (fun ls hl => ?_)
    refine lv_goto (tgt := 55) hx hb dX11_findRound_86 (by decide +kernel) ?_
    refine lv_iload hx hb dX11_findRound_55 (lv_at hl 0 rfl) ?_
    refine lv_bipush (v := 6) hx hb dX11_findRound_57 (by decide +kernel) ?_
    refine lv_icmp_ge (tgt := 89) hx hb dX11_findRound_59 (by decide +kernel) (fun c_5 => absurd c_5 (by decide +kernel)) (fun c_5 => ?_)
    refine lv_aload_n hx hb dX11_findRound_62 rfl (lv_at hl 2 rfl) ?_
    refine va_get (D := D) (ci := 11) (v := .ref zbehind) (C := RX11) (T := TX11) (N := 55) hx hb hts iw_X11_findRound_11 hown hC.1 hP 0 rfl rfl 37 (by decide +kernel) (hts (.fieldLink RX11 92 "FairWheelModel" "behind" "[I") (by decide +kernel)) (fun _ h9 => h9) rfl dX11_findRound_63 ?_
    refine lv_aload_n hx hb dX11_findRound_66 rfl (lv_at hl 2 rfl) ?_
    refine va_get (D := D) (ci := 11) (v := .ref zriskRow) (C := RX11) (T := TX11) (N := 55) hx hb hts iw_X11_findRound_11 hown hC.1 hP 0 rfl rfl 38 (by decide +kernel) (hts (.fieldLink RX11 95 "FairWheelModel" "riskRow" "[I") (by decide +kernel)) (fun _ h9 => h9) rfl dX11_findRound_67 ?_
    refine lv_iload_n hx hb dX11_findRound_70 rfl (lv_at hl 1 rfl) ?_
    refine lv_iconst (v := 1) hx hb dX11_findRound_71 (by decide +kernel) ?_
    refine lv_isub hx hb dX11_findRound_72 ?_
    refine nt_i 0 (by decide +kernel) ?_
    refine ka_iald hx hb hC.1 hP 2 1 rfl rfl 0 rfl (by decide +kernel) (by decide +kernel) dX11_findRound_73 ?_
    refine nt_i (nI k) rfl ?_
    refine ka_iald hx hb hC.1 hP 1 1 rfl rfl k rfl (by omega) (by decide +kernel) dX11_findRound_74 ?_
    refine nt_i 0 rfl ?_
    refine lv_iload hx hb dX11_findRound_75 (lv_at hl 0 rfl) ?_
    refine lv_ishr hx hb dX11_findRound_77 ?_
    refine nt_i 0 (by decide +kernel) ?_
    refine lv_iconst (v := 1) hx hb dX11_findRound_78 (by decide +kernel) ?_
    refine lv_iand hx hb dX11_findRound_79 ?_
    refine nt_i 0 (by decide +kernel) ?_
    refine lv_if_ne (tgt := 89) hx hb dX11_findRound_80 (by decide +kernel) (fun c_6 => absurd (by decide +kernel) c_6) (fun c_6 => ?_)
    refine lv_iinc (v := 2) (lv' := [(4, .int 2), (3, .int 1), (0, .ref h0), (1, .int (nI k)), (2, .int x2)]) hx hb dX11_findRound_83 hl (k := 0) rfl (by decide +kernel) (by decide +kernel) rfl (fun ls hl => ?_)
    refine lv_goto (tgt := 55) hx hb dX11_findRound_86 (by decide +kernel) ?_
    refine lv_iload hx hb dX11_findRound_55 (lv_at hl 0 rfl) ?_
    refine lv_bipush (v := 6) hx hb dX11_findRound_57 (by decide +kernel) ?_
    refine lv_icmp_ge (tgt := 89) hx hb dX11_findRound_59 (by decide +kernel) (fun c_7 => absurd c_7 (by decide +kernel)) (fun c_7 => ?_)
    refine lv_aload_n hx hb dX11_findRound_62 rfl (lv_at hl 2 rfl) ?_
    refine va_get (D := D) (ci := 11) (v := .ref zbehind) (C := RX11) (T := TX11) (N := 55) hx hb hts iw_X11_findRound_11 hown hC.1 hP 0 rfl rfl 37 (by decide +kernel) (hts (.fieldLink RX11 92 "FairWheelModel" "behind" "[I") (by decide +kernel)) (fun _ h9 => h9) rfl dX11_findRound_63 ?_
    refine lv_aload_n hx hb dX11_findRound_66 rfl (lv_at hl 2 rfl) ?_
    refine va_get (D := D) (ci := 11) (v := .ref zriskRow) (C := RX11) (T := TX11) (N := 55) hx hb hts iw_X11_findRound_11 hown hC.1 hP 0 rfl rfl 38 (by decide +kernel) (hts (.fieldLink RX11 95 "FairWheelModel" "riskRow" "[I") (by decide +kernel)) (fun _ h9 => h9) rfl dX11_findRound_67 ?_
    refine lv_iload_n hx hb dX11_findRound_70 rfl (lv_at hl 1 rfl) ?_
    refine lv_iconst (v := 1) hx hb dX11_findRound_71 (by decide +kernel) ?_
    refine lv_isub hx hb dX11_findRound_72 ?_
    refine nt_i 0 (by decide +kernel) ?_
    refine ka_iald hx hb hC.1 hP 2 1 rfl rfl 0 rfl (by decide +kernel) (by decide +kernel) dX11_findRound_73 ?_
    refine nt_i (nI k) rfl ?_
    refine ka_iald hx hb hC.1 hP 1 1 rfl rfl k rfl (by omega) (by decide +kernel) dX11_findRound_74 ?_
    refine nt_i 0 rfl ?_
    refine lv_iload hx hb dX11_findRound_75 (lv_at hl 0 rfl) ?_
    refine lv_ishr hx hb dX11_findRound_77 ?_
    refine nt_i 0 (by decide +kernel) ?_
    refine lv_iconst (v := 1) hx hb dX11_findRound_78 (by decide +kernel) ?_
    refine lv_iand hx hb dX11_findRound_79 ?_
    refine nt_i 0 (by decide +kernel) ?_
    refine lv_if_ne (tgt := 89) hx hb dX11_findRound_80 (by decide +kernel) (fun c_8 => absurd (by decide +kernel) c_8) (fun c_8 => ?_)
    refine lv_iinc (v := 3) (lv' := [(4, .int 3), (3, .int 1), (0, .ref h0), (1, .int (nI k)), (2, .int x2)]) hx hb dX11_findRound_83 hl (k := 0) rfl (by decide +kernel) (by decide +kernel) rfl (fun ls hl => ?_)
    refine lv_goto (tgt := 55) hx hb dX11_findRound_86 (by decide +kernel) ?_
    refine lv_iload hx hb dX11_findRound_55 (lv_at hl 0 rfl) ?_
    refine lv_bipush (v := 6) hx hb dX11_findRound_57 (by decide +kernel) ?_
    refine lv_icmp_ge (tgt := 89) hx hb dX11_findRound_59 (by decide +kernel) (fun c_9 => absurd c_9 (by decide +kernel)) (fun c_9 => ?_)
    refine lv_aload_n hx hb dX11_findRound_62 rfl (lv_at hl 2 rfl) ?_
    refine va_get (D := D) (ci := 11) (v := .ref zbehind) (C := RX11) (T := TX11) (N := 55) hx hb hts iw_X11_findRound_11 hown hC.1 hP 0 rfl rfl 37 (by decide +kernel) (hts (.fieldLink RX11 92 "FairWheelModel" "behind" "[I") (by decide +kernel)) (fun _ h9 => h9) rfl dX11_findRound_63 ?_
    refine lv_aload_n hx hb dX11_findRound_66 rfl (lv_at hl 2 rfl) ?_
    refine va_get (D := D) (ci := 11) (v := .ref zriskRow) (C := RX11) (T := TX11) (N := 55) hx hb hts iw_X11_findRound_11 hown hC.1 hP 0 rfl rfl 38 (by decide +kernel) (hts (.fieldLink RX11 95 "FairWheelModel" "riskRow" "[I") (by decide +kernel)) (fun _ h9 => h9) rfl dX11_findRound_67 ?_
    refine lv_iload_n hx hb dX11_findRound_70 rfl (lv_at hl 1 rfl) ?_
    refine lv_iconst (v := 1) hx hb dX11_findRound_71 (by decide +kernel) ?_
    refine lv_isub hx hb dX11_findRound_72 ?_
    refine nt_i 0 (by decide +kernel) ?_
    refine ka_iald hx hb hC.1 hP 2 1 rfl rfl 0 rfl (by decide +kernel) (by decide +kernel) dX11_findRound_73 ?_
    refine nt_i (nI k) rfl ?_
    refine ka_iald hx hb hC.1 hP 1 1 rfl rfl k rfl (by omega) (by decide +kernel) dX11_findRound_74 ?_
    refine nt_i 0 rfl ?_
    refine lv_iload hx hb dX11_findRound_75 (lv_at hl 0 rfl) ?_
    refine lv_ishr hx hb dX11_findRound_77 ?_
    refine nt_i 0 (by decide +kernel) ?_
    refine lv_iconst (v := 1) hx hb dX11_findRound_78 (by decide +kernel) ?_
    refine lv_iand hx hb dX11_findRound_79 ?_
    refine nt_i 0 (by decide +kernel) ?_
    refine lv_if_ne (tgt := 89) hx hb dX11_findRound_80 (by decide +kernel) (fun c_10 => absurd (by decide +kernel) c_10) (fun c_10 => ?_)
    refine lv_iinc (v := 4) (lv' := [(4, .int 4), (3, .int 1), (0, .ref h0), (1, .int (nI k)), (2, .int x2)]) hx hb dX11_findRound_83 hl (k := 0) rfl (by decide +kernel) (by decide +kernel) rfl (fun ls hl => ?_)
    refine lv_goto (tgt := 55) hx hb dX11_findRound_86 (by decide +kernel) ?_
    refine lv_iload hx hb dX11_findRound_55 (lv_at hl 0 rfl) ?_
    refine lv_bipush (v := 6) hx hb dX11_findRound_57 (by decide +kernel) ?_
    refine lv_icmp_ge (tgt := 89) hx hb dX11_findRound_59 (by decide +kernel) (fun c_11 => absurd c_11 (by decide +kernel)) (fun c_11 => ?_)
    refine lv_aload_n hx hb dX11_findRound_62 rfl (lv_at hl 2 rfl) ?_
    refine va_get (D := D) (ci := 11) (v := .ref zbehind) (C := RX11) (T := TX11) (N := 55) hx hb hts iw_X11_findRound_11 hown hC.1 hP 0 rfl rfl 37 (by decide +kernel) (hts (.fieldLink RX11 92 "FairWheelModel" "behind" "[I") (by decide +kernel)) (fun _ h9 => h9) rfl dX11_findRound_63 ?_
    refine lv_aload_n hx hb dX11_findRound_66 rfl (lv_at hl 2 rfl) ?_
    refine va_get (D := D) (ci := 11) (v := .ref zriskRow) (C := RX11) (T := TX11) (N := 55) hx hb hts iw_X11_findRound_11 hown hC.1 hP 0 rfl rfl 38 (by decide +kernel) (hts (.fieldLink RX11 95 "FairWheelModel" "riskRow" "[I") (by decide +kernel)) (fun _ h9 => h9) rfl dX11_findRound_67 ?_
    refine lv_iload_n hx hb dX11_findRound_70 rfl (lv_at hl 1 rfl) ?_
    refine lv_iconst (v := 1) hx hb dX11_findRound_71 (by decide +kernel) ?_
    refine lv_isub hx hb dX11_findRound_72 ?_
    refine nt_i 0 (by decide +kernel) ?_
    refine ka_iald hx hb hC.1 hP 2 1 rfl rfl 0 rfl (by decide +kernel) (by decide +kernel) dX11_findRound_73 ?_
    refine nt_i (nI k) rfl ?_
    refine ka_iald hx hb hC.1 hP 1 1 rfl rfl k rfl (by omega) (by decide +kernel) dX11_findRound_74 ?_
    refine nt_i 0 rfl ?_
    refine lv_iload hx hb dX11_findRound_75 (lv_at hl 0 rfl) ?_
    refine lv_ishr hx hb dX11_findRound_77 ?_
    refine nt_i 0 (by decide +kernel) ?_
    refine lv_iconst (v := 1) hx hb dX11_findRound_78 (by decide +kernel) ?_
    refine lv_iand hx hb dX11_findRound_79 ?_
    refine nt_i 0 (by decide +kernel) ?_
    refine lv_if_ne (tgt := 89) hx hb dX11_findRound_80 (by decide +kernel) (fun c_12 => absurd (by decide +kernel) c_12) (fun c_12 => ?_)
    refine lv_iinc (v := 5) (lv' := [(4, .int 5), (3, .int 1), (0, .ref h0), (1, .int (nI k)), (2, .int x2)]) hx hb dX11_findRound_83 hl (k := 0) rfl (by decide +kernel) (by decide +kernel) rfl (fun ls hl => ?_)
    refine lv_goto (tgt := 55) hx hb dX11_findRound_86 (by decide +kernel) ?_
    refine lv_iload hx hb dX11_findRound_55 (lv_at hl 0 rfl) ?_
    refine lv_bipush (v := 6) hx hb dX11_findRound_57 (by decide +kernel) ?_
    refine lv_icmp_ge (tgt := 89) hx hb dX11_findRound_59 (by decide +kernel) (fun c_13 => absurd c_13 (by decide +kernel)) (fun c_13 => ?_)
    refine lv_aload_n hx hb dX11_findRound_62 rfl (lv_at hl 2 rfl) ?_
    refine va_get (D := D) (ci := 11) (v := .ref zbehind) (C := RX11) (T := TX11) (N := 55) hx hb hts iw_X11_findRound_11 hown hC.1 hP 0 rfl rfl 37 (by decide +kernel) (hts (.fieldLink RX11 92 "FairWheelModel" "behind" "[I") (by decide +kernel)) (fun _ h9 => h9) rfl dX11_findRound_63 ?_
    refine lv_aload_n hx hb dX11_findRound_66 rfl (lv_at hl 2 rfl) ?_
    refine va_get (D := D) (ci := 11) (v := .ref zriskRow) (C := RX11) (T := TX11) (N := 55) hx hb hts iw_X11_findRound_11 hown hC.1 hP 0 rfl rfl 38 (by decide +kernel) (hts (.fieldLink RX11 95 "FairWheelModel" "riskRow" "[I") (by decide +kernel)) (fun _ h9 => h9) rfl dX11_findRound_67 ?_
    refine lv_iload_n hx hb dX11_findRound_70 rfl (lv_at hl 1 rfl) ?_
    refine lv_iconst (v := 1) hx hb dX11_findRound_71 (by decide +kernel) ?_
    refine lv_isub hx hb dX11_findRound_72 ?_
    refine nt_i 0 (by decide +kernel) ?_
    refine ka_iald hx hb hC.1 hP 2 1 rfl rfl 0 rfl (by decide +kernel) (by decide +kernel) dX11_findRound_73 ?_
    refine nt_i (nI k) rfl ?_
    refine ka_iald hx hb hC.1 hP 1 1 rfl rfl k rfl (by omega) (by decide +kernel) dX11_findRound_74 ?_
    refine nt_i 0 rfl ?_
    refine lv_iload hx hb dX11_findRound_75 (lv_at hl 0 rfl) ?_
    refine lv_ishr hx hb dX11_findRound_77 ?_
    refine nt_i 0 (by decide +kernel) ?_
    refine lv_iconst (v := 1) hx hb dX11_findRound_78 (by decide +kernel) ?_
    refine lv_iand hx hb dX11_findRound_79 ?_
    refine nt_i 0 (by decide +kernel) ?_
    refine lv_if_ne (tgt := 89) hx hb dX11_findRound_80 (by decide +kernel) (fun c_14 => absurd (by decide +kernel) c_14) (fun c_14 => ?_)
    refine lv_iinc (v := 6) (lv' := [(4, .int 6), (3, .int 1), (0, .ref h0), (1, .int (nI k)), (2, .int x2)]) hx hb dX11_findRound_83 hl (k := 0) rfl (by decide +kernel) (by decide +kernel) rfl (fun ls hl => ?_)
    refine lv_goto (tgt := 55) hx hb dX11_findRound_86 (by decide +kernel) ?_
    refine lv_iload hx hb dX11_findRound_55 (lv_at hl 0 rfl) ?_
    refine lv_bipush (v := 6) hx hb dX11_findRound_57 (by decide +kernel) ?_
    refine lv_icmp_ge (tgt := 89) hx hb dX11_findRound_59 (by decide +kernel) (fun c_15 => ?_) (fun c_15 => absurd (by decide +kernel) c_15)
    refine lv_aload_n hx hb dX11_findRound_89 rfl (lv_at hl 2 rfl) ?_
    refine va_get (D := D) (ci := 11) (v := .ref zriskRow) (C := RX11) (T := TX11) (N := 55) hx hb hts iw_X11_findRound_11 hown hC.1 hP 0 rfl rfl 38 (by decide +kernel) (hts (.fieldLink RX11 95 "FairWheelModel" "riskRow" "[I") (by decide +kernel)) (fun _ h9 => h9) rfl dX11_findRound_90 ?_
    refine lv_iload_n hx hb dX11_findRound_93 rfl (lv_at hl 1 rfl) ?_
    refine lv_iload hx hb dX11_findRound_94 (lv_at hl 0 rfl) ?_
    refine ka_iast hx hb hC.1 hP hD hS 2 1 rfl rfl 1 rfl (by decide +kernel) (by decide +kernel) dX11_findRound_96 (fun H locs hP hD hS => ?_)
    have hP : va_P D vwCl [(h0, .inr (11, [.ref ztape, .ref ztext, .int ntaped, .int nsize, .int nfaultKind, .int nfaultPlace, .int nat, .int nend, .int ntoken, .int nnumber, .long nname, .ref zcores, .ref zlocks, .ref zbells, .ref ztasks, .ref zops, .ref zopSort, .ref zopNumber, .ref zkind, .ref zevery, .ref zbudget, .ref zshareTold, .ref zfirstOp, .ref zopMany, .ref zisCores, .ref zisLocks, .ref zisBells, .ref ztName, .int nbank, .int nrb, .ref zall, .ref zrows, .ref zpicked, .ref zpileTask, .ref zpileLock, .int npiled, .ref zwas, .ref zbehind, .ref zriskRow, .ref zriskBest, .int nriskMany, .ref zcTick, .ref zcProcessor, .ref zcTask, .int ntoldMany, .ref zgTick, .ref zgTask, .ref zgTold, .ref zgUntold, .ref zgRan, .int nsights, .int ntime, .ref zboxAll, .ref zboxRows, .ref zisBoxed])), (zbehind, .inl (ca 1, 6, .inl (fun _ => 0))), (zriskRow, .inl (ca 1, 8, .inl (upd (upd (upd fr 0 (nI k)) 1 (-1)) 1 6)))] H := hP
    have hD : va_D A [(h0, .inr (11, [.ref ztape, .ref ztext, .int ntaped, .int nsize, .int nfaultKind, .int nfaultPlace, .int nat, .int nend, .int ntoken, .int nnumber, .long nname, .ref zcores, .ref zlocks, .ref zbells, .ref ztasks, .ref zops, .ref zopSort, .ref zopNumber, .ref zkind, .ref zevery, .ref zbudget, .ref zshareTold, .ref zfirstOp, .ref zopMany, .ref zisCores, .ref zisLocks, .ref zisBells, .ref ztName, .int nbank, .int nrb, .ref zall, .ref zrows, .ref zpicked, .ref zpileTask, .ref zpileLock, .int npiled, .ref zwas, .ref zbehind, .ref zriskRow, .ref zriskBest, .int nriskMany, .ref zcTick, .ref zcProcessor, .ref zcTask, .int ntoldMany, .ref zgTick, .ref zgTask, .ref zgTold, .ref zgUntold, .ref zgRan, .int nsights, .int ntime, .ref zboxAll, .ref zboxRows, .ref zisBoxed])), (zbehind, .inl (ca 1, 6, .inl (fun _ => 0))), (zriskRow, .inl (ca 1, 8, .inl (upd (upd (upd fr 0 (nI k)) 1 (-1)) 1 6)))] := hD
    refine lv_iload hx hb dX11_findRound_97 (lv_at hl 0 rfl) ?_
    refine lv_bipush (v := 6) hx hb dX11_findRound_99 (by decide +kernel) ?_
    refine lv_icmp_ne (tgt := 110) hx hb dX11_findRound_101 (by decide +kernel) (fun c_16 => absurd (by decide +kernel) c_16) (fun c_16 => ?_)
    refine lv_iinc (v := 0) (lv' := [(3, .int 0), (4, .int 6), (0, .ref h0), (1, .int (nI k)), (2, .int x2)]) hx hb dX11_findRound_104 hl (k := 1) rfl (by decide +kernel) (by decide +kernel) rfl (fun ls hl => ?_)
    refine lv_goto (tgt := 144) hx hb dX11_findRound_107 (by decide +kernel) ?_
    refine lv_goto (tgt := 41) hx hb dX11_findRound_144 (by decide +kernel) ?_
    refine lv_iload_n hx hb dX11_findRound_41 rfl (lv_at hl 0 rfl) ?_
    refine lv_if_le (tgt := 147) hx hb dX11_findRound_42 (by decide +kernel) (fun c_17 => ?_) (fun c_17 => absurd (by decide +kernel) c_17)
    refine lv_iconst (v := 0) hx hb dX11_findRound_147 (by decide +kernel) ?_
    exact W.zret (v := 0) hx hb hr (rfl) (fun t ht hW => ⟨⟨0, (upd (upd (upd fr 0 (nI k)) 1 (-1)) 1 6), rfl, rfl, by rw [ht]; exact hP.sub [0, 1, 2] rfl, hDA (hD.sub [0, 1, 2] (by decide +kernel) rfl)⟩, hS.F ht⟩) hS.2.2 dX11_findRound_148
  · refine lv_aload_n hx hb dX11_findRound_21 rfl (lv_at hl 1 rfl) ?_
    refine va_get (D := D) (ci := 11) (v := .ref zbehind) (C := RX11) (T := TX11) (N := 55) hx hb hts iw_X11_findRound_11 hown hC.1 hP 0 rfl rfl 37 (by decide +kernel) (hts (.fieldLink RX11 92 "FairWheelModel" "behind" "[I") (by decide +kernel)) (fun _ h9 => h9) rfl dX11_findRound_22 ?_
    refine lv_iload_n hx hb dX11_findRound_25 rfl (lv_at hl 2 rfl) ?_
    refine ka_iald hx hb hC.1 hP 1 1 rfl rfl k rfl (by omega) (by decide +kernel) dX11_findRound_26 ?_
    refine nt_i 0 rfl ?_
    refine lv_iload_n hx hb dX11_findRound_27 rfl (lv_at hl 2 rfl) ?_
    refine lv_ishr hx hb dX11_findRound_28 ?_
    refine nt_i 0 (zsh2 (k := k) (by omega)) ?_
    refine lv_iconst (v := 1) hx hb dX11_findRound_29 (by decide +kernel) ?_
    refine lv_iand hx hb dX11_findRound_30 ?_
    refine nt_i 0 (by decide +kernel) ?_
    refine lv_iconst (v := 1) hx hb dX11_findRound_31 (by decide +kernel) ?_
    refine lv_icmp_ne (tgt := 39) hx hb dX11_findRound_32 (by decide +kernel) (fun c_18 => ?_) (fun c_18 => absurd c_18 (by decide +kernel))
    refine lv_iconst (v := 0) hx hb dX11_findRound_39 (by decide +kernel) ?_
    exact W.zret (v := 0) hx hb hr (rfl) (fun t ht hW => ⟨⟨0, (upd (upd fr 0 (nI k)) 1 (-1)), rfl, rfl, by rw [ht]; exact hP.sub [0, 1, 2] rfl, hDA (hD.sub [0, 1, 2] (by decide +kernel) rfl)⟩, hS.F ht⟩) hS.2.2 dX11_findRound_40
