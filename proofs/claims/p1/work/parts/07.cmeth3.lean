theorem dX9_copyFrom_0 : decode cX9_copyFrom 0 = .ok (.aload_n 0, 1) := by decide +kernel
theorem dX9_copyFrom_1 : decode cX9_copyFrom 1 = .ok (.aload_n 1, 1) := by decide +kernel
theorem dX9_copyFrom_2 : decode cX9_copyFrom 2 = .ok (.getfield 33, 3) := by decide +kernel
theorem dX9_copyFrom_5 : decode cX9_copyFrom 5 = .ok (.putfield 33, 3) := by decide +kernel
theorem dX9_copyFrom_8 : decode cX9_copyFrom 8 = .ok (.aload_n 0, 1) := by decide +kernel
theorem dX9_copyFrom_9 : decode cX9_copyFrom 9 = .ok (.aload_n 1, 1) := by decide +kernel
theorem dX9_copyFrom_10 : decode cX9_copyFrom 10 = .ok (.getfield 37, 3) := by decide +kernel
theorem dX9_copyFrom_13 : decode cX9_copyFrom 13 = .ok (.putfield 37, 3) := by decide +kernel
theorem dX9_copyFrom_16 : decode cX9_copyFrom 16 = .ok (.iconst 0, 1) := by decide +kernel
theorem dX9_copyFrom_17 : decode cX9_copyFrom 17 = .ok (.istore_n 2, 1) := by decide +kernel
theorem dX9_copyFrom_18 : decode cX9_copyFrom 18 = .ok (.iload_n 2, 1) := by decide +kernel
theorem dX9_copyFrom_19 : decode cX9_copyFrom 19 = .ok (.aload_n 0, 1) := by decide +kernel
theorem dX9_copyFrom_20 : decode cX9_copyFrom 20 = .ok (.getfield 33, 3) := by decide +kernel
theorem dX9_copyFrom_23 : decode cX9_copyFrom 23 = .ok (.getfield 41, 3) := by decide +kernel
theorem dX9_copyFrom_26 : decode cX9_copyFrom 26 = .ok (.if_icmp .ge 24, 3) := by decide +kernel
theorem dX9_copyFrom_50 : decode cX9_copyFrom 50 = .ok (.aload_n 1, 1) := by decide +kernel
theorem dX9_copyFrom_51 : decode cX9_copyFrom 51 = .ok (.getfield 17, 3) := by decide +kernel
theorem dX9_copyFrom_54 : decode cX9_copyFrom 54 = .ok (.iconst 0, 1) := by decide +kernel
theorem dX9_copyFrom_55 : decode cX9_copyFrom 55 = .ok (.aload_n 0, 1) := by decide +kernel
theorem dX9_copyFrom_56 : decode cX9_copyFrom 56 = .ok (.getfield 17, 3) := by decide +kernel
theorem dX9_copyFrom_59 : decode cX9_copyFrom 59 = .ok (.iconst 0, 1) := by decide +kernel
theorem dX9_copyFrom_60 : decode cX9_copyFrom 60 = .ok (.aload_n 0, 1) := by decide +kernel
theorem dX9_copyFrom_61 : decode cX9_copyFrom 61 = .ok (.getfield 17, 3) := by decide +kernel
theorem dX9_copyFrom_64 : decode cX9_copyFrom 64 = .ok (.arraylength, 1) := by decide +kernel
theorem dX9_copyFrom_65 : decode cX9_copyFrom 65 = .ok (.invokestatic 71, 3) := by decide +kernel
theorem dX9_copyFrom_68 : decode cX9_copyFrom 68 = .ok (.return_, 1) := by decide +kernel
theorem dX10_copyRows_0 : decode cX10_copyRows 0 = .ok (.aload_n 1, 1) := by decide +kernel
theorem dX10_copyRows_1 : decode cX10_copyRows 1 = .ok (.iconst 0, 1) := by decide +kernel
theorem dX10_copyRows_2 : decode cX10_copyRows 2 = .ok (.aload_n 2, 1) := by decide +kernel
theorem dX10_copyRows_3 : decode cX10_copyRows 3 = .ok (.iconst 0, 1) := by decide +kernel
theorem dX10_copyRows_4 : decode cX10_copyRows 4 = .ok (.aload_n 0, 1) := by decide +kernel
theorem dX10_copyRows_5 : decode cX10_copyRows 5 = .ok (.getfield 40, 3) := by decide +kernel
theorem dX10_copyRows_8 : decode cX10_copyRows 8 = .ok (.getfield 112, 3) := by decide +kernel
theorem dX10_copyRows_11 : decode cX10_copyRows 11 = .ok (.aload_n 1, 1) := by decide +kernel
theorem dX10_copyRows_12 : decode cX10_copyRows 12 = .ok (.arraylength, 1) := by decide +kernel
theorem dX10_copyRows_13 : decode cX10_copyRows 13 = .ok (.aload_n 2, 1) := by decide +kernel
theorem dX10_copyRows_14 : decode cX10_copyRows 14 = .ok (.arraylength, 1) := by decide +kernel
theorem dX10_copyRows_15 : decode cX10_copyRows 15 = .ok (.invokestatic 283, 3) := by decide +kernel
theorem dX10_copyRows_18 : decode cX10_copyRows 18 = .ok (.invokestatic 283, 3) := by decide +kernel
theorem dX10_copyRows_21 : decode cX10_copyRows 21 = .ok (.invokestatic 288, 3) := by decide +kernel
theorem dX10_copyRows_24 : decode cX10_copyRows 24 = .ok (.return_, 1) := by decide +kernel
set_option maxRecDepth 20000 in
theorem ggX10_image_X10_copyRows : GoodIn wsX10_image wsX10_copyRows := goodIn_r _ [49, 3, 7, 50, 51, 52, 53, 54, 19, 20, 21, 55, 56, 57, 58, 59, 60, 61, 62, 63, 64, 65, 66, 70, 71, 72, 73, 74, 75] (by decide +kernel) (by decide +kernel)
set_option maxRecDepth 20000 in
theorem gX10_image_X10_copyRows : GoodIn wsX10_image (wsV RX10 267 RX10 yX10_copyRows wsX10_copyRows) := goodIn_app (goodIn_of _ (by decide +kernel)) ggX10_image_X10_copyRows
set_option maxRecDepth 20000 in
theorem ggX10_image_X9_copyFrom : GoodIn wsX10_image wsX9_copyFrom := goodIn_r _ [12, 13, 14, 15, 16, 17, 18, 19, 20, 21, 22, 23, 24, 25, 26, 27, 28, 29, 30, 31, 32, 33, 34, 35, 36, 37, 38, 39, 40, 41, 42, 43, 44, 70, 71, 72, 73, 74, 75, 76, 77, 78, 79, 80, 81, 82, 83, 84, 85, 86, 87, 88, 89, 90, 91, 92, 93, 94, 95, 96, 97, 98, 99, 100, 101, 102, 103, 104, 105, 106] (by decide +kernel) (by decide +kernel)
set_option maxRecDepth 20000 in
theorem gX10_image_X9_copyFrom : GoodIn wsX10_image (wsV RX10 206 RX9 yX9_copyFrom wsX9_copyFrom) := goodIn_app (goodIn_of _ (by decide +kernel)) ggX10_image_X9_copyFrom
theorem dX10_image_0 : decode cX10_image 0 = .ok (.iload_n 1, 1) := by decide +kernel
theorem dX10_image_1 : decode cX10_image 1 = .ok (.ifCond .lt 12, 3) := by decide +kernel
theorem dX10_image_4 : decode cX10_image 4 = .ok (.iload_n 1, 1) := by decide +kernel
theorem dX10_image_5 : decode cX10_image 5 = .ok (.aload_n 0, 1) := by decide +kernel
theorem dX10_image_6 : decode cX10_image 6 = .ok (.getfield 53, 3) := by decide +kernel
theorem dX10_image_9 : decode cX10_image 9 = .ok (.arraylength, 1) := by decide +kernel
theorem dX10_image_10 : decode cX10_image 10 = .ok (.if_icmp .lt 5, 3) := by decide +kernel
theorem dX10_image_13 : decode cX10_image 13 = .ok (.iconst (-1), 1) := by decide +kernel
theorem dX10_image_14 : decode cX10_image 14 = .ok (.ireturn, 1) := by decide +kernel
theorem dX10_image_15 : decode cX10_image 15 = .ok (.aload_n 0, 1) := by decide +kernel
theorem dX10_image_16 : decode cX10_image 16 = .ok (.getfield 53, 3) := by decide +kernel
theorem dX10_image_19 : decode cX10_image 19 = .ok (.iload_n 1, 1) := by decide +kernel
theorem dX10_image_20 : decode cX10_image 20 = .ok (.aaload, 1) := by decide +kernel
theorem dX10_image_21 : decode cX10_image 21 = .ok (.getfield 263, 3) := by decide +kernel
theorem dX10_image_24 : decode cX10_image 24 = .ok (.aload_n 0, 1) := by decide +kernel
theorem dX10_image_25 : decode cX10_image 25 = .ok (.getfield 40, 3) := by decide +kernel
theorem dX10_image_28 : decode cX10_image 28 = .ok (.invokevirtual 206, 3) := by decide +kernel
theorem dX10_image_31 : decode cX10_image 31 = .ok (.aload_n 0, 1) := by decide +kernel
theorem dX10_image_32 : decode cX10_image 32 = .ok (.aload_n 0, 1) := by decide +kernel
theorem dX10_image_33 : decode cX10_image 33 = .ok (.getfield 47, 3) := by decide +kernel
theorem dX10_image_36 : decode cX10_image 36 = .ok (.aload_n 0, 1) := by decide +kernel
theorem dX10_image_37 : decode cX10_image 37 = .ok (.getfield 53, 3) := by decide +kernel
theorem dX10_image_40 : decode cX10_image 40 = .ok (.iload_n 1, 1) := by decide +kernel
theorem dX10_image_41 : decode cX10_image 41 = .ok (.aaload, 1) := by decide +kernel
theorem dX10_image_42 : decode cX10_image 42 = .ok (.getfield 266, 3) := by decide +kernel
theorem dX10_image_45 : decode cX10_image 45 = .ok (.invokevirtual 267, 3) := by decide +kernel
theorem dX10_image_48 : decode cX10_image 48 = .ok (.aload_n 0, 1) := by decide +kernel
theorem dX10_image_49 : decode cX10_image 49 = .ok (.getfield 53, 3) := by decide +kernel
theorem dX10_image_52 : decode cX10_image 52 = .ok (.iload_n 1, 1) := by decide +kernel
theorem dX10_image_53 : decode cX10_image 53 = .ok (.aaload, 1) := by decide +kernel
theorem dX10_image_54 : decode cX10_image 54 = .ok (.iconst 1, 1) := by decide +kernel
theorem dX10_image_55 : decode cX10_image 55 = .ok (.putfield 101, 3) := by decide +kernel
theorem dX10_image_58 : decode cX10_image 58 = .ok (.aload_n 0, 1) := by decide +kernel
theorem dX10_image_59 : decode cX10_image 59 = .ok (.getfield 40, 3) := by decide +kernel
theorem dX10_image_62 : decode cX10_image 62 = .ok (.getfield 112, 3) := by decide +kernel
theorem dX10_image_65 : decode cX10_image 65 = .ok (.ireturn, 1) := by decide +kernel
theorem dX10_back_0 : decode cX10_back 0 = .ok (.iload_n 1, 1) := by decide +kernel
theorem dX10_back_1 : decode cX10_back 1 = .ok (.ifCond .lt 24, 3) := by decide +kernel
theorem dX10_back_4 : decode cX10_back 4 = .ok (.iload_n 1, 1) := by decide +kernel
theorem dX10_back_5 : decode cX10_back 5 = .ok (.aload_n 0, 1) := by decide +kernel
theorem dX10_back_6 : decode cX10_back 6 = .ok (.getfield 53, 3) := by decide +kernel
theorem dX10_back_9 : decode cX10_back 9 = .ok (.arraylength, 1) := by decide +kernel
theorem dX10_back_10 : decode cX10_back 10 = .ok (.if_icmp .ge 15, 3) := by decide +kernel
theorem dX10_back_13 : decode cX10_back 13 = .ok (.aload_n 0, 1) := by decide +kernel
theorem dX10_back_14 : decode cX10_back 14 = .ok (.getfield 53, 3) := by decide +kernel
theorem dX10_back_17 : decode cX10_back 17 = .ok (.iload_n 1, 1) := by decide +kernel
theorem dX10_back_18 : decode cX10_back 18 = .ok (.aaload, 1) := by decide +kernel
theorem dX10_back_19 : decode cX10_back 19 = .ok (.getfield 101, 3) := by decide +kernel
theorem dX10_back_22 : decode cX10_back 22 = .ok (.ifCond .ne 5, 3) := by decide +kernel
theorem dX10_back_25 : decode cX10_back 25 = .ok (.iconst (-1), 1) := by decide +kernel
theorem dX10_back_26 : decode cX10_back 26 = .ok (.ireturn, 1) := by decide +kernel
theorem dX4_fewestBehind_0 : decode cX4_fewestBehind 0 = .ok (.bipush 7, 2) := by decide +kernel
theorem dX4_fewestBehind_2 : decode cX4_fewestBehind 2 = .ok (.istore_n 2, 1) := by decide +kernel
theorem dX4_fewestBehind_3 : decode cX4_fewestBehind 3 = .ok (.iconst 0, 1) := by decide +kernel
theorem dX4_fewestBehind_4 : decode cX4_fewestBehind 4 = .ok (.istore_n 3, 1) := by decide +kernel
theorem dX4_fewestBehind_5 : decode cX4_fewestBehind 5 = .ok (.iload_n 3, 1) := by decide +kernel
theorem dX4_fewestBehind_6 : decode cX4_fewestBehind 6 = .ok (.bipush 6, 2) := by decide +kernel
theorem dX4_fewestBehind_8 : decode cX4_fewestBehind 8 = .ok (.if_icmp .ge 33, 3) := by decide +kernel
theorem dX4_fewestBehind_11 : decode cX4_fewestBehind 11 = .ok (.aload_n 0, 1) := by decide +kernel
theorem dX4_fewestBehind_12 : decode cX4_fewestBehind 12 = .ok (.getfield 9, 3) := by decide +kernel
theorem dX4_fewestBehind_15 : decode cX4_fewestBehind 15 = .ok (.iload_n 1, 1) := by decide +kernel
theorem dX4_fewestBehind_16 : decode cX4_fewestBehind 16 = .ok (.iaload, 1) := by decide +kernel
theorem dX4_fewestBehind_17 : decode cX4_fewestBehind 17 = .ok (.iconst 1, 1) := by decide +kernel
theorem dX4_fewestBehind_18 : decode cX4_fewestBehind 18 = .ok (.iload_n 3, 1) := by decide +kernel
theorem dX4_fewestBehind_19 : decode cX4_fewestBehind 19 = .ok (.ishl, 1) := by decide +kernel
theorem dX4_fewestBehind_20 : decode cX4_fewestBehind 20 = .ok (.iand, 1) := by decide +kernel
theorem dX4_fewestBehind_21 : decode cX4_fewestBehind 21 = .ok (.ifCond .eq 14, 3) := by decide +kernel
theorem dX4_fewestBehind_35 : decode cX4_fewestBehind 35 = .ok (.iinc 3 1, 3) := by decide +kernel
theorem dX4_fewestBehind_38 : decode cX4_fewestBehind 38 = .ok (.goto (-33), 3) := by decide +kernel
theorem dX4_fewestBehind_41 : decode cX4_fewestBehind 41 = .ok (.iload_n 2, 1) := by decide +kernel
theorem dX4_fewestBehind_42 : decode cX4_fewestBehind 42 = .ok (.ireturn, 1) := by decide +kernel
set_option maxRecDepth 20000 in
theorem ggX4_measure_X4_fewestBehind : GoodIn wsX4_measure wsX4_fewestBehind := goodIn_r _ [10, 11, 1, 2, 3, 4, 5, 12, 13, 14, 15] (by decide +kernel) (by decide +kernel)
set_option maxRecDepth 20000 in
theorem gX4_measure_X4_fewestBehind : GoodIn wsX4_measure (wsV RX4 61 RX4 yX4_fewestBehind wsX4_fewestBehind) := goodIn_app (goodIn_of _ (by decide +kernel)) ggX4_measure_X4_fewestBehind
theorem dX4_measure_0 : decode cX4_measure 0 = .ok (.iconst 0, 1) := by decide +kernel
theorem dX4_measure_1 : decode cX4_measure 1 = .ok (.istore_n 2, 1) := by decide +kernel
theorem dX4_measure_2 : decode cX4_measure 2 = .ok (.iload_n 2, 1) := by decide +kernel
theorem dX4_measure_3 : decode cX4_measure 3 = .ok (.bipush 6, 2) := by decide +kernel
theorem dX4_measure_5 : decode cX4_measure 5 = .ok (.if_icmp .ge 26, 3) := by decide +kernel
theorem dX4_measure_8 : decode cX4_measure 8 = .ok (.aload_n 0, 1) := by decide +kernel
theorem dX4_measure_9 : decode cX4_measure 9 = .ok (.getfield 15, 3) := by decide +kernel
theorem dX4_measure_12 : decode cX4_measure 12 = .ok (.iload_n 2, 1) := by decide +kernel
theorem dX4_measure_13 : decode cX4_measure 13 = .ok (.iload_n 2, 1) := by decide +kernel
theorem dX4_measure_14 : decode cX4_measure 14 = .ok (.iload_n 1, 1) := by decide +kernel
theorem dX4_measure_15 : decode cX4_measure 15 = .ok (.if_icmp .ne 7, 3) := by decide +kernel
theorem dX4_measure_18 : decode cX4_measure 18 = .ok (.iconst 0, 1) := by decide +kernel
theorem dX4_measure_19 : decode cX4_measure 19 = .ok (.goto 5, 3) := by decide +kernel
theorem dX4_measure_22 : decode cX4_measure 22 = .ok (.bipush 7, 2) := by decide +kernel
theorem dX4_measure_24 : decode cX4_measure 24 = .ok (.iastore, 1) := by decide +kernel
theorem dX4_measure_25 : decode cX4_measure 25 = .ok (.iinc 2 1, 3) := by decide +kernel
theorem dX4_measure_28 : decode cX4_measure 28 = .ok (.goto (-26), 3) := by decide +kernel
theorem dX4_measure_31 : decode cX4_measure 31 = .ok (.iconst 0, 1) := by decide +kernel
theorem dX4_measure_32 : decode cX4_measure 32 = .ok (.istore_n 2, 1) := by decide +kernel
theorem dX4_measure_33 : decode cX4_measure 33 = .ok (.iload_n 2, 1) := by decide +kernel
theorem dX4_measure_34 : decode cX4_measure 34 = .ok (.bipush 6, 2) := by decide +kernel
theorem dX4_measure_36 : decode cX4_measure 36 = .ok (.if_icmp .ge 45, 3) := by decide +kernel
theorem dX4_measure_39 : decode cX4_measure 39 = .ok (.iconst 0, 1) := by decide +kernel
theorem dX4_measure_40 : decode cX4_measure 40 = .ok (.istore_n 3, 1) := by decide +kernel
theorem dX4_measure_41 : decode cX4_measure 41 = .ok (.iload_n 3, 1) := by decide +kernel
theorem dX4_measure_42 : decode cX4_measure 42 = .ok (.bipush 6, 2) := by decide +kernel
theorem dX4_measure_44 : decode cX4_measure 44 = .ok (.if_icmp .ge 31, 3) := by decide +kernel
theorem dX4_measure_47 : decode cX4_measure 47 = .ok (.aload_n 0, 1) := by decide +kernel
theorem dX4_measure_48 : decode cX4_measure 48 = .ok (.getfield 15, 3) := by decide +kernel
theorem dX4_measure_51 : decode cX4_measure 51 = .ok (.iload_n 3, 1) := by decide +kernel
theorem dX4_measure_52 : decode cX4_measure 52 = .ok (.aload_n 0, 1) := by decide +kernel
theorem dX4_measure_53 : decode cX4_measure 53 = .ok (.getfield 15, 3) := by decide +kernel
theorem dX4_measure_56 : decode cX4_measure 56 = .ok (.iload_n 3, 1) := by decide +kernel
theorem dX4_measure_57 : decode cX4_measure 57 = .ok (.iaload, 1) := by decide +kernel
theorem dX4_measure_58 : decode cX4_measure 58 = .ok (.aload_n 0, 1) := by decide +kernel
theorem dX4_measure_59 : decode cX4_measure 59 = .ok (.iload_n 3, 1) := by decide +kernel
theorem dX4_measure_60 : decode cX4_measure 60 = .ok (.invokevirtual 61, 3) := by decide +kernel
theorem dX4_measure_63 : decode cX4_measure 63 = .ok (.iconst 1, 1) := by decide +kernel
theorem dX4_measure_64 : decode cX4_measure 64 = .ok (.iadd, 1) := by decide +kernel
theorem dX4_measure_65 : decode cX4_measure 65 = .ok (.invokestatic 65, 3) := by decide +kernel
theorem dX4_measure_68 : decode cX4_measure 68 = .ok (.iastore, 1) := by decide +kernel
theorem dX4_measure_69 : decode cX4_measure 69 = .ok (.iinc 3 1, 3) := by decide +kernel
theorem dX4_measure_72 : decode cX4_measure 72 = .ok (.goto (-31), 3) := by decide +kernel
theorem dX4_measure_75 : decode cX4_measure 75 = .ok (.iinc 2 1, 3) := by decide +kernel
theorem dX4_measure_78 : decode cX4_measure 78 = .ok (.goto (-45), 3) := by decide +kernel
theorem dX4_measure_81 : decode cX4_measure 81 = .ok (.return_, 1) := by decide +kernel
set_option maxRecDepth 20000 in
theorem ggX4_goRound_X4_fewestBehind : GoodIn wsX4_goRound wsX4_fewestBehind := goodIn_r _ [7, 8, 9, 10, 11, 12, 13, 18, 19, 20, 21] (by decide +kernel) (by decide +kernel)
set_option maxRecDepth 20000 in
theorem gX4_goRound_X4_fewestBehind : GoodIn wsX4_goRound (wsV RX4 61 RX4 yX4_fewestBehind wsX4_fewestBehind) := goodIn_app (goodIn_of _ (by decide +kernel)) ggX4_goRound_X4_fewestBehind
theorem dX4_goRound_0 : decode cX4_goRound 0 = .ok (.aload_n 0, 1) := by decide +kernel
theorem dX4_goRound_1 : decode cX4_goRound 1 = .ok (.iload_n 1, 1) := by decide +kernel
theorem dX4_goRound_2 : decode cX4_goRound 2 = .ok (.invokevirtual 61, 3) := by decide +kernel
theorem dX4_goRound_5 : decode cX4_goRound 5 = .ok (.istore_n 2, 1) := by decide +kernel
theorem dX4_goRound_6 : decode cX4_goRound 6 = .ok (.iload_n 1, 1) := by decide +kernel
theorem dX4_goRound_7 : decode cX4_goRound 7 = .ok (.istore_n 3, 1) := by decide +kernel
theorem dX4_goRound_8 : decode cX4_goRound 8 = .ok (.iload_n 2, 1) := by decide +kernel
theorem dX4_goRound_9 : decode cX4_goRound 9 = .ok (.bipush 6, 2) := by decide +kernel
theorem dX4_goRound_11 : decode cX4_goRound 11 = .ok (.if_icmp .lt 4, 3) := by decide +kernel
theorem dX4_goRound_14 : decode cX4_goRound 14 = .ok (.return_, 1) := by decide +kernel
set_option maxRecDepth 20000 in
theorem ggX4_find_X4_goRound : GoodIn wsX4_find wsX4_goRound := goodIn_r _ [41, 42, 1, 34, 35, 36, 7, 37, 2, 29, 30, 31, 32, 33, 43, 44, 45, 46, 47, 48, 49, 50] (by decide +kernel) (by decide +kernel)
set_option maxRecDepth 20000 in
theorem gX4_find_X4_goRound : GoodIn wsX4_find (wsV RX4 38 RX4 yX4_goRound wsX4_goRound) := goodIn_app (goodIn_of _ (by decide +kernel)) ggX4_find_X4_goRound
set_option maxRecDepth 20000 in
theorem ggX4_find_X4_measure : GoodIn wsX4_find wsX4_measure := goodIn_r _ [28, 29, 30, 31, 32, 33, 34, 35, 36, 7, 37, 2, 47, 48, 49, 50] (by decide +kernel) (by decide +kernel)
set_option maxRecDepth 20000 in
theorem gX4_find_X4_measure : GoodIn wsX4_find (wsV RX4 34 RX4 yX4_measure wsX4_measure) := goodIn_app (goodIn_of _ (by decide +kernel)) ggX4_find_X4_measure
theorem dX4_find_0 : decode cX4_find 0 = .ok (.aload_n 0, 1) := by decide +kernel
theorem dX4_find_1 : decode cX4_find 1 = .ok (.iconst 0, 1) := by decide +kernel
theorem dX4_find_2 : decode cX4_find 2 = .ok (.putfield 18, 3) := by decide +kernel
theorem dX4_find_5 : decode cX4_find 5 = .ok (.iconst 0, 1) := by decide +kernel
theorem dX4_find_6 : decode cX4_find 6 = .ok (.istore_n 2, 1) := by decide +kernel
theorem dX4_find_7 : decode cX4_find 7 = .ok (.iload_n 2, 1) := by decide +kernel
theorem dX4_find_8 : decode cX4_find 8 = .ok (.bipush 6, 2) := by decide +kernel
theorem dX4_find_10 : decode cX4_find 10 = .ok (.if_icmp .ge 16, 3) := by decide +kernel
theorem dX4_find_13 : decode cX4_find 13 = .ok (.aload_n 0, 1) := by decide +kernel
theorem dX4_find_14 : decode cX4_find 14 = .ok (.getfield 9, 3) := by decide +kernel
theorem dX4_find_17 : decode cX4_find 17 = .ok (.iload_n 2, 1) := by decide +kernel
theorem dX4_find_18 : decode cX4_find 18 = .ok (.iconst 0, 1) := by decide +kernel
theorem dX4_find_19 : decode cX4_find 19 = .ok (.iastore, 1) := by decide +kernel
theorem dX4_find_20 : decode cX4_find 20 = .ok (.iinc 2 1, 3) := by decide +kernel
theorem dX4_find_23 : decode cX4_find 23 = .ok (.goto (-16), 3) := by decide +kernel
theorem dX4_find_26 : decode cX4_find 26 = .ok (.iconst 0, 1) := by decide +kernel
theorem dX4_find_27 : decode cX4_find 27 = .ok (.istore_n 2, 1) := by decide +kernel
theorem dX4_find_28 : decode cX4_find 28 = .ok (.iload_n 2, 1) := by decide +kernel
theorem dX4_find_29 : decode cX4_find 29 = .ok (.aload_n 1, 1) := by decide +kernel
theorem dX4_find_30 : decode cX4_find 30 = .ok (.getfield 25, 3) := by decide +kernel
theorem dX4_find_33 : decode cX4_find 33 = .ok (.if_icmp .ge 15, 3) := by decide +kernel
theorem dX4_find_48 : decode cX4_find 48 = .ok (.iconst 0, 1) := by decide +kernel
theorem dX4_find_49 : decode cX4_find 49 = .ok (.istore_n 2, 1) := by decide +kernel
theorem dX4_find_50 : decode cX4_find 50 = .ok (.iload_n 2, 1) := by decide +kernel
theorem dX4_find_51 : decode cX4_find 51 = .ok (.bipush 6, 2) := by decide +kernel
theorem dX4_find_53 : decode cX4_find 53 = .ok (.if_icmp .ge 26, 3) := by decide +kernel
theorem dX4_find_56 : decode cX4_find 56 = .ok (.aload_n 0, 1) := by decide +kernel
theorem dX4_find_57 : decode cX4_find 57 = .ok (.getfield 18, 3) := by decide +kernel
theorem dX4_find_60 : decode cX4_find 60 = .ok (.ifCond .ne 19, 3) := by decide +kernel
theorem dX4_find_63 : decode cX4_find 63 = .ok (.aload_n 0, 1) := by decide +kernel
theorem dX4_find_64 : decode cX4_find 64 = .ok (.iload_n 2, 1) := by decide +kernel
theorem dX4_find_65 : decode cX4_find 65 = .ok (.invokevirtual 34, 3) := by decide +kernel
theorem dX4_find_68 : decode cX4_find 68 = .ok (.aload_n 0, 1) := by decide +kernel
theorem dX4_find_69 : decode cX4_find 69 = .ok (.iload_n 2, 1) := by decide +kernel
theorem dX4_find_70 : decode cX4_find 70 = .ok (.invokevirtual 38, 3) := by decide +kernel
theorem dX4_find_73 : decode cX4_find 73 = .ok (.iinc 2 1, 3) := by decide +kernel
theorem dX4_find_76 : decode cX4_find 76 = .ok (.goto (-26), 3) := by decide +kernel
theorem dX4_find_79 : decode cX4_find 79 = .ok (.return_, 1) := by decide +kernel
set_option maxRecDepth 20000 in
theorem ggX10_risk_X4_find : GoodIn wsX10_risk wsX4_find := goodIn_r _ [9, 10, 11, 12, 13, 14, 15, 8, 16, 17, 18, 19, 20, 21, 22, 23, 24, 25, 26, 27, 28, 29, 30, 31, 32, 33, 34, 35, 36, 37, 38, 39, 40, 41, 42, 43, 44, 45, 46, 47, 48, 49, 50, 51, 52, 53, 54, 67, 68, 69, 70, 71, 72, 73, 74, 75, 76, 77, 78, 79, 80, 81, 82, 83, 84] (by decide +kernel) (by decide +kernel)
set_option maxRecDepth 20000 in
theorem gX10_risk_X4_find : GoodIn wsX10_risk (wsV RX10 230 RX4 yX4_find wsX4_find) := goodIn_app (goodIn_of _ (by decide +kernel)) ggX10_risk_X4_find
theorem dX10_risk_0 : decode cX10_risk 0 = .ok (.iload_n 1, 1) := by decide +kernel
theorem dX10_risk_1 : decode cX10_risk 1 = .ok (.ifCond .ge 6, 3) := by decide +kernel
theorem dX10_risk_4 : decode cX10_risk 4 = .ok (.bipush (-2), 2) := by decide +kernel
theorem dX10_risk_6 : decode cX10_risk 6 = .ok (.ireturn, 1) := by decide +kernel
theorem dX10_risk_7 : decode cX10_risk 7 = .ok (.aload_n 0, 1) := by decide +kernel
theorem dX10_risk_8 : decode cX10_risk 8 = .ok (.getfield 75, 3) := by decide +kernel
theorem dX10_risk_11 : decode cX10_risk 11 = .ok (.aload_n 0, 1) := by decide +kernel
theorem dX10_risk_12 : decode cX10_risk 12 = .ok (.getfield 19, 3) := by decide +kernel
theorem dX10_risk_15 : decode cX10_risk 15 = .ok (.invokevirtual 230, 3) := by decide +kernel
theorem dX10_risk_18 : decode cX10_risk 18 = .ok (.iload_n 1, 1) := by decide +kernel
theorem dX10_risk_19 : decode cX10_risk 19 = .ok (.ifCond .ne 11, 3) := by decide +kernel
theorem dX10_risk_22 : decode cX10_risk 22 = .ok (.aload_n 0, 1) := by decide +kernel
theorem dX10_risk_23 : decode cX10_risk 23 = .ok (.getfield 75, 3) := by decide +kernel
theorem dX10_risk_26 : decode cX10_risk 26 = .ok (.getfield 233, 3) := by decide +kernel
theorem dX10_risk_29 : decode cX10_risk 29 = .ok (.ireturn, 1) := by decide +kernel
theorem dX10_risk_30 : decode cX10_risk 30 = .ok (.iload_n 1, 1) := by decide +kernel
theorem dX10_risk_31 : decode cX10_risk 31 = .ok (.aload_n 0, 1) := by decide +kernel
theorem dX10_risk_32 : decode cX10_risk 32 = .ok (.getfield 75, 3) := by decide +kernel
theorem dX10_risk_35 : decode cX10_risk 35 = .ok (.getfield 233, 3) := by decide +kernel
theorem dX10_risk_38 : decode cX10_risk 38 = .ok (.if_icmp .le 7, 3) := by decide +kernel
theorem dX10_risk_41 : decode cX10_risk 41 = .ok (.iconst (-1), 1) := by decide +kernel
theorem dX10_risk_42 : decode cX10_risk 42 = .ok (.goto 14, 3) := by decide +kernel
theorem dX10_risk_56 : decode cX10_risk 56 = .ok (.ireturn, 1) := by decide +kernel
theorem iw_X9_copyFrom_2 : ∀ w ∈ u_ws RX2 TX2 14, w ∈ wsX9_copyFrom := by decide +kernel
theorem iw_X9_copyFrom_9 : ∀ w ∈ u_ws RX9 TX9 6, w ∈ wsX9_copyFrom := by decide +kernel
set_option maxHeartbeats 4000000 in
set_option maxRecDepth 100000 in
theorem k_X9_copyFrom (l : Launch) (D : va_G) (ca : Nat → ClassId) (sz : Nat) (h0 : Nat) (op : Nat) (w2 : Nat) (w3 : Nat) (w4 : Nat) (w5 : Nat) (lv : Nat) (v2 : Nat) (v3 : Nat) (v4 : Nat) (v5 : Nat) (pl : Nat) (pl5 : Nat) (pl6 : Nat) (pl7 : Nat) (pl8 : Nat) (pl9 : Nat) (pl10 : Nat) (pl11 : Nat) (pl12 : Nat) (pl13 : Nat) (fh : Nat → Int32) (gh : Nat → Int32) : Met l yX9_copyFrom wsX9_copyFrom ({ frames := 1, cells := 0, slots := 0, locals := 30 }) (PC [.ref h0, .ref lv] sz D ca [(h0, .inr (9, [.ref op, .int 0, .ref w2, .ref w3, .ref w4, .ref w5])), (lv, .inr (9, [.ref pl, .int 0, .ref v2, .ref v3, .ref v4, .ref v5])), (pl, .inr (2, [.int 1, .int 0, .int 0, .int 0, .int 0, .ref pl5, .ref pl6, .ref pl7, .ref pl8, .ref pl9, .ref pl10, .ref pl11, .ref pl12, .ref pl13])), (w3, .inl (ca 1, 6, .inl fh)), (v3, .inl (ca 1, 6, .inl gh))]) (QV (fun (u : (Nat → Int32)) => True) (fun (u : (Nat → Int32)) => [(h0, .inr (9, [.ref pl, .int 0, .ref w2, .ref w3, .ref w4, .ref w5])), (lv, .inr (9, [.ref pl, .int 0, .ref v2, .ref v3, .ref v4, .ref v5])), (pl, .inr (2, [.int 1, .int 0, .int 0, .int 0, .int 0, .ref pl5, .ref pl6, .ref pl7, .ref pl8, .ref pl9, .ref pl10, .ref pl11, .ref pl12, .ref pl13])), (w3, .inl (ca 1, 6, .inl u)), (v3, .inl (ca 1, 6, .inl gh))]) [(h0, .inr (9, [.ref op, .int 0, .ref w2, .ref w3, .ref w4, .ref w5])), (lv, .inr (9, [.ref pl, .int 0, .ref v2, .ref v3, .ref v4, .ref v5])), (pl, .inr (2, [.int 1, .int 0, .int 0, .int 0, .int 0, .ref pl5, .ref pl6, .ref pl7, .ref pl8, .ref pl9, .ref pl10, .ref pl11, .ref pl12, .ref pl13])), (w3, .inl (ca 1, 6, .inl fh)), (v3, .inl (ca 1, 6, .inl gh))] sz D) 0 0 (va_A [(h0, .inr (9, [.ref op, .int 0, .ref w2, .ref w3, .ref w4, .ref w5])), (lv, .inr (9, [.ref pl, .int 0, .ref v2, .ref v3, .ref v4, .ref v5])), (pl, .inr (2, [.int 1, .int 0, .int 0, .int 0, .int 0, .ref pl5, .ref pl6, .ref pl7, .ref pl8, .ref pl9, .ref pl10, .ref pl11, .ref pl12, .ref pl13])), (w3, .inl (ca 1, 6, .inl fh)), (v3, .inl (ca 1, 6, .inl gh))] sz) := by
  refine Met.ofW (cc := cX9_copyFrom) (maxL := 3) (ret := none) (by decide +kernel) rfl ?_
  intro p e s m args below meth c s₁ B hml hv
  obtain ⟨rfl, hsz, hP, hC, hD0⟩ := hv
  have hx := B.exec
  have hb := B.bytes
  have hr := B.returns
  have hts := atoms_spec (ws := wsX9_copyFrom) B.pre
  have hown : s.vm.findClass RX9 = some m.cls := findClass_of_methodNamed B.named
  have hlocks := B.notSynchronized
  subst hsz
  have hD := hD0.self (sz := s.heap.size)
  dsimp only [QV, QI, QL, BQ]
  generalize hAe : va_A [(h0, .inr (9, [.ref op, .int 0, .ref w2, .ref w3, .ref w4, .ref w5])), (lv, .inr (9, [.ref pl, .int 0, .ref v2, .ref v3, .ref v4, .ref v5])), (pl, .inr (2, [.int 1, .int 0, .int 0, .int 0, .int 0, .ref pl5, .ref pl6, .ref pl7, .ref pl8, .ref pl9, .ref pl10, .ref pl11, .ref pl12, .ref pl13])), (w3, .inl (ca 1, 6, .inl fh)), (v3, .inl (ca 1, 6, .inl gh))] s.heap.size = A at hD ⊢
  have hA : ∀ q : Nat, s.heap.size ≤ q → A q := fun q h => by rw [← hAe]; exact Or.inr h
  have hDA : ∀ {w : va_W}, va_D A w → va_D (va_A [(h0, .inr (9, [.ref op, .int 0, .ref w2, .ref w3, .ref w4, .ref w5])), (lv, .inr (9, [.ref pl, .int 0, .ref v2, .ref v3, .ref v4, .ref v5])), (pl, .inr (2, [.int 1, .int 0, .int 0, .int 0, .int 0, .ref pl5, .ref pl6, .ref pl7, .ref pl8, .ref pl9, .ref pl10, .ref pl11, .ref pl12, .ref pl13])), (w3, .inl (ca 1, 6, .inl fh)), (v3, .inl (ca 1, 6, .inl gh))] s.heap.size) w := fun h => by rw [hAe]; exact h
  have hS : va_S A s.heap s.heap [] := va_S.rf
  have hP : va_P D vwCl [(h0, .inr (9, [.ref op, .int 0, .ref w2, .ref w3, .ref w4, .ref w5])), (lv, .inr (9, [.ref pl, .int 0, .ref v2, .ref v3, .ref v4, .ref v5])), (pl, .inr (2, [.int 1, .int 0, .int 0, .int 0, .int 0, .ref pl5, .ref pl6, .ref pl7, .ref pl8, .ref pl9, .ref pl10, .ref pl11, .ref pl12, .ref pl13])), (w3, .inl (ca 1, 6, .inl fh)), (v3, .inl (ca 1, 6, .inl gh))] s.heap := hP
  have hl := lv_entry ([.ref h0, .ref lv]) (n := 3) (Nat.le_of_ble_eq_true rfl)
  rw [lg_entry_eq]
  generalize (lg_sl ([.ref h0, .ref lv]) ++ List.replicate (3 - (lg_sl ([.ref h0, .ref lv])).length) Slot.unset).toArray = ls at hl ⊢
  have hl : lv_has ls 3 [(0, .ref h0), (1, .ref lv)] := hl
  refine lv_aload_n hx hb dX9_copyFrom_0 rfl (lv_at hl 0 rfl) ?_
  refine lv_aload_n hx hb dX9_copyFrom_1 rfl (lv_at hl 1 rfl) ?_
  refine va_get (D := D) (ci := 9) (v := .ref pl) (C := RX9) (T := TX9) (N := 6) hx hb hts iw_X9_copyFrom_9 hown hC.1 hP 1 rfl rfl 0 (by decide +kernel) (hts (.fieldLink RX9 33 "FairWheel$Wheel" "plan" "LFairWheel$Plan;") (by decide +kernel)) (fun _ h9 => h9) rfl dX9_copyFrom_2 ?_
  refine va_put (D := D) (ci := 9) (v := .ref pl) (ty := .object "FairWheel$Plan") (C := RX9) (T := TX9) (N := 6) hx hb hts iw_X9_copyFrom_9 tyX9 tyX9_ok nmX9 hown hC.1 hP hD hS 0 rfl rfl 0 (by decide +kernel) (hts (.fieldLink RX9 33 "FairWheel$Wheel" "plan" "LFairWheel$Plan;") (by decide +kernel)) (fun _ h9 => h9) rfl (by decide +kernel) rfl rfl (Nat.le_of_ble_eq_true rfl) dX9_copyFrom_5 (fun H locs hP hD hS => ?_)
  have hP : va_P D vwCl [(h0, .inr (9, [.ref pl, .int 0, .ref w2, .ref w3, .ref w4, .ref w5])), (lv, .inr (9, [.ref pl, .int 0, .ref v2, .ref v3, .ref v4, .ref v5])), (pl, .inr (2, [.int 1, .int 0, .int 0, .int 0, .int 0, .ref pl5, .ref pl6, .ref pl7, .ref pl8, .ref pl9, .ref pl10, .ref pl11, .ref pl12, .ref pl13])), (w3, .inl (ca 1, 6, .inl fh)), (v3, .inl (ca 1, 6, .inl gh))] H := hP
  have hD : va_D A [(h0, .inr (9, [.ref pl, .int 0, .ref w2, .ref w3, .ref w4, .ref w5])), (lv, .inr (9, [.ref pl, .int 0, .ref v2, .ref v3, .ref v4, .ref v5])), (pl, .inr (2, [.int 1, .int 0, .int 0, .int 0, .int 0, .ref pl5, .ref pl6, .ref pl7, .ref pl8, .ref pl9, .ref pl10, .ref pl11, .ref pl12, .ref pl13])), (w3, .inl (ca 1, 6, .inl fh)), (v3, .inl (ca 1, 6, .inl gh))] := hD
  refine lv_aload_n hx hb dX9_copyFrom_8 rfl (lv_at hl 0 rfl) ?_
  refine lv_aload_n hx hb dX9_copyFrom_9 rfl (lv_at hl 1 rfl) ?_
  refine va_get (D := D) (ci := 9) (v := .int 0) (C := RX9) (T := TX9) (N := 6) hx hb hts iw_X9_copyFrom_9 hown hC.1 hP 1 rfl rfl 1 (by decide +kernel) (hts (.fieldLink RX9 37 "FairWheel$Wheel" "now" "I") (by decide +kernel)) (fun _ h9 => h9) rfl dX9_copyFrom_10 ?_
  refine va_put (D := D) (ci := 9) (v := .int 0) (ty := .int) (C := RX9) (T := TX9) (N := 6) hx hb hts iw_X9_copyFrom_9 tyX9 tyX9_ok nmX9 hown hC.1 hP hD hS 0 rfl rfl 1 (by decide +kernel) (hts (.fieldLink RX9 37 "FairWheel$Wheel" "now" "I") (by decide +kernel)) (fun _ h9 => h9) rfl (by decide +kernel) rfl rfl (Nat.le_of_ble_eq_true rfl) dX9_copyFrom_13 (fun H locs hP hD hS => ?_)
  have hP : va_P D vwCl [(h0, .inr (9, [.ref pl, .int 0, .ref w2, .ref w3, .ref w4, .ref w5])), (lv, .inr (9, [.ref pl, .int 0, .ref v2, .ref v3, .ref v4, .ref v5])), (pl, .inr (2, [.int 1, .int 0, .int 0, .int 0, .int 0, .ref pl5, .ref pl6, .ref pl7, .ref pl8, .ref pl9, .ref pl10, .ref pl11, .ref pl12, .ref pl13])), (w3, .inl (ca 1, 6, .inl fh)), (v3, .inl (ca 1, 6, .inl gh))] H := hP
  have hD : va_D A [(h0, .inr (9, [.ref pl, .int 0, .ref w2, .ref w3, .ref w4, .ref w5])), (lv, .inr (9, [.ref pl, .int 0, .ref v2, .ref v3, .ref v4, .ref v5])), (pl, .inr (2, [.int 1, .int 0, .int 0, .int 0, .int 0, .ref pl5, .ref pl6, .ref pl7, .ref pl8, .ref pl9, .ref pl10, .ref pl11, .ref pl12, .ref pl13])), (w3, .inl (ca 1, 6, .inl fh)), (v3, .inl (ca 1, 6, .inl gh))] := hD
  refine lv_iconst (v := 0) hx hb dX9_copyFrom_16 (by decide +kernel) ?_
  refine lv_istore_n (lv' := [(2, .int 0), (0, .ref h0), (1, .ref lv)]) hx hb dX9_copyFrom_17 rfl hl (by decide +kernel) rfl (fun ls hl => ?_)
  refine lv_iload_n hx hb dX9_copyFrom_18 rfl (lv_at hl 0 rfl) ?_
  refine lv_aload_n hx hb dX9_copyFrom_19 rfl (lv_at hl 1 rfl) ?_
  refine va_get (D := D) (ci := 9) (v := .ref pl) (C := RX9) (T := TX9) (N := 6) hx hb hts iw_X9_copyFrom_9 hown hC.1 hP 0 rfl rfl 0 (by decide +kernel) (hts (.fieldLink RX9 33 "FairWheel$Wheel" "plan" "LFairWheel$Plan;") (by decide +kernel)) (fun _ h9 => h9) rfl dX9_copyFrom_20 ?_
  refine va_get (D := D) (ci := 2) (v := .int 0) (C := RX2) (T := TX2) (N := 14) hx hb hts iw_X9_copyFrom_2 hown hC.1 hP 2 rfl rfl 3 (by decide +kernel) (hts (.fieldLink RX9 41 "FairWheel$Plan" "count" "I") (by decide +kernel)) (fun _ h9 => h9) rfl dX9_copyFrom_23 ?_
  refine lv_icmp_ge (tgt := 50) hx hb dX9_copyFrom_26 (by decide +kernel) (fun c_1 => ?_) (fun c_1 => absurd (by decide +kernel) c_1)
  refine lv_aload_n hx hb dX9_copyFrom_50 rfl (lv_at hl 2 rfl) ?_
  refine va_get (D := D) (ci := 9) (v := .ref v3) (C := RX9) (T := TX9) (N := 6) hx hb hts iw_X9_copyFrom_9 hown hC.1 hP 1 rfl rfl 3 (by decide +kernel) (hts (.fieldLink RX9 17 "FairWheel$Wheel" "holders" "[I") (by decide +kernel)) (fun _ h9 => h9) rfl dX9_copyFrom_51 ?_
  refine lv_iconst (v := 0) hx hb dX9_copyFrom_54 (by decide +kernel) ?_
  refine lv_aload_n hx hb dX9_copyFrom_55 rfl (lv_at hl 1 rfl) ?_
  refine va_get (D := D) (ci := 9) (v := .ref w3) (C := RX9) (T := TX9) (N := 6) hx hb hts iw_X9_copyFrom_9 hown hC.1 hP 0 rfl rfl 3 (by decide +kernel) (hts (.fieldLink RX9 17 "FairWheel$Wheel" "holders" "[I") (by decide +kernel)) (fun _ h9 => h9) rfl dX9_copyFrom_56 ?_
  refine lv_iconst (v := 0) hx hb dX9_copyFrom_59 (by decide +kernel) ?_
  refine lv_aload_n hx hb dX9_copyFrom_60 rfl (lv_at hl 1 rfl) ?_
  refine va_get (D := D) (ci := 9) (v := .ref w3) (C := RX9) (T := TX9) (N := 6) hx hb hts iw_X9_copyFrom_9 hown hC.1 hP 0 rfl rfl 3 (by decide +kernel) (hts (.fieldLink RX9 17 "FairWheel$Wheel" "holders" "[I") (by decide +kernel)) (fun _ h9 => h9) rfl dX9_copyFrom_61 ?_
  refine va_alen (v := 6) hx hb hC.1 hP 3 1 rfl rfl rfl dX9_copyFrom_64 ?_
  refine va_copyi hx hb (hml.trans hl.1.symm) hown (hts (.methodLink RX9 71 arraycopyName) (by decide +kernel)) (hts (.native arraycopyName) (by decide +kernel)) (hts (.static arraycopyName) (by decide +kernel)) (hts (.initialized "java/lang/System") (by decide +kernel)) hC.1 hP hD hS 4 3 1 1 rfl rfl rfl rfl rfl (by decide +kernel) (by decide +kernel) (by decide +kernel) (by decide +kernel) (by decide +kernel) (fun _ _ => rfl) (Nat.le_of_ble_eq_true rfl) (Nat.le_of_ble_eq_true rfl) dX9_copyFrom_65 (fun H locs hP hD hS => ?_)
  generalize (va_cpy _ _ _ _ _) = f_2 at hP hD
  have hP : va_P D vwCl [(h0, .inr (9, [.ref pl, .int 0, .ref w2, .ref w3, .ref w4, .ref w5])), (lv, .inr (9, [.ref pl, .int 0, .ref v2, .ref v3, .ref v4, .ref v5])), (pl, .inr (2, [.int 1, .int 0, .int 0, .int 0, .int 0, .ref pl5, .ref pl6, .ref pl7, .ref pl8, .ref pl9, .ref pl10, .ref pl11, .ref pl12, .ref pl13])), (w3, .inl (ca 1, 6, .inl f_2)), (v3, .inl (ca 1, 6, .inl gh))] H := hP
  have hD : va_D A [(h0, .inr (9, [.ref pl, .int 0, .ref w2, .ref w3, .ref w4, .ref w5])), (lv, .inr (9, [.ref pl, .int 0, .ref v2, .ref v3, .ref v4, .ref v5])), (pl, .inr (2, [.int 1, .int 0, .int 0, .int 0, .int 0, .ref pl5, .ref pl6, .ref pl7, .ref pl8, .ref pl9, .ref pl10, .ref pl11, .ref pl12, .ref pl13])), (w3, .inl (ca 1, 6, .inl f_2)), (v3, .inl (ca 1, 6, .inl gh))] := hD
  exact W.vret hx hb hr (fun t ht hW => ⟨⟨f_2, rfl, trivial, by rw [ht]; exact hP.sub [0, 1, 2, 3, 4] rfl, hDA (hD.sub [0, 1, 2, 3, 4] (by decide +kernel) rfl)⟩, hS.F ht⟩) hS.2.2 dX9_copyFrom_68
theorem iw_X10_copyRows_9 : ∀ w ∈ u_ws RX9 TX9 6, w ∈ wsX10_copyRows := by decide +kernel
theorem iw_X10_copyRows_10 : ∀ w ∈ u_ws RX10 TX10 12, w ∈ wsX10_copyRows := by decide +kernel
set_option maxHeartbeats 4000000 in
set_option maxRecDepth 100000 in
theorem k_X10_copyRows (l : Launch) (D : va_G) (ca : Nat → ClassId) (sz : Nat) (h0 : Nat) (tp : Nat) (rd : Nat) (lv : Nat) (tr : Nat) (rw : Nat) (bx : Nat) (ch : Nat) (sg : Nat) (dg : Nat) (pl : Nat) (dr : Nat) (w2 : Nat) (w3 : Nat) (w4 : Nat) (w5 : Nat) (ra : Nat) (rb : Nat) (f1 : Nat → Int32) (f2 : Nat → Int32) : Met l yX10_copyRows wsX10_copyRows ({ frames := 1, cells := 0, slots := 0, locals := 30 }) (PC [.ref h0, .ref ra, .ref rb] sz D ca [(h0, .inr (10, [.ref tp, .ref rd, .ref lv, .ref tr, .ref rw, .ref bx, .ref ch, .ref sg, .ref dg, .ref pl, .ref dr, .int 0])), (lv, .inr (9, [.ref pl, .int 0, .ref w2, .ref w3, .ref w4, .ref w5])), (ra, .inl (ca 1, 2000, .inl f1)), (rb, .inl (ca 1, 2000, .inl f2))]) (QV (fun (u : (Nat → Int32)) => True) (fun (u : (Nat → Int32)) => [(h0, .inr (10, [.ref tp, .ref rd, .ref lv, .ref tr, .ref rw, .ref bx, .ref ch, .ref sg, .ref dg, .ref pl, .ref dr, .int 0])), (lv, .inr (9, [.ref pl, .int 0, .ref w2, .ref w3, .ref w4, .ref w5])), (ra, .inl (ca 1, 2000, .inl f1)), (rb, .inl (ca 1, 2000, .inl u))]) [(h0, .inr (10, [.ref tp, .ref rd, .ref lv, .ref tr, .ref rw, .ref bx, .ref ch, .ref sg, .ref dg, .ref pl, .ref dr, .int 0])), (lv, .inr (9, [.ref pl, .int 0, .ref w2, .ref w3, .ref w4, .ref w5])), (ra, .inl (ca 1, 2000, .inl f1)), (rb, .inl (ca 1, 2000, .inl f2))] sz D) 0 0 (va_A [(h0, .inr (10, [.ref tp, .ref rd, .ref lv, .ref tr, .ref rw, .ref bx, .ref ch, .ref sg, .ref dg, .ref pl, .ref dr, .int 0])), (lv, .inr (9, [.ref pl, .int 0, .ref w2, .ref w3, .ref w4, .ref w5])), (ra, .inl (ca 1, 2000, .inl f1)), (rb, .inl (ca 1, 2000, .inl f2))] sz) := by
  refine Met.ofW (cc := cX10_copyRows) (maxL := 3) (ret := none) (by decide +kernel) rfl ?_
  intro p e s m args below meth c s₁ B hml hv
  obtain ⟨rfl, hsz, hP, hC, hD0⟩ := hv
  have hx := B.exec
  have hb := B.bytes
  have hr := B.returns
  have hts := atoms_spec (ws := wsX10_copyRows) B.pre
  have hown : s.vm.findClass RX10 = some m.cls := findClass_of_methodNamed B.named
  have hlocks := B.notSynchronized
  subst hsz
  have hD := hD0.self (sz := s.heap.size)
  dsimp only [QV, QI, QL, BQ]
  generalize hAe : va_A [(h0, .inr (10, [.ref tp, .ref rd, .ref lv, .ref tr, .ref rw, .ref bx, .ref ch, .ref sg, .ref dg, .ref pl, .ref dr, .int 0])), (lv, .inr (9, [.ref pl, .int 0, .ref w2, .ref w3, .ref w4, .ref w5])), (ra, .inl (ca 1, 2000, .inl f1)), (rb, .inl (ca 1, 2000, .inl f2))] s.heap.size = A at hD ⊢
  have hA : ∀ q : Nat, s.heap.size ≤ q → A q := fun q h => by rw [← hAe]; exact Or.inr h
  have hDA : ∀ {w : va_W}, va_D A w → va_D (va_A [(h0, .inr (10, [.ref tp, .ref rd, .ref lv, .ref tr, .ref rw, .ref bx, .ref ch, .ref sg, .ref dg, .ref pl, .ref dr, .int 0])), (lv, .inr (9, [.ref pl, .int 0, .ref w2, .ref w3, .ref w4, .ref w5])), (ra, .inl (ca 1, 2000, .inl f1)), (rb, .inl (ca 1, 2000, .inl f2))] s.heap.size) w := fun h => by rw [hAe]; exact h
  have hS : va_S A s.heap s.heap [] := va_S.rf
  have hP : va_P D vwCl [(h0, .inr (10, [.ref tp, .ref rd, .ref lv, .ref tr, .ref rw, .ref bx, .ref ch, .ref sg, .ref dg, .ref pl, .ref dr, .int 0])), (lv, .inr (9, [.ref pl, .int 0, .ref w2, .ref w3, .ref w4, .ref w5])), (ra, .inl (ca 1, 2000, .inl f1)), (rb, .inl (ca 1, 2000, .inl f2))] s.heap := hP
  have hl := lv_entry ([.ref h0, .ref ra, .ref rb]) (n := 3) (Nat.le_of_ble_eq_true rfl)
  rw [lg_entry_eq]
  generalize (lg_sl ([.ref h0, .ref ra, .ref rb]) ++ List.replicate (3 - (lg_sl ([.ref h0, .ref ra, .ref rb])).length) Slot.unset).toArray = ls at hl ⊢
  have hl : lv_has ls 3 [(0, .ref h0), (1, .ref ra), (2, .ref rb)] := hl
  refine lv_aload_n hx hb dX10_copyRows_0 rfl (lv_at hl 1 rfl) ?_
  refine lv_iconst (v := 0) hx hb dX10_copyRows_1 (by decide +kernel) ?_
  refine lv_aload_n hx hb dX10_copyRows_2 rfl (lv_at hl 2 rfl) ?_
  refine lv_iconst (v := 0) hx hb dX10_copyRows_3 (by decide +kernel) ?_
  refine lv_aload_n hx hb dX10_copyRows_4 rfl (lv_at hl 0 rfl) ?_
  refine va_get (D := D) (ci := 10) (v := .ref lv) (C := RX10) (T := TX10) (N := 12) hx hb hts iw_X10_copyRows_10 hown hC.1 hP 0 rfl rfl 2 (by decide +kernel) (hts (.fieldLink RX10 40 "FairWheel" "live" "LFairWheel$Wheel;") (by decide +kernel)) (fun _ h9 => h9) rfl dX10_copyRows_5 ?_
  refine va_get (D := D) (ci := 9) (v := .int 0) (C := RX9) (T := TX9) (N := 6) hx hb hts iw_X10_copyRows_9 hown hC.1 hP 1 rfl rfl 1 (by decide +kernel) (hts (.fieldLink RX10 112 "FairWheel$Wheel" "now" "I") (by decide +kernel)) (fun _ h9 => h9) rfl dX10_copyRows_8 ?_
  refine lv_aload_n hx hb dX10_copyRows_11 rfl (lv_at hl 1 rfl) ?_
  refine va_alen (v := 2000) hx hb hC.1 hP 2 1 rfl rfl rfl dX10_copyRows_12 ?_
  refine lv_aload_n hx hb dX10_copyRows_13 rfl (lv_at hl 2 rfl) ?_
  refine va_alen (v := 2000) hx hb hC.1 hP 3 1 rfl rfl rfl dX10_copyRows_14 ?_
  refine va_mmin hx hb (hml.trans hl.1.symm) hown (hts (.methodLink RX10 283 Lib.Math.min.name) (by decide +kernel)) (hts (.static Lib.Math.min.name) (by decide +kernel)) (hts (.initialized "java/lang/Math") (by decide +kernel)) (hts (.code Lib.Math.min.name Lib.Math.min.code 2 (some .int)) (by decide +kernel)) (Nat.le_of_ble_eq_true rfl) (Nat.le_of_ble_eq_true rfl) (Nat.le_of_ble_eq_true rfl) (Nat.le_of_ble_eq_true rfl) dX10_copyRows_15 ?_
  refine nt_i 2000 (by decide +kernel) ?_
  refine va_mmin hx hb (hml.trans hl.1.symm) hown (hts (.methodLink RX10 283 Lib.Math.min.name) (by decide +kernel)) (hts (.static Lib.Math.min.name) (by decide +kernel)) (hts (.initialized "java/lang/Math") (by decide +kernel)) (hts (.code Lib.Math.min.name Lib.Math.min.code 2 (some .int)) (by decide +kernel)) (Nat.le_of_ble_eq_true rfl) (Nat.le_of_ble_eq_true rfl) (Nat.le_of_ble_eq_true rfl) (Nat.le_of_ble_eq_true rfl) dX10_copyRows_18 ?_
  refine nt_i 0 (by decide +kernel) ?_
  refine va_copyi hx hb (hml.trans hl.1.symm) hown (hts (.methodLink RX10 288 arraycopyName) (by decide +kernel)) (hts (.native arraycopyName) (by decide +kernel)) (hts (.static arraycopyName) (by decide +kernel)) (hts (.initialized "java/lang/System") (by decide +kernel)) hC.1 hP hD hS 2 3 1 1 rfl rfl rfl rfl rfl (by decide +kernel) (by decide +kernel) (by decide +kernel) (by decide +kernel) (by decide +kernel) (fun _ _ => rfl) (Nat.le_of_ble_eq_true rfl) (Nat.le_of_ble_eq_true rfl) dX10_copyRows_21 (fun H locs hP hD hS => ?_)
  generalize (va_cpy _ _ _ _ _) = f_1 at hP hD
  have hP : va_P D vwCl [(h0, .inr (10, [.ref tp, .ref rd, .ref lv, .ref tr, .ref rw, .ref bx, .ref ch, .ref sg, .ref dg, .ref pl, .ref dr, .int 0])), (lv, .inr (9, [.ref pl, .int 0, .ref w2, .ref w3, .ref w4, .ref w5])), (ra, .inl (ca 1, 2000, .inl f1)), (rb, .inl (ca 1, 2000, .inl f_1))] H := hP
  have hD : va_D A [(h0, .inr (10, [.ref tp, .ref rd, .ref lv, .ref tr, .ref rw, .ref bx, .ref ch, .ref sg, .ref dg, .ref pl, .ref dr, .int 0])), (lv, .inr (9, [.ref pl, .int 0, .ref w2, .ref w3, .ref w4, .ref w5])), (ra, .inl (ca 1, 2000, .inl f1)), (rb, .inl (ca 1, 2000, .inl f_1))] := hD
  exact W.vret hx hb hr (fun t ht hW => ⟨⟨f_1, rfl, trivial, by rw [ht]; exact hP.sub [0, 1, 2, 3] rfl, hDA (hD.sub [0, 1, 2, 3] (by decide +kernel) rfl)⟩, hS.F ht⟩) hS.2.2 dX10_copyRows_24
theorem iw_X10_image_0 : ∀ w ∈ u_ws RX0 TX0 3, w ∈ wsX10_image := by decide +kernel
theorem iw_X10_image_9 : ∀ w ∈ u_ws RX9 TX9 6, w ∈ wsX10_image := by decide +kernel
theorem iw_X10_image_10 : ∀ w ∈ u_ws RX10 TX10 12, w ∈ wsX10_image := by decide +kernel
def sp_k_X10_image (x1 : Int32) : Int32 := (if x1 < 0 then (-1) else (if x1 < 3 then 0 else (-1)))
set_option maxHeartbeats 4000000 in
set_option maxRecDepth 100000 in
theorem k_X10_image (l : Launch) (D : va_G) (ca : Nat → ClassId) (sz : Nat) (h0 : Nat) (tp : Nat) (rd : Nat) (lv : Nat) (tr : Nat) (rw : Nat) (bx : Nat) (ch : Nat) (sg : Nat) (dg : Nat) (pl : Nat) (dr : Nat) (w2 : Nat) (w3 : Nat) (w4 : Nat) (w5 : Nat) (pl5 : Nat) (pl6 : Nat) (pl7 : Nat) (pl8 : Nat) (pl9 : Nat) (pl10 : Nat) (pl11 : Nat) (pl12 : Nat) (pl13 : Nat) (fh : Nat → Int32) (fr : Nat → Int32) (b0 : Nat) (b1 : Nat) (b2 : Nat) (b0w : Nat) (b0r : Nat) (b1w : Nat) (b1r : Nat) (b2w : Nat) (b2r : Nat) (b0w2 : Nat) (b0w3 : Nat) (b0w4 : Nat) (b0w5 : Nat) (b1w2 : Nat) (b1w3 : Nat) (b1w4 : Nat) (b1w5 : Nat) (b2w2 : Nat) (b2w3 : Nat) (b2w4 : Nat) (b2w5 : Nat) (b0h : Nat → Int32) (b1h : Nat → Int32) (b2h : Nat → Int32) (b0f : Nat → Int32) (b1f : Nat → Int32) (b2f : Nat → Int32) (x1 : Int32) : Met l yX10_image wsX10_image ({ frames := 2, cells := 0, slots := 0, locals := 52 }) (PC [.ref h0, .int x1] sz D ca [(h0, .inr (10, [.ref tp, .ref rd, .ref lv, .ref tr, .ref rw, .ref bx, .ref ch, .ref sg, .ref dg, .ref pl, .ref dr, .int 0])), (lv, .inr (9, [.ref pl, .int 0, .ref w2, .ref w3, .ref w4, .ref w5])), (pl, .inr (2, [.int 1, .int 0, .int 0, .int 0, .int 0, .ref pl5, .ref pl6, .ref pl7, .ref pl8, .ref pl9, .ref pl10, .ref pl11, .ref pl12, .ref pl13])), (w3, .inl (ca 1, 6, .inl fh)), (rw, .inl (ca 1, 2000, .inl fr)), (bx, .inl (ca 4, 3, .inr (.inr (.inr (.inr (va_up (va_up (va_up (fun _ => none) 0 (some b0)) 1 (some b1)) 2 (some b2))))))), (b0, .inr (0, [.ref b0w, .ref b0r, .int 0])), (b1, .inr (0, [.ref b1w, .ref b1r, .int 0])), (b2, .inr (0, [.ref b2w, .ref b2r, .int 0])), (b0w, .inr (9, [.ref pl, .int 0, .ref b0w2, .ref b0w3, .ref b0w4, .ref b0w5])), (b0w3, .inl (ca 1, 6, .inl b0h)), (b0r, .inl (ca 1, 2000, .inl b0f)), (b1w, .inr (9, [.ref pl, .int 0, .ref b1w2, .ref b1w3, .ref b1w4, .ref b1w5])), (b1w3, .inl (ca 1, 6, .inl b1h)), (b1r, .inl (ca 1, 2000, .inl b1f)), (b2w, .inr (9, [.ref pl, .int 0, .ref b2w2, .ref b2w3, .ref b2w4, .ref b2w5])), (b2w3, .inl (ca 1, 6, .inl b2h)), (b2r, .inl (ca 1, 2000, .inl b2f))]) (QI (fun (r : Int32) (u : Unit) => r = sp_k_X10_image x1) (fun (_ : Unit) => []) [(h0, .inr (10, [.ref tp, .ref rd, .ref lv, .ref tr, .ref rw, .ref bx, .ref ch, .ref sg, .ref dg, .ref pl, .ref dr, .int 0])), (lv, .inr (9, [.ref pl, .int 0, .ref w2, .ref w3, .ref w4, .ref w5])), (pl, .inr (2, [.int 1, .int 0, .int 0, .int 0, .int 0, .ref pl5, .ref pl6, .ref pl7, .ref pl8, .ref pl9, .ref pl10, .ref pl11, .ref pl12, .ref pl13])), (w3, .inl (ca 1, 6, .inl fh)), (rw, .inl (ca 1, 2000, .inl fr)), (bx, .inl (ca 4, 3, .inr (.inr (.inr (.inr (va_up (va_up (va_up (fun _ => none) 0 (some b0)) 1 (some b1)) 2 (some b2))))))), (b0, .inr (0, [.ref b0w, .ref b0r, .int 0])), (b1, .inr (0, [.ref b1w, .ref b1r, .int 0])), (b2, .inr (0, [.ref b2w, .ref b2r, .int 0])), (b0w, .inr (9, [.ref pl, .int 0, .ref b0w2, .ref b0w3, .ref b0w4, .ref b0w5])), (b0w3, .inl (ca 1, 6, .inl b0h)), (b0r, .inl (ca 1, 2000, .inl b0f)), (b1w, .inr (9, [.ref pl, .int 0, .ref b1w2, .ref b1w3, .ref b1w4, .ref b1w5])), (b1w3, .inl (ca 1, 6, .inl b1h)), (b1r, .inl (ca 1, 2000, .inl b1f)), (b2w, .inr (9, [.ref pl, .int 0, .ref b2w2, .ref b2w3, .ref b2w4, .ref b2w5])), (b2w3, .inl (ca 1, 6, .inl b2h)), (b2r, .inl (ca 1, 2000, .inl b2f))] sz D) 0 0 (va_A [(h0, .inr (10, [.ref tp, .ref rd, .ref lv, .ref tr, .ref rw, .ref bx, .ref ch, .ref sg, .ref dg, .ref pl, .ref dr, .int 0])), (lv, .inr (9, [.ref pl, .int 0, .ref w2, .ref w3, .ref w4, .ref w5])), (pl, .inr (2, [.int 1, .int 0, .int 0, .int 0, .int 0, .ref pl5, .ref pl6, .ref pl7, .ref pl8, .ref pl9, .ref pl10, .ref pl11, .ref pl12, .ref pl13])), (w3, .inl (ca 1, 6, .inl fh)), (rw, .inl (ca 1, 2000, .inl fr)), (bx, .inl (ca 4, 3, .inr (.inr (.inr (.inr (va_up (va_up (va_up (fun _ => none) 0 (some b0)) 1 (some b1)) 2 (some b2))))))), (b0, .inr (0, [.ref b0w, .ref b0r, .int 0])), (b1, .inr (0, [.ref b1w, .ref b1r, .int 0])), (b2, .inr (0, [.ref b2w, .ref b2r, .int 0])), (b0w, .inr (9, [.ref pl, .int 0, .ref b0w2, .ref b0w3, .ref b0w4, .ref b0w5])), (b0w3, .inl (ca 1, 6, .inl b0h)), (b0r, .inl (ca 1, 2000, .inl b0f)), (b1w, .inr (9, [.ref pl, .int 0, .ref b1w2, .ref b1w3, .ref b1w4, .ref b1w5])), (b1w3, .inl (ca 1, 6, .inl b1h)), (b1r, .inl (ca 1, 2000, .inl b1f)), (b2w, .inr (9, [.ref pl, .int 0, .ref b2w2, .ref b2w3, .ref b2w4, .ref b2w5])), (b2w3, .inl (ca 1, 6, .inl b2h)), (b2r, .inl (ca 1, 2000, .inl b2f))] sz) := by
  refine Met.ofW (cc := cX10_image) (maxL := 2) (ret := (some .int)) (by decide +kernel) rfl ?_
  intro p e s m args below meth c s₁ B hml hv
  obtain ⟨rfl, hsz, hP, hC, hD0⟩ := hv
  have hx := B.exec
  have hb := B.bytes
  have hr := B.returns
  have hts := atoms_spec (ws := wsX10_image) B.pre
  have hown : s.vm.findClass RX10 = some m.cls := findClass_of_methodNamed B.named
  have hlocks := B.notSynchronized
  subst hsz
  have hD := hD0.self (sz := s.heap.size)
  dsimp only [QV, QI, QL, BQ]
  generalize hAe : va_A [(h0, .inr (10, [.ref tp, .ref rd, .ref lv, .ref tr, .ref rw, .ref bx, .ref ch, .ref sg, .ref dg, .ref pl, .ref dr, .int 0])), (lv, .inr (9, [.ref pl, .int 0, .ref w2, .ref w3, .ref w4, .ref w5])), (pl, .inr (2, [.int 1, .int 0, .int 0, .int 0, .int 0, .ref pl5, .ref pl6, .ref pl7, .ref pl8, .ref pl9, .ref pl10, .ref pl11, .ref pl12, .ref pl13])), (w3, .inl (ca 1, 6, .inl fh)), (rw, .inl (ca 1, 2000, .inl fr)), (bx, .inl (ca 4, 3, .inr (.inr (.inr (.inr (va_up (va_up (va_up (fun _ => none) 0 (some b0)) 1 (some b1)) 2 (some b2))))))), (b0, .inr (0, [.ref b0w, .ref b0r, .int 0])), (b1, .inr (0, [.ref b1w, .ref b1r, .int 0])), (b2, .inr (0, [.ref b2w, .ref b2r, .int 0])), (b0w, .inr (9, [.ref pl, .int 0, .ref b0w2, .ref b0w3, .ref b0w4, .ref b0w5])), (b0w3, .inl (ca 1, 6, .inl b0h)), (b0r, .inl (ca 1, 2000, .inl b0f)), (b1w, .inr (9, [.ref pl, .int 0, .ref b1w2, .ref b1w3, .ref b1w4, .ref b1w5])), (b1w3, .inl (ca 1, 6, .inl b1h)), (b1r, .inl (ca 1, 2000, .inl b1f)), (b2w, .inr (9, [.ref pl, .int 0, .ref b2w2, .ref b2w3, .ref b2w4, .ref b2w5])), (b2w3, .inl (ca 1, 6, .inl b2h)), (b2r, .inl (ca 1, 2000, .inl b2f))] s.heap.size = A at hD ⊢
  have hA : ∀ q : Nat, s.heap.size ≤ q → A q := fun q h => by rw [← hAe]; exact Or.inr h
  have hDA : ∀ {w : va_W}, va_D A w → va_D (va_A [(h0, .inr (10, [.ref tp, .ref rd, .ref lv, .ref tr, .ref rw, .ref bx, .ref ch, .ref sg, .ref dg, .ref pl, .ref dr, .int 0])), (lv, .inr (9, [.ref pl, .int 0, .ref w2, .ref w3, .ref w4, .ref w5])), (pl, .inr (2, [.int 1, .int 0, .int 0, .int 0, .int 0, .ref pl5, .ref pl6, .ref pl7, .ref pl8, .ref pl9, .ref pl10, .ref pl11, .ref pl12, .ref pl13])), (w3, .inl (ca 1, 6, .inl fh)), (rw, .inl (ca 1, 2000, .inl fr)), (bx, .inl (ca 4, 3, .inr (.inr (.inr (.inr (va_up (va_up (va_up (fun _ => none) 0 (some b0)) 1 (some b1)) 2 (some b2))))))), (b0, .inr (0, [.ref b0w, .ref b0r, .int 0])), (b1, .inr (0, [.ref b1w, .ref b1r, .int 0])), (b2, .inr (0, [.ref b2w, .ref b2r, .int 0])), (b0w, .inr (9, [.ref pl, .int 0, .ref b0w2, .ref b0w3, .ref b0w4, .ref b0w5])), (b0w3, .inl (ca 1, 6, .inl b0h)), (b0r, .inl (ca 1, 2000, .inl b0f)), (b1w, .inr (9, [.ref pl, .int 0, .ref b1w2, .ref b1w3, .ref b1w4, .ref b1w5])), (b1w3, .inl (ca 1, 6, .inl b1h)), (b1r, .inl (ca 1, 2000, .inl b1f)), (b2w, .inr (9, [.ref pl, .int 0, .ref b2w2, .ref b2w3, .ref b2w4, .ref b2w5])), (b2w3, .inl (ca 1, 6, .inl b2h)), (b2r, .inl (ca 1, 2000, .inl b2f))] s.heap.size) w := fun h => by rw [hAe]; exact h
  have hS : va_S A s.heap s.heap [] := va_S.rf
  have hP : va_P D vwCl [(h0, .inr (10, [.ref tp, .ref rd, .ref lv, .ref tr, .ref rw, .ref bx, .ref ch, .ref sg, .ref dg, .ref pl, .ref dr, .int 0])), (lv, .inr (9, [.ref pl, .int 0, .ref w2, .ref w3, .ref w4, .ref w5])), (pl, .inr (2, [.int 1, .int 0, .int 0, .int 0, .int 0, .ref pl5, .ref pl6, .ref pl7, .ref pl8, .ref pl9, .ref pl10, .ref pl11, .ref pl12, .ref pl13])), (w3, .inl (ca 1, 6, .inl fh)), (rw, .inl (ca 1, 2000, .inl fr)), (bx, .inl (ca 4, 3, .inr (.inr (.inr (.inr (va_up (va_up (va_up (fun _ => none) 0 (some b0)) 1 (some b1)) 2 (some b2))))))), (b0, .inr (0, [.ref b0w, .ref b0r, .int 0])), (b1, .inr (0, [.ref b1w, .ref b1r, .int 0])), (b2, .inr (0, [.ref b2w, .ref b2r, .int 0])), (b0w, .inr (9, [.ref pl, .int 0, .ref b0w2, .ref b0w3, .ref b0w4, .ref b0w5])), (b0w3, .inl (ca 1, 6, .inl b0h)), (b0r, .inl (ca 1, 2000, .inl b0f)), (b1w, .inr (9, [.ref pl, .int 0, .ref b1w2, .ref b1w3, .ref b1w4, .ref b1w5])), (b1w3, .inl (ca 1, 6, .inl b1h)), (b1r, .inl (ca 1, 2000, .inl b1f)), (b2w, .inr (9, [.ref pl, .int 0, .ref b2w2, .ref b2w3, .ref b2w4, .ref b2w5])), (b2w3, .inl (ca 1, 6, .inl b2h)), (b2r, .inl (ca 1, 2000, .inl b2f))] s.heap := hP
  have hl := lv_entry ([.ref h0, .int x1]) (n := 2) (Nat.le_of_ble_eq_true rfl)
  rw [lg_entry_eq]
  generalize (lg_sl ([.ref h0, .int x1]) ++ List.replicate (2 - (lg_sl ([.ref h0, .int x1])).length) Slot.unset).toArray = ls at hl ⊢
  have hl : lv_has ls 2 [(0, .ref h0), (1, .int x1)] := hl
  refine lv_iload_n hx hb dX10_image_0 rfl (lv_at hl 1 rfl) ?_
  refine lv_if_lt (tgt := 13) hx hb dX10_image_1 (by decide +kernel) (fun c_1 => ?_) (fun c_1 => ?_)
  · refine lv_iconst (v := (-1)) hx hb dX10_image_13 (by decide +kernel) ?_
    exact W.iret (v := (-1)) hx hb hr (fun t ht hW => ⟨⟨(-1), (), rfl, (by unfold sp_k_X10_image; rw [if_pos c_1]), by rw [ht]; exact hP.sub [] rfl, hDA (hD.sub [] (by decide +kernel) rfl)⟩, hS.F ht⟩) hS.2.2 dX10_image_14
  · refine lv_iload_n hx hb dX10_image_4 rfl (lv_at hl 1 rfl) ?_
    refine lv_aload_n hx hb dX10_image_5 rfl (lv_at hl 0 rfl) ?_
    refine va_get (D := D) (ci := 10) (v := .ref bx) (C := RX10) (T := TX10) (N := 12) hx hb hts iw_X10_image_10 hown hC.1 hP 0 rfl rfl 5 (by decide +kernel) (hts (.fieldLink RX10 53 "FairWheel" "boxes" "[LFairWheel$Box;") (by decide +kernel)) (fun _ h9 => h9) rfl dX10_image_6 ?_
    refine va_alen (v := 3) hx hb hC.1 hP 5 4 rfl rfl rfl dX10_image_9 ?_
    refine lv_icmp_lt (tgt := 15) hx hb dX10_image_10 (by decide +kernel) (fun c_2 => ?_) (fun c_2 => ?_)
    · obtain rfl | rfl | rfl : x1 = 0 ∨ x1 = 1 ∨ x1 = 2 := i012 c_1 (Int32.not_le.mpr c_2)
      · refine lv_aload_n hx hb dX10_image_15 rfl (lv_at hl 0 rfl) ?_
        refine va_get (D := D) (ci := 10) (v := .ref bx) (C := RX10) (T := TX10) (N := 12) hx hb hts iw_X10_image_10 hown hC.1 hP 0 rfl rfl 5 (by decide +kernel) (hts (.fieldLink RX10 53 "FairWheel" "boxes" "[LFairWheel$Box;") (by decide +kernel)) (fun _ h9 => h9) rfl dX10_image_16 ?_
        refine lv_iload_n hx hb dX10_image_19 rfl (lv_at hl 1 rfl) ?_
        refine ka_aldq hx hb hC.1 hP 5 4 rfl rfl 0 rfl (by decide +kernel) (by decide +kernel) dX10_image_20 ?_
        refine nt_v (.ref b0) rfl ?_
        refine va_get (D := D) (ci := 0) (v := .ref b0w) (C := RX0) (T := TX0) (N := 3) hx hb hts iw_X10_image_0 hown hC.1 hP 6 rfl rfl 0 (by decide +kernel) (hts (.fieldLink RX10 263 "FairWheel$Box" "wheel" "LFairWheel$Wheel;") (by decide +kernel)) (fun _ h9 => h9) rfl dX10_image_21 ?_
        refine lv_aload_n hx hb dX10_image_24 rfl (lv_at hl 0 rfl) ?_
        refine va_get (D := D) (ci := 10) (v := .ref lv) (C := RX10) (T := TX10) (N := 12) hx hb hts iw_X10_image_10 hown hC.1 hP 0 rfl rfl 2 (by decide +kernel) (hts (.fieldLink RX10 40 "FairWheel" "live" "LFairWheel$Wheel;") (by decide +kernel)) (fun _ h9 => h9) rfl dX10_image_25 ?_
        refine kc_v (wr := [(h0, .inr (10, [.ref tp, .ref rd, .ref lv, .ref tr, .ref rw, .ref bx, .ref ch, .ref sg, .ref dg, .ref pl, .ref dr, .int 0])), (rw, .inl (ca 1, 2000, .inl fr)), (bx, .inl (ca 4, 3, .inr (.inr (.inr (.inr (va_up (va_up (va_up (fun _ => none) 0 (some b0)) 1 (some b1)) 2 (some b2))))))), (b0, .inr (0, [.ref b0w, .ref b0r, .int 0])), (b1, .inr (0, [.ref b1w, .ref b1r, .int 0])), (b2, .inr (0, [.ref b2w, .ref b2r, .int 0])), (b0r, .inl (ca 1, 2000, .inl b0f)), (b1w, .inr (9, [.ref pl, .int 0, .ref b1w2, .ref b1w3, .ref b1w4, .ref b1w5])), (b1w3, .inl (ca 1, 6, .inl b1h)), (b1r, .inl (ca 1, 2000, .inl b1f)), (b2w, .inr (9, [.ref pl, .int 0, .ref b2w2, .ref b2w3, .ref b2w4, .ref b2w5])), (b2w3, .inl (ca 1, 6, .inl b2h)), (b2r, .inl (ca 1, 2000, .inl b2f))]) (va_runV (As := [.ref lv]) (rest := []) ⟨hx, hb, hml, hown, hts⟩ (k_X9_copyFrom l D ca s.heap.size b0w pl b0w2 b0w3 b0w4 b0w5 lv w2 w3 w4 w5 pl pl5 pl6 pl7 pl8 pl9 pl10 pl11 pl12 pl13 b0h fh) (cwV 1 hts gX10_image_X9_copyFrom rfl rfl rfl (by decide +kernel) ⟨(Nat.le_of_ble_eq_true rfl), (Nat.le_of_ble_eq_true rfl)⟩) (PC.preV (ci := 9) hC hP hD [9, 1, 2, 10, 3] rfl (by decide +kernel) rfl rfl) rfl rfl hl.1 rfl (lv_room (Nat.le_of_ble_eq_true rfl)) dX10_image_28 ⟨(Nat.le_of_ble_eq_true rfl), (Nat.le_of_ble_eq_true rfl)⟩) hP hD hS hA [9, 1, 2, 10, 3] [0, 4, 5, 6, 7, 8, 11, 12, 13, 14, 15, 16, 17] rfl rfl (by decide +kernel) (by decide +kernel) (fun u_4 H locs hw_3 hP hD hS => ?_)
        obtain ⟨f_5, rfl⟩ : ∃ z, z = u_4 := ⟨_, rfl⟩
        have hP : va_P D vwCl [(h0, .inr (10, [.ref tp, .ref rd, .ref lv, .ref tr, .ref rw, .ref bx, .ref ch, .ref sg, .ref dg, .ref pl, .ref dr, .int 0])), (rw, .inl (ca 1, 2000, .inl fr)), (bx, .inl (ca 4, 3, .inr (.inr (.inr (.inr (va_up (va_up (va_up (fun _ => none) 0 (some b0)) 1 (some b1)) 2 (some b2))))))), (b0, .inr (0, [.ref b0w, .ref b0r, .int 0])), (b1, .inr (0, [.ref b1w, .ref b1r, .int 0])), (b2, .inr (0, [.ref b2w, .ref b2r, .int 0])), (b0r, .inl (ca 1, 2000, .inl b0f)), (b1w, .inr (9, [.ref pl, .int 0, .ref b1w2, .ref b1w3, .ref b1w4, .ref b1w5])), (b1w3, .inl (ca 1, 6, .inl b1h)), (b1r, .inl (ca 1, 2000, .inl b1f)), (b2w, .inr (9, [.ref pl, .int 0, .ref b2w2, .ref b2w3, .ref b2w4, .ref b2w5])), (b2w3, .inl (ca 1, 6, .inl b2h)), (b2r, .inl (ca 1, 2000, .inl b2f)), (b0w, .inr (9, [.ref pl, .int 0, .ref b0w2, .ref b0w3, .ref b0w4, .ref b0w5])), (lv, .inr (9, [.ref pl, .int 0, .ref w2, .ref w3, .ref w4, .ref w5])), (pl, .inr (2, [.int 1, .int 0, .int 0, .int 0, .int 0, .ref pl5, .ref pl6, .ref pl7, .ref pl8, .ref pl9, .ref pl10, .ref pl11, .ref pl12, .ref pl13])), (b0w3, .inl (ca 1, 6, .inl f_5)), (w3, .inl (ca 1, 6, .inl fh))] H := hP
        have hD : va_D A [(h0, .inr (10, [.ref tp, .ref rd, .ref lv, .ref tr, .ref rw, .ref bx, .ref ch, .ref sg, .ref dg, .ref pl, .ref dr, .int 0])), (rw, .inl (ca 1, 2000, .inl fr)), (bx, .inl (ca 4, 3, .inr (.inr (.inr (.inr (va_up (va_up (va_up (fun _ => none) 0 (some b0)) 1 (some b1)) 2 (some b2))))))), (b0, .inr (0, [.ref b0w, .ref b0r, .int 0])), (b1, .inr (0, [.ref b1w, .ref b1r, .int 0])), (b2, .inr (0, [.ref b2w, .ref b2r, .int 0])), (b0r, .inl (ca 1, 2000, .inl b0f)), (b1w, .inr (9, [.ref pl, .int 0, .ref b1w2, .ref b1w3, .ref b1w4, .ref b1w5])), (b1w3, .inl (ca 1, 6, .inl b1h)), (b1r, .inl (ca 1, 2000, .inl b1f)), (b2w, .inr (9, [.ref pl, .int 0, .ref b2w2, .ref b2w3, .ref b2w4, .ref b2w5])), (b2w3, .inl (ca 1, 6, .inl b2h)), (b2r, .inl (ca 1, 2000, .inl b2f)), (b0w, .inr (9, [.ref pl, .int 0, .ref b0w2, .ref b0w3, .ref b0w4, .ref b0w5])), (lv, .inr (9, [.ref pl, .int 0, .ref w2, .ref w3, .ref w4, .ref w5])), (pl, .inr (2, [.int 1, .int 0, .int 0, .int 0, .int 0, .ref pl5, .ref pl6, .ref pl7, .ref pl8, .ref pl9, .ref pl10, .ref pl11, .ref pl12, .ref pl13])), (b0w3, .inl (ca 1, 6, .inl f_5)), (w3, .inl (ca 1, 6, .inl fh))] := hD
        refine lv_aload_n hx hb dX10_image_31 rfl (lv_at hl 0 rfl) ?_
        refine lv_aload_n hx hb dX10_image_32 rfl (lv_at hl 0 rfl) ?_
        refine va_get (D := D) (ci := 10) (v := .ref rw) (C := RX10) (T := TX10) (N := 12) hx hb hts iw_X10_image_10 hown hC.1 hP 0 rfl rfl 4 (by decide +kernel) (hts (.fieldLink RX10 47 "FairWheel" "rows" "[I") (by decide +kernel)) (fun _ h9 => h9) rfl dX10_image_33 ?_
        refine lv_aload_n hx hb dX10_image_36 rfl (lv_at hl 0 rfl) ?_
        refine va_get (D := D) (ci := 10) (v := .ref bx) (C := RX10) (T := TX10) (N := 12) hx hb hts iw_X10_image_10 hown hC.1 hP 0 rfl rfl 5 (by decide +kernel) (hts (.fieldLink RX10 53 "FairWheel" "boxes" "[LFairWheel$Box;") (by decide +kernel)) (fun _ h9 => h9) rfl dX10_image_37 ?_
        refine lv_iload_n hx hb dX10_image_40 rfl (lv_at hl 1 rfl) ?_
        refine ka_aldq hx hb hC.1 hP 2 4 rfl rfl 0 rfl (by decide +kernel) (by decide +kernel) dX10_image_41 ?_
        refine nt_v (.ref b0) rfl ?_
        refine va_get (D := D) (ci := 0) (v := .ref b0r) (C := RX0) (T := TX0) (N := 3) hx hb hts iw_X10_image_0 hown hC.1 hP 3 rfl rfl 1 (by decide +kernel) (hts (.fieldLink RX10 266 "FairWheel$Box" "rows" "[I") (by decide +kernel)) (fun _ h9 => h9) rfl dX10_image_42 ?_
        refine kc_v (wr := [(bx, .inl (ca 4, 3, .inr (.inr (.inr (.inr (va_up (va_up (va_up (fun _ => none) 0 (some b0)) 1 (some b1)) 2 (some b2))))))), (b0, .inr (0, [.ref b0w, .ref b0r, .int 0])), (b1, .inr (0, [.ref b1w, .ref b1r, .int 0])), (b2, .inr (0, [.ref b2w, .ref b2r, .int 0])), (b1w, .inr (9, [.ref pl, .int 0, .ref b1w2, .ref b1w3, .ref b1w4, .ref b1w5])), (b1w3, .inl (ca 1, 6, .inl b1h)), (b1r, .inl (ca 1, 2000, .inl b1f)), (b2w, .inr (9, [.ref pl, .int 0, .ref b2w2, .ref b2w3, .ref b2w4, .ref b2w5])), (b2w3, .inl (ca 1, 6, .inl b2h)), (b2r, .inl (ca 1, 2000, .inl b2f)), (b0w, .inr (9, [.ref pl, .int 0, .ref b0w2, .ref b0w3, .ref b0w4, .ref b0w5])), (pl, .inr (2, [.int 1, .int 0, .int 0, .int 0, .int 0, .ref pl5, .ref pl6, .ref pl7, .ref pl8, .ref pl9, .ref pl10, .ref pl11, .ref pl12, .ref pl13])), (b0w3, .inl (ca 1, 6, .inl f_5)), (w3, .inl (ca 1, 6, .inl fh))]) (va_runV (As := [.ref rw, .ref b0r]) (rest := []) ⟨hx, hb, hml, hown, hts⟩ (k_X10_copyRows l D ca H.size h0 tp rd lv tr rw bx ch sg dg pl dr w2 w3 w4 w5 rw b0r fr b0f) (cwV 2 hts gX10_image_X10_copyRows rfl rfl rfl (by decide +kernel) ⟨(Nat.le_of_ble_eq_true rfl), (Nat.le_of_ble_eq_true rfl)⟩) (PC.preV (ci := 10) hC hP hD [0, 14, 1, 6] rfl (by decide +kernel) rfl rfl) rfl rfl hl.1 rfl (lv_room (Nat.le_of_ble_eq_true rfl)) dX10_image_45 ⟨(Nat.le_of_ble_eq_true rfl), (Nat.le_of_ble_eq_true rfl)⟩) hP hD hS hA [0, 14, 1, 6] [2, 3, 4, 5, 7, 8, 9, 10, 11, 12, 13, 15, 16, 17] rfl rfl (by decide +kernel) (by decide +kernel) (fun u_7 H locs hw_6 hP hD hS => ?_)
        obtain ⟨f_8, rfl⟩ : ∃ z, z = u_7 := ⟨_, rfl⟩
        have hP : va_P D vwCl [(bx, .inl (ca 4, 3, .inr (.inr (.inr (.inr (va_up (va_up (va_up (fun _ => none) 0 (some b0)) 1 (some b1)) 2 (some b2))))))), (b0, .inr (0, [.ref b0w, .ref b0r, .int 0])), (b1, .inr (0, [.ref b1w, .ref b1r, .int 0])), (b2, .inr (0, [.ref b2w, .ref b2r, .int 0])), (b1w, .inr (9, [.ref pl, .int 0, .ref b1w2, .ref b1w3, .ref b1w4, .ref b1w5])), (b1w3, .inl (ca 1, 6, .inl b1h)), (b1r, .inl (ca 1, 2000, .inl b1f)), (b2w, .inr (9, [.ref pl, .int 0, .ref b2w2, .ref b2w3, .ref b2w4, .ref b2w5])), (b2w3, .inl (ca 1, 6, .inl b2h)), (b2r, .inl (ca 1, 2000, .inl b2f)), (b0w, .inr (9, [.ref pl, .int 0, .ref b0w2, .ref b0w3, .ref b0w4, .ref b0w5])), (pl, .inr (2, [.int 1, .int 0, .int 0, .int 0, .int 0, .ref pl5, .ref pl6, .ref pl7, .ref pl8, .ref pl9, .ref pl10, .ref pl11, .ref pl12, .ref pl13])), (b0w3, .inl (ca 1, 6, .inl f_5)), (w3, .inl (ca 1, 6, .inl fh)), (h0, .inr (10, [.ref tp, .ref rd, .ref lv, .ref tr, .ref rw, .ref bx, .ref ch, .ref sg, .ref dg, .ref pl, .ref dr, .int 0])), (lv, .inr (9, [.ref pl, .int 0, .ref w2, .ref w3, .ref w4, .ref w5])), (rw, .inl (ca 1, 2000, .inl fr)), (b0r, .inl (ca 1, 2000, .inl f_8))] H := hP
        have hD : va_D A [(bx, .inl (ca 4, 3, .inr (.inr (.inr (.inr (va_up (va_up (va_up (fun _ => none) 0 (some b0)) 1 (some b1)) 2 (some b2))))))), (b0, .inr (0, [.ref b0w, .ref b0r, .int 0])), (b1, .inr (0, [.ref b1w, .ref b1r, .int 0])), (b2, .inr (0, [.ref b2w, .ref b2r, .int 0])), (b1w, .inr (9, [.ref pl, .int 0, .ref b1w2, .ref b1w3, .ref b1w4, .ref b1w5])), (b1w3, .inl (ca 1, 6, .inl b1h)), (b1r, .inl (ca 1, 2000, .inl b1f)), (b2w, .inr (9, [.ref pl, .int 0, .ref b2w2, .ref b2w3, .ref b2w4, .ref b2w5])), (b2w3, .inl (ca 1, 6, .inl b2h)), (b2r, .inl (ca 1, 2000, .inl b2f)), (b0w, .inr (9, [.ref pl, .int 0, .ref b0w2, .ref b0w3, .ref b0w4, .ref b0w5])), (pl, .inr (2, [.int 1, .int 0, .int 0, .int 0, .int 0, .ref pl5, .ref pl6, .ref pl7, .ref pl8, .ref pl9, .ref pl10, .ref pl11, .ref pl12, .ref pl13])), (b0w3, .inl (ca 1, 6, .inl f_5)), (w3, .inl (ca 1, 6, .inl fh)), (h0, .inr (10, [.ref tp, .ref rd, .ref lv, .ref tr, .ref rw, .ref bx, .ref ch, .ref sg, .ref dg, .ref pl, .ref dr, .int 0])), (lv, .inr (9, [.ref pl, .int 0, .ref w2, .ref w3, .ref w4, .ref w5])), (rw, .inl (ca 1, 2000, .inl fr)), (b0r, .inl (ca 1, 2000, .inl f_8))] := hD
        refine lv_aload_n hx hb dX10_image_48 rfl (lv_at hl 0 rfl) ?_
        refine va_get (D := D) (ci := 10) (v := .ref bx) (C := RX10) (T := TX10) (N := 12) hx hb hts iw_X10_image_10 hown hC.1 hP 14 rfl rfl 5 (by decide +kernel) (hts (.fieldLink RX10 53 "FairWheel" "boxes" "[LFairWheel$Box;") (by decide +kernel)) (fun _ h9 => h9) rfl dX10_image_49 ?_
        refine lv_iload_n hx hb dX10_image_52 rfl (lv_at hl 1 rfl) ?_
        refine ka_aldq hx hb hC.1 hP 0 4 rfl rfl 0 rfl (by decide +kernel) (by decide +kernel) dX10_image_53 ?_
        refine nt_v (.ref b0) rfl ?_
        refine lv_iconst (v := 1) hx hb dX10_image_54 (by decide +kernel) ?_
        refine va_put (D := D) (ci := 0) (v := .int 1) (ty := .boolean) (C := RX0) (T := TX0) (N := 3) hx hb hts iw_X10_image_0 tyX0 tyX0_ok nmX0 hown hC.1 hP hD hS 1 rfl rfl 2 (by decide +kernel) (hts (.fieldLink RX10 101 "FairWheel$Box" "full" "Z") (by decide +kernel)) (fun _ h9 => h9) rfl (by decide +kernel) rfl rfl (Nat.le_of_ble_eq_true rfl) dX10_image_55 (fun H locs hP hD hS => ?_)
        have hP : va_P D vwCl [(bx, .inl (ca 4, 3, .inr (.inr (.inr (.inr (va_up (va_up (va_up (fun _ => none) 0 (some b0)) 1 (some b1)) 2 (some b2))))))), (b0, .inr (0, [.ref b0w, .ref b0r, .int 1])), (b1, .inr (0, [.ref b1w, .ref b1r, .int 0])), (b2, .inr (0, [.ref b2w, .ref b2r, .int 0])), (b1w, .inr (9, [.ref pl, .int 0, .ref b1w2, .ref b1w3, .ref b1w4, .ref b1w5])), (b1w3, .inl (ca 1, 6, .inl b1h)), (b1r, .inl (ca 1, 2000, .inl b1f)), (b2w, .inr (9, [.ref pl, .int 0, .ref b2w2, .ref b2w3, .ref b2w4, .ref b2w5])), (b2w3, .inl (ca 1, 6, .inl b2h)), (b2r, .inl (ca 1, 2000, .inl b2f)), (b0w, .inr (9, [.ref pl, .int 0, .ref b0w2, .ref b0w3, .ref b0w4, .ref b0w5])), (pl, .inr (2, [.int 1, .int 0, .int 0, .int 0, .int 0, .ref pl5, .ref pl6, .ref pl7, .ref pl8, .ref pl9, .ref pl10, .ref pl11, .ref pl12, .ref pl13])), (b0w3, .inl (ca 1, 6, .inl f_5)), (w3, .inl (ca 1, 6, .inl fh)), (h0, .inr (10, [.ref tp, .ref rd, .ref lv, .ref tr, .ref rw, .ref bx, .ref ch, .ref sg, .ref dg, .ref pl, .ref dr, .int 0])), (lv, .inr (9, [.ref pl, .int 0, .ref w2, .ref w3, .ref w4, .ref w5])), (rw, .inl (ca 1, 2000, .inl fr)), (b0r, .inl (ca 1, 2000, .inl f_8))] H := hP
        have hD : va_D A [(bx, .inl (ca 4, 3, .inr (.inr (.inr (.inr (va_up (va_up (va_up (fun _ => none) 0 (some b0)) 1 (some b1)) 2 (some b2))))))), (b0, .inr (0, [.ref b0w, .ref b0r, .int 1])), (b1, .inr (0, [.ref b1w, .ref b1r, .int 0])), (b2, .inr (0, [.ref b2w, .ref b2r, .int 0])), (b1w, .inr (9, [.ref pl, .int 0, .ref b1w2, .ref b1w3, .ref b1w4, .ref b1w5])), (b1w3, .inl (ca 1, 6, .inl b1h)), (b1r, .inl (ca 1, 2000, .inl b1f)), (b2w, .inr (9, [.ref pl, .int 0, .ref b2w2, .ref b2w3, .ref b2w4, .ref b2w5])), (b2w3, .inl (ca 1, 6, .inl b2h)), (b2r, .inl (ca 1, 2000, .inl b2f)), (b0w, .inr (9, [.ref pl, .int 0, .ref b0w2, .ref b0w3, .ref b0w4, .ref b0w5])), (pl, .inr (2, [.int 1, .int 0, .int 0, .int 0, .int 0, .ref pl5, .ref pl6, .ref pl7, .ref pl8, .ref pl9, .ref pl10, .ref pl11, .ref pl12, .ref pl13])), (b0w3, .inl (ca 1, 6, .inl f_5)), (w3, .inl (ca 1, 6, .inl fh)), (h0, .inr (10, [.ref tp, .ref rd, .ref lv, .ref tr, .ref rw, .ref bx, .ref ch, .ref sg, .ref dg, .ref pl, .ref dr, .int 0])), (lv, .inr (9, [.ref pl, .int 0, .ref w2, .ref w3, .ref w4, .ref w5])), (rw, .inl (ca 1, 2000, .inl fr)), (b0r, .inl (ca 1, 2000, .inl f_8))] := hD
        refine lv_aload_n hx hb dX10_image_58 rfl (lv_at hl 0 rfl) ?_
        refine va_get (D := D) (ci := 10) (v := .ref lv) (C := RX10) (T := TX10) (N := 12) hx hb hts iw_X10_image_10 hown hC.1 hP 14 rfl rfl 2 (by decide +kernel) (hts (.fieldLink RX10 40 "FairWheel" "live" "LFairWheel$Wheel;") (by decide +kernel)) (fun _ h9 => h9) rfl dX10_image_59 ?_
        refine va_get (D := D) (ci := 9) (v := .int 0) (C := RX9) (T := TX9) (N := 6) hx hb hts iw_X10_image_9 hown hC.1 hP 15 rfl rfl 1 (by decide +kernel) (hts (.fieldLink RX10 112 "FairWheel$Wheel" "now" "I") (by decide +kernel)) (fun _ h9 => h9) rfl dX10_image_62 ?_
        exact W.iret (v := 0) hx hb hr (fun t ht hW => ⟨⟨0, (), rfl, (by unfold sp_k_X10_image; rw [if_neg c_1, if_pos c_2]), by rw [ht]; exact hP.sub [] rfl, hDA (hD.sub [] (by decide +kernel) rfl)⟩, hS.F ht⟩) hS.2.2 dX10_image_65
      · refine lv_aload_n hx hb dX10_image_15 rfl (lv_at hl 0 rfl) ?_
        refine va_get (D := D) (ci := 10) (v := .ref bx) (C := RX10) (T := TX10) (N := 12) hx hb hts iw_X10_image_10 hown hC.1 hP 0 rfl rfl 5 (by decide +kernel) (hts (.fieldLink RX10 53 "FairWheel" "boxes" "[LFairWheel$Box;") (by decide +kernel)) (fun _ h9 => h9) rfl dX10_image_16 ?_
        refine lv_iload_n hx hb dX10_image_19 rfl (lv_at hl 1 rfl) ?_
        refine ka_aldq hx hb hC.1 hP 5 4 rfl rfl 1 rfl (by decide +kernel) (by decide +kernel) dX10_image_20 ?_
        refine nt_v (.ref b1) rfl ?_
        refine va_get (D := D) (ci := 0) (v := .ref b1w) (C := RX0) (T := TX0) (N := 3) hx hb hts iw_X10_image_0 hown hC.1 hP 7 rfl rfl 0 (by decide +kernel) (hts (.fieldLink RX10 263 "FairWheel$Box" "wheel" "LFairWheel$Wheel;") (by decide +kernel)) (fun _ h9 => h9) rfl dX10_image_21 ?_
        refine lv_aload_n hx hb dX10_image_24 rfl (lv_at hl 0 rfl) ?_
        refine va_get (D := D) (ci := 10) (v := .ref lv) (C := RX10) (T := TX10) (N := 12) hx hb hts iw_X10_image_10 hown hC.1 hP 0 rfl rfl 2 (by decide +kernel) (hts (.fieldLink RX10 40 "FairWheel" "live" "LFairWheel$Wheel;") (by decide +kernel)) (fun _ h9 => h9) rfl dX10_image_25 ?_
        refine kc_v (wr := [(h0, .inr (10, [.ref tp, .ref rd, .ref lv, .ref tr, .ref rw, .ref bx, .ref ch, .ref sg, .ref dg, .ref pl, .ref dr, .int 0])), (rw, .inl (ca 1, 2000, .inl fr)), (bx, .inl (ca 4, 3, .inr (.inr (.inr (.inr (va_up (va_up (va_up (fun _ => none) 0 (some b0)) 1 (some b1)) 2 (some b2))))))), (b0, .inr (0, [.ref b0w, .ref b0r, .int 0])), (b1, .inr (0, [.ref b1w, .ref b1r, .int 0])), (b2, .inr (0, [.ref b2w, .ref b2r, .int 0])), (b0w, .inr (9, [.ref pl, .int 0, .ref b0w2, .ref b0w3, .ref b0w4, .ref b0w5])), (b0w3, .inl (ca 1, 6, .inl b0h)), (b0r, .inl (ca 1, 2000, .inl b0f)), (b1r, .inl (ca 1, 2000, .inl b1f)), (b2w, .inr (9, [.ref pl, .int 0, .ref b2w2, .ref b2w3, .ref b2w4, .ref b2w5])), (b2w3, .inl (ca 1, 6, .inl b2h)), (b2r, .inl (ca 1, 2000, .inl b2f))]) (va_runV (As := [.ref lv]) (rest := []) ⟨hx, hb, hml, hown, hts⟩ (k_X9_copyFrom l D ca s.heap.size b1w pl b1w2 b1w3 b1w4 b1w5 lv w2 w3 w4 w5 pl pl5 pl6 pl7 pl8 pl9 pl10 pl11 pl12 pl13 b1h fh) (cwV 1 hts gX10_image_X9_copyFrom rfl rfl rfl (by decide +kernel) ⟨(Nat.le_of_ble_eq_true rfl), (Nat.le_of_ble_eq_true rfl)⟩) (PC.preV (ci := 9) hC hP hD [12, 1, 2, 13, 3] rfl (by decide +kernel) rfl rfl) rfl rfl hl.1 rfl (lv_room (Nat.le_of_ble_eq_true rfl)) dX10_image_28 ⟨(Nat.le_of_ble_eq_true rfl), (Nat.le_of_ble_eq_true rfl)⟩) hP hD hS hA [12, 1, 2, 13, 3] [0, 4, 5, 6, 7, 8, 9, 10, 11, 14, 15, 16, 17] rfl rfl (by decide +kernel) (by decide +kernel) (fun u_10 H locs hw_9 hP hD hS => ?_)
        obtain ⟨f_11, rfl⟩ : ∃ z, z = u_10 := ⟨_, rfl⟩
        have hP : va_P D vwCl [(h0, .inr (10, [.ref tp, .ref rd, .ref lv, .ref tr, .ref rw, .ref bx, .ref ch, .ref sg, .ref dg, .ref pl, .ref dr, .int 0])), (rw, .inl (ca 1, 2000, .inl fr)), (bx, .inl (ca 4, 3, .inr (.inr (.inr (.inr (va_up (va_up (va_up (fun _ => none) 0 (some b0)) 1 (some b1)) 2 (some b2))))))), (b0, .inr (0, [.ref b0w, .ref b0r, .int 0])), (b1, .inr (0, [.ref b1w, .ref b1r, .int 0])), (b2, .inr (0, [.ref b2w, .ref b2r, .int 0])), (b0w, .inr (9, [.ref pl, .int 0, .ref b0w2, .ref b0w3, .ref b0w4, .ref b0w5])), (b0w3, .inl (ca 1, 6, .inl b0h)), (b0r, .inl (ca 1, 2000, .inl b0f)), (b1r, .inl (ca 1, 2000, .inl b1f)), (b2w, .inr (9, [.ref pl, .int 0, .ref b2w2, .ref b2w3, .ref b2w4, .ref b2w5])), (b2w3, .inl (ca 1, 6, .inl b2h)), (b2r, .inl (ca 1, 2000, .inl b2f)), (b1w, .inr (9, [.ref pl, .int 0, .ref b1w2, .ref b1w3, .ref b1w4, .ref b1w5])), (lv, .inr (9, [.ref pl, .int 0, .ref w2, .ref w3, .ref w4, .ref w5])), (pl, .inr (2, [.int 1, .int 0, .int 0, .int 0, .int 0, .ref pl5, .ref pl6, .ref pl7, .ref pl8, .ref pl9, .ref pl10, .ref pl11, .ref pl12, .ref pl13])), (b1w3, .inl (ca 1, 6, .inl f_11)), (w3, .inl (ca 1, 6, .inl fh))] H := hP
        have hD : va_D A [(h0, .inr (10, [.ref tp, .ref rd, .ref lv, .ref tr, .ref rw, .ref bx, .ref ch, .ref sg, .ref dg, .ref pl, .ref dr, .int 0])), (rw, .inl (ca 1, 2000, .inl fr)), (bx, .inl (ca 4, 3, .inr (.inr (.inr (.inr (va_up (va_up (va_up (fun _ => none) 0 (some b0)) 1 (some b1)) 2 (some b2))))))), (b0, .inr (0, [.ref b0w, .ref b0r, .int 0])), (b1, .inr (0, [.ref b1w, .ref b1r, .int 0])), (b2, .inr (0, [.ref b2w, .ref b2r, .int 0])), (b0w, .inr (9, [.ref pl, .int 0, .ref b0w2, .ref b0w3, .ref b0w4, .ref b0w5])), (b0w3, .inl (ca 1, 6, .inl b0h)), (b0r, .inl (ca 1, 2000, .inl b0f)), (b1r, .inl (ca 1, 2000, .inl b1f)), (b2w, .inr (9, [.ref pl, .int 0, .ref b2w2, .ref b2w3, .ref b2w4, .ref b2w5])), (b2w3, .inl (ca 1, 6, .inl b2h)), (b2r, .inl (ca 1, 2000, .inl b2f)), (b1w, .inr (9, [.ref pl, .int 0, .ref b1w2, .ref b1w3, .ref b1w4, .ref b1w5])), (lv, .inr (9, [.ref pl, .int 0, .ref w2, .ref w3, .ref w4, .ref w5])), (pl, .inr (2, [.int 1, .int 0, .int 0, .int 0, .int 0, .ref pl5, .ref pl6, .ref pl7, .ref pl8, .ref pl9, .ref pl10, .ref pl11, .ref pl12, .ref pl13])), (b1w3, .inl (ca 1, 6, .inl f_11)), (w3, .inl (ca 1, 6, .inl fh))] := hD
        refine lv_aload_n hx hb dX10_image_31 rfl (lv_at hl 0 rfl) ?_
        refine lv_aload_n hx hb dX10_image_32 rfl (lv_at hl 0 rfl) ?_
        refine va_get (D := D) (ci := 10) (v := .ref rw) (C := RX10) (T := TX10) (N := 12) hx hb hts iw_X10_image_10 hown hC.1 hP 0 rfl rfl 4 (by decide +kernel) (hts (.fieldLink RX10 47 "FairWheel" "rows" "[I") (by decide +kernel)) (fun _ h9 => h9) rfl dX10_image_33 ?_
        refine lv_aload_n hx hb dX10_image_36 rfl (lv_at hl 0 rfl) ?_
        refine va_get (D := D) (ci := 10) (v := .ref bx) (C := RX10) (T := TX10) (N := 12) hx hb hts iw_X10_image_10 hown hC.1 hP 0 rfl rfl 5 (by decide +kernel) (hts (.fieldLink RX10 53 "FairWheel" "boxes" "[LFairWheel$Box;") (by decide +kernel)) (fun _ h9 => h9) rfl dX10_image_37 ?_
        refine lv_iload_n hx hb dX10_image_40 rfl (lv_at hl 1 rfl) ?_
        refine ka_aldq hx hb hC.1 hP 2 4 rfl rfl 1 rfl (by decide +kernel) (by decide +kernel) dX10_image_41 ?_
        refine nt_v (.ref b1) rfl ?_
        refine va_get (D := D) (ci := 0) (v := .ref b1r) (C := RX0) (T := TX0) (N := 3) hx hb hts iw_X10_image_0 hown hC.1 hP 4 rfl rfl 1 (by decide +kernel) (hts (.fieldLink RX10 266 "FairWheel$Box" "rows" "[I") (by decide +kernel)) (fun _ h9 => h9) rfl dX10_image_42 ?_
        refine kc_v (wr := [(bx, .inl (ca 4, 3, .inr (.inr (.inr (.inr (va_up (va_up (va_up (fun _ => none) 0 (some b0)) 1 (some b1)) 2 (some b2))))))), (b0, .inr (0, [.ref b0w, .ref b0r, .int 0])), (b1, .inr (0, [.ref b1w, .ref b1r, .int 0])), (b2, .inr (0, [.ref b2w, .ref b2r, .int 0])), (b0w, .inr (9, [.ref pl, .int 0, .ref b0w2, .ref b0w3, .ref b0w4, .ref b0w5])), (b0w3, .inl (ca 1, 6, .inl b0h)), (b0r, .inl (ca 1, 2000, .inl b0f)), (b2w, .inr (9, [.ref pl, .int 0, .ref b2w2, .ref b2w3, .ref b2w4, .ref b2w5])), (b2w3, .inl (ca 1, 6, .inl b2h)), (b2r, .inl (ca 1, 2000, .inl b2f)), (b1w, .inr (9, [.ref pl, .int 0, .ref b1w2, .ref b1w3, .ref b1w4, .ref b1w5])), (pl, .inr (2, [.int 1, .int 0, .int 0, .int 0, .int 0, .ref pl5, .ref pl6, .ref pl7, .ref pl8, .ref pl9, .ref pl10, .ref pl11, .ref pl12, .ref pl13])), (b1w3, .inl (ca 1, 6, .inl f_11)), (w3, .inl (ca 1, 6, .inl fh))]) (va_runV (As := [.ref rw, .ref b1r]) (rest := []) ⟨hx, hb, hml, hown, hts⟩ (k_X10_copyRows l D ca H.size h0 tp rd lv tr rw bx ch sg dg pl dr w2 w3 w4 w5 rw b1r fr b1f) (cwV 2 hts gX10_image_X10_copyRows rfl rfl rfl (by decide +kernel) ⟨(Nat.le_of_ble_eq_true rfl), (Nat.le_of_ble_eq_true rfl)⟩) (PC.preV (ci := 10) hC hP hD [0, 14, 1, 9] rfl (by decide +kernel) rfl rfl) rfl rfl hl.1 rfl (lv_room (Nat.le_of_ble_eq_true rfl)) dX10_image_45 ⟨(Nat.le_of_ble_eq_true rfl), (Nat.le_of_ble_eq_true rfl)⟩) hP hD hS hA [0, 14, 1, 9] [2, 3, 4, 5, 6, 7, 8, 10, 11, 12, 13, 15, 16, 17] rfl rfl (by decide +kernel) (by decide +kernel) (fun u_13 H locs hw_12 hP hD hS => ?_)
        obtain ⟨f_14, rfl⟩ : ∃ z, z = u_13 := ⟨_, rfl⟩
        have hP : va_P D vwCl [(bx, .inl (ca 4, 3, .inr (.inr (.inr (.inr (va_up (va_up (va_up (fun _ => none) 0 (some b0)) 1 (some b1)) 2 (some b2))))))), (b0, .inr (0, [.ref b0w, .ref b0r, .int 0])), (b1, .inr (0, [.ref b1w, .ref b1r, .int 0])), (b2, .inr (0, [.ref b2w, .ref b2r, .int 0])), (b0w, .inr (9, [.ref pl, .int 0, .ref b0w2, .ref b0w3, .ref b0w4, .ref b0w5])), (b0w3, .inl (ca 1, 6, .inl b0h)), (b0r, .inl (ca 1, 2000, .inl b0f)), (b2w, .inr (9, [.ref pl, .int 0, .ref b2w2, .ref b2w3, .ref b2w4, .ref b2w5])), (b2w3, .inl (ca 1, 6, .inl b2h)), (b2r, .inl (ca 1, 2000, .inl b2f)), (b1w, .inr (9, [.ref pl, .int 0, .ref b1w2, .ref b1w3, .ref b1w4, .ref b1w5])), (pl, .inr (2, [.int 1, .int 0, .int 0, .int 0, .int 0, .ref pl5, .ref pl6, .ref pl7, .ref pl8, .ref pl9, .ref pl10, .ref pl11, .ref pl12, .ref pl13])), (b1w3, .inl (ca 1, 6, .inl f_11)), (w3, .inl (ca 1, 6, .inl fh)), (h0, .inr (10, [.ref tp, .ref rd, .ref lv, .ref tr, .ref rw, .ref bx, .ref ch, .ref sg, .ref dg, .ref pl, .ref dr, .int 0])), (lv, .inr (9, [.ref pl, .int 0, .ref w2, .ref w3, .ref w4, .ref w5])), (rw, .inl (ca 1, 2000, .inl fr)), (b1r, .inl (ca 1, 2000, .inl f_14))] H := hP
        have hD : va_D A [(bx, .inl (ca 4, 3, .inr (.inr (.inr (.inr (va_up (va_up (va_up (fun _ => none) 0 (some b0)) 1 (some b1)) 2 (some b2))))))), (b0, .inr (0, [.ref b0w, .ref b0r, .int 0])), (b1, .inr (0, [.ref b1w, .ref b1r, .int 0])), (b2, .inr (0, [.ref b2w, .ref b2r, .int 0])), (b0w, .inr (9, [.ref pl, .int 0, .ref b0w2, .ref b0w3, .ref b0w4, .ref b0w5])), (b0w3, .inl (ca 1, 6, .inl b0h)), (b0r, .inl (ca 1, 2000, .inl b0f)), (b2w, .inr (9, [.ref pl, .int 0, .ref b2w2, .ref b2w3, .ref b2w4, .ref b2w5])), (b2w3, .inl (ca 1, 6, .inl b2h)), (b2r, .inl (ca 1, 2000, .inl b2f)), (b1w, .inr (9, [.ref pl, .int 0, .ref b1w2, .ref b1w3, .ref b1w4, .ref b1w5])), (pl, .inr (2, [.int 1, .int 0, .int 0, .int 0, .int 0, .ref pl5, .ref pl6, .ref pl7, .ref pl8, .ref pl9, .ref pl10, .ref pl11, .ref pl12, .ref pl13])), (b1w3, .inl (ca 1, 6, .inl f_11)), (w3, .inl (ca 1, 6, .inl fh)), (h0, .inr (10, [.ref tp, .ref rd, .ref lv, .ref tr, .ref rw, .ref bx, .ref ch, .ref sg, .ref dg, .ref pl, .ref dr, .int 0])), (lv, .inr (9, [.ref pl, .int 0, .ref w2, .ref w3, .ref w4, .ref w5])), (rw, .inl (ca 1, 2000, .inl fr)), (b1r, .inl (ca 1, 2000, .inl f_14))] := hD
        refine lv_aload_n hx hb dX10_image_48 rfl (lv_at hl 0 rfl) ?_
        refine va_get (D := D) (ci := 10) (v := .ref bx) (C := RX10) (T := TX10) (N := 12) hx hb hts iw_X10_image_10 hown hC.1 hP 14 rfl rfl 5 (by decide +kernel) (hts (.fieldLink RX10 53 "FairWheel" "boxes" "[LFairWheel$Box;") (by decide +kernel)) (fun _ h9 => h9) rfl dX10_image_49 ?_
        refine lv_iload_n hx hb dX10_image_52 rfl (lv_at hl 1 rfl) ?_
        refine ka_aldq hx hb hC.1 hP 0 4 rfl rfl 1 rfl (by decide +kernel) (by decide +kernel) dX10_image_53 ?_
        refine nt_v (.ref b1) rfl ?_
        refine lv_iconst (v := 1) hx hb dX10_image_54 (by decide +kernel) ?_
        refine va_put (D := D) (ci := 0) (v := .int 1) (ty := .boolean) (C := RX0) (T := TX0) (N := 3) hx hb hts iw_X10_image_0 tyX0 tyX0_ok nmX0 hown hC.1 hP hD hS 2 rfl rfl 2 (by decide +kernel) (hts (.fieldLink RX10 101 "FairWheel$Box" "full" "Z") (by decide +kernel)) (fun _ h9 => h9) rfl (by decide +kernel) rfl rfl (Nat.le_of_ble_eq_true rfl) dX10_image_55 (fun H locs hP hD hS => ?_)
        have hP : va_P D vwCl [(bx, .inl (ca 4, 3, .inr (.inr (.inr (.inr (va_up (va_up (va_up (fun _ => none) 0 (some b0)) 1 (some b1)) 2 (some b2))))))), (b0, .inr (0, [.ref b0w, .ref b0r, .int 0])), (b1, .inr (0, [.ref b1w, .ref b1r, .int 1])), (b2, .inr (0, [.ref b2w, .ref b2r, .int 0])), (b0w, .inr (9, [.ref pl, .int 0, .ref b0w2, .ref b0w3, .ref b0w4, .ref b0w5])), (b0w3, .inl (ca 1, 6, .inl b0h)), (b0r, .inl (ca 1, 2000, .inl b0f)), (b2w, .inr (9, [.ref pl, .int 0, .ref b2w2, .ref b2w3, .ref b2w4, .ref b2w5])), (b2w3, .inl (ca 1, 6, .inl b2h)), (b2r, .inl (ca 1, 2000, .inl b2f)), (b1w, .inr (9, [.ref pl, .int 0, .ref b1w2, .ref b1w3, .ref b1w4, .ref b1w5])), (pl, .inr (2, [.int 1, .int 0, .int 0, .int 0, .int 0, .ref pl5, .ref pl6, .ref pl7, .ref pl8, .ref pl9, .ref pl10, .ref pl11, .ref pl12, .ref pl13])), (b1w3, .inl (ca 1, 6, .inl f_11)), (w3, .inl (ca 1, 6, .inl fh)), (h0, .inr (10, [.ref tp, .ref rd, .ref lv, .ref tr, .ref rw, .ref bx, .ref ch, .ref sg, .ref dg, .ref pl, .ref dr, .int 0])), (lv, .inr (9, [.ref pl, .int 0, .ref w2, .ref w3, .ref w4, .ref w5])), (rw, .inl (ca 1, 2000, .inl fr)), (b1r, .inl (ca 1, 2000, .inl f_14))] H := hP
        have hD : va_D A [(bx, .inl (ca 4, 3, .inr (.inr (.inr (.inr (va_up (va_up (va_up (fun _ => none) 0 (some b0)) 1 (some b1)) 2 (some b2))))))), (b0, .inr (0, [.ref b0w, .ref b0r, .int 0])), (b1, .inr (0, [.ref b1w, .ref b1r, .int 1])), (b2, .inr (0, [.ref b2w, .ref b2r, .int 0])), (b0w, .inr (9, [.ref pl, .int 0, .ref b0w2, .ref b0w3, .ref b0w4, .ref b0w5])), (b0w3, .inl (ca 1, 6, .inl b0h)), (b0r, .inl (ca 1, 2000, .inl b0f)), (b2w, .inr (9, [.ref pl, .int 0, .ref b2w2, .ref b2w3, .ref b2w4, .ref b2w5])), (b2w3, .inl (ca 1, 6, .inl b2h)), (b2r, .inl (ca 1, 2000, .inl b2f)), (b1w, .inr (9, [.ref pl, .int 0, .ref b1w2, .ref b1w3, .ref b1w4, .ref b1w5])), (pl, .inr (2, [.int 1, .int 0, .int 0, .int 0, .int 0, .ref pl5, .ref pl6, .ref pl7, .ref pl8, .ref pl9, .ref pl10, .ref pl11, .ref pl12, .ref pl13])), (b1w3, .inl (ca 1, 6, .inl f_11)), (w3, .inl (ca 1, 6, .inl fh)), (h0, .inr (10, [.ref tp, .ref rd, .ref lv, .ref tr, .ref rw, .ref bx, .ref ch, .ref sg, .ref dg, .ref pl, .ref dr, .int 0])), (lv, .inr (9, [.ref pl, .int 0, .ref w2, .ref w3, .ref w4, .ref w5])), (rw, .inl (ca 1, 2000, .inl fr)), (b1r, .inl (ca 1, 2000, .inl f_14))] := hD
        refine lv_aload_n hx hb dX10_image_58 rfl (lv_at hl 0 rfl) ?_
        refine va_get (D := D) (ci := 10) (v := .ref lv) (C := RX10) (T := TX10) (N := 12) hx hb hts iw_X10_image_10 hown hC.1 hP 14 rfl rfl 2 (by decide +kernel) (hts (.fieldLink RX10 40 "FairWheel" "live" "LFairWheel$Wheel;") (by decide +kernel)) (fun _ h9 => h9) rfl dX10_image_59 ?_
        refine va_get (D := D) (ci := 9) (v := .int 0) (C := RX9) (T := TX9) (N := 6) hx hb hts iw_X10_image_9 hown hC.1 hP 15 rfl rfl 1 (by decide +kernel) (hts (.fieldLink RX10 112 "FairWheel$Wheel" "now" "I") (by decide +kernel)) (fun _ h9 => h9) rfl dX10_image_62 ?_
        exact W.iret (v := 0) hx hb hr (fun t ht hW => ⟨⟨0, (), rfl, (by unfold sp_k_X10_image; rw [if_neg c_1, if_pos c_2]), by rw [ht]; exact hP.sub [] rfl, hDA (hD.sub [] (by decide +kernel) rfl)⟩, hS.F ht⟩) hS.2.2 dX10_image_65
      · refine lv_aload_n hx hb dX10_image_15 rfl (lv_at hl 0 rfl) ?_
        refine va_get (D := D) (ci := 10) (v := .ref bx) (C := RX10) (T := TX10) (N := 12) hx hb hts iw_X10_image_10 hown hC.1 hP 0 rfl rfl 5 (by decide +kernel) (hts (.fieldLink RX10 53 "FairWheel" "boxes" "[LFairWheel$Box;") (by decide +kernel)) (fun _ h9 => h9) rfl dX10_image_16 ?_
        refine lv_iload_n hx hb dX10_image_19 rfl (lv_at hl 1 rfl) ?_
        refine ka_aldq hx hb hC.1 hP 5 4 rfl rfl 2 rfl (by decide +kernel) (by decide +kernel) dX10_image_20 ?_
        refine nt_v (.ref b2) rfl ?_
        refine va_get (D := D) (ci := 0) (v := .ref b2w) (C := RX0) (T := TX0) (N := 3) hx hb hts iw_X10_image_0 hown hC.1 hP 8 rfl rfl 0 (by decide +kernel) (hts (.fieldLink RX10 263 "FairWheel$Box" "wheel" "LFairWheel$Wheel;") (by decide +kernel)) (fun _ h9 => h9) rfl dX10_image_21 ?_
        refine lv_aload_n hx hb dX10_image_24 rfl (lv_at hl 0 rfl) ?_
        refine va_get (D := D) (ci := 10) (v := .ref lv) (C := RX10) (T := TX10) (N := 12) hx hb hts iw_X10_image_10 hown hC.1 hP 0 rfl rfl 2 (by decide +kernel) (hts (.fieldLink RX10 40 "FairWheel" "live" "LFairWheel$Wheel;") (by decide +kernel)) (fun _ h9 => h9) rfl dX10_image_25 ?_
        refine kc_v (wr := [(h0, .inr (10, [.ref tp, .ref rd, .ref lv, .ref tr, .ref rw, .ref bx, .ref ch, .ref sg, .ref dg, .ref pl, .ref dr, .int 0])), (rw, .inl (ca 1, 2000, .inl fr)), (bx, .inl (ca 4, 3, .inr (.inr (.inr (.inr (va_up (va_up (va_up (fun _ => none) 0 (some b0)) 1 (some b1)) 2 (some b2))))))), (b0, .inr (0, [.ref b0w, .ref b0r, .int 0])), (b1, .inr (0, [.ref b1w, .ref b1r, .int 0])), (b2, .inr (0, [.ref b2w, .ref b2r, .int 0])), (b0w, .inr (9, [.ref pl, .int 0, .ref b0w2, .ref b0w3, .ref b0w4, .ref b0w5])), (b0w3, .inl (ca 1, 6, .inl b0h)), (b0r, .inl (ca 1, 2000, .inl b0f)), (b1w, .inr (9, [.ref pl, .int 0, .ref b1w2, .ref b1w3, .ref b1w4, .ref b1w5])), (b1w3, .inl (ca 1, 6, .inl b1h)), (b1r, .inl (ca 1, 2000, .inl b1f)), (b2r, .inl (ca 1, 2000, .inl b2f))]) (va_runV (As := [.ref lv]) (rest := []) ⟨hx, hb, hml, hown, hts⟩ (k_X9_copyFrom l D ca s.heap.size b2w pl b2w2 b2w3 b2w4 b2w5 lv w2 w3 w4 w5 pl pl5 pl6 pl7 pl8 pl9 pl10 pl11 pl12 pl13 b2h fh) (cwV 1 hts gX10_image_X9_copyFrom rfl rfl rfl (by decide +kernel) ⟨(Nat.le_of_ble_eq_true rfl), (Nat.le_of_ble_eq_true rfl)⟩) (PC.preV (ci := 9) hC hP hD [15, 1, 2, 16, 3] rfl (by decide +kernel) rfl rfl) rfl rfl hl.1 rfl (lv_room (Nat.le_of_ble_eq_true rfl)) dX10_image_28 ⟨(Nat.le_of_ble_eq_true rfl), (Nat.le_of_ble_eq_true rfl)⟩) hP hD hS hA [15, 1, 2, 16, 3] [0, 4, 5, 6, 7, 8, 9, 10, 11, 12, 13, 14, 17] rfl rfl (by decide +kernel) (by decide +kernel) (fun u_16 H locs hw_15 hP hD hS => ?_)
        obtain ⟨f_17, rfl⟩ : ∃ z, z = u_16 := ⟨_, rfl⟩
        have hP : va_P D vwCl [(h0, .inr (10, [.ref tp, .ref rd, .ref lv, .ref tr, .ref rw, .ref bx, .ref ch, .ref sg, .ref dg, .ref pl, .ref dr, .int 0])), (rw, .inl (ca 1, 2000, .inl fr)), (bx, .inl (ca 4, 3, .inr (.inr (.inr (.inr (va_up (va_up (va_up (fun _ => none) 0 (some b0)) 1 (some b1)) 2 (some b2))))))), (b0, .inr (0, [.ref b0w, .ref b0r, .int 0])), (b1, .inr (0, [.ref b1w, .ref b1r, .int 0])), (b2, .inr (0, [.ref b2w, .ref b2r, .int 0])), (b0w, .inr (9, [.ref pl, .int 0, .ref b0w2, .ref b0w3, .ref b0w4, .ref b0w5])), (b0w3, .inl (ca 1, 6, .inl b0h)), (b0r, .inl (ca 1, 2000, .inl b0f)), (b1w, .inr (9, [.ref pl, .int 0, .ref b1w2, .ref b1w3, .ref b1w4, .ref b1w5])), (b1w3, .inl (ca 1, 6, .inl b1h)), (b1r, .inl (ca 1, 2000, .inl b1f)), (b2r, .inl (ca 1, 2000, .inl b2f)), (b2w, .inr (9, [.ref pl, .int 0, .ref b2w2, .ref b2w3, .ref b2w4, .ref b2w5])), (lv, .inr (9, [.ref pl, .int 0, .ref w2, .ref w3, .ref w4, .ref w5])), (pl, .inr (2, [.int 1, .int 0, .int 0, .int 0, .int 0, .ref pl5, .ref pl6, .ref pl7, .ref pl8, .ref pl9, .ref pl10, .ref pl11, .ref pl12, .ref pl13])), (b2w3, .inl (ca 1, 6, .inl f_17)), (w3, .inl (ca 1, 6, .inl fh))] H := hP
        have hD : va_D A [(h0, .inr (10, [.ref tp, .ref rd, .ref lv, .ref tr, .ref rw, .ref bx, .ref ch, .ref sg, .ref dg, .ref pl, .ref dr, .int 0])), (rw, .inl (ca 1, 2000, .inl fr)), (bx, .inl (ca 4, 3, .inr (.inr (.inr (.inr (va_up (va_up (va_up (fun _ => none) 0 (some b0)) 1 (some b1)) 2 (some b2))))))), (b0, .inr (0, [.ref b0w, .ref b0r, .int 0])), (b1, .inr (0, [.ref b1w, .ref b1r, .int 0])), (b2, .inr (0, [.ref b2w, .ref b2r, .int 0])), (b0w, .inr (9, [.ref pl, .int 0, .ref b0w2, .ref b0w3, .ref b0w4, .ref b0w5])), (b0w3, .inl (ca 1, 6, .inl b0h)), (b0r, .inl (ca 1, 2000, .inl b0f)), (b1w, .inr (9, [.ref pl, .int 0, .ref b1w2, .ref b1w3, .ref b1w4, .ref b1w5])), (b1w3, .inl (ca 1, 6, .inl b1h)), (b1r, .inl (ca 1, 2000, .inl b1f)), (b2r, .inl (ca 1, 2000, .inl b2f)), (b2w, .inr (9, [.ref pl, .int 0, .ref b2w2, .ref b2w3, .ref b2w4, .ref b2w5])), (lv, .inr (9, [.ref pl, .int 0, .ref w2, .ref w3, .ref w4, .ref w5])), (pl, .inr (2, [.int 1, .int 0, .int 0, .int 0, .int 0, .ref pl5, .ref pl6, .ref pl7, .ref pl8, .ref pl9, .ref pl10, .ref pl11, .ref pl12, .ref pl13])), (b2w3, .inl (ca 1, 6, .inl f_17)), (w3, .inl (ca 1, 6, .inl fh))] := hD
        refine lv_aload_n hx hb dX10_image_31 rfl (lv_at hl 0 rfl) ?_
        refine lv_aload_n hx hb dX10_image_32 rfl (lv_at hl 0 rfl) ?_
        refine va_get (D := D) (ci := 10) (v := .ref rw) (C := RX10) (T := TX10) (N := 12) hx hb hts iw_X10_image_10 hown hC.1 hP 0 rfl rfl 4 (by decide +kernel) (hts (.fieldLink RX10 47 "FairWheel" "rows" "[I") (by decide +kernel)) (fun _ h9 => h9) rfl dX10_image_33 ?_
        refine lv_aload_n hx hb dX10_image_36 rfl (lv_at hl 0 rfl) ?_
        refine va_get (D := D) (ci := 10) (v := .ref bx) (C := RX10) (T := TX10) (N := 12) hx hb hts iw_X10_image_10 hown hC.1 hP 0 rfl rfl 5 (by decide +kernel) (hts (.fieldLink RX10 53 "FairWheel" "boxes" "[LFairWheel$Box;") (by decide +kernel)) (fun _ h9 => h9) rfl dX10_image_37 ?_
        refine lv_iload_n hx hb dX10_image_40 rfl (lv_at hl 1 rfl) ?_
        refine ka_aldq hx hb hC.1 hP 2 4 rfl rfl 2 rfl (by decide +kernel) (by decide +kernel) dX10_image_41 ?_
        refine nt_v (.ref b2) rfl ?_
        refine va_get (D := D) (ci := 0) (v := .ref b2r) (C := RX0) (T := TX0) (N := 3) hx hb hts iw_X10_image_0 hown hC.1 hP 5 rfl rfl 1 (by decide +kernel) (hts (.fieldLink RX10 266 "FairWheel$Box" "rows" "[I") (by decide +kernel)) (fun _ h9 => h9) rfl dX10_image_42 ?_
        refine kc_v (wr := [(bx, .inl (ca 4, 3, .inr (.inr (.inr (.inr (va_up (va_up (va_up (fun _ => none) 0 (some b0)) 1 (some b1)) 2 (some b2))))))), (b0, .inr (0, [.ref b0w, .ref b0r, .int 0])), (b1, .inr (0, [.ref b1w, .ref b1r, .int 0])), (b2, .inr (0, [.ref b2w, .ref b2r, .int 0])), (b0w, .inr (9, [.ref pl, .int 0, .ref b0w2, .ref b0w3, .ref b0w4, .ref b0w5])), (b0w3, .inl (ca 1, 6, .inl b0h)), (b0r, .inl (ca 1, 2000, .inl b0f)), (b1w, .inr (9, [.ref pl, .int 0, .ref b1w2, .ref b1w3, .ref b1w4, .ref b1w5])), (b1w3, .inl (ca 1, 6, .inl b1h)), (b1r, .inl (ca 1, 2000, .inl b1f)), (b2w, .inr (9, [.ref pl, .int 0, .ref b2w2, .ref b2w3, .ref b2w4, .ref b2w5])), (pl, .inr (2, [.int 1, .int 0, .int 0, .int 0, .int 0, .ref pl5, .ref pl6, .ref pl7, .ref pl8, .ref pl9, .ref pl10, .ref pl11, .ref pl12, .ref pl13])), (b2w3, .inl (ca 1, 6, .inl f_17)), (w3, .inl (ca 1, 6, .inl fh))]) (va_runV (As := [.ref rw, .ref b2r]) (rest := []) ⟨hx, hb, hml, hown, hts⟩ (k_X10_copyRows l D ca H.size h0 tp rd lv tr rw bx ch sg dg pl dr w2 w3 w4 w5 rw b2r fr b2f) (cwV 2 hts gX10_image_X10_copyRows rfl rfl rfl (by decide +kernel) ⟨(Nat.le_of_ble_eq_true rfl), (Nat.le_of_ble_eq_true rfl)⟩) (PC.preV (ci := 10) hC hP hD [0, 14, 1, 12] rfl (by decide +kernel) rfl rfl) rfl rfl hl.1 rfl (lv_room (Nat.le_of_ble_eq_true rfl)) dX10_image_45 ⟨(Nat.le_of_ble_eq_true rfl), (Nat.le_of_ble_eq_true rfl)⟩) hP hD hS hA [0, 14, 1, 12] [2, 3, 4, 5, 6, 7, 8, 9, 10, 11, 13, 15, 16, 17] rfl rfl (by decide +kernel) (by decide +kernel) (fun u_19 H locs hw_18 hP hD hS => ?_)
        obtain ⟨f_20, rfl⟩ : ∃ z, z = u_19 := ⟨_, rfl⟩
        have hP : va_P D vwCl [(bx, .inl (ca 4, 3, .inr (.inr (.inr (.inr (va_up (va_up (va_up (fun _ => none) 0 (some b0)) 1 (some b1)) 2 (some b2))))))), (b0, .inr (0, [.ref b0w, .ref b0r, .int 0])), (b1, .inr (0, [.ref b1w, .ref b1r, .int 0])), (b2, .inr (0, [.ref b2w, .ref b2r, .int 0])), (b0w, .inr (9, [.ref pl, .int 0, .ref b0w2, .ref b0w3, .ref b0w4, .ref b0w5])), (b0w3, .inl (ca 1, 6, .inl b0h)), (b0r, .inl (ca 1, 2000, .inl b0f)), (b1w, .inr (9, [.ref pl, .int 0, .ref b1w2, .ref b1w3, .ref b1w4, .ref b1w5])), (b1w3, .inl (ca 1, 6, .inl b1h)), (b1r, .inl (ca 1, 2000, .inl b1f)), (b2w, .inr (9, [.ref pl, .int 0, .ref b2w2, .ref b2w3, .ref b2w4, .ref b2w5])), (pl, .inr (2, [.int 1, .int 0, .int 0, .int 0, .int 0, .ref pl5, .ref pl6, .ref pl7, .ref pl8, .ref pl9, .ref pl10, .ref pl11, .ref pl12, .ref pl13])), (b2w3, .inl (ca 1, 6, .inl f_17)), (w3, .inl (ca 1, 6, .inl fh)), (h0, .inr (10, [.ref tp, .ref rd, .ref lv, .ref tr, .ref rw, .ref bx, .ref ch, .ref sg, .ref dg, .ref pl, .ref dr, .int 0])), (lv, .inr (9, [.ref pl, .int 0, .ref w2, .ref w3, .ref w4, .ref w5])), (rw, .inl (ca 1, 2000, .inl fr)), (b2r, .inl (ca 1, 2000, .inl f_20))] H := hP
        have hD : va_D A [(bx, .inl (ca 4, 3, .inr (.inr (.inr (.inr (va_up (va_up (va_up (fun _ => none) 0 (some b0)) 1 (some b1)) 2 (some b2))))))), (b0, .inr (0, [.ref b0w, .ref b0r, .int 0])), (b1, .inr (0, [.ref b1w, .ref b1r, .int 0])), (b2, .inr (0, [.ref b2w, .ref b2r, .int 0])), (b0w, .inr (9, [.ref pl, .int 0, .ref b0w2, .ref b0w3, .ref b0w4, .ref b0w5])), (b0w3, .inl (ca 1, 6, .inl b0h)), (b0r, .inl (ca 1, 2000, .inl b0f)), (b1w, .inr (9, [.ref pl, .int 0, .ref b1w2, .ref b1w3, .ref b1w4, .ref b1w5])), (b1w3, .inl (ca 1, 6, .inl b1h)), (b1r, .inl (ca 1, 2000, .inl b1f)), (b2w, .inr (9, [.ref pl, .int 0, .ref b2w2, .ref b2w3, .ref b2w4, .ref b2w5])), (pl, .inr (2, [.int 1, .int 0, .int 0, .int 0, .int 0, .ref pl5, .ref pl6, .ref pl7, .ref pl8, .ref pl9, .ref pl10, .ref pl11, .ref pl12, .ref pl13])), (b2w3, .inl (ca 1, 6, .inl f_17)), (w3, .inl (ca 1, 6, .inl fh)), (h0, .inr (10, [.ref tp, .ref rd, .ref lv, .ref tr, .ref rw, .ref bx, .ref ch, .ref sg, .ref dg, .ref pl, .ref dr, .int 0])), (lv, .inr (9, [.ref pl, .int 0, .ref w2, .ref w3, .ref w4, .ref w5])), (rw, .inl (ca 1, 2000, .inl fr)), (b2r, .inl (ca 1, 2000, .inl f_20))] := hD
        refine lv_aload_n hx hb dX10_image_48 rfl (lv_at hl 0 rfl) ?_
        refine va_get (D := D) (ci := 10) (v := .ref bx) (C := RX10) (T := TX10) (N := 12) hx hb hts iw_X10_image_10 hown hC.1 hP 14 rfl rfl 5 (by decide +kernel) (hts (.fieldLink RX10 53 "FairWheel" "boxes" "[LFairWheel$Box;") (by decide +kernel)) (fun _ h9 => h9) rfl dX10_image_49 ?_
        refine lv_iload_n hx hb dX10_image_52 rfl (lv_at hl 1 rfl) ?_
        refine ka_aldq hx hb hC.1 hP 0 4 rfl rfl 2 rfl (by decide +kernel) (by decide +kernel) dX10_image_53 ?_
        refine nt_v (.ref b2) rfl ?_
        refine lv_iconst (v := 1) hx hb dX10_image_54 (by decide +kernel) ?_
        refine va_put (D := D) (ci := 0) (v := .int 1) (ty := .boolean) (C := RX0) (T := TX0) (N := 3) hx hb hts iw_X10_image_0 tyX0 tyX0_ok nmX0 hown hC.1 hP hD hS 3 rfl rfl 2 (by decide +kernel) (hts (.fieldLink RX10 101 "FairWheel$Box" "full" "Z") (by decide +kernel)) (fun _ h9 => h9) rfl (by decide +kernel) rfl rfl (Nat.le_of_ble_eq_true rfl) dX10_image_55 (fun H locs hP hD hS => ?_)
        have hP : va_P D vwCl [(bx, .inl (ca 4, 3, .inr (.inr (.inr (.inr (va_up (va_up (va_up (fun _ => none) 0 (some b0)) 1 (some b1)) 2 (some b2))))))), (b0, .inr (0, [.ref b0w, .ref b0r, .int 0])), (b1, .inr (0, [.ref b1w, .ref b1r, .int 0])), (b2, .inr (0, [.ref b2w, .ref b2r, .int 1])), (b0w, .inr (9, [.ref pl, .int 0, .ref b0w2, .ref b0w3, .ref b0w4, .ref b0w5])), (b0w3, .inl (ca 1, 6, .inl b0h)), (b0r, .inl (ca 1, 2000, .inl b0f)), (b1w, .inr (9, [.ref pl, .int 0, .ref b1w2, .ref b1w3, .ref b1w4, .ref b1w5])), (b1w3, .inl (ca 1, 6, .inl b1h)), (b1r, .inl (ca 1, 2000, .inl b1f)), (b2w, .inr (9, [.ref pl, .int 0, .ref b2w2, .ref b2w3, .ref b2w4, .ref b2w5])), (pl, .inr (2, [.int 1, .int 0, .int 0, .int 0, .int 0, .ref pl5, .ref pl6, .ref pl7, .ref pl8, .ref pl9, .ref pl10, .ref pl11, .ref pl12, .ref pl13])), (b2w3, .inl (ca 1, 6, .inl f_17)), (w3, .inl (ca 1, 6, .inl fh)), (h0, .inr (10, [.ref tp, .ref rd, .ref lv, .ref tr, .ref rw, .ref bx, .ref ch, .ref sg, .ref dg, .ref pl, .ref dr, .int 0])), (lv, .inr (9, [.ref pl, .int 0, .ref w2, .ref w3, .ref w4, .ref w5])), (rw, .inl (ca 1, 2000, .inl fr)), (b2r, .inl (ca 1, 2000, .inl f_20))] H := hP
        have hD : va_D A [(bx, .inl (ca 4, 3, .inr (.inr (.inr (.inr (va_up (va_up (va_up (fun _ => none) 0 (some b0)) 1 (some b1)) 2 (some b2))))))), (b0, .inr (0, [.ref b0w, .ref b0r, .int 0])), (b1, .inr (0, [.ref b1w, .ref b1r, .int 0])), (b2, .inr (0, [.ref b2w, .ref b2r, .int 1])), (b0w, .inr (9, [.ref pl, .int 0, .ref b0w2, .ref b0w3, .ref b0w4, .ref b0w5])), (b0w3, .inl (ca 1, 6, .inl b0h)), (b0r, .inl (ca 1, 2000, .inl b0f)), (b1w, .inr (9, [.ref pl, .int 0, .ref b1w2, .ref b1w3, .ref b1w4, .ref b1w5])), (b1w3, .inl (ca 1, 6, .inl b1h)), (b1r, .inl (ca 1, 2000, .inl b1f)), (b2w, .inr (9, [.ref pl, .int 0, .ref b2w2, .ref b2w3, .ref b2w4, .ref b2w5])), (pl, .inr (2, [.int 1, .int 0, .int 0, .int 0, .int 0, .ref pl5, .ref pl6, .ref pl7, .ref pl8, .ref pl9, .ref pl10, .ref pl11, .ref pl12, .ref pl13])), (b2w3, .inl (ca 1, 6, .inl f_17)), (w3, .inl (ca 1, 6, .inl fh)), (h0, .inr (10, [.ref tp, .ref rd, .ref lv, .ref tr, .ref rw, .ref bx, .ref ch, .ref sg, .ref dg, .ref pl, .ref dr, .int 0])), (lv, .inr (9, [.ref pl, .int 0, .ref w2, .ref w3, .ref w4, .ref w5])), (rw, .inl (ca 1, 2000, .inl fr)), (b2r, .inl (ca 1, 2000, .inl f_20))] := hD
        refine lv_aload_n hx hb dX10_image_58 rfl (lv_at hl 0 rfl) ?_
        refine va_get (D := D) (ci := 10) (v := .ref lv) (C := RX10) (T := TX10) (N := 12) hx hb hts iw_X10_image_10 hown hC.1 hP 14 rfl rfl 2 (by decide +kernel) (hts (.fieldLink RX10 40 "FairWheel" "live" "LFairWheel$Wheel;") (by decide +kernel)) (fun _ h9 => h9) rfl dX10_image_59 ?_
        refine va_get (D := D) (ci := 9) (v := .int 0) (C := RX9) (T := TX9) (N := 6) hx hb hts iw_X10_image_9 hown hC.1 hP 15 rfl rfl 1 (by decide +kernel) (hts (.fieldLink RX10 112 "FairWheel$Wheel" "now" "I") (by decide +kernel)) (fun _ h9 => h9) rfl dX10_image_62 ?_
        exact W.iret (v := 0) hx hb hr (fun t ht hW => ⟨⟨0, (), rfl, (by unfold sp_k_X10_image; rw [if_neg c_1, if_pos c_2]), by rw [ht]; exact hP.sub [] rfl, hDA (hD.sub [] (by decide +kernel) rfl)⟩, hS.F ht⟩) hS.2.2 dX10_image_65
    · refine lv_iconst (v := (-1)) hx hb dX10_image_13 (by decide +kernel) ?_
      exact W.iret (v := (-1)) hx hb hr (fun t ht hW => ⟨⟨(-1), (), rfl, (by unfold sp_k_X10_image; rw [if_neg c_1, if_neg c_2]), by rw [ht]; exact hP.sub [] rfl, hDA (hD.sub [] (by decide +kernel) rfl)⟩, hS.F ht⟩) hS.2.2 dX10_image_14
theorem iw_X10_back_0 : ∀ w ∈ u_ws RX0 TX0 3, w ∈ wsX10_back := by decide +kernel
theorem iw_X10_back_10 : ∀ w ∈ u_ws RX10 TX10 12, w ∈ wsX10_back := by decide +kernel
set_option maxHeartbeats 4000000 in
set_option maxRecDepth 100000 in
theorem k_X10_back (l : Launch) (D : va_G) (ca : Nat → ClassId) (sz : Nat) (h0 : Nat) (tp : Nat) (rd : Nat) (lv : Nat) (tr : Nat) (rw : Nat) (bx : Nat) (ch : Nat) (sg : Nat) (dg : Nat) (pl : Nat) (dr : Nat) (b0 : Nat) (b1 : Nat) (b2 : Nat) (b0w : Nat) (b0r : Nat) (b1w : Nat) (b1r : Nat) (b2w : Nat) (b2r : Nat) (x1 : Int32) : Met l yX10_back wsX10_back ({ frames := 0, cells := 0, slots := 0, locals := 0 }) (PC [.ref h0, .int x1] sz D ca [(h0, .inr (10, [.ref tp, .ref rd, .ref lv, .ref tr, .ref rw, .ref bx, .ref ch, .ref sg, .ref dg, .ref pl, .ref dr, .int 0])), (bx, .inl (ca 4, 3, .inr (.inr (.inr (.inr (va_up (va_up (va_up (fun _ => none) 0 (some b0)) 1 (some b1)) 2 (some b2))))))), (b0, .inr (0, [.ref b0w, .ref b0r, .int 0])), (b1, .inr (0, [.ref b1w, .ref b1r, .int 0])), (b2, .inr (0, [.ref b2w, .ref b2r, .int 0]))]) (QI (fun (r : Int32) (u : Unit) => r = (-1)) (fun (_ : Unit) => []) [(h0, .inr (10, [.ref tp, .ref rd, .ref lv, .ref tr, .ref rw, .ref bx, .ref ch, .ref sg, .ref dg, .ref pl, .ref dr, .int 0])), (bx, .inl (ca 4, 3, .inr (.inr (.inr (.inr (va_up (va_up (va_up (fun _ => none) 0 (some b0)) 1 (some b1)) 2 (some b2))))))), (b0, .inr (0, [.ref b0w, .ref b0r, .int 0])), (b1, .inr (0, [.ref b1w, .ref b1r, .int 0])), (b2, .inr (0, [.ref b2w, .ref b2r, .int 0]))] sz D) 0 0 (va_A [(h0, .inr (10, [.ref tp, .ref rd, .ref lv, .ref tr, .ref rw, .ref bx, .ref ch, .ref sg, .ref dg, .ref pl, .ref dr, .int 0])), (bx, .inl (ca 4, 3, .inr (.inr (.inr (.inr (va_up (va_up (va_up (fun _ => none) 0 (some b0)) 1 (some b1)) 2 (some b2))))))), (b0, .inr (0, [.ref b0w, .ref b0r, .int 0])), (b1, .inr (0, [.ref b1w, .ref b1r, .int 0])), (b2, .inr (0, [.ref b2w, .ref b2r, .int 0]))] sz) := by
  refine Met.ofW (cc := cX10_back) (maxL := 2) (ret := (some .int)) (by decide +kernel) rfl ?_
  intro p e s m args below meth c s₁ B hml hv
  obtain ⟨rfl, hsz, hP, hC, hD0⟩ := hv
  have hx := B.exec
  have hb := B.bytes
  have hr := B.returns
  have hts := atoms_spec (ws := wsX10_back) B.pre
  have hown : s.vm.findClass RX10 = some m.cls := findClass_of_methodNamed B.named
  have hlocks := B.notSynchronized
  subst hsz
  have hD := hD0.self (sz := s.heap.size)
  dsimp only [QV, QI, QL, BQ]
  generalize hAe : va_A [(h0, .inr (10, [.ref tp, .ref rd, .ref lv, .ref tr, .ref rw, .ref bx, .ref ch, .ref sg, .ref dg, .ref pl, .ref dr, .int 0])), (bx, .inl (ca 4, 3, .inr (.inr (.inr (.inr (va_up (va_up (va_up (fun _ => none) 0 (some b0)) 1 (some b1)) 2 (some b2))))))), (b0, .inr (0, [.ref b0w, .ref b0r, .int 0])), (b1, .inr (0, [.ref b1w, .ref b1r, .int 0])), (b2, .inr (0, [.ref b2w, .ref b2r, .int 0]))] s.heap.size = A at hD ⊢
  have hA : ∀ q : Nat, s.heap.size ≤ q → A q := fun q h => by rw [← hAe]; exact Or.inr h
  have hDA : ∀ {w : va_W}, va_D A w → va_D (va_A [(h0, .inr (10, [.ref tp, .ref rd, .ref lv, .ref tr, .ref rw, .ref bx, .ref ch, .ref sg, .ref dg, .ref pl, .ref dr, .int 0])), (bx, .inl (ca 4, 3, .inr (.inr (.inr (.inr (va_up (va_up (va_up (fun _ => none) 0 (some b0)) 1 (some b1)) 2 (some b2))))))), (b0, .inr (0, [.ref b0w, .ref b0r, .int 0])), (b1, .inr (0, [.ref b1w, .ref b1r, .int 0])), (b2, .inr (0, [.ref b2w, .ref b2r, .int 0]))] s.heap.size) w := fun h => by rw [hAe]; exact h
  have hS : va_S A s.heap s.heap [] := va_S.rf
  have hP : va_P D vwCl [(h0, .inr (10, [.ref tp, .ref rd, .ref lv, .ref tr, .ref rw, .ref bx, .ref ch, .ref sg, .ref dg, .ref pl, .ref dr, .int 0])), (bx, .inl (ca 4, 3, .inr (.inr (.inr (.inr (va_up (va_up (va_up (fun _ => none) 0 (some b0)) 1 (some b1)) 2 (some b2))))))), (b0, .inr (0, [.ref b0w, .ref b0r, .int 0])), (b1, .inr (0, [.ref b1w, .ref b1r, .int 0])), (b2, .inr (0, [.ref b2w, .ref b2r, .int 0]))] s.heap := hP
  have hl := lv_entry ([.ref h0, .int x1]) (n := 2) (Nat.le_of_ble_eq_true rfl)
  rw [lg_entry_eq]
  generalize (lg_sl ([.ref h0, .int x1]) ++ List.replicate (2 - (lg_sl ([.ref h0, .int x1])).length) Slot.unset).toArray = ls at hl ⊢
  have hl : lv_has ls 2 [(0, .ref h0), (1, .int x1)] := hl
  refine lv_iload_n hx hb dX10_back_0 rfl (lv_at hl 1 rfl) ?_
  refine lv_if_lt (tgt := 25) hx hb dX10_back_1 (by decide +kernel) (fun c_1 => ?_) (fun c_1 => ?_)
  · refine lv_iconst (v := (-1)) hx hb dX10_back_25 (by decide +kernel) ?_
    exact W.iret (v := (-1)) hx hb hr (fun t ht hW => ⟨⟨(-1), (), rfl, rfl, by rw [ht]; exact hP.sub [] rfl, hDA (hD.sub [] (by decide +kernel) rfl)⟩, hS.F ht⟩) hS.2.2 dX10_back_26
  · refine lv_iload_n hx hb dX10_back_4 rfl (lv_at hl 1 rfl) ?_
    refine lv_aload_n hx hb dX10_back_5 rfl (lv_at hl 0 rfl) ?_
    refine va_get (D := D) (ci := 10) (v := .ref bx) (C := RX10) (T := TX10) (N := 12) hx hb hts iw_X10_back_10 hown hC.1 hP 0 rfl rfl 5 (by decide +kernel) (hts (.fieldLink RX10 53 "FairWheel" "boxes" "[LFairWheel$Box;") (by decide +kernel)) (fun _ h9 => h9) rfl dX10_back_6 ?_
    refine va_alen (v := 3) hx hb hC.1 hP 1 4 rfl rfl rfl dX10_back_9 ?_
    refine lv_icmp_ge (tgt := 25) hx hb dX10_back_10 (by decide +kernel) (fun c_2 => ?_) (fun c_2 => ?_)
    · refine lv_iconst (v := (-1)) hx hb dX10_back_25 (by decide +kernel) ?_
      exact W.iret (v := (-1)) hx hb hr (fun t ht hW => ⟨⟨(-1), (), rfl, rfl, by rw [ht]; exact hP.sub [] rfl, hDA (hD.sub [] (by decide +kernel) rfl)⟩, hS.F ht⟩) hS.2.2 dX10_back_26
    · obtain rfl | rfl | rfl : x1 = 0 ∨ x1 = 1 ∨ x1 = 2 := i012 c_1 c_2
      · refine lv_aload_n hx hb dX10_back_13 rfl (lv_at hl 0 rfl) ?_
        refine va_get (D := D) (ci := 10) (v := .ref bx) (C := RX10) (T := TX10) (N := 12) hx hb hts iw_X10_back_10 hown hC.1 hP 0 rfl rfl 5 (by decide +kernel) (hts (.fieldLink RX10 53 "FairWheel" "boxes" "[LFairWheel$Box;") (by decide +kernel)) (fun _ h9 => h9) rfl dX10_back_14 ?_
        refine lv_iload_n hx hb dX10_back_17 rfl (lv_at hl 1 rfl) ?_
        refine ka_aldq hx hb hC.1 hP 1 4 rfl rfl 0 rfl (by decide +kernel) (by decide +kernel) dX10_back_18 ?_
        refine nt_v (.ref b0) rfl ?_
        refine va_get (D := D) (ci := 0) (v := .int 0) (C := RX0) (T := TX0) (N := 3) hx hb hts iw_X10_back_0 hown hC.1 hP 2 rfl rfl 2 (by decide +kernel) (hts (.fieldLink RX10 101 "FairWheel$Box" "full" "Z") (by decide +kernel)) (fun _ h9 => h9) rfl dX10_back_19 ?_
        refine lv_if_ne (tgt := 27) hx hb dX10_back_22 (by decide +kernel) (fun c_3 => absurd (by decide +kernel) c_3) (fun c_3 => ?_)
        refine lv_iconst (v := (-1)) hx hb dX10_back_25 (by decide +kernel) ?_
        exact W.iret (v := (-1)) hx hb hr (fun t ht hW => ⟨⟨(-1), (), rfl, rfl, by rw [ht]; exact hP.sub [] rfl, hDA (hD.sub [] (by decide +kernel) rfl)⟩, hS.F ht⟩) hS.2.2 dX10_back_26
      · refine lv_aload_n hx hb dX10_back_13 rfl (lv_at hl 0 rfl) ?_
        refine va_get (D := D) (ci := 10) (v := .ref bx) (C := RX10) (T := TX10) (N := 12) hx hb hts iw_X10_back_10 hown hC.1 hP 0 rfl rfl 5 (by decide +kernel) (hts (.fieldLink RX10 53 "FairWheel" "boxes" "[LFairWheel$Box;") (by decide +kernel)) (fun _ h9 => h9) rfl dX10_back_14 ?_
        refine lv_iload_n hx hb dX10_back_17 rfl (lv_at hl 1 rfl) ?_
        refine ka_aldq hx hb hC.1 hP 1 4 rfl rfl 1 rfl (by decide +kernel) (by decide +kernel) dX10_back_18 ?_
        refine nt_v (.ref b1) rfl ?_
        refine va_get (D := D) (ci := 0) (v := .int 0) (C := RX0) (T := TX0) (N := 3) hx hb hts iw_X10_back_0 hown hC.1 hP 3 rfl rfl 2 (by decide +kernel) (hts (.fieldLink RX10 101 "FairWheel$Box" "full" "Z") (by decide +kernel)) (fun _ h9 => h9) rfl dX10_back_19 ?_
        refine lv_if_ne (tgt := 27) hx hb dX10_back_22 (by decide +kernel) (fun c_4 => absurd (by decide +kernel) c_4) (fun c_4 => ?_)
        refine lv_iconst (v := (-1)) hx hb dX10_back_25 (by decide +kernel) ?_
        exact W.iret (v := (-1)) hx hb hr (fun t ht hW => ⟨⟨(-1), (), rfl, rfl, by rw [ht]; exact hP.sub [] rfl, hDA (hD.sub [] (by decide +kernel) rfl)⟩, hS.F ht⟩) hS.2.2 dX10_back_26
      · refine lv_aload_n hx hb dX10_back_13 rfl (lv_at hl 0 rfl) ?_
        refine va_get (D := D) (ci := 10) (v := .ref bx) (C := RX10) (T := TX10) (N := 12) hx hb hts iw_X10_back_10 hown hC.1 hP 0 rfl rfl 5 (by decide +kernel) (hts (.fieldLink RX10 53 "FairWheel" "boxes" "[LFairWheel$Box;") (by decide +kernel)) (fun _ h9 => h9) rfl dX10_back_14 ?_
        refine lv_iload_n hx hb dX10_back_17 rfl (lv_at hl 1 rfl) ?_
        refine ka_aldq hx hb hC.1 hP 1 4 rfl rfl 2 rfl (by decide +kernel) (by decide +kernel) dX10_back_18 ?_
        refine nt_v (.ref b2) rfl ?_
        refine va_get (D := D) (ci := 0) (v := .int 0) (C := RX0) (T := TX0) (N := 3) hx hb hts iw_X10_back_0 hown hC.1 hP 4 rfl rfl 2 (by decide +kernel) (hts (.fieldLink RX10 101 "FairWheel$Box" "full" "Z") (by decide +kernel)) (fun _ h9 => h9) rfl dX10_back_19 ?_
        refine lv_if_ne (tgt := 27) hx hb dX10_back_22 (by decide +kernel) (fun c_5 => absurd (by decide +kernel) c_5) (fun c_5 => ?_)
        refine lv_iconst (v := (-1)) hx hb dX10_back_25 (by decide +kernel) ?_
        exact W.iret (v := (-1)) hx hb hr (fun t ht hW => ⟨⟨(-1), (), rfl, rfl, by rw [ht]; exact hP.sub [] rfl, hDA (hD.sub [] (by decide +kernel) rfl)⟩, hS.F ht⟩) hS.2.2 dX10_back_26
theorem iw_X4_fewestBehind_4 : ∀ w ∈ u_ws RX4 TX4 4, w ∈ wsX4_fewestBehind := by decide +kernel
set_option maxHeartbeats 4000000 in
set_option maxRecDepth 100000 in
theorem k_X4_fewestBehind (l : Launch) (D : va_G) (ca : Nat → ClassId) (sz : Nat) (h0 : Nat) (e1 : Nat) (e2 : Nat) (e3 : Nat) (k : Nat) (hk : k < 6) : Met l yX4_fewestBehind wsX4_fewestBehind ({ frames := 0, cells := 0, slots := 0, locals := 0 }) (PC [.ref h0, .int (nI k)] sz D ca [(h0, .inr (4, [.ref e1, .ref e2, .int 0, .ref e3])), (e1, .inl (ca 1, 6, .inl (fun _ => 0)))]) (QI (fun (r : Int32) (u : Unit) => r = 7) (fun (_ : Unit) => [(h0, .inr (4, [.ref e1, .ref e2, .int 0, .ref e3])), (e1, .inl (ca 1, 6, .inl (fun _ => 0)))]) [(h0, .inr (4, [.ref e1, .ref e2, .int 0, .ref e3])), (e1, .inl (ca 1, 6, .inl (fun _ => 0)))] sz D) 0 0 (va_A [(h0, .inr (4, [.ref e1, .ref e2, .int 0, .ref e3])), (e1, .inl (ca 1, 6, .inl (fun _ => 0)))] sz) := by
  refine Met.ofW (cc := cX4_fewestBehind) (maxL := 4) (ret := (some .int)) (by decide +kernel) rfl ?_
  intro p e s m args below meth c s₁ B hml hv
  obtain ⟨rfl, hsz, hP, hC, hD0⟩ := hv
  have hx := B.exec
  have hb := B.bytes
  have hr := B.returns
  have hts := atoms_spec (ws := wsX4_fewestBehind) B.pre
  have hown : s.vm.findClass RX4 = some m.cls := findClass_of_methodNamed B.named
  have hlocks := B.notSynchronized
  subst hsz
  have hD := hD0.self (sz := s.heap.size)
  dsimp only [QV, QI, QL, BQ]
  generalize hAe : va_A [(h0, .inr (4, [.ref e1, .ref e2, .int 0, .ref e3])), (e1, .inl (ca 1, 6, .inl (fun _ => 0)))] s.heap.size = A at hD ⊢
  have hA : ∀ q : Nat, s.heap.size ≤ q → A q := fun q h => by rw [← hAe]; exact Or.inr h
  have hDA : ∀ {w : va_W}, va_D A w → va_D (va_A [(h0, .inr (4, [.ref e1, .ref e2, .int 0, .ref e3])), (e1, .inl (ca 1, 6, .inl (fun _ => 0)))] s.heap.size) w := fun h => by rw [hAe]; exact h
  have hS : va_S A s.heap s.heap [] := va_S.rf
  have hP : va_P D vwCl [(h0, .inr (4, [.ref e1, .ref e2, .int 0, .ref e3])), (e1, .inl (ca 1, 6, .inl (fun _ => 0)))] s.heap := hP
  have hl := lv_entry ([.ref h0, .int (nI k)]) (n := 4) (Nat.le_of_ble_eq_true rfl)
  rw [lg_entry_eq]
  generalize (lg_sl ([.ref h0, .int (nI k)]) ++ List.replicate (4 - (lg_sl ([.ref h0, .int (nI k)])).length) Slot.unset).toArray = ls at hl ⊢
  have hl : lv_has ls 4 [(0, .ref h0), (1, .int (nI k))] := hl
  refine lv_bipush (v := 7) hx hb dX4_fewestBehind_0 (by decide +kernel) ?_
  refine lv_istore_n (lv' := [(2, .int 7), (0, .ref h0), (1, .int (nI k))]) hx hb dX4_fewestBehind_2 rfl hl (by decide +kernel) rfl (fun ls hl => ?_)
  refine lv_iconst (v := 0) hx hb dX4_fewestBehind_3 (by decide +kernel) ?_
  refine lv_istore_n (lv' := [(3, .int 0), (2, .int 7), (0, .ref h0), (1, .int (nI k))]) hx hb dX4_fewestBehind_4 rfl hl (by decide +kernel) rfl (fun ls hl => ?_)
  refine lv_iload_n hx hb dX4_fewestBehind_5 rfl (lv_at hl 0 rfl) ?_
  refine lv_bipush (v := 6) hx hb dX4_fewestBehind_6 (by decide +kernel) ?_
  refine lv_icmp_ge (tgt := 41) hx hb dX4_fewestBehind_8 (by decide +kernel) (fun c_1 => absurd c_1 (by decide +kernel)) (fun c_1 => ?_)
  refine lv_aload_n hx hb dX4_fewestBehind_11 rfl (lv_at hl 2 rfl) ?_
  refine va_get (D := D) (ci := 4) (v := .ref e1) (C := RX4) (T := TX4) (N := 4) hx hb hts iw_X4_fewestBehind_4 hown hC.1 hP 0 rfl rfl 0 (by decide +kernel) (hts (.fieldLink RX4 9 "FairWheel$Risk" "behind" "[I") (by decide +kernel)) (fun _ h9 => h9) rfl dX4_fewestBehind_12 ?_
  refine lv_iload_n hx hb dX4_fewestBehind_15 rfl (lv_at hl 3 rfl) ?_
  refine ka_iald hx hb hC.1 hP 1 1 rfl rfl k rfl (by omega) (by decide +kernel) dX4_fewestBehind_16 ?_
  refine nt_i 0 rfl ?_
  refine lv_iconst (v := 1) hx hb dX4_fewestBehind_17 (by decide +kernel) ?_
  refine lv_iload_n hx hb dX4_fewestBehind_18 rfl (lv_at hl 0 rfl) ?_
  refine lv_ishl hx hb dX4_fewestBehind_19 ?_
  refine nt_i 1 (by decide +kernel) ?_
  refine lv_iand hx hb dX4_fewestBehind_20 ?_
  refine nt_i 0 (by decide +kernel) ?_
  refine lv_if_eq (tgt := 35) hx hb dX4_fewestBehind_21 (by decide +kernel) (fun c_2 => ?_) (fun c_2 => absurd (by decide +kernel) c_2)
  refine lv_iinc (v := 1) (lv' := [(3, .int 1), (2, .int 7), (0, .ref h0), (1, .int (nI k))]) hx hb dX4_fewestBehind_35 hl (k := 0) rfl (by decide +kernel) (by decide +kernel) rfl (fun ls hl => ?_)
  refine lv_goto (tgt := 5) hx hb dX4_fewestBehind_38 (by decide +kernel) ?_
  refine lv_iload_n hx hb dX4_fewestBehind_5 rfl (lv_at hl 0 rfl) ?_
  refine lv_bipush (v := 6) hx hb dX4_fewestBehind_6 (by decide +kernel) ?_
  refine lv_icmp_ge (tgt := 41) hx hb dX4_fewestBehind_8 (by decide +kernel) (fun c_3 => absurd c_3 (by decide +kernel)) (fun c_3 => ?_)
  refine lv_aload_n hx hb dX4_fewestBehind_11 rfl (lv_at hl 2 rfl) ?_
  refine va_get (D := D) (ci := 4) (v := .ref e1) (C := RX4) (T := TX4) (N := 4) hx hb hts iw_X4_fewestBehind_4 hown hC.1 hP 0 rfl rfl 0 (by decide +kernel) (hts (.fieldLink RX4 9 "FairWheel$Risk" "behind" "[I") (by decide +kernel)) (fun _ h9 => h9) rfl dX4_fewestBehind_12 ?_
  refine lv_iload_n hx hb dX4_fewestBehind_15 rfl (lv_at hl 3 rfl) ?_
  refine ka_iald hx hb hC.1 hP 1 1 rfl rfl k rfl (by omega) (by decide +kernel) dX4_fewestBehind_16 ?_
  refine nt_i 0 rfl ?_
  refine lv_iconst (v := 1) hx hb dX4_fewestBehind_17 (by decide +kernel) ?_
  refine lv_iload_n hx hb dX4_fewestBehind_18 rfl (lv_at hl 0 rfl) ?_
  refine lv_ishl hx hb dX4_fewestBehind_19 ?_
  refine nt_i 2 (by decide +kernel) ?_
  refine lv_iand hx hb dX4_fewestBehind_20 ?_
  refine nt_i 0 (by decide +kernel) ?_
  refine lv_if_eq (tgt := 35) hx hb dX4_fewestBehind_21 (by decide +kernel) (fun c_4 => ?_) (fun c_4 => absurd (by decide +kernel) c_4)
  refine lv_iinc (v := 2) (lv' := [(3, .int 2), (2, .int 7), (0, .ref h0), (1, .int (nI k))]) hx hb dX4_fewestBehind_35 hl (k := 0) rfl (by decide +kernel) (by decide +kernel) rfl (fun ls hl => ?_)
  refine lv_goto (tgt := 5) hx hb dX4_fewestBehind_38 (by decide +kernel) ?_
  refine lv_iload_n hx hb dX4_fewestBehind_5 rfl (lv_at hl 0 rfl) ?_
  refine lv_bipush (v := 6) hx hb dX4_fewestBehind_6 (by decide +kernel) ?_
  refine lv_icmp_ge (tgt := 41) hx hb dX4_fewestBehind_8 (by decide +kernel) (fun c_5 => absurd c_5 (by decide +kernel)) (fun c_5 => ?_)
  refine lv_aload_n hx hb dX4_fewestBehind_11 rfl (lv_at hl 2 rfl) ?_
  refine va_get (D := D) (ci := 4) (v := .ref e1) (C := RX4) (T := TX4) (N := 4) hx hb hts iw_X4_fewestBehind_4 hown hC.1 hP 0 rfl rfl 0 (by decide +kernel) (hts (.fieldLink RX4 9 "FairWheel$Risk" "behind" "[I") (by decide +kernel)) (fun _ h9 => h9) rfl dX4_fewestBehind_12 ?_
  refine lv_iload_n hx hb dX4_fewestBehind_15 rfl (lv_at hl 3 rfl) ?_
  refine ka_iald hx hb hC.1 hP 1 1 rfl rfl k rfl (by omega) (by decide +kernel) dX4_fewestBehind_16 ?_
  refine nt_i 0 rfl ?_
  refine lv_iconst (v := 1) hx hb dX4_fewestBehind_17 (by decide +kernel) ?_
  refine lv_iload_n hx hb dX4_fewestBehind_18 rfl (lv_at hl 0 rfl) ?_
  refine lv_ishl hx hb dX4_fewestBehind_19 ?_
  refine nt_i 4 (by decide +kernel) ?_
  refine lv_iand hx hb dX4_fewestBehind_20 ?_
  refine nt_i 0 (by decide +kernel) ?_
  refine lv_if_eq (tgt := 35) hx hb dX4_fewestBehind_21 (by decide +kernel) (fun c_6 => ?_) (fun c_6 => absurd (by decide +kernel) c_6)
  refine lv_iinc (v := 3) (lv' := [(3, .int 3), (2, .int 7), (0, .ref h0), (1, .int (nI k))]) hx hb dX4_fewestBehind_35 hl (k := 0) rfl (by decide +kernel) (by decide +kernel) rfl (fun ls hl => ?_)
  refine lv_goto (tgt := 5) hx hb dX4_fewestBehind_38 (by decide +kernel) ?_
  refine lv_iload_n hx hb dX4_fewestBehind_5 rfl (lv_at hl 0 rfl) ?_
  refine lv_bipush (v := 6) hx hb dX4_fewestBehind_6 (by decide +kernel) ?_
  refine lv_icmp_ge (tgt := 41) hx hb dX4_fewestBehind_8 (by decide +kernel) (fun c_7 => absurd c_7 (by decide +kernel)) (fun c_7 => ?_)
  refine lv_aload_n hx hb dX4_fewestBehind_11 rfl (lv_at hl 2 rfl) ?_
  refine va_get (D := D) (ci := 4) (v := .ref e1) (C := RX4) (T := TX4) (N := 4) hx hb hts iw_X4_fewestBehind_4 hown hC.1 hP 0 rfl rfl 0 (by decide +kernel) (hts (.fieldLink RX4 9 "FairWheel$Risk" "behind" "[I") (by decide +kernel)) (fun _ h9 => h9) rfl dX4_fewestBehind_12 ?_
  refine lv_iload_n hx hb dX4_fewestBehind_15 rfl (lv_at hl 3 rfl) ?_
  refine ka_iald hx hb hC.1 hP 1 1 rfl rfl k rfl (by omega) (by decide +kernel) dX4_fewestBehind_16 ?_
  refine nt_i 0 rfl ?_
  refine lv_iconst (v := 1) hx hb dX4_fewestBehind_17 (by decide +kernel) ?_
  refine lv_iload_n hx hb dX4_fewestBehind_18 rfl (lv_at hl 0 rfl) ?_
  refine lv_ishl hx hb dX4_fewestBehind_19 ?_
  refine nt_i 8 (by decide +kernel) ?_
  refine lv_iand hx hb dX4_fewestBehind_20 ?_
  refine nt_i 0 (by decide +kernel) ?_
  refine lv_if_eq (tgt := 35) hx hb dX4_fewestBehind_21 (by decide +kernel) (fun c_8 => ?_) (fun c_8 => absurd (by decide +kernel) c_8)
  refine lv_iinc (v := 4) (lv' := [(3, .int 4), (2, .int 7), (0, .ref h0), (1, .int (nI k))]) hx hb dX4_fewestBehind_35 hl (k := 0) rfl (by decide +kernel) (by decide +kernel) rfl (fun ls hl => ?_)
  refine lv_goto (tgt := 5) hx hb dX4_fewestBehind_38 (by decide +kernel) ?_
  refine lv_iload_n hx hb dX4_fewestBehind_5 rfl (lv_at hl 0 rfl) ?_
  refine lv_bipush (v := 6) hx hb dX4_fewestBehind_6 (by decide +kernel) ?_
  refine lv_icmp_ge (tgt := 41) hx hb dX4_fewestBehind_8 (by decide +kernel) (fun c_9 => absurd c_9 (by decide +kernel)) (fun c_9 => ?_)
  refine lv_aload_n hx hb dX4_fewestBehind_11 rfl (lv_at hl 2 rfl) ?_
  refine va_get (D := D) (ci := 4) (v := .ref e1) (C := RX4) (T := TX4) (N := 4) hx hb hts iw_X4_fewestBehind_4 hown hC.1 hP 0 rfl rfl 0 (by decide +kernel) (hts (.fieldLink RX4 9 "FairWheel$Risk" "behind" "[I") (by decide +kernel)) (fun _ h9 => h9) rfl dX4_fewestBehind_12 ?_
  refine lv_iload_n hx hb dX4_fewestBehind_15 rfl (lv_at hl 3 rfl) ?_
  refine ka_iald hx hb hC.1 hP 1 1 rfl rfl k rfl (by omega) (by decide +kernel) dX4_fewestBehind_16 ?_
  refine nt_i 0 rfl ?_
  refine lv_iconst (v := 1) hx hb dX4_fewestBehind_17 (by decide +kernel) ?_
  refine lv_iload_n hx hb dX4_fewestBehind_18 rfl (lv_at hl 0 rfl) ?_
  refine lv_ishl hx hb dX4_fewestBehind_19 ?_
  refine nt_i 16 (by decide +kernel) ?_
  refine lv_iand hx hb dX4_fewestBehind_20 ?_
  refine nt_i 0 (by decide +kernel) ?_
  refine lv_if_eq (tgt := 35) hx hb dX4_fewestBehind_21 (by decide +kernel) (fun c_10 => ?_) (fun c_10 => absurd (by decide +kernel) c_10)
  refine lv_iinc (v := 5) (lv' := [(3, .int 5), (2, .int 7), (0, .ref h0), (1, .int (nI k))]) hx hb dX4_fewestBehind_35 hl (k := 0) rfl (by decide +kernel) (by decide +kernel) rfl (fun ls hl => ?_)
  refine lv_goto (tgt := 5) hx hb dX4_fewestBehind_38 (by decide +kernel) ?_
  refine lv_iload_n hx hb dX4_fewestBehind_5 rfl (lv_at hl 0 rfl) ?_
  refine lv_bipush (v := 6) hx hb dX4_fewestBehind_6 (by decide +kernel) ?_
  refine lv_icmp_ge (tgt := 41) hx hb dX4_fewestBehind_8 (by decide +kernel) (fun c_11 => absurd c_11 (by decide +kernel)) (fun c_11 => ?_)
  refine lv_aload_n hx hb dX4_fewestBehind_11 rfl (lv_at hl 2 rfl) ?_
  refine va_get (D := D) (ci := 4) (v := .ref e1) (C := RX4) (T := TX4) (N := 4) hx hb hts iw_X4_fewestBehind_4 hown hC.1 hP 0 rfl rfl 0 (by decide +kernel) (hts (.fieldLink RX4 9 "FairWheel$Risk" "behind" "[I") (by decide +kernel)) (fun _ h9 => h9) rfl dX4_fewestBehind_12 ?_
  refine lv_iload_n hx hb dX4_fewestBehind_15 rfl (lv_at hl 3 rfl) ?_
  refine ka_iald hx hb hC.1 hP 1 1 rfl rfl k rfl (by omega) (by decide +kernel) dX4_fewestBehind_16 ?_
  refine nt_i 0 rfl ?_
  refine lv_iconst (v := 1) hx hb dX4_fewestBehind_17 (by decide +kernel) ?_
  refine lv_iload_n hx hb dX4_fewestBehind_18 rfl (lv_at hl 0 rfl) ?_
  refine lv_ishl hx hb dX4_fewestBehind_19 ?_
  refine nt_i 32 (by decide +kernel) ?_
  refine lv_iand hx hb dX4_fewestBehind_20 ?_
  refine nt_i 0 (by decide +kernel) ?_
  refine lv_if_eq (tgt := 35) hx hb dX4_fewestBehind_21 (by decide +kernel) (fun c_12 => ?_) (fun c_12 => absurd (by decide +kernel) c_12)
  refine lv_iinc (v := 6) (lv' := [(3, .int 6), (2, .int 7), (0, .ref h0), (1, .int (nI k))]) hx hb dX4_fewestBehind_35 hl (k := 0) rfl (by decide +kernel) (by decide +kernel) rfl (fun ls hl => ?_)
  refine lv_goto (tgt := 5) hx hb dX4_fewestBehind_38 (by decide +kernel) ?_
  refine lv_iload_n hx hb dX4_fewestBehind_5 rfl (lv_at hl 0 rfl) ?_
  refine lv_bipush (v := 6) hx hb dX4_fewestBehind_6 (by decide +kernel) ?_
  refine lv_icmp_ge (tgt := 41) hx hb dX4_fewestBehind_8 (by decide +kernel) (fun c_13 => ?_) (fun c_13 => absurd (by decide +kernel) c_13)
  refine lv_iload_n hx hb dX4_fewestBehind_41 rfl (lv_at hl 1 rfl) ?_
  exact W.iret (v := 7) hx hb hr (fun t ht hW => ⟨⟨7, (), rfl, rfl, by rw [ht]; exact hP.sub [0, 1] rfl, hDA (hD.sub [0, 1] (by decide +kernel) rfl)⟩, hS.F ht⟩) hS.2.2 dX4_fewestBehind_42
theorem iw_X4_measure_4 : ∀ w ∈ u_ws RX4 TX4 4, w ∈ wsX4_measure := by decide +kernel
set_option maxHeartbeats 4000000 in
set_option maxRecDepth 100000 in
theorem k_X4_measure (l : Launch) (D : va_G) (ca : Nat → ClassId) (sz : Nat) (h0 : Nat) (e1 : Nat) (e2 : Nat) (e3 : Nat) (x1 : Int32) (f2 : Nat → Int32) : Met l yX4_measure wsX4_measure ({ frames := 1, cells := 0, slots := 0, locals := 23 }) (PC [.ref h0, .int x1] sz D ca [(h0, .inr (4, [.ref e1, .ref e2, .int 0, .ref e3])), (e1, .inl (ca 1, 6, .inl (fun _ => 0))), (e2, .inl (ca 1, 6, .inl f2))]) (QV (fun (u : (Nat → Int32)) => True) (fun (u : (Nat → Int32)) => [(h0, .inr (4, [.ref e1, .ref e2, .int 0, .ref e3])), (e1, .inl (ca 1, 6, .inl (fun _ => 0))), (e2, .inl (ca 1, 6, .inl u))]) [(h0, .inr (4, [.ref e1, .ref e2, .int 0, .ref e3])), (e1, .inl (ca 1, 6, .inl (fun _ => 0))), (e2, .inl (ca 1, 6, .inl f2))] sz D) 0 0 (va_A [(h0, .inr (4, [.ref e1, .ref e2, .int 0, .ref e3])), (e1, .inl (ca 1, 6, .inl (fun _ => 0))), (e2, .inl (ca 1, 6, .inl f2))] sz) := by
  refine Met.ofW (cc := cX4_measure) (maxL := 4) (ret := none) (by decide +kernel) rfl ?_
  intro p e s m args below meth c s₁ B hml hv
  obtain ⟨rfl, hsz, hP, hC, hD0⟩ := hv
  have hx := B.exec
  have hb := B.bytes
  have hr := B.returns
  have hts := atoms_spec (ws := wsX4_measure) B.pre
  have hown : s.vm.findClass RX4 = some m.cls := findClass_of_methodNamed B.named
  have hlocks := B.notSynchronized
  subst hsz
  have hD := hD0.self (sz := s.heap.size)
  dsimp only [QV, QI, QL, BQ]
  generalize hAe : va_A [(h0, .inr (4, [.ref e1, .ref e2, .int 0, .ref e3])), (e1, .inl (ca 1, 6, .inl (fun _ => 0))), (e2, .inl (ca 1, 6, .inl f2))] s.heap.size = A at hD ⊢
  have hA : ∀ q : Nat, s.heap.size ≤ q → A q := fun q h => by rw [← hAe]; exact Or.inr h
  have hDA : ∀ {w : va_W}, va_D A w → va_D (va_A [(h0, .inr (4, [.ref e1, .ref e2, .int 0, .ref e3])), (e1, .inl (ca 1, 6, .inl (fun _ => 0))), (e2, .inl (ca 1, 6, .inl f2))] s.heap.size) w := fun h => by rw [hAe]; exact h
  have hS : va_S A s.heap s.heap [] := va_S.rf
  have hP : va_P D vwCl [(h0, .inr (4, [.ref e1, .ref e2, .int 0, .ref e3])), (e1, .inl (ca 1, 6, .inl (fun _ => 0))), (e2, .inl (ca 1, 6, .inl f2))] s.heap := hP
  have hl := lv_entry ([.ref h0, .int x1]) (n := 4) (Nat.le_of_ble_eq_true rfl)
  rw [lg_entry_eq]
  generalize (lg_sl ([.ref h0, .int x1]) ++ List.replicate (4 - (lg_sl ([.ref h0, .int x1])).length) Slot.unset).toArray = ls at hl ⊢
  have hl : lv_has ls 4 [(0, .ref h0), (1, .int x1)] := hl
  refine lv_iconst (v := 0) hx hb dX4_measure_0 (by decide +kernel) ?_
  refine lv_istore_n (lv' := [(2, .int 0), (0, .ref h0), (1, .int x1)]) hx hb dX4_measure_1 rfl hl (by decide +kernel) rfl (fun ls hl => ?_)
  refine lp_ind (I := fun (n : Nat) H locs ls => ∃ (i : Nat) (fi0 : Nat → Int32), i ≤ 6 ∧ i + n = 7 ∧ lv_has ls 4 [(2, .int (nI i)), (0, .ref h0), (1, .int x1)] ∧ va_P D vwCl [(h0, .inr (4, [.ref e1, .ref e2, .int 0, .ref e3])), (e1, .inl (ca 1, 6, .inl (fun _ => 0))), (e2, .inl (ca 1, 6, .inl fi0))] H ∧ va_D A [(h0, .inr (4, [.ref e1, .ref e2, .int 0, .ref e3])), (e1, .inl (ca 1, 6, .inl (fun _ => 0))), (e2, .inl (ca 1, 6, .inl fi0))] ∧ va_S A s.heap H locs) (Wf := fun H locs ls => W p l e _ s m _ below meth c H locs _ _ _ (F0 m 2 ls [])) (7) ⟨0, f2, (by decide), (by decide), hl, hP, hD, hS⟩ ?_ ?_
  · intro H locs ls hI
    obtain ⟨i, fi0, hii, hni, -⟩ := hI
    omega
  intro n ih_1 H locs ls hI
  obtain ⟨i, fi0, hii, hni, hl, hP, hD, hS⟩ := hI
  refine lv_iload_n hx hb dX4_measure_2 rfl (lv_at hl 0 rfl) ?_
  refine lv_bipush (v := 6) hx hb dX4_measure_3 (by decide +kernel) ?_
  refine lv_icmp_ge (tgt := 31) hx hb dX4_measure_5 (by decide +kernel) (fun c_2 => ?_) (fun c_2 => ?_)
  · refine lv_iconst (v := 0) hx hb dX4_measure_31 (by decide +kernel) ?_
    refine lv_istore_n (lv' := [(2, .int 0), (0, .ref h0), (1, .int x1)]) hx hb dX4_measure_32 rfl hl (by decide +kernel) rfl (fun ls hl => ?_)
    refine lp_ind (I := fun (n : Nat) H locs ls => ∃ (j : Nat) (fj0 : Nat → Int32), j ≤ 6 ∧ j + n = 7 ∧ lv_has ls 4 [(2, .int (nI j)), (0, .ref h0), (1, .int x1)] ∧ va_P D vwCl [(h0, .inr (4, [.ref e1, .ref e2, .int 0, .ref e3])), (e1, .inl (ca 1, 6, .inl (fun _ => 0))), (e2, .inl (ca 1, 6, .inl fj0))] H ∧ va_D A [(h0, .inr (4, [.ref e1, .ref e2, .int 0, .ref e3])), (e1, .inl (ca 1, 6, .inl (fun _ => 0))), (e2, .inl (ca 1, 6, .inl fj0))] ∧ va_S A s.heap H locs) (Wf := fun H locs ls => W p l e _ s m _ below meth c H locs _ _ _ (F0 m 33 ls [])) (7) ⟨0, fi0, (by decide), (by decide), hl, hP, hD, hS⟩ ?_ ?_
    · intro H locs ls hI
      obtain ⟨j, fj0, hij, hnj, -⟩ := hI
      omega
    intro n ih_3 H locs ls hI
    obtain ⟨j, fj0, hij, hnj, hl, hP, hD, hS⟩ := hI
    refine lv_iload_n hx hb dX4_measure_33 rfl (lv_at hl 0 rfl) ?_
    refine lv_bipush (v := 6) hx hb dX4_measure_34 (by decide +kernel) ?_
    refine lv_icmp_ge (tgt := 81) hx hb dX4_measure_36 (by decide +kernel) (fun c_4 => ?_) (fun c_4 => ?_)
    ·
      exact W.vret hx hb hr (fun t ht hW => ⟨⟨fj0, rfl, trivial, by rw [ht]; exact hP.sub [0, 1, 2] rfl, hDA (hD.sub [0, 1, 2] (by decide +kernel) rfl)⟩, hS.F ht⟩) hS.2.2 dX4_measure_81
    · have hlj : j < 6 := Nat.lt_of_not_le (fun h => c_4 (nI_le (a := 6) h (by omega)))
      refine lv_iconst (v := 0) hx hb dX4_measure_39 (by decide +kernel) ?_
      refine lv_istore_n (lv' := [(3, .int 0), (2, .int (nI j)), (0, .ref h0), (1, .int x1)]) hx hb dX4_measure_40 rfl hl (by decide +kernel) rfl (fun ls hl => ?_)
      refine lp_ind (I := fun (n : Nat) H locs ls => ∃ (k : Nat) (fk0 : Nat → Int32), k ≤ 6 ∧ k + n = 7 ∧ lv_has ls 4 [(3, .int (nI k)), (2, .int (nI j)), (0, .ref h0), (1, .int x1)] ∧ va_P D vwCl [(h0, .inr (4, [.ref e1, .ref e2, .int 0, .ref e3])), (e1, .inl (ca 1, 6, .inl (fun _ => 0))), (e2, .inl (ca 1, 6, .inl fk0))] H ∧ va_D A [(h0, .inr (4, [.ref e1, .ref e2, .int 0, .ref e3])), (e1, .inl (ca 1, 6, .inl (fun _ => 0))), (e2, .inl (ca 1, 6, .inl fk0))] ∧ va_S A s.heap H locs) (Wf := fun H locs ls => W p l e _ s m _ below meth c H locs _ _ _ (F0 m 41 ls [])) (7) ⟨0, fj0, (by decide), (by decide), hl, hP, hD, hS⟩ ?_ ?_
      · intro H locs ls hI
        obtain ⟨k, fk0, hik, hnk, -⟩ := hI
        omega
      intro n ih_5 H locs ls hI
      obtain ⟨k, fk0, hik, hnk, hl, hP, hD, hS⟩ := hI
      refine lv_iload_n hx hb dX4_measure_41 rfl (lv_at hl 0 rfl) ?_
      refine lv_bipush (v := 6) hx hb dX4_measure_42 (by decide +kernel) ?_
      refine lv_icmp_ge (tgt := 75) hx hb dX4_measure_44 (by decide +kernel) (fun c_6 => ?_) (fun c_6 => ?_)
      · refine lv_iinc (v := nI (j + 1)) (lv' := [(2, .int (nI (j + 1))), (3, .int (nI k)), (0, .ref h0), (1, .int x1)]) hx hb dX4_measure_75 hl (k := 1) rfl (nI_1 _) (by decide +kernel) rfl (fun ls hl => ?_)
        refine lv_goto (tgt := 33) hx hb dX4_measure_78 (by decide +kernel) ?_
        exact ih_3 _ _ _ ⟨(j + 1), fk0, (by omega), (by omega), lv_sub hl [0, 2, 3] rfl, hP, hD, hS⟩
      · have hlk : k < 6 := Nat.lt_of_not_le (fun h => c_6 (nI_le (a := 6) h (by omega)))
        refine lv_aload_n hx hb dX4_measure_47 rfl (lv_at hl 2 rfl) ?_
        refine va_get (D := D) (ci := 4) (v := .ref e2) (C := RX4) (T := TX4) (N := 4) hx hb hts iw_X4_measure_4 hown hC.1 hP 0 rfl rfl 1 (by decide +kernel) (hts (.fieldLink RX4 15 "FairWheel$Risk" "steps" "[I") (by decide +kernel)) (fun _ h9 => h9) rfl dX4_measure_48 ?_
        refine lv_iload_n hx hb dX4_measure_51 rfl (lv_at hl 0 rfl) ?_
        refine lv_aload_n hx hb dX4_measure_52 rfl (lv_at hl 2 rfl) ?_
        refine va_get (D := D) (ci := 4) (v := .ref e2) (C := RX4) (T := TX4) (N := 4) hx hb hts iw_X4_measure_4 hown hC.1 hP 0 rfl rfl 1 (by decide +kernel) (hts (.fieldLink RX4 15 "FairWheel$Risk" "steps" "[I") (by decide +kernel)) (fun _ h9 => h9) rfl dX4_measure_53 ?_
        refine lv_iload_n hx hb dX4_measure_56 rfl (lv_at hl 0 rfl) ?_
        refine ka_iald hx hb hC.1 hP 2 1 rfl rfl k rfl (by omega) (by decide +kernel) dX4_measure_57 ?_
        refine lv_aload_n hx hb dX4_measure_58 rfl (lv_at hl 2 rfl) ?_
        refine lv_iload_n hx hb dX4_measure_59 rfl (lv_at hl 0 rfl) ?_
        refine kc_i (wr := [(e2, .inl (ca 1, 6, .inl fk0))]) (va_runV (As := [.int (nI k)]) (rest := [.int (fk0 k), .int (nI k), .ref e2]) ⟨hx, hb, hml, hown, hts⟩ (k_X4_fewestBehind l D ca H.size h0 e1 e2 e3 k (by omega)) (cwV 1 hts gX4_measure_X4_fewestBehind rfl rfl rfl (by decide +kernel) ⟨(Nat.le_of_ble_eq_true rfl), (Nat.le_of_ble_eq_true rfl)⟩) (PC.preV (ci := 4) hC hP hD [0, 1] rfl (by decide +kernel) rfl rfl) rfl rfl hl.1 rfl (lv_room (Nat.le_of_ble_eq_true rfl)) dX4_measure_60 ⟨(Nat.le_of_ble_eq_true rfl), (Nat.le_of_ble_eq_true rfl)⟩) hP hD hS hA [0, 1] [2] rfl rfl (by decide +kernel) (by decide +kernel) (fun r_7 u_9 H locs hw_8 hP hD hS => ?_)
        subst hw_8
        have hP : va_P D vwCl [(e2, .inl (ca 1, 6, .inl fk0)), (h0, .inr (4, [.ref e1, .ref e2, .int 0, .ref e3])), (e1, .inl (ca 1, 6, .inl (fun _ => 0)))] H := hP
        have hD : va_D A [(e2, .inl (ca 1, 6, .inl fk0)), (h0, .inr (4, [.ref e1, .ref e2, .int 0, .ref e3])), (e1, .inl (ca 1, 6, .inl (fun _ => 0)))] := hD
        refine lv_iconst (v := 1) hx hb dX4_measure_63 (by decide +kernel) ?_
        refine lv_iadd hx hb dX4_measure_64 ?_
        refine nt_i 8 (by decide +kernel) ?_
        refine va_mmin hx hb (hml.trans hl.1.symm) hown (hts (.methodLink RX4 65 Lib.Math.min.name) (by decide +kernel)) (hts (.static Lib.Math.min.name) (by decide +kernel)) (hts (.initialized "java/lang/Math") (by decide +kernel)) (hts (.code Lib.Math.min.name Lib.Math.min.code 2 (some .int)) (by decide +kernel)) (Nat.le_of_ble_eq_true rfl) (Nat.le_of_ble_eq_true rfl) (Nat.le_of_ble_eq_true rfl) (Nat.le_of_ble_eq_true rfl) dX4_measure_65 ?_
        refine lv_topi (fun y_10 ey_10 => ?_)
        refine ka_iast hx hb hC.1 hP hD hS 0 1 rfl rfl k rfl (by omega) (by decide +kernel) dX4_measure_68 (fun H locs hP hD hS => ?_)
        have hP : va_P D vwCl [(e2, .inl (ca 1, 6, .inl (upd fk0 k y_10))), (h0, .inr (4, [.ref e1, .ref e2, .int 0, .ref e3])), (e1, .inl (ca 1, 6, .inl (fun _ => 0)))] H := hP
        have hD : va_D A [(e2, .inl (ca 1, 6, .inl (upd fk0 k y_10))), (h0, .inr (4, [.ref e1, .ref e2, .int 0, .ref e3])), (e1, .inl (ca 1, 6, .inl (fun _ => 0)))] := hD
        refine lv_iinc (v := nI (k + 1)) (lv' := [(3, .int (nI (k + 1))), (2, .int (nI j)), (0, .ref h0), (1, .int x1)]) hx hb dX4_measure_69 hl (k := 0) rfl (nI_1 _) (by decide +kernel) rfl (fun ls hl => ?_)
        refine lv_goto (tgt := 41) hx hb dX4_measure_72 (by decide +kernel) ?_
        exact ih_5 _ _ _ ⟨(k + 1), (upd fk0 k y_10), (by omega), (by omega), lv_sub hl [0, 1, 2, 3] rfl, (hP.sub [1, 2, 0] rfl), (hD.sub [1, 2, 0] (by decide +kernel) rfl), hS⟩
  · have hli : i < 6 := Nat.lt_of_not_le (fun h => c_2 (nI_le (a := 6) h (by omega)))
    refine lv_aload_n hx hb dX4_measure_8 rfl (lv_at hl 1 rfl) ?_
    refine va_get (D := D) (ci := 4) (v := .ref e2) (C := RX4) (T := TX4) (N := 4) hx hb hts iw_X4_measure_4 hown hC.1 hP 0 rfl rfl 1 (by decide +kernel) (hts (.fieldLink RX4 15 "FairWheel$Risk" "steps" "[I") (by decide +kernel)) (fun _ h9 => h9) rfl dX4_measure_9 ?_
    refine lv_iload_n hx hb dX4_measure_12 rfl (lv_at hl 0 rfl) ?_
    refine lv_iload_n hx hb dX4_measure_13 rfl (lv_at hl 0 rfl) ?_
    refine lv_iload_n hx hb dX4_measure_14 rfl (lv_at hl 2 rfl) ?_
    refine lv_icmp_ne (tgt := 22) hx hb dX4_measure_15 (by decide +kernel) (fun c_11 => ?_) (fun c_11 => ?_)
    · refine lv_bipush (v := 7) hx hb dX4_measure_22 (by decide +kernel) ?_
      refine ka_iast hx hb hC.1 hP hD hS 2 1 rfl rfl i rfl (by omega) (by decide +kernel) dX4_measure_24 (fun H locs hP hD hS => ?_)
      have hP : va_P D vwCl [(h0, .inr (4, [.ref e1, .ref e2, .int 0, .ref e3])), (e1, .inl (ca 1, 6, .inl (fun _ => 0))), (e2, .inl (ca 1, 6, .inl (upd fi0 i 7)))] H := hP
      have hD : va_D A [(h0, .inr (4, [.ref e1, .ref e2, .int 0, .ref e3])), (e1, .inl (ca 1, 6, .inl (fun _ => 0))), (e2, .inl (ca 1, 6, .inl (upd fi0 i 7)))] := hD
      refine lv_iinc (v := nI (i + 1)) (lv' := [(2, .int (nI (i + 1))), (0, .ref h0), (1, .int x1)]) hx hb dX4_measure_25 hl (k := 0) rfl (nI_1 _) (by decide +kernel) rfl (fun ls hl => ?_)
      refine lv_goto (tgt := 2) hx hb dX4_measure_28 (by decide +kernel) ?_
      exact ih_1 _ _ _ ⟨(i + 1), (upd fi0 i 7), (by omega), (by omega), lv_sub hl [0, 1, 2] rfl, hP, hD, hS⟩
    · refine lv_iconst (v := 0) hx hb dX4_measure_18 (by decide +kernel) ?_
      refine lv_goto (tgt := 24) hx hb dX4_measure_19 (by decide +kernel) ?_
      refine ka_iast hx hb hC.1 hP hD hS 2 1 rfl rfl i rfl (by omega) (by decide +kernel) dX4_measure_24 (fun H locs hP hD hS => ?_)
      have hP : va_P D vwCl [(h0, .inr (4, [.ref e1, .ref e2, .int 0, .ref e3])), (e1, .inl (ca 1, 6, .inl (fun _ => 0))), (e2, .inl (ca 1, 6, .inl (upd fi0 i 0)))] H := hP
      have hD : va_D A [(h0, .inr (4, [.ref e1, .ref e2, .int 0, .ref e3])), (e1, .inl (ca 1, 6, .inl (fun _ => 0))), (e2, .inl (ca 1, 6, .inl (upd fi0 i 0)))] := hD
      refine lv_iinc (v := nI (i + 1)) (lv' := [(2, .int (nI (i + 1))), (0, .ref h0), (1, .int x1)]) hx hb dX4_measure_25 hl (k := 0) rfl (nI_1 _) (by decide +kernel) rfl (fun ls hl => ?_)
      refine lv_goto (tgt := 2) hx hb dX4_measure_28 (by decide +kernel) ?_
      exact ih_1 _ _ _ ⟨(i + 1), (upd fi0 i 0), (by omega), (by omega), lv_sub hl [0, 1, 2] rfl, hP, hD, hS⟩
set_option maxHeartbeats 4000000 in
set_option maxRecDepth 100000 in
theorem k_X4_goRound (l : Launch) (D : va_G) (ca : Nat → ClassId) (sz : Nat) (h0 : Nat) (e1 : Nat) (e2 : Nat) (e3 : Nat) (k : Nat) (hk : k < 6) : Met l yX4_goRound wsX4_goRound ({ frames := 1, cells := 0, slots := 0, locals := 23 }) (PC [.ref h0, .int (nI k)] sz D ca [(h0, .inr (4, [.ref e1, .ref e2, .int 0, .ref e3])), (e1, .inl (ca 1, 6, .inl (fun _ => 0)))]) (QV (fun (u : Unit) => True) (fun (_ : Unit) => [(h0, .inr (4, [.ref e1, .ref e2, .int 0, .ref e3])), (e1, .inl (ca 1, 6, .inl (fun _ => 0)))]) [(h0, .inr (4, [.ref e1, .ref e2, .int 0, .ref e3])), (e1, .inl (ca 1, 6, .inl (fun _ => 0)))] sz D) 0 0 (va_A [(h0, .inr (4, [.ref e1, .ref e2, .int 0, .ref e3])), (e1, .inl (ca 1, 6, .inl (fun _ => 0)))] sz) := by
  refine Met.ofW (cc := cX4_goRound) (maxL := 5) (ret := none) (by decide +kernel) rfl ?_
  intro p e s m args below meth c s₁ B hml hv
  obtain ⟨rfl, hsz, hP, hC, hD0⟩ := hv
  have hx := B.exec
  have hb := B.bytes
  have hr := B.returns
  have hts := atoms_spec (ws := wsX4_goRound) B.pre
  have hown : s.vm.findClass RX4 = some m.cls := findClass_of_methodNamed B.named
  have hlocks := B.notSynchronized
  subst hsz
  have hD := hD0.self (sz := s.heap.size)
  dsimp only [QV, QI, QL, BQ]
  generalize hAe : va_A [(h0, .inr (4, [.ref e1, .ref e2, .int 0, .ref e3])), (e1, .inl (ca 1, 6, .inl (fun _ => 0)))] s.heap.size = A at hD ⊢
  have hA : ∀ q : Nat, s.heap.size ≤ q → A q := fun q h => by rw [← hAe]; exact Or.inr h
  have hDA : ∀ {w : va_W}, va_D A w → va_D (va_A [(h0, .inr (4, [.ref e1, .ref e2, .int 0, .ref e3])), (e1, .inl (ca 1, 6, .inl (fun _ => 0)))] s.heap.size) w := fun h => by rw [hAe]; exact h
  have hS : va_S A s.heap s.heap [] := va_S.rf
  have hP : va_P D vwCl [(h0, .inr (4, [.ref e1, .ref e2, .int 0, .ref e3])), (e1, .inl (ca 1, 6, .inl (fun _ => 0)))] s.heap := hP
  have hl := lv_entry ([.ref h0, .int (nI k)]) (n := 5) (Nat.le_of_ble_eq_true rfl)
  rw [lg_entry_eq]
  generalize (lg_sl ([.ref h0, .int (nI k)]) ++ List.replicate (5 - (lg_sl ([.ref h0, .int (nI k)])).length) Slot.unset).toArray = ls at hl ⊢
  have hl : lv_has ls 5 [(0, .ref h0), (1, .int (nI k))] := hl
  refine lv_aload_n hx hb dX4_goRound_0 rfl (lv_at hl 0 rfl) ?_
  refine lv_iload_n hx hb dX4_goRound_1 rfl (lv_at hl 1 rfl) ?_
  refine kc_i (wr := []) (va_runV (As := [.int (nI k)]) (rest := []) ⟨hx, hb, hml, hown, hts⟩ (k_X4_fewestBehind l D ca s.heap.size h0 e1 e2 e3 k (by omega)) (cwV 1 hts gX4_goRound_X4_fewestBehind rfl rfl rfl (by decide +kernel) ⟨(Nat.le_of_ble_eq_true rfl), (Nat.le_of_ble_eq_true rfl)⟩) (PC.preV (ci := 4) hC hP hD [0, 1] rfl (by decide +kernel) rfl rfl) rfl rfl hl.1 rfl (lv_room (Nat.le_of_ble_eq_true rfl)) dX4_goRound_2 ⟨(Nat.le_of_ble_eq_true rfl), (Nat.le_of_ble_eq_true rfl)⟩) hP hD hS hA [0, 1] [] rfl rfl (by decide +kernel) (by decide +kernel) (fun r_1 u_3 H locs hw_2 hP hD hS => ?_)
  subst hw_2
  have hP : va_P D vwCl [(h0, .inr (4, [.ref e1, .ref e2, .int 0, .ref e3])), (e1, .inl (ca 1, 6, .inl (fun _ => 0)))] H := hP
  have hD : va_D A [(h0, .inr (4, [.ref e1, .ref e2, .int 0, .ref e3])), (e1, .inl (ca 1, 6, .inl (fun _ => 0)))] := hD
  refine lv_istore_n (lv' := [(2, .int 7), (0, .ref h0), (1, .int (nI k))]) hx hb dX4_goRound_5 rfl hl (by decide +kernel) rfl (fun ls hl => ?_)
  refine lv_iload_n hx hb dX4_goRound_6 rfl (lv_at hl 2 rfl) ?_
  refine lv_istore_n (lv' := [(3, .int (nI k)), (2, .int 7), (0, .ref h0), (1, .int (nI k))]) hx hb dX4_goRound_7 rfl hl (by decide +kernel) rfl (fun ls hl => ?_)
  refine lv_iload_n hx hb dX4_goRound_8 rfl (lv_at hl 1 rfl) ?_
  refine lv_bipush (v := 6) hx hb dX4_goRound_9 (by decide +kernel) ?_
  refine lv_icmp_lt (tgt := 15) hx hb dX4_goRound_11 (by decide +kernel) (fun c_4 => absurd c_4 (by decide +kernel)) (fun c_4 => ?_)
  exact W.vret hx hb hr (fun t ht hW => ⟨⟨(), rfl, trivial, by rw [ht]; exact hP.sub [0, 1] rfl, hDA (hD.sub [0, 1] (by decide +kernel) rfl)⟩, hS.F ht⟩) hS.2.2 dX4_goRound_14
theorem iw_X4_find_2 : ∀ w ∈ u_ws RX2 TX2 14, w ∈ wsX4_find := by decide +kernel
theorem iw_X4_find_4 : ∀ w ∈ u_ws RX4 TX4 4, w ∈ wsX4_find := by decide +kernel
set_option maxHeartbeats 4000000 in
set_option maxRecDepth 100000 in
theorem k_X4_find (l : Launch) (D : va_G) (ca : Nat → ClassId) (sz : Nat) (h0 : Nat) (e1 : Nat) (e2 : Nat) (e3 : Nat) (pl : Nat) (pl5 : Nat) (pl6 : Nat) (pl7 : Nat) (pl8 : Nat) (pl9 : Nat) (pl10 : Nat) (pl11 : Nat) (pl12 : Nat) (pl13 : Nat) (f2 : Nat → Int32) : Met l yX4_find wsX4_find ({ frames := 2, cells := 0, slots := 0, locals := 47 }) (PC [.ref h0, .ref pl] sz D ca [(h0, .inr (4, [.ref e1, .ref e2, .int 0, .ref e3])), (pl, .inr (2, [.int 1, .int 0, .int 0, .int 0, .int 0, .ref pl5, .ref pl6, .ref pl7, .ref pl8, .ref pl9, .ref pl10, .ref pl11, .ref pl12, .ref pl13])), (e1, .inl (ca 1, 6, .inl (fun _ => 0))), (e2, .inl (ca 1, 6, .inl f2))]) (QV (fun (u : (Nat → Int32)) => True) (fun (u : (Nat → Int32)) => [(pl, .inr (2, [.int 1, .int 0, .int 0, .int 0, .int 0, .ref pl5, .ref pl6, .ref pl7, .ref pl8, .ref pl9, .ref pl10, .ref pl11, .ref pl12, .ref pl13])), (e2, .inl (ca 1, 6, .inl u)), (h0, .inr (4, [.ref e1, .ref e2, .int 0, .ref e3])), (e1, .inl (ca 1, 6, .inl (fun _ => 0)))]) [(h0, .inr (4, [.ref e1, .ref e2, .int 0, .ref e3])), (pl, .inr (2, [.int 1, .int 0, .int 0, .int 0, .int 0, .ref pl5, .ref pl6, .ref pl7, .ref pl8, .ref pl9, .ref pl10, .ref pl11, .ref pl12, .ref pl13])), (e1, .inl (ca 1, 6, .inl (fun _ => 0))), (e2, .inl (ca 1, 6, .inl f2))] sz D) 0 0 (va_A [(h0, .inr (4, [.ref e1, .ref e2, .int 0, .ref e3])), (pl, .inr (2, [.int 1, .int 0, .int 0, .int 0, .int 0, .ref pl5, .ref pl6, .ref pl7, .ref pl8, .ref pl9, .ref pl10, .ref pl11, .ref pl12, .ref pl13])), (e1, .inl (ca 1, 6, .inl (fun _ => 0))), (e2, .inl (ca 1, 6, .inl f2))] sz) := by
  refine Met.ofW (cc := cX4_find) (maxL := 3) (ret := none) (by decide +kernel) rfl ?_
  intro p e s m args below meth c s₁ B hml hv
  obtain ⟨rfl, hsz, hP, hC, hD0⟩ := hv
  have hx := B.exec
  have hb := B.bytes
  have hr := B.returns
  have hts := atoms_spec (ws := wsX4_find) B.pre
  have hown : s.vm.findClass RX4 = some m.cls := findClass_of_methodNamed B.named
  have hlocks := B.notSynchronized
  subst hsz
  have hD := hD0.self (sz := s.heap.size)
  dsimp only [QV, QI, QL, BQ]
  generalize hAe : va_A [(h0, .inr (4, [.ref e1, .ref e2, .int 0, .ref e3])), (pl, .inr (2, [.int 1, .int 0, .int 0, .int 0, .int 0, .ref pl5, .ref pl6, .ref pl7, .ref pl8, .ref pl9, .ref pl10, .ref pl11, .ref pl12, .ref pl13])), (e1, .inl (ca 1, 6, .inl (fun _ => 0))), (e2, .inl (ca 1, 6, .inl f2))] s.heap.size = A at hD ⊢
  have hA : ∀ q : Nat, s.heap.size ≤ q → A q := fun q h => by rw [← hAe]; exact Or.inr h
  have hDA : ∀ {w : va_W}, va_D A w → va_D (va_A [(h0, .inr (4, [.ref e1, .ref e2, .int 0, .ref e3])), (pl, .inr (2, [.int 1, .int 0, .int 0, .int 0, .int 0, .ref pl5, .ref pl6, .ref pl7, .ref pl8, .ref pl9, .ref pl10, .ref pl11, .ref pl12, .ref pl13])), (e1, .inl (ca 1, 6, .inl (fun _ => 0))), (e2, .inl (ca 1, 6, .inl f2))] s.heap.size) w := fun h => by rw [hAe]; exact h
  have hS : va_S A s.heap s.heap [] := va_S.rf
  have hP : va_P D vwCl [(h0, .inr (4, [.ref e1, .ref e2, .int 0, .ref e3])), (pl, .inr (2, [.int 1, .int 0, .int 0, .int 0, .int 0, .ref pl5, .ref pl6, .ref pl7, .ref pl8, .ref pl9, .ref pl10, .ref pl11, .ref pl12, .ref pl13])), (e1, .inl (ca 1, 6, .inl (fun _ => 0))), (e2, .inl (ca 1, 6, .inl f2))] s.heap := hP
  have hl := lv_entry ([.ref h0, .ref pl]) (n := 3) (Nat.le_of_ble_eq_true rfl)
  rw [lg_entry_eq]
  generalize (lg_sl ([.ref h0, .ref pl]) ++ List.replicate (3 - (lg_sl ([.ref h0, .ref pl])).length) Slot.unset).toArray = ls at hl ⊢
  have hl : lv_has ls 3 [(0, .ref h0), (1, .ref pl)] := hl
  refine lv_aload_n hx hb dX4_find_0 rfl (lv_at hl 0 rfl) ?_
  refine lv_iconst (v := 0) hx hb dX4_find_1 (by decide +kernel) ?_
  refine va_put (D := D) (ci := 4) (v := .int 0) (ty := .int) (C := RX4) (T := TX4) (N := 4) hx hb hts iw_X4_find_4 tyX4 tyX4_ok nmX4 hown hC.1 hP hD hS 0 rfl rfl 2 (by decide +kernel) (hts (.fieldLink RX4 18 "FairWheel$Risk" "size" "I") (by decide +kernel)) (fun _ h9 => h9) rfl (by decide +kernel) rfl rfl (Nat.le_of_ble_eq_true rfl) dX4_find_2 (fun H locs hP hD hS => ?_)
  have hP : va_P D vwCl [(h0, .inr (4, [.ref e1, .ref e2, .int 0, .ref e3])), (pl, .inr (2, [.int 1, .int 0, .int 0, .int 0, .int 0, .ref pl5, .ref pl6, .ref pl7, .ref pl8, .ref pl9, .ref pl10, .ref pl11, .ref pl12, .ref pl13])), (e1, .inl (ca 1, 6, .inl (fun _ => 0))), (e2, .inl (ca 1, 6, .inl f2))] H := hP
  have hD : va_D A [(h0, .inr (4, [.ref e1, .ref e2, .int 0, .ref e3])), (pl, .inr (2, [.int 1, .int 0, .int 0, .int 0, .int 0, .ref pl5, .ref pl6, .ref pl7, .ref pl8, .ref pl9, .ref pl10, .ref pl11, .ref pl12, .ref pl13])), (e1, .inl (ca 1, 6, .inl (fun _ => 0))), (e2, .inl (ca 1, 6, .inl f2))] := hD
  refine lv_iconst (v := 0) hx hb dX4_find_5 (by decide +kernel) ?_
  refine lv_istore_n (lv' := [(2, .int 0), (0, .ref h0), (1, .ref pl)]) hx hb dX4_find_6 rfl hl (by decide +kernel) rfl (fun ls hl => ?_)
  refine lv_iload_n hx hb dX4_find_7 rfl (lv_at hl 0 rfl) ?_
  refine lv_bipush (v := 6) hx hb dX4_find_8 (by decide +kernel) ?_
  refine lv_icmp_ge (tgt := 26) hx hb dX4_find_10 (by decide +kernel) (fun c_1 => absurd c_1 (by decide +kernel)) (fun c_1 => ?_)
  refine lv_aload_n hx hb dX4_find_13 rfl (lv_at hl 1 rfl) ?_
  refine va_get (D := D) (ci := 4) (v := .ref e1) (C := RX4) (T := TX4) (N := 4) hx hb hts iw_X4_find_4 hown hC.1 hP 0 rfl rfl 0 (by decide +kernel) (hts (.fieldLink RX4 9 "FairWheel$Risk" "behind" "[I") (by decide +kernel)) (fun _ h9 => h9) rfl dX4_find_14 ?_
  refine lv_iload_n hx hb dX4_find_17 rfl (lv_at hl 0 rfl) ?_
  refine lv_iconst (v := 0) hx hb dX4_find_18 (by decide +kernel) ?_
  refine ka_iast hx hb hC.1 hP hD hS 2 1 rfl rfl 0 rfl (by decide +kernel) (by decide +kernel) dX4_find_19 (fun H locs hP hD hS => ?_)
  rw [up_c0] at hP hD
  have hP : va_P D vwCl [(h0, .inr (4, [.ref e1, .ref e2, .int 0, .ref e3])), (pl, .inr (2, [.int 1, .int 0, .int 0, .int 0, .int 0, .ref pl5, .ref pl6, .ref pl7, .ref pl8, .ref pl9, .ref pl10, .ref pl11, .ref pl12, .ref pl13])), (e1, .inl (ca 1, 6, .inl (fun _ => 0))), (e2, .inl (ca 1, 6, .inl f2))] H := hP
  have hD : va_D A [(h0, .inr (4, [.ref e1, .ref e2, .int 0, .ref e3])), (pl, .inr (2, [.int 1, .int 0, .int 0, .int 0, .int 0, .ref pl5, .ref pl6, .ref pl7, .ref pl8, .ref pl9, .ref pl10, .ref pl11, .ref pl12, .ref pl13])), (e1, .inl (ca 1, 6, .inl (fun _ => 0))), (e2, .inl (ca 1, 6, .inl f2))] := hD
  refine lv_iinc (v := 1) (lv' := [(2, .int 1), (0, .ref h0), (1, .ref pl)]) hx hb dX4_find_20 hl (k := 0) rfl (by decide +kernel) (by decide +kernel) rfl (fun ls hl => ?_)
  refine lv_goto (tgt := 7) hx hb dX4_find_23 (by decide +kernel) ?_
  refine lv_iload_n hx hb dX4_find_7 rfl (lv_at hl 0 rfl) ?_
  refine lv_bipush (v := 6) hx hb dX4_find_8 (by decide +kernel) ?_
  refine lv_icmp_ge (tgt := 26) hx hb dX4_find_10 (by decide +kernel) (fun c_2 => absurd c_2 (by decide +kernel)) (fun c_2 => ?_)
  refine lv_aload_n hx hb dX4_find_13 rfl (lv_at hl 1 rfl) ?_
  refine va_get (D := D) (ci := 4) (v := .ref e1) (C := RX4) (T := TX4) (N := 4) hx hb hts iw_X4_find_4 hown hC.1 hP 0 rfl rfl 0 (by decide +kernel) (hts (.fieldLink RX4 9 "FairWheel$Risk" "behind" "[I") (by decide +kernel)) (fun _ h9 => h9) rfl dX4_find_14 ?_
  refine lv_iload_n hx hb dX4_find_17 rfl (lv_at hl 0 rfl) ?_
  refine lv_iconst (v := 0) hx hb dX4_find_18 (by decide +kernel) ?_
  refine ka_iast hx hb hC.1 hP hD hS 2 1 rfl rfl 1 rfl (by decide +kernel) (by decide +kernel) dX4_find_19 (fun H locs hP hD hS => ?_)
  rw [up_c0] at hP hD
  have hP : va_P D vwCl [(h0, .inr (4, [.ref e1, .ref e2, .int 0, .ref e3])), (pl, .inr (2, [.int 1, .int 0, .int 0, .int 0, .int 0, .ref pl5, .ref pl6, .ref pl7, .ref pl8, .ref pl9, .ref pl10, .ref pl11, .ref pl12, .ref pl13])), (e1, .inl (ca 1, 6, .inl (fun _ => 0))), (e2, .inl (ca 1, 6, .inl f2))] H := hP
  have hD : va_D A [(h0, .inr (4, [.ref e1, .ref e2, .int 0, .ref e3])), (pl, .inr (2, [.int 1, .int 0, .int 0, .int 0, .int 0, .ref pl5, .ref pl6, .ref pl7, .ref pl8, .ref pl9, .ref pl10, .ref pl11, .ref pl12, .ref pl13])), (e1, .inl (ca 1, 6, .inl (fun _ => 0))), (e2, .inl (ca 1, 6, .inl f2))] := hD
  refine lv_iinc (v := 2) (lv' := [(2, .int 2), (0, .ref h0), (1, .ref pl)]) hx hb dX4_find_20 hl (k := 0) rfl (by decide +kernel) (by decide +kernel) rfl (fun ls hl => ?_)
  refine lv_goto (tgt := 7) hx hb dX4_find_23 (by decide +kernel) ?_
  refine lv_iload_n hx hb dX4_find_7 rfl (lv_at hl 0 rfl) ?_
  refine lv_bipush (v := 6) hx hb dX4_find_8 (by decide +kernel) ?_
  refine lv_icmp_ge (tgt := 26) hx hb dX4_find_10 (by decide +kernel) (fun c_3 => absurd c_3 (by decide +kernel)) (fun c_3 => ?_)
  refine lv_aload_n hx hb dX4_find_13 rfl (lv_at hl 1 rfl) ?_
  refine va_get (D := D) (ci := 4) (v := .ref e1) (C := RX4) (T := TX4) (N := 4) hx hb hts iw_X4_find_4 hown hC.1 hP 0 rfl rfl 0 (by decide +kernel) (hts (.fieldLink RX4 9 "FairWheel$Risk" "behind" "[I") (by decide +kernel)) (fun _ h9 => h9) rfl dX4_find_14 ?_
  refine lv_iload_n hx hb dX4_find_17 rfl (lv_at hl 0 rfl) ?_
  refine lv_iconst (v := 0) hx hb dX4_find_18 (by decide +kernel) ?_
  refine ka_iast hx hb hC.1 hP hD hS 2 1 rfl rfl 2 rfl (by decide +kernel) (by decide +kernel) dX4_find_19 (fun H locs hP hD hS => ?_)
  rw [up_c0] at hP hD
  have hP : va_P D vwCl [(h0, .inr (4, [.ref e1, .ref e2, .int 0, .ref e3])), (pl, .inr (2, [.int 1, .int 0, .int 0, .int 0, .int 0, .ref pl5, .ref pl6, .ref pl7, .ref pl8, .ref pl9, .ref pl10, .ref pl11, .ref pl12, .ref pl13])), (e1, .inl (ca 1, 6, .inl (fun _ => 0))), (e2, .inl (ca 1, 6, .inl f2))] H := hP
  have hD : va_D A [(h0, .inr (4, [.ref e1, .ref e2, .int 0, .ref e3])), (pl, .inr (2, [.int 1, .int 0, .int 0, .int 0, .int 0, .ref pl5, .ref pl6, .ref pl7, .ref pl8, .ref pl9, .ref pl10, .ref pl11, .ref pl12, .ref pl13])), (e1, .inl (ca 1, 6, .inl (fun _ => 0))), (e2, .inl (ca 1, 6, .inl f2))] := hD
  refine lv_iinc (v := 3) (lv' := [(2, .int 3), (0, .ref h0), (1, .ref pl)]) hx hb dX4_find_20 hl (k := 0) rfl (by decide +kernel) (by decide +kernel) rfl (fun ls hl => ?_)
  refine lv_goto (tgt := 7) hx hb dX4_find_23 (by decide +kernel) ?_
  refine lv_iload_n hx hb dX4_find_7 rfl (lv_at hl 0 rfl) ?_
  refine lv_bipush (v := 6) hx hb dX4_find_8 (by decide +kernel) ?_
  refine lv_icmp_ge (tgt := 26) hx hb dX4_find_10 (by decide +kernel) (fun c_4 => absurd c_4 (by decide +kernel)) (fun c_4 => ?_)
  refine lv_aload_n hx hb dX4_find_13 rfl (lv_at hl 1 rfl) ?_
  refine va_get (D := D) (ci := 4) (v := .ref e1) (C := RX4) (T := TX4) (N := 4) hx hb hts iw_X4_find_4 hown hC.1 hP 0 rfl rfl 0 (by decide +kernel) (hts (.fieldLink RX4 9 "FairWheel$Risk" "behind" "[I") (by decide +kernel)) (fun _ h9 => h9) rfl dX4_find_14 ?_
  refine lv_iload_n hx hb dX4_find_17 rfl (lv_at hl 0 rfl) ?_
  refine lv_iconst (v := 0) hx hb dX4_find_18 (by decide +kernel) ?_
  refine ka_iast hx hb hC.1 hP hD hS 2 1 rfl rfl 3 rfl (by decide +kernel) (by decide +kernel) dX4_find_19 (fun H locs hP hD hS => ?_)
  rw [up_c0] at hP hD
  have hP : va_P D vwCl [(h0, .inr (4, [.ref e1, .ref e2, .int 0, .ref e3])), (pl, .inr (2, [.int 1, .int 0, .int 0, .int 0, .int 0, .ref pl5, .ref pl6, .ref pl7, .ref pl8, .ref pl9, .ref pl10, .ref pl11, .ref pl12, .ref pl13])), (e1, .inl (ca 1, 6, .inl (fun _ => 0))), (e2, .inl (ca 1, 6, .inl f2))] H := hP
  have hD : va_D A [(h0, .inr (4, [.ref e1, .ref e2, .int 0, .ref e3])), (pl, .inr (2, [.int 1, .int 0, .int 0, .int 0, .int 0, .ref pl5, .ref pl6, .ref pl7, .ref pl8, .ref pl9, .ref pl10, .ref pl11, .ref pl12, .ref pl13])), (e1, .inl (ca 1, 6, .inl (fun _ => 0))), (e2, .inl (ca 1, 6, .inl f2))] := hD
  refine lv_iinc (v := 4) (lv' := [(2, .int 4), (0, .ref h0), (1, .ref pl)]) hx hb dX4_find_20 hl (k := 0) rfl (by decide +kernel) (by decide +kernel) rfl (fun ls hl => ?_)
  refine lv_goto (tgt := 7) hx hb dX4_find_23 (by decide +kernel) ?_
  refine lv_iload_n hx hb dX4_find_7 rfl (lv_at hl 0 rfl) ?_
  refine lv_bipush (v := 6) hx hb dX4_find_8 (by decide +kernel) ?_
  refine lv_icmp_ge (tgt := 26) hx hb dX4_find_10 (by decide +kernel) (fun c_5 => absurd c_5 (by decide +kernel)) (fun c_5 => ?_)
  refine lv_aload_n hx hb dX4_find_13 rfl (lv_at hl 1 rfl) ?_
  refine va_get (D := D) (ci := 4) (v := .ref e1) (C := RX4) (T := TX4) (N := 4) hx hb hts iw_X4_find_4 hown hC.1 hP 0 rfl rfl 0 (by decide +kernel) (hts (.fieldLink RX4 9 "FairWheel$Risk" "behind" "[I") (by decide +kernel)) (fun _ h9 => h9) rfl dX4_find_14 ?_
  refine lv_iload_n hx hb dX4_find_17 rfl (lv_at hl 0 rfl) ?_
  refine lv_iconst (v := 0) hx hb dX4_find_18 (by decide +kernel) ?_
  refine ka_iast hx hb hC.1 hP hD hS 2 1 rfl rfl 4 rfl (by decide +kernel) (by decide +kernel) dX4_find_19 (fun H locs hP hD hS => ?_)
  rw [up_c0] at hP hD
  have hP : va_P D vwCl [(h0, .inr (4, [.ref e1, .ref e2, .int 0, .ref e3])), (pl, .inr (2, [.int 1, .int 0, .int 0, .int 0, .int 0, .ref pl5, .ref pl6, .ref pl7, .ref pl8, .ref pl9, .ref pl10, .ref pl11, .ref pl12, .ref pl13])), (e1, .inl (ca 1, 6, .inl (fun _ => 0))), (e2, .inl (ca 1, 6, .inl f2))] H := hP
  have hD : va_D A [(h0, .inr (4, [.ref e1, .ref e2, .int 0, .ref e3])), (pl, .inr (2, [.int 1, .int 0, .int 0, .int 0, .int 0, .ref pl5, .ref pl6, .ref pl7, .ref pl8, .ref pl9, .ref pl10, .ref pl11, .ref pl12, .ref pl13])), (e1, .inl (ca 1, 6, .inl (fun _ => 0))), (e2, .inl (ca 1, 6, .inl f2))] := hD
  refine lv_iinc (v := 5) (lv' := [(2, .int 5), (0, .ref h0), (1, .ref pl)]) hx hb dX4_find_20 hl (k := 0) rfl (by decide +kernel) (by decide +kernel) rfl (fun ls hl => ?_)
  refine lv_goto (tgt := 7) hx hb dX4_find_23 (by decide +kernel) ?_
  refine lv_iload_n hx hb dX4_find_7 rfl (lv_at hl 0 rfl) ?_
  refine lv_bipush (v := 6) hx hb dX4_find_8 (by decide +kernel) ?_
  refine lv_icmp_ge (tgt := 26) hx hb dX4_find_10 (by decide +kernel) (fun c_6 => absurd c_6 (by decide +kernel)) (fun c_6 => ?_)
  refine lv_aload_n hx hb dX4_find_13 rfl (lv_at hl 1 rfl) ?_
  refine va_get (D := D) (ci := 4) (v := .ref e1) (C := RX4) (T := TX4) (N := 4) hx hb hts iw_X4_find_4 hown hC.1 hP 0 rfl rfl 0 (by decide +kernel) (hts (.fieldLink RX4 9 "FairWheel$Risk" "behind" "[I") (by decide +kernel)) (fun _ h9 => h9) rfl dX4_find_14 ?_
  refine lv_iload_n hx hb dX4_find_17 rfl (lv_at hl 0 rfl) ?_
  refine lv_iconst (v := 0) hx hb dX4_find_18 (by decide +kernel) ?_
  refine ka_iast hx hb hC.1 hP hD hS 2 1 rfl rfl 5 rfl (by decide +kernel) (by decide +kernel) dX4_find_19 (fun H locs hP hD hS => ?_)
  rw [up_c0] at hP hD
  have hP : va_P D vwCl [(h0, .inr (4, [.ref e1, .ref e2, .int 0, .ref e3])), (pl, .inr (2, [.int 1, .int 0, .int 0, .int 0, .int 0, .ref pl5, .ref pl6, .ref pl7, .ref pl8, .ref pl9, .ref pl10, .ref pl11, .ref pl12, .ref pl13])), (e1, .inl (ca 1, 6, .inl (fun _ => 0))), (e2, .inl (ca 1, 6, .inl f2))] H := hP
  have hD : va_D A [(h0, .inr (4, [.ref e1, .ref e2, .int 0, .ref e3])), (pl, .inr (2, [.int 1, .int 0, .int 0, .int 0, .int 0, .ref pl5, .ref pl6, .ref pl7, .ref pl8, .ref pl9, .ref pl10, .ref pl11, .ref pl12, .ref pl13])), (e1, .inl (ca 1, 6, .inl (fun _ => 0))), (e2, .inl (ca 1, 6, .inl f2))] := hD
  refine lv_iinc (v := 6) (lv' := [(2, .int 6), (0, .ref h0), (1, .ref pl)]) hx hb dX4_find_20 hl (k := 0) rfl (by decide +kernel) (by decide +kernel) rfl (fun ls hl => ?_)
  refine lv_goto (tgt := 7) hx hb dX4_find_23 (by decide +kernel) ?_
  refine lv_iload_n hx hb dX4_find_7 rfl (lv_at hl 0 rfl) ?_
  refine lv_bipush (v := 6) hx hb dX4_find_8 (by decide +kernel) ?_
  refine lv_icmp_ge (tgt := 26) hx hb dX4_find_10 (by decide +kernel) (fun c_7 => ?_) (fun c_7 => absurd (by decide +kernel) c_7)
  refine lv_iconst (v := 0) hx hb dX4_find_26 (by decide +kernel) ?_
  refine lv_istore_n (lv' := [(2, .int 0), (0, .ref h0), (1, .ref pl)]) hx hb dX4_find_27 rfl hl (by decide +kernel) rfl (fun ls hl => ?_)
  refine lv_iload_n hx hb dX4_find_28 rfl (lv_at hl 0 rfl) ?_
  refine lv_aload_n hx hb dX4_find_29 rfl (lv_at hl 2 rfl) ?_
  refine va_get (D := D) (ci := 2) (v := .int 0) (C := RX2) (T := TX2) (N := 14) hx hb hts iw_X4_find_2 hown hC.1 hP 1 rfl rfl 3 (by decide +kernel) (hts (.fieldLink RX4 25 "FairWheel$Plan" "count" "I") (by decide +kernel)) (fun _ h9 => h9) rfl dX4_find_30 ?_
  refine lv_icmp_ge (tgt := 48) hx hb dX4_find_33 (by decide +kernel) (fun c_8 => ?_) (fun c_8 => absurd (by decide +kernel) c_8)
  refine lv_iconst (v := 0) hx hb dX4_find_48 (by decide +kernel) ?_
  refine lv_istore_n (lv' := [(2, .int 0), (0, .ref h0), (1, .ref pl)]) hx hb dX4_find_49 rfl hl (by decide +kernel) rfl (fun ls hl => ?_)
  refine lv_iload_n hx hb dX4_find_50 rfl (lv_at hl 0 rfl) ?_
  refine lv_bipush (v := 6) hx hb dX4_find_51 (by decide +kernel) ?_
  refine lv_icmp_ge (tgt := 79) hx hb dX4_find_53 (by decide +kernel) (fun c_9 => absurd c_9 (by decide +kernel)) (fun c_9 => ?_)
  refine lv_aload_n hx hb dX4_find_56 rfl (lv_at hl 1 rfl) ?_
  refine va_get (D := D) (ci := 4) (v := .int 0) (C := RX4) (T := TX4) (N := 4) hx hb hts iw_X4_find_4 hown hC.1 hP 0 rfl rfl 2 (by decide +kernel) (hts (.fieldLink RX4 18 "FairWheel$Risk" "size" "I") (by decide +kernel)) (fun _ h9 => h9) rfl dX4_find_57 ?_
  refine lv_if_ne (tgt := 79) hx hb dX4_find_60 (by decide +kernel) (fun c_10 => absurd (by decide +kernel) c_10) (fun c_10 => ?_)
  refine lv_aload_n hx hb dX4_find_63 rfl (lv_at hl 1 rfl) ?_
  refine lv_iload_n hx hb dX4_find_64 rfl (lv_at hl 0 rfl) ?_
  refine kc_v (wr := [(pl, .inr (2, [.int 1, .int 0, .int 0, .int 0, .int 0, .ref pl5, .ref pl6, .ref pl7, .ref pl8, .ref pl9, .ref pl10, .ref pl11, .ref pl12, .ref pl13]))]) (va_runV (As := [.int 0]) (rest := []) ⟨hx, hb, hml, hown, hts⟩ (k_X4_measure l D ca H.size h0 e1 e2 e3 0 f2) (cwV 1 hts gX4_find_X4_measure rfl rfl rfl (by decide +kernel) ⟨(Nat.le_of_ble_eq_true rfl), (Nat.le_of_ble_eq_true rfl)⟩) (PC.preV (ci := 4) hC hP hD [0, 2, 3] rfl (by decide +kernel) rfl rfl) rfl rfl hl.1 rfl (lv_room (Nat.le_of_ble_eq_true rfl)) dX4_find_65 ⟨(Nat.le_of_ble_eq_true rfl), (Nat.le_of_ble_eq_true rfl)⟩) hP hD hS hA [0, 2, 3] [1] rfl rfl (by decide +kernel) (by decide +kernel) (fun u_12 H locs hw_11 hP hD hS => ?_)
  obtain ⟨f_13, rfl⟩ : ∃ z, z = u_12 := ⟨_, rfl⟩
  have hP : va_P D vwCl [(pl, .inr (2, [.int 1, .int 0, .int 0, .int 0, .int 0, .ref pl5, .ref pl6, .ref pl7, .ref pl8, .ref pl9, .ref pl10, .ref pl11, .ref pl12, .ref pl13])), (h0, .inr (4, [.ref e1, .ref e2, .int 0, .ref e3])), (e1, .inl (ca 1, 6, .inl (fun _ => 0))), (e2, .inl (ca 1, 6, .inl f_13))] H := hP
  have hD : va_D A [(pl, .inr (2, [.int 1, .int 0, .int 0, .int 0, .int 0, .ref pl5, .ref pl6, .ref pl7, .ref pl8, .ref pl9, .ref pl10, .ref pl11, .ref pl12, .ref pl13])), (h0, .inr (4, [.ref e1, .ref e2, .int 0, .ref e3])), (e1, .inl (ca 1, 6, .inl (fun _ => 0))), (e2, .inl (ca 1, 6, .inl f_13))] := hD
  refine lv_aload_n hx hb dX4_find_68 rfl (lv_at hl 1 rfl) ?_
  refine lv_iload_n hx hb dX4_find_69 rfl (lv_at hl 0 rfl) ?_
  refine kc_v (wr := [(pl, .inr (2, [.int 1, .int 0, .int 0, .int 0, .int 0, .ref pl5, .ref pl6, .ref pl7, .ref pl8, .ref pl9, .ref pl10, .ref pl11, .ref pl12, .ref pl13])), (e2, .inl (ca 1, 6, .inl f_13))]) (va_runV (As := [.int 0]) (rest := []) ⟨hx, hb, hml, hown, hts⟩ (k_X4_goRound l D ca H.size h0 e1 e2 e3 0 (by omega)) (cwV 1 hts gX4_find_X4_goRound rfl rfl rfl (by decide +kernel) ⟨(Nat.le_of_ble_eq_true rfl), (Nat.le_of_ble_eq_true rfl)⟩) (PC.preV (ci := 4) hC hP hD [1, 2] rfl (by decide +kernel) rfl rfl) rfl rfl hl.1 rfl (lv_room (Nat.le_of_ble_eq_true rfl)) dX4_find_70 ⟨(Nat.le_of_ble_eq_true rfl), (Nat.le_of_ble_eq_true rfl)⟩) hP hD hS hA [1, 2] [0, 3] rfl rfl (by decide +kernel) (by decide +kernel) (fun u_15 H locs hw_14 hP hD hS => ?_)
  have hP : va_P D vwCl [(pl, .inr (2, [.int 1, .int 0, .int 0, .int 0, .int 0, .ref pl5, .ref pl6, .ref pl7, .ref pl8, .ref pl9, .ref pl10, .ref pl11, .ref pl12, .ref pl13])), (e2, .inl (ca 1, 6, .inl f_13)), (h0, .inr (4, [.ref e1, .ref e2, .int 0, .ref e3])), (e1, .inl (ca 1, 6, .inl (fun _ => 0)))] H := hP
  have hD : va_D A [(pl, .inr (2, [.int 1, .int 0, .int 0, .int 0, .int 0, .ref pl5, .ref pl6, .ref pl7, .ref pl8, .ref pl9, .ref pl10, .ref pl11, .ref pl12, .ref pl13])), (e2, .inl (ca 1, 6, .inl f_13)), (h0, .inr (4, [.ref e1, .ref e2, .int 0, .ref e3])), (e1, .inl (ca 1, 6, .inl (fun _ => 0)))] := hD
  refine lv_iinc (v := 1) (lv' := [(2, .int 1), (0, .ref h0), (1, .ref pl)]) hx hb dX4_find_73 hl (k := 0) rfl (by decide +kernel) (by decide +kernel) rfl (fun ls hl => ?_)
  refine lv_goto (tgt := 50) hx hb dX4_find_76 (by decide +kernel) ?_
  refine lv_iload_n hx hb dX4_find_50 rfl (lv_at hl 0 rfl) ?_
  refine lv_bipush (v := 6) hx hb dX4_find_51 (by decide +kernel) ?_
  refine lv_icmp_ge (tgt := 79) hx hb dX4_find_53 (by decide +kernel) (fun c_16 => absurd c_16 (by decide +kernel)) (fun c_16 => ?_)
  refine lv_aload_n hx hb dX4_find_56 rfl (lv_at hl 1 rfl) ?_
  refine va_get (D := D) (ci := 4) (v := .int 0) (C := RX4) (T := TX4) (N := 4) hx hb hts iw_X4_find_4 hown hC.1 hP 2 rfl rfl 2 (by decide +kernel) (hts (.fieldLink RX4 18 "FairWheel$Risk" "size" "I") (by decide +kernel)) (fun _ h9 => h9) rfl dX4_find_57 ?_
  refine lv_if_ne (tgt := 79) hx hb dX4_find_60 (by decide +kernel) (fun c_17 => absurd (by decide +kernel) c_17) (fun c_17 => ?_)
  refine lv_aload_n hx hb dX4_find_63 rfl (lv_at hl 1 rfl) ?_
  refine lv_iload_n hx hb dX4_find_64 rfl (lv_at hl 0 rfl) ?_
  refine kc_v (wr := [(pl, .inr (2, [.int 1, .int 0, .int 0, .int 0, .int 0, .ref pl5, .ref pl6, .ref pl7, .ref pl8, .ref pl9, .ref pl10, .ref pl11, .ref pl12, .ref pl13]))]) (va_runV (As := [.int 1]) (rest := []) ⟨hx, hb, hml, hown, hts⟩ (k_X4_measure l D ca H.size h0 e1 e2 e3 1 f_13) (cwV 1 hts gX4_find_X4_measure rfl rfl rfl (by decide +kernel) ⟨(Nat.le_of_ble_eq_true rfl), (Nat.le_of_ble_eq_true rfl)⟩) (PC.preV (ci := 4) hC hP hD [2, 3, 1] rfl (by decide +kernel) rfl rfl) rfl rfl hl.1 rfl (lv_room (Nat.le_of_ble_eq_true rfl)) dX4_find_65 ⟨(Nat.le_of_ble_eq_true rfl), (Nat.le_of_ble_eq_true rfl)⟩) hP hD hS hA [2, 3, 1] [0] rfl rfl (by decide +kernel) (by decide +kernel) (fun u_19 H locs hw_18 hP hD hS => ?_)
  obtain ⟨f_20, rfl⟩ : ∃ z, z = u_19 := ⟨_, rfl⟩
  have hP : va_P D vwCl [(pl, .inr (2, [.int 1, .int 0, .int 0, .int 0, .int 0, .ref pl5, .ref pl6, .ref pl7, .ref pl8, .ref pl9, .ref pl10, .ref pl11, .ref pl12, .ref pl13])), (h0, .inr (4, [.ref e1, .ref e2, .int 0, .ref e3])), (e1, .inl (ca 1, 6, .inl (fun _ => 0))), (e2, .inl (ca 1, 6, .inl f_20))] H := hP
  have hD : va_D A [(pl, .inr (2, [.int 1, .int 0, .int 0, .int 0, .int 0, .ref pl5, .ref pl6, .ref pl7, .ref pl8, .ref pl9, .ref pl10, .ref pl11, .ref pl12, .ref pl13])), (h0, .inr (4, [.ref e1, .ref e2, .int 0, .ref e3])), (e1, .inl (ca 1, 6, .inl (fun _ => 0))), (e2, .inl (ca 1, 6, .inl f_20))] := hD
  refine lv_aload_n hx hb dX4_find_68 rfl (lv_at hl 1 rfl) ?_
  refine lv_iload_n hx hb dX4_find_69 rfl (lv_at hl 0 rfl) ?_
  refine kc_v (wr := [(pl, .inr (2, [.int 1, .int 0, .int 0, .int 0, .int 0, .ref pl5, .ref pl6, .ref pl7, .ref pl8, .ref pl9, .ref pl10, .ref pl11, .ref pl12, .ref pl13])), (e2, .inl (ca 1, 6, .inl f_20))]) (va_runV (As := [.int 1]) (rest := []) ⟨hx, hb, hml, hown, hts⟩ (k_X4_goRound l D ca H.size h0 e1 e2 e3 1 (by omega)) (cwV 1 hts gX4_find_X4_goRound rfl rfl rfl (by decide +kernel) ⟨(Nat.le_of_ble_eq_true rfl), (Nat.le_of_ble_eq_true rfl)⟩) (PC.preV (ci := 4) hC hP hD [1, 2] rfl (by decide +kernel) rfl rfl) rfl rfl hl.1 rfl (lv_room (Nat.le_of_ble_eq_true rfl)) dX4_find_70 ⟨(Nat.le_of_ble_eq_true rfl), (Nat.le_of_ble_eq_true rfl)⟩) hP hD hS hA [1, 2] [0, 3] rfl rfl (by decide +kernel) (by decide +kernel) (fun u_22 H locs hw_21 hP hD hS => ?_)
  have hP : va_P D vwCl [(pl, .inr (2, [.int 1, .int 0, .int 0, .int 0, .int 0, .ref pl5, .ref pl6, .ref pl7, .ref pl8, .ref pl9, .ref pl10, .ref pl11, .ref pl12, .ref pl13])), (e2, .inl (ca 1, 6, .inl f_20)), (h0, .inr (4, [.ref e1, .ref e2, .int 0, .ref e3])), (e1, .inl (ca 1, 6, .inl (fun _ => 0)))] H := hP
  have hD : va_D A [(pl, .inr (2, [.int 1, .int 0, .int 0, .int 0, .int 0, .ref pl5, .ref pl6, .ref pl7, .ref pl8, .ref pl9, .ref pl10, .ref pl11, .ref pl12, .ref pl13])), (e2, .inl (ca 1, 6, .inl f_20)), (h0, .inr (4, [.ref e1, .ref e2, .int 0, .ref e3])), (e1, .inl (ca 1, 6, .inl (fun _ => 0)))] := hD
  refine lv_iinc (v := 2) (lv' := [(2, .int 2), (0, .ref h0), (1, .ref pl)]) hx hb dX4_find_73 hl (k := 0) rfl (by decide +kernel) (by decide +kernel) rfl (fun ls hl => ?_)
  refine lv_goto (tgt := 50) hx hb dX4_find_76 (by decide +kernel) ?_
  refine lv_iload_n hx hb dX4_find_50 rfl (lv_at hl 0 rfl) ?_
  refine lv_bipush (v := 6) hx hb dX4_find_51 (by decide +kernel) ?_
  refine lv_icmp_ge (tgt := 79) hx hb dX4_find_53 (by decide +kernel) (fun c_23 => absurd c_23 (by decide +kernel)) (fun c_23 => ?_)
  refine lv_aload_n hx hb dX4_find_56 rfl (lv_at hl 1 rfl) ?_
  refine va_get (D := D) (ci := 4) (v := .int 0) (C := RX4) (T := TX4) (N := 4) hx hb hts iw_X4_find_4 hown hC.1 hP 2 rfl rfl 2 (by decide +kernel) (hts (.fieldLink RX4 18 "FairWheel$Risk" "size" "I") (by decide +kernel)) (fun _ h9 => h9) rfl dX4_find_57 ?_
  refine lv_if_ne (tgt := 79) hx hb dX4_find_60 (by decide +kernel) (fun c_24 => absurd (by decide +kernel) c_24) (fun c_24 => ?_)
  refine lv_aload_n hx hb dX4_find_63 rfl (lv_at hl 1 rfl) ?_
  refine lv_iload_n hx hb dX4_find_64 rfl (lv_at hl 0 rfl) ?_
  refine kc_v (wr := [(pl, .inr (2, [.int 1, .int 0, .int 0, .int 0, .int 0, .ref pl5, .ref pl6, .ref pl7, .ref pl8, .ref pl9, .ref pl10, .ref pl11, .ref pl12, .ref pl13]))]) (va_runV (As := [.int 2]) (rest := []) ⟨hx, hb, hml, hown, hts⟩ (k_X4_measure l D ca H.size h0 e1 e2 e3 2 f_20) (cwV 1 hts gX4_find_X4_measure rfl rfl rfl (by decide +kernel) ⟨(Nat.le_of_ble_eq_true rfl), (Nat.le_of_ble_eq_true rfl)⟩) (PC.preV (ci := 4) hC hP hD [2, 3, 1] rfl (by decide +kernel) rfl rfl) rfl rfl hl.1 rfl (lv_room (Nat.le_of_ble_eq_true rfl)) dX4_find_65 ⟨(Nat.le_of_ble_eq_true rfl), (Nat.le_of_ble_eq_true rfl)⟩) hP hD hS hA [2, 3, 1] [0] rfl rfl (by decide +kernel) (by decide +kernel) (fun u_26 H locs hw_25 hP hD hS => ?_)
  obtain ⟨f_27, rfl⟩ : ∃ z, z = u_26 := ⟨_, rfl⟩
  have hP : va_P D vwCl [(pl, .inr (2, [.int 1, .int 0, .int 0, .int 0, .int 0, .ref pl5, .ref pl6, .ref pl7, .ref pl8, .ref pl9, .ref pl10, .ref pl11, .ref pl12, .ref pl13])), (h0, .inr (4, [.ref e1, .ref e2, .int 0, .ref e3])), (e1, .inl (ca 1, 6, .inl (fun _ => 0))), (e2, .inl (ca 1, 6, .inl f_27))] H := hP
  have hD : va_D A [(pl, .inr (2, [.int 1, .int 0, .int 0, .int 0, .int 0, .ref pl5, .ref pl6, .ref pl7, .ref pl8, .ref pl9, .ref pl10, .ref pl11, .ref pl12, .ref pl13])), (h0, .inr (4, [.ref e1, .ref e2, .int 0, .ref e3])), (e1, .inl (ca 1, 6, .inl (fun _ => 0))), (e2, .inl (ca 1, 6, .inl f_27))] := hD
  refine lv_aload_n hx hb dX4_find_68 rfl (lv_at hl 1 rfl) ?_
  refine lv_iload_n hx hb dX4_find_69 rfl (lv_at hl 0 rfl) ?_
  refine kc_v (wr := [(pl, .inr (2, [.int 1, .int 0, .int 0, .int 0, .int 0, .ref pl5, .ref pl6, .ref pl7, .ref pl8, .ref pl9, .ref pl10, .ref pl11, .ref pl12, .ref pl13])), (e2, .inl (ca 1, 6, .inl f_27))]) (va_runV (As := [.int 2]) (rest := []) ⟨hx, hb, hml, hown, hts⟩ (k_X4_goRound l D ca H.size h0 e1 e2 e3 2 (by omega)) (cwV 1 hts gX4_find_X4_goRound rfl rfl rfl (by decide +kernel) ⟨(Nat.le_of_ble_eq_true rfl), (Nat.le_of_ble_eq_true rfl)⟩) (PC.preV (ci := 4) hC hP hD [1, 2] rfl (by decide +kernel) rfl rfl) rfl rfl hl.1 rfl (lv_room (Nat.le_of_ble_eq_true rfl)) dX4_find_70 ⟨(Nat.le_of_ble_eq_true rfl), (Nat.le_of_ble_eq_true rfl)⟩) hP hD hS hA [1, 2] [0, 3] rfl rfl (by decide +kernel) (by decide +kernel) (fun u_29 H locs hw_28 hP hD hS => ?_)
  have hP : va_P D vwCl [(pl, .inr (2, [.int 1, .int 0, .int 0, .int 0, .int 0, .ref pl5, .ref pl6, .ref pl7, .ref pl8, .ref pl9, .ref pl10, .ref pl11, .ref pl12, .ref pl13])), (e2, .inl (ca 1, 6, .inl f_27)), (h0, .inr (4, [.ref e1, .ref e2, .int 0, .ref e3])), (e1, .inl (ca 1, 6, .inl (fun _ => 0)))] H := hP
  have hD : va_D A [(pl, .inr (2, [.int 1, .int 0, .int 0, .int 0, .int 0, .ref pl5, .ref pl6, .ref pl7, .ref pl8, .ref pl9, .ref pl10, .ref pl11, .ref pl12, .ref pl13])), (e2, .inl (ca 1, 6, .inl f_27)), (h0, .inr (4, [.ref e1, .ref e2, .int 0, .ref e3])), (e1, .inl (ca 1, 6, .inl (fun _ => 0)))] := hD
  refine lv_iinc (v := 3) (lv' := [(2, .int 3), (0, .ref h0), (1, .ref pl)]) hx hb dX4_find_73 hl (k := 0) rfl (by decide +kernel) (by decide +kernel) rfl (fun ls hl => ?_)
  refine lv_goto (tgt := 50) hx hb dX4_find_76 (by decide +kernel) ?_
  refine lv_iload_n hx hb dX4_find_50 rfl (lv_at hl 0 rfl) ?_
  refine lv_bipush (v := 6) hx hb dX4_find_51 (by decide +kernel) ?_
  refine lv_icmp_ge (tgt := 79) hx hb dX4_find_53 (by decide +kernel) (fun c_30 => absurd c_30 (by decide +kernel)) (fun c_30 => ?_)
  refine lv_aload_n hx hb dX4_find_56 rfl (lv_at hl 1 rfl) ?_
  refine va_get (D := D) (ci := 4) (v := .int 0) (C := RX4) (T := TX4) (N := 4) hx hb hts iw_X4_find_4 hown hC.1 hP 2 rfl rfl 2 (by decide +kernel) (hts (.fieldLink RX4 18 "FairWheel$Risk" "size" "I") (by decide +kernel)) (fun _ h9 => h9) rfl dX4_find_57 ?_
  refine lv_if_ne (tgt := 79) hx hb dX4_find_60 (by decide +kernel) (fun c_31 => absurd (by decide +kernel) c_31) (fun c_31 => ?_)
  refine lv_aload_n hx hb dX4_find_63 rfl (lv_at hl 1 rfl) ?_
  refine lv_iload_n hx hb dX4_find_64 rfl (lv_at hl 0 rfl) ?_
  refine kc_v (wr := [(pl, .inr (2, [.int 1, .int 0, .int 0, .int 0, .int 0, .ref pl5, .ref pl6, .ref pl7, .ref pl8, .ref pl9, .ref pl10, .ref pl11, .ref pl12, .ref pl13]))]) (va_runV (As := [.int 3]) (rest := []) ⟨hx, hb, hml, hown, hts⟩ (k_X4_measure l D ca H.size h0 e1 e2 e3 3 f_27) (cwV 1 hts gX4_find_X4_measure rfl rfl rfl (by decide +kernel) ⟨(Nat.le_of_ble_eq_true rfl), (Nat.le_of_ble_eq_true rfl)⟩) (PC.preV (ci := 4) hC hP hD [2, 3, 1] rfl (by decide +kernel) rfl rfl) rfl rfl hl.1 rfl (lv_room (Nat.le_of_ble_eq_true rfl)) dX4_find_65 ⟨(Nat.le_of_ble_eq_true rfl), (Nat.le_of_ble_eq_true rfl)⟩) hP hD hS hA [2, 3, 1] [0] rfl rfl (by decide +kernel) (by decide +kernel) (fun u_33 H locs hw_32 hP hD hS => ?_)
  obtain ⟨f_34, rfl⟩ : ∃ z, z = u_33 := ⟨_, rfl⟩
  have hP : va_P D vwCl [(pl, .inr (2, [.int 1, .int 0, .int 0, .int 0, .int 0, .ref pl5, .ref pl6, .ref pl7, .ref pl8, .ref pl9, .ref pl10, .ref pl11, .ref pl12, .ref pl13])), (h0, .inr (4, [.ref e1, .ref e2, .int 0, .ref e3])), (e1, .inl (ca 1, 6, .inl (fun _ => 0))), (e2, .inl (ca 1, 6, .inl f_34))] H := hP
  have hD : va_D A [(pl, .inr (2, [.int 1, .int 0, .int 0, .int 0, .int 0, .ref pl5, .ref pl6, .ref pl7, .ref pl8, .ref pl9, .ref pl10, .ref pl11, .ref pl12, .ref pl13])), (h0, .inr (4, [.ref e1, .ref e2, .int 0, .ref e3])), (e1, .inl (ca 1, 6, .inl (fun _ => 0))), (e2, .inl (ca 1, 6, .inl f_34))] := hD
  refine lv_aload_n hx hb dX4_find_68 rfl (lv_at hl 1 rfl) ?_
  refine lv_iload_n hx hb dX4_find_69 rfl (lv_at hl 0 rfl) ?_
  refine kc_v (wr := [(pl, .inr (2, [.int 1, .int 0, .int 0, .int 0, .int 0, .ref pl5, .ref pl6, .ref pl7, .ref pl8, .ref pl9, .ref pl10, .ref pl11, .ref pl12, .ref pl13])), (e2, .inl (ca 1, 6, .inl f_34))]) (va_runV (As := [.int 3]) (rest := []) ⟨hx, hb, hml, hown, hts⟩ (k_X4_goRound l D ca H.size h0 e1 e2 e3 3 (by omega)) (cwV 1 hts gX4_find_X4_goRound rfl rfl rfl (by decide +kernel) ⟨(Nat.le_of_ble_eq_true rfl), (Nat.le_of_ble_eq_true rfl)⟩) (PC.preV (ci := 4) hC hP hD [1, 2] rfl (by decide +kernel) rfl rfl) rfl rfl hl.1 rfl (lv_room (Nat.le_of_ble_eq_true rfl)) dX4_find_70 ⟨(Nat.le_of_ble_eq_true rfl), (Nat.le_of_ble_eq_true rfl)⟩) hP hD hS hA [1, 2] [0, 3] rfl rfl (by decide +kernel) (by decide +kernel) (fun u_36 H locs hw_35 hP hD hS => ?_)
  have hP : va_P D vwCl [(pl, .inr (2, [.int 1, .int 0, .int 0, .int 0, .int 0, .ref pl5, .ref pl6, .ref pl7, .ref pl8, .ref pl9, .ref pl10, .ref pl11, .ref pl12, .ref pl13])), (e2, .inl (ca 1, 6, .inl f_34)), (h0, .inr (4, [.ref e1, .ref e2, .int 0, .ref e3])), (e1, .inl (ca 1, 6, .inl (fun _ => 0)))] H := hP
  have hD : va_D A [(pl, .inr (2, [.int 1, .int 0, .int 0, .int 0, .int 0, .ref pl5, .ref pl6, .ref pl7, .ref pl8, .ref pl9, .ref pl10, .ref pl11, .ref pl12, .ref pl13])), (e2, .inl (ca 1, 6, .inl f_34)), (h0, .inr (4, [.ref e1, .ref e2, .int 0, .ref e3])), (e1, .inl (ca 1, 6, .inl (fun _ => 0)))] := hD
  refine lv_iinc (v := 4) (lv' := [(2, .int 4), (0, .ref h0), (1, .ref pl)]) hx hb dX4_find_73 hl (k := 0) rfl (by decide +kernel) (by decide +kernel) rfl (fun ls hl => ?_)
  refine lv_goto (tgt := 50) hx hb dX4_find_76 (by decide +kernel) ?_
  refine lv_iload_n hx hb dX4_find_50 rfl (lv_at hl 0 rfl) ?_
  refine lv_bipush (v := 6) hx hb dX4_find_51 (by decide +kernel) ?_
  refine lv_icmp_ge (tgt := 79) hx hb dX4_find_53 (by decide +kernel) (fun c_37 => absurd c_37 (by decide +kernel)) (fun c_37 => ?_)
  refine lv_aload_n hx hb dX4_find_56 rfl (lv_at hl 1 rfl) ?_
  refine va_get (D := D) (ci := 4) (v := .int 0) (C := RX4) (T := TX4) (N := 4) hx hb hts iw_X4_find_4 hown hC.1 hP 2 rfl rfl 2 (by decide +kernel) (hts (.fieldLink RX4 18 "FairWheel$Risk" "size" "I") (by decide +kernel)) (fun _ h9 => h9) rfl dX4_find_57 ?_
  refine lv_if_ne (tgt := 79) hx hb dX4_find_60 (by decide +kernel) (fun c_38 => absurd (by decide +kernel) c_38) (fun c_38 => ?_)
  refine lv_aload_n hx hb dX4_find_63 rfl (lv_at hl 1 rfl) ?_
  refine lv_iload_n hx hb dX4_find_64 rfl (lv_at hl 0 rfl) ?_
  refine kc_v (wr := [(pl, .inr (2, [.int 1, .int 0, .int 0, .int 0, .int 0, .ref pl5, .ref pl6, .ref pl7, .ref pl8, .ref pl9, .ref pl10, .ref pl11, .ref pl12, .ref pl13]))]) (va_runV (As := [.int 4]) (rest := []) ⟨hx, hb, hml, hown, hts⟩ (k_X4_measure l D ca H.size h0 e1 e2 e3 4 f_34) (cwV 1 hts gX4_find_X4_measure rfl rfl rfl (by decide +kernel) ⟨(Nat.le_of_ble_eq_true rfl), (Nat.le_of_ble_eq_true rfl)⟩) (PC.preV (ci := 4) hC hP hD [2, 3, 1] rfl (by decide +kernel) rfl rfl) rfl rfl hl.1 rfl (lv_room (Nat.le_of_ble_eq_true rfl)) dX4_find_65 ⟨(Nat.le_of_ble_eq_true rfl), (Nat.le_of_ble_eq_true rfl)⟩) hP hD hS hA [2, 3, 1] [0] rfl rfl (by decide +kernel) (by decide +kernel) (fun u_40 H locs hw_39 hP hD hS => ?_)
  obtain ⟨f_41, rfl⟩ : ∃ z, z = u_40 := ⟨_, rfl⟩
  have hP : va_P D vwCl [(pl, .inr (2, [.int 1, .int 0, .int 0, .int 0, .int 0, .ref pl5, .ref pl6, .ref pl7, .ref pl8, .ref pl9, .ref pl10, .ref pl11, .ref pl12, .ref pl13])), (h0, .inr (4, [.ref e1, .ref e2, .int 0, .ref e3])), (e1, .inl (ca 1, 6, .inl (fun _ => 0))), (e2, .inl (ca 1, 6, .inl f_41))] H := hP
  have hD : va_D A [(pl, .inr (2, [.int 1, .int 0, .int 0, .int 0, .int 0, .ref pl5, .ref pl6, .ref pl7, .ref pl8, .ref pl9, .ref pl10, .ref pl11, .ref pl12, .ref pl13])), (h0, .inr (4, [.ref e1, .ref e2, .int 0, .ref e3])), (e1, .inl (ca 1, 6, .inl (fun _ => 0))), (e2, .inl (ca 1, 6, .inl f_41))] := hD
  refine lv_aload_n hx hb dX4_find_68 rfl (lv_at hl 1 rfl) ?_
  refine lv_iload_n hx hb dX4_find_69 rfl (lv_at hl 0 rfl) ?_
  refine kc_v (wr := [(pl, .inr (2, [.int 1, .int 0, .int 0, .int 0, .int 0, .ref pl5, .ref pl6, .ref pl7, .ref pl8, .ref pl9, .ref pl10, .ref pl11, .ref pl12, .ref pl13])), (e2, .inl (ca 1, 6, .inl f_41))]) (va_runV (As := [.int 4]) (rest := []) ⟨hx, hb, hml, hown, hts⟩ (k_X4_goRound l D ca H.size h0 e1 e2 e3 4 (by omega)) (cwV 1 hts gX4_find_X4_goRound rfl rfl rfl (by decide +kernel) ⟨(Nat.le_of_ble_eq_true rfl), (Nat.le_of_ble_eq_true rfl)⟩) (PC.preV (ci := 4) hC hP hD [1, 2] rfl (by decide +kernel) rfl rfl) rfl rfl hl.1 rfl (lv_room (Nat.le_of_ble_eq_true rfl)) dX4_find_70 ⟨(Nat.le_of_ble_eq_true rfl), (Nat.le_of_ble_eq_true rfl)⟩) hP hD hS hA [1, 2] [0, 3] rfl rfl (by decide +kernel) (by decide +kernel) (fun u_43 H locs hw_42 hP hD hS => ?_)
  have hP : va_P D vwCl [(pl, .inr (2, [.int 1, .int 0, .int 0, .int 0, .int 0, .ref pl5, .ref pl6, .ref pl7, .ref pl8, .ref pl9, .ref pl10, .ref pl11, .ref pl12, .ref pl13])), (e2, .inl (ca 1, 6, .inl f_41)), (h0, .inr (4, [.ref e1, .ref e2, .int 0, .ref e3])), (e1, .inl (ca 1, 6, .inl (fun _ => 0)))] H := hP
  have hD : va_D A [(pl, .inr (2, [.int 1, .int 0, .int 0, .int 0, .int 0, .ref pl5, .ref pl6, .ref pl7, .ref pl8, .ref pl9, .ref pl10, .ref pl11, .ref pl12, .ref pl13])), (e2, .inl (ca 1, 6, .inl f_41)), (h0, .inr (4, [.ref e1, .ref e2, .int 0, .ref e3])), (e1, .inl (ca 1, 6, .inl (fun _ => 0)))] := hD
  refine lv_iinc (v := 5) (lv' := [(2, .int 5), (0, .ref h0), (1, .ref pl)]) hx hb dX4_find_73 hl (k := 0) rfl (by decide +kernel) (by decide +kernel) rfl (fun ls hl => ?_)
  refine lv_goto (tgt := 50) hx hb dX4_find_76 (by decide +kernel) ?_
  refine lv_iload_n hx hb dX4_find_50 rfl (lv_at hl 0 rfl) ?_
  refine lv_bipush (v := 6) hx hb dX4_find_51 (by decide +kernel) ?_
  refine lv_icmp_ge (tgt := 79) hx hb dX4_find_53 (by decide +kernel) (fun c_44 => absurd c_44 (by decide +kernel)) (fun c_44 => ?_)
  refine lv_aload_n hx hb dX4_find_56 rfl (lv_at hl 1 rfl) ?_
  refine va_get (D := D) (ci := 4) (v := .int 0) (C := RX4) (T := TX4) (N := 4) hx hb hts iw_X4_find_4 hown hC.1 hP 2 rfl rfl 2 (by decide +kernel) (hts (.fieldLink RX4 18 "FairWheel$Risk" "size" "I") (by decide +kernel)) (fun _ h9 => h9) rfl dX4_find_57 ?_
  refine lv_if_ne (tgt := 79) hx hb dX4_find_60 (by decide +kernel) (fun c_45 => absurd (by decide +kernel) c_45) (fun c_45 => ?_)
  refine lv_aload_n hx hb dX4_find_63 rfl (lv_at hl 1 rfl) ?_
  refine lv_iload_n hx hb dX4_find_64 rfl (lv_at hl 0 rfl) ?_
  refine kc_v (wr := [(pl, .inr (2, [.int 1, .int 0, .int 0, .int 0, .int 0, .ref pl5, .ref pl6, .ref pl7, .ref pl8, .ref pl9, .ref pl10, .ref pl11, .ref pl12, .ref pl13]))]) (va_runV (As := [.int 5]) (rest := []) ⟨hx, hb, hml, hown, hts⟩ (k_X4_measure l D ca H.size h0 e1 e2 e3 5 f_41) (cwV 1 hts gX4_find_X4_measure rfl rfl rfl (by decide +kernel) ⟨(Nat.le_of_ble_eq_true rfl), (Nat.le_of_ble_eq_true rfl)⟩) (PC.preV (ci := 4) hC hP hD [2, 3, 1] rfl (by decide +kernel) rfl rfl) rfl rfl hl.1 rfl (lv_room (Nat.le_of_ble_eq_true rfl)) dX4_find_65 ⟨(Nat.le_of_ble_eq_true rfl), (Nat.le_of_ble_eq_true rfl)⟩) hP hD hS hA [2, 3, 1] [0] rfl rfl (by decide +kernel) (by decide +kernel) (fun u_47 H locs hw_46 hP hD hS => ?_)
  obtain ⟨f_48, rfl⟩ : ∃ z, z = u_47 := ⟨_, rfl⟩
  have hP : va_P D vwCl [(pl, .inr (2, [.int 1, .int 0, .int 0, .int 0, .int 0, .ref pl5, .ref pl6, .ref pl7, .ref pl8, .ref pl9, .ref pl10, .ref pl11, .ref pl12, .ref pl13])), (h0, .inr (4, [.ref e1, .ref e2, .int 0, .ref e3])), (e1, .inl (ca 1, 6, .inl (fun _ => 0))), (e2, .inl (ca 1, 6, .inl f_48))] H := hP
  have hD : va_D A [(pl, .inr (2, [.int 1, .int 0, .int 0, .int 0, .int 0, .ref pl5, .ref pl6, .ref pl7, .ref pl8, .ref pl9, .ref pl10, .ref pl11, .ref pl12, .ref pl13])), (h0, .inr (4, [.ref e1, .ref e2, .int 0, .ref e3])), (e1, .inl (ca 1, 6, .inl (fun _ => 0))), (e2, .inl (ca 1, 6, .inl f_48))] := hD
  refine lv_aload_n hx hb dX4_find_68 rfl (lv_at hl 1 rfl) ?_
  refine lv_iload_n hx hb dX4_find_69 rfl (lv_at hl 0 rfl) ?_
  refine kc_v (wr := [(pl, .inr (2, [.int 1, .int 0, .int 0, .int 0, .int 0, .ref pl5, .ref pl6, .ref pl7, .ref pl8, .ref pl9, .ref pl10, .ref pl11, .ref pl12, .ref pl13])), (e2, .inl (ca 1, 6, .inl f_48))]) (va_runV (As := [.int 5]) (rest := []) ⟨hx, hb, hml, hown, hts⟩ (k_X4_goRound l D ca H.size h0 e1 e2 e3 5 (by omega)) (cwV 1 hts gX4_find_X4_goRound rfl rfl rfl (by decide +kernel) ⟨(Nat.le_of_ble_eq_true rfl), (Nat.le_of_ble_eq_true rfl)⟩) (PC.preV (ci := 4) hC hP hD [1, 2] rfl (by decide +kernel) rfl rfl) rfl rfl hl.1 rfl (lv_room (Nat.le_of_ble_eq_true rfl)) dX4_find_70 ⟨(Nat.le_of_ble_eq_true rfl), (Nat.le_of_ble_eq_true rfl)⟩) hP hD hS hA [1, 2] [0, 3] rfl rfl (by decide +kernel) (by decide +kernel) (fun u_50 H locs hw_49 hP hD hS => ?_)
  have hP : va_P D vwCl [(pl, .inr (2, [.int 1, .int 0, .int 0, .int 0, .int 0, .ref pl5, .ref pl6, .ref pl7, .ref pl8, .ref pl9, .ref pl10, .ref pl11, .ref pl12, .ref pl13])), (e2, .inl (ca 1, 6, .inl f_48)), (h0, .inr (4, [.ref e1, .ref e2, .int 0, .ref e3])), (e1, .inl (ca 1, 6, .inl (fun _ => 0)))] H := hP
  have hD : va_D A [(pl, .inr (2, [.int 1, .int 0, .int 0, .int 0, .int 0, .ref pl5, .ref pl6, .ref pl7, .ref pl8, .ref pl9, .ref pl10, .ref pl11, .ref pl12, .ref pl13])), (e2, .inl (ca 1, 6, .inl f_48)), (h0, .inr (4, [.ref e1, .ref e2, .int 0, .ref e3])), (e1, .inl (ca 1, 6, .inl (fun _ => 0)))] := hD
  refine lv_iinc (v := 6) (lv' := [(2, .int 6), (0, .ref h0), (1, .ref pl)]) hx hb dX4_find_73 hl (k := 0) rfl (by decide +kernel) (by decide +kernel) rfl (fun ls hl => ?_)
  refine lv_goto (tgt := 50) hx hb dX4_find_76 (by decide +kernel) ?_
  refine lv_iload_n hx hb dX4_find_50 rfl (lv_at hl 0 rfl) ?_
  refine lv_bipush (v := 6) hx hb dX4_find_51 (by decide +kernel) ?_
  refine lv_icmp_ge (tgt := 79) hx hb dX4_find_53 (by decide +kernel) (fun c_51 => ?_) (fun c_51 => absurd (by decide +kernel) c_51)
  exact W.vret hx hb hr (fun t ht hW => ⟨⟨f_48, rfl, trivial, by rw [ht]; exact hP.sub [0, 1, 2, 3] rfl, hDA (hD.sub [0, 1, 2, 3] (by decide +kernel) rfl)⟩, hS.F ht⟩) hS.2.2 dX4_find_79
theorem iw_X10_risk_4 : ∀ w ∈ u_ws RX4 TX4 4, w ∈ wsX10_risk := by decide +kernel
theorem iw_X10_risk_10 : ∀ w ∈ u_ws RX10 TX10 12, w ∈ wsX10_risk := by decide +kernel
def sp_k_X10_risk (x1 : Int32) : Int32 := (if 0 ≤ x1 then (if x1 = 0 then 0 else (-1)) else (-2))
set_option maxHeartbeats 4000000 in
set_option maxRecDepth 100000 in
theorem k_X10_risk (l : Launch) (D : va_G) (ca : Nat → ClassId) (sz : Nat) (h0 : Nat) (tp : Nat) (rd : Nat) (lv : Nat) (tr : Nat) (rw : Nat) (bx : Nat) (ch : Nat) (sg : Nat) (dg : Nat) (pl : Nat) (dr : Nat) (e1 : Nat) (e2 : Nat) (e3 : Nat) (pl5 : Nat) (pl6 : Nat) (pl7 : Nat) (pl8 : Nat) (pl9 : Nat) (pl10 : Nat) (pl11 : Nat) (pl12 : Nat) (pl13 : Nat) (f2 : Nat → Int32) (x1 : Int32) : Met l yX10_risk wsX10_risk ({ frames := 3, cells := 0, slots := 0, locals := 69 }) (PC [.ref h0, .int x1] sz D ca [(h0, .inr (10, [.ref tp, .ref rd, .ref lv, .ref tr, .ref rw, .ref bx, .ref ch, .ref sg, .ref dg, .ref pl, .ref dr, .int 0])), (dg, .inr (4, [.ref e1, .ref e2, .int 0, .ref e3])), (pl, .inr (2, [.int 1, .int 0, .int 0, .int 0, .int 0, .ref pl5, .ref pl6, .ref pl7, .ref pl8, .ref pl9, .ref pl10, .ref pl11, .ref pl12, .ref pl13])), (e1, .inl (ca 1, 6, .inl (fun _ => 0))), (e2, .inl (ca 1, 6, .inl f2))]) (QI (fun (r : Int32) (u : Unit) => r = sp_k_X10_risk x1) (fun (_ : Unit) => []) [(h0, .inr (10, [.ref tp, .ref rd, .ref lv, .ref tr, .ref rw, .ref bx, .ref ch, .ref sg, .ref dg, .ref pl, .ref dr, .int 0])), (dg, .inr (4, [.ref e1, .ref e2, .int 0, .ref e3])), (pl, .inr (2, [.int 1, .int 0, .int 0, .int 0, .int 0, .ref pl5, .ref pl6, .ref pl7, .ref pl8, .ref pl9, .ref pl10, .ref pl11, .ref pl12, .ref pl13])), (e1, .inl (ca 1, 6, .inl (fun _ => 0))), (e2, .inl (ca 1, 6, .inl f2))] sz D) 0 0 (va_A [(h0, .inr (10, [.ref tp, .ref rd, .ref lv, .ref tr, .ref rw, .ref bx, .ref ch, .ref sg, .ref dg, .ref pl, .ref dr, .int 0])), (dg, .inr (4, [.ref e1, .ref e2, .int 0, .ref e3])), (pl, .inr (2, [.int 1, .int 0, .int 0, .int 0, .int 0, .ref pl5, .ref pl6, .ref pl7, .ref pl8, .ref pl9, .ref pl10, .ref pl11, .ref pl12, .ref pl13])), (e1, .inl (ca 1, 6, .inl (fun _ => 0))), (e2, .inl (ca 1, 6, .inl f2))] sz) := by
  refine Met.ofW (cc := cX10_risk) (maxL := 2) (ret := (some .int)) (by decide +kernel) rfl ?_
  intro p e s m args below meth c s₁ B hml hv
  obtain ⟨rfl, hsz, hP, hC, hD0⟩ := hv
  have hx := B.exec
  have hb := B.bytes
  have hr := B.returns
  have hts := atoms_spec (ws := wsX10_risk) B.pre
  have hown : s.vm.findClass RX10 = some m.cls := findClass_of_methodNamed B.named
  have hlocks := B.notSynchronized
  subst hsz
  have hD := hD0.self (sz := s.heap.size)
  dsimp only [QV, QI, QL, BQ]
  generalize hAe : va_A [(h0, .inr (10, [.ref tp, .ref rd, .ref lv, .ref tr, .ref rw, .ref bx, .ref ch, .ref sg, .ref dg, .ref pl, .ref dr, .int 0])), (dg, .inr (4, [.ref e1, .ref e2, .int 0, .ref e3])), (pl, .inr (2, [.int 1, .int 0, .int 0, .int 0, .int 0, .ref pl5, .ref pl6, .ref pl7, .ref pl8, .ref pl9, .ref pl10, .ref pl11, .ref pl12, .ref pl13])), (e1, .inl (ca 1, 6, .inl (fun _ => 0))), (e2, .inl (ca 1, 6, .inl f2))] s.heap.size = A at hD ⊢
  have hA : ∀ q : Nat, s.heap.size ≤ q → A q := fun q h => by rw [← hAe]; exact Or.inr h
  have hDA : ∀ {w : va_W}, va_D A w → va_D (va_A [(h0, .inr (10, [.ref tp, .ref rd, .ref lv, .ref tr, .ref rw, .ref bx, .ref ch, .ref sg, .ref dg, .ref pl, .ref dr, .int 0])), (dg, .inr (4, [.ref e1, .ref e2, .int 0, .ref e3])), (pl, .inr (2, [.int 1, .int 0, .int 0, .int 0, .int 0, .ref pl5, .ref pl6, .ref pl7, .ref pl8, .ref pl9, .ref pl10, .ref pl11, .ref pl12, .ref pl13])), (e1, .inl (ca 1, 6, .inl (fun _ => 0))), (e2, .inl (ca 1, 6, .inl f2))] s.heap.size) w := fun h => by rw [hAe]; exact h
  have hS : va_S A s.heap s.heap [] := va_S.rf
  have hP : va_P D vwCl [(h0, .inr (10, [.ref tp, .ref rd, .ref lv, .ref tr, .ref rw, .ref bx, .ref ch, .ref sg, .ref dg, .ref pl, .ref dr, .int 0])), (dg, .inr (4, [.ref e1, .ref e2, .int 0, .ref e3])), (pl, .inr (2, [.int 1, .int 0, .int 0, .int 0, .int 0, .ref pl5, .ref pl6, .ref pl7, .ref pl8, .ref pl9, .ref pl10, .ref pl11, .ref pl12, .ref pl13])), (e1, .inl (ca 1, 6, .inl (fun _ => 0))), (e2, .inl (ca 1, 6, .inl f2))] s.heap := hP
  have hl := lv_entry ([.ref h0, .int x1]) (n := 2) (Nat.le_of_ble_eq_true rfl)
  rw [lg_entry_eq]
  generalize (lg_sl ([.ref h0, .int x1]) ++ List.replicate (2 - (lg_sl ([.ref h0, .int x1])).length) Slot.unset).toArray = ls at hl ⊢
  have hl : lv_has ls 2 [(0, .ref h0), (1, .int x1)] := hl
  refine lv_iload_n hx hb dX10_risk_0 rfl (lv_at hl 1 rfl) ?_
  refine lv_if_ge (tgt := 7) hx hb dX10_risk_1 (by decide +kernel) (fun c_1 => ?_) (fun c_1 => ?_)
  · refine lv_aload_n hx hb dX10_risk_7 rfl (lv_at hl 0 rfl) ?_
    refine va_get (D := D) (ci := 10) (v := .ref dg) (C := RX10) (T := TX10) (N := 12) hx hb hts iw_X10_risk_10 hown hC.1 hP 0 rfl rfl 8 (by decide +kernel) (hts (.fieldLink RX10 75 "FairWheel" "dangers" "LFairWheel$Risk;") (by decide +kernel)) (fun _ h9 => h9) rfl dX10_risk_8 ?_
    refine lv_aload_n hx hb dX10_risk_11 rfl (lv_at hl 0 rfl) ?_
    refine va_get (D := D) (ci := 10) (v := .ref pl) (C := RX10) (T := TX10) (N := 12) hx hb hts iw_X10_risk_10 hown hC.1 hP 0 rfl rfl 9 (by decide +kernel) (hts (.fieldLink RX10 19 "FairWheel" "plan" "LFairWheel$Plan;") (by decide +kernel)) (fun _ h9 => h9) rfl dX10_risk_12 ?_
    refine kc_v (wr := [(h0, .inr (10, [.ref tp, .ref rd, .ref lv, .ref tr, .ref rw, .ref bx, .ref ch, .ref sg, .ref dg, .ref pl, .ref dr, .int 0]))]) (va_runV (As := [.ref pl]) (rest := []) ⟨hx, hb, hml, hown, hts⟩ (k_X4_find l D ca s.heap.size dg e1 e2 e3 pl pl5 pl6 pl7 pl8 pl9 pl10 pl11 pl12 pl13 f2) (cwV 1 hts gX10_risk_X4_find rfl rfl rfl (by decide +kernel) ⟨(Nat.le_of_ble_eq_true rfl), (Nat.le_of_ble_eq_true rfl)⟩) (PC.preV (ci := 4) hC hP hD [1, 2, 3, 4] rfl (by decide +kernel) rfl rfl) rfl rfl hl.1 rfl (lv_room (Nat.le_of_ble_eq_true rfl)) dX10_risk_15 ⟨(Nat.le_of_ble_eq_true rfl), (Nat.le_of_ble_eq_true rfl)⟩) hP hD hS hA [1, 2, 3, 4] [0] rfl rfl (by decide +kernel) (by decide +kernel) (fun u_3 H locs hw_2 hP hD hS => ?_)
    obtain ⟨f_4, rfl⟩ : ∃ z, z = u_3 := ⟨_, rfl⟩
    have hP : va_P D vwCl [(h0, .inr (10, [.ref tp, .ref rd, .ref lv, .ref tr, .ref rw, .ref bx, .ref ch, .ref sg, .ref dg, .ref pl, .ref dr, .int 0])), (pl, .inr (2, [.int 1, .int 0, .int 0, .int 0, .int 0, .ref pl5, .ref pl6, .ref pl7, .ref pl8, .ref pl9, .ref pl10, .ref pl11, .ref pl12, .ref pl13])), (e2, .inl (ca 1, 6, .inl f_4)), (dg, .inr (4, [.ref e1, .ref e2, .int 0, .ref e3])), (e1, .inl (ca 1, 6, .inl (fun _ => 0)))] H := hP
    have hD : va_D A [(h0, .inr (10, [.ref tp, .ref rd, .ref lv, .ref tr, .ref rw, .ref bx, .ref ch, .ref sg, .ref dg, .ref pl, .ref dr, .int 0])), (pl, .inr (2, [.int 1, .int 0, .int 0, .int 0, .int 0, .ref pl5, .ref pl6, .ref pl7, .ref pl8, .ref pl9, .ref pl10, .ref pl11, .ref pl12, .ref pl13])), (e2, .inl (ca 1, 6, .inl f_4)), (dg, .inr (4, [.ref e1, .ref e2, .int 0, .ref e3])), (e1, .inl (ca 1, 6, .inl (fun _ => 0)))] := hD
    refine lv_iload_n hx hb dX10_risk_18 rfl (lv_at hl 1 rfl) ?_
    refine lv_if_ne (tgt := 30) hx hb dX10_risk_19 (by decide +kernel) (fun c_5 => ?_) (fun c_5 => ?_)
    · refine lv_iload_n hx hb dX10_risk_30 rfl (lv_at hl 1 rfl) ?_
      refine lv_aload_n hx hb dX10_risk_31 rfl (lv_at hl 0 rfl) ?_
      refine va_get (D := D) (ci := 10) (v := .ref dg) (C := RX10) (T := TX10) (N := 12) hx hb hts iw_X10_risk_10 hown hC.1 hP 0 rfl rfl 8 (by decide +kernel) (hts (.fieldLink RX10 75 "FairWheel" "dangers" "LFairWheel$Risk;") (by decide +kernel)) (fun _ h9 => h9) rfl dX10_risk_32 ?_
      refine va_get (D := D) (ci := 4) (v := .int 0) (C := RX4) (T := TX4) (N := 4) hx hb hts iw_X10_risk_4 hown hC.1 hP 3 rfl rfl 2 (by decide +kernel) (hts (.fieldLink RX10 233 "FairWheel$Risk" "size" "I") (by decide +kernel)) (fun _ h9 => h9) rfl dX10_risk_35 ?_
      refine lv_icmp_le (tgt := 45) hx hb dX10_risk_38 (by decide +kernel) (fun c_6 => (pr_q c_1 c_6 c_5 (by decide +kernel) (by decide +kernel)).elim) (fun c_6 => ?_)
      refine lv_iconst (v := (-1)) hx hb dX10_risk_41 (by decide +kernel) ?_
      refine lv_goto (tgt := 56) hx hb dX10_risk_42 (by decide +kernel) ?_
      exact W.iret (v := (-1)) hx hb hr (fun t ht hW => ⟨⟨(-1), (), rfl, (by unfold sp_k_X10_risk; rw [if_pos c_1, if_neg c_5]), by rw [ht]; exact hP.sub [] rfl, hDA (hD.sub [] (by decide +kernel) rfl)⟩, hS.F ht⟩) hS.2.2 dX10_risk_56
    · refine lv_aload_n hx hb dX10_risk_22 rfl (lv_at hl 0 rfl) ?_
      refine va_get (D := D) (ci := 10) (v := .ref dg) (C := RX10) (T := TX10) (N := 12) hx hb hts iw_X10_risk_10 hown hC.1 hP 0 rfl rfl 8 (by decide +kernel) (hts (.fieldLink RX10 75 "FairWheel" "dangers" "LFairWheel$Risk;") (by decide +kernel)) (fun _ h9 => h9) rfl dX10_risk_23 ?_
      refine va_get (D := D) (ci := 4) (v := .int 0) (C := RX4) (T := TX4) (N := 4) hx hb hts iw_X10_risk_4 hown hC.1 hP 3 rfl rfl 2 (by decide +kernel) (hts (.fieldLink RX10 233 "FairWheel$Risk" "size" "I") (by decide +kernel)) (fun _ h9 => h9) rfl dX10_risk_26 ?_
      exact W.iret (v := 0) hx hb hr (fun t ht hW => ⟨⟨0, (), rfl, (by unfold sp_k_X10_risk; rw [if_pos c_1, if_pos c_5]), by rw [ht]; exact hP.sub [] rfl, hDA (hD.sub [] (by decide +kernel) rfl)⟩, hS.F ht⟩) hS.2.2 dX10_risk_29
  · refine lv_bipush (v := (-2)) hx hb dX10_risk_4 (by decide +kernel) ?_
    exact W.iret (v := (-2)) hx hb hr (fun t ht hW => ⟨⟨(-2), (), rfl, (by unfold sp_k_X10_risk; rw [if_neg c_1]), by rw [ht]; exact hP.sub [] rfl, hDA (hD.sub [] (by decide +kernel) rfl)⟩, hS.F ht⟩) hS.2.2 dX10_risk_6
