theorem dX7_init_0 : decode cX7_init 0 = .ok (.aload_n 0, 1) := by decide +kernel
theorem dX7_init_1 : decode cX7_init 1 = .ok (.invokespecial 3, 3) := by decide +kernel
theorem dX7_init_4 : decode cX7_init 4 = .ok (.aload_n 0, 1) := by decide +kernel
theorem dX7_init_5 : decode cX7_init 5 = .ok (.sipush 1700, 3) := by decide +kernel
theorem dX7_init_8 : decode cX7_init 8 = .ok (.newarray .byte, 2) := by decide +kernel
theorem dX7_init_10 : decode cX7_init 10 = .ok (.putfield 9, 3) := by decide +kernel
theorem dX7_init_13 : decode cX7_init 13 = .ok (.aload_n 0, 1) := by decide +kernel
theorem dX7_init_14 : decode cX7_init 14 = .ok (.iconst 0, 1) := by decide +kernel
theorem dX7_init_15 : decode cX7_init 15 = .ok (.putfield 15, 3) := by decide +kernel
theorem dX7_init_18 : decode cX7_init 18 = .ok (.return_, 1) := by decide +kernel
theorem dX2_init_0 : decode cX2_init 0 = .ok (.aload_n 0, 1) := by decide +kernel
theorem dX2_init_1 : decode cX2_init 1 = .ok (.invokespecial 3, 3) := by decide +kernel
theorem dX2_init_4 : decode cX2_init 4 = .ok (.aload_n 0, 1) := by decide +kernel
theorem dX2_init_5 : decode cX2_init 5 = .ok (.iconst 1, 1) := by decide +kernel
theorem dX2_init_6 : decode cX2_init 6 = .ok (.putfield 9, 3) := by decide +kernel
theorem dX2_init_9 : decode cX2_init 9 = .ok (.aload_n 0, 1) := by decide +kernel
theorem dX2_init_10 : decode cX2_init 10 = .ok (.iconst 0, 1) := by decide +kernel
theorem dX2_init_11 : decode cX2_init 11 = .ok (.putfield 15, 3) := by decide +kernel
theorem dX2_init_14 : decode cX2_init 14 = .ok (.aload_n 0, 1) := by decide +kernel
theorem dX2_init_15 : decode cX2_init 15 = .ok (.iconst 0, 1) := by decide +kernel
theorem dX2_init_16 : decode cX2_init 16 = .ok (.putfield 18, 3) := by decide +kernel
theorem dX2_init_19 : decode cX2_init 19 = .ok (.aload_n 0, 1) := by decide +kernel
theorem dX2_init_20 : decode cX2_init 20 = .ok (.iconst 0, 1) := by decide +kernel
theorem dX2_init_21 : decode cX2_init 21 = .ok (.putfield 21, 3) := by decide +kernel
theorem dX2_init_24 : decode cX2_init 24 = .ok (.aload_n 0, 1) := by decide +kernel
theorem dX2_init_25 : decode cX2_init 25 = .ok (.iconst 0, 1) := by decide +kernel
theorem dX2_init_26 : decode cX2_init 26 = .ok (.putfield 24, 3) := by decide +kernel
theorem dX2_init_29 : decode cX2_init 29 = .ok (.aload_n 0, 1) := by decide +kernel
theorem dX2_init_30 : decode cX2_init 30 = .ok (.bipush 10, 2) := by decide +kernel
theorem dX2_init_32 : decode cX2_init 32 = .ok (.newarray .long, 2) := by decide +kernel
theorem dX2_init_34 : decode cX2_init 34 = .ok (.putfield 27, 3) := by decide +kernel
theorem dX2_init_37 : decode cX2_init 37 = .ok (.aload_n 0, 1) := by decide +kernel
theorem dX2_init_38 : decode cX2_init 38 = .ok (.bipush 10, 2) := by decide +kernel
theorem dX2_init_40 : decode cX2_init 40 = .ok (.newarray .int, 2) := by decide +kernel
theorem dX2_init_42 : decode cX2_init 42 = .ok (.putfield 31, 3) := by decide +kernel
theorem dX2_init_45 : decode cX2_init 45 = .ok (.aload_n 0, 1) := by decide +kernel
theorem dX2_init_46 : decode cX2_init 46 = .ok (.bipush 10, 2) := by decide +kernel
theorem dX2_init_48 : decode cX2_init 48 = .ok (.newarray .int, 2) := by decide +kernel
theorem dX2_init_50 : decode cX2_init 50 = .ok (.putfield 35, 3) := by decide +kernel
theorem dX2_init_53 : decode cX2_init 53 = .ok (.aload_n 0, 1) := by decide +kernel
theorem dX2_init_54 : decode cX2_init 54 = .ok (.bipush 10, 2) := by decide +kernel
theorem dX2_init_56 : decode cX2_init 56 = .ok (.newarray .int, 2) := by decide +kernel
theorem dX2_init_58 : decode cX2_init 58 = .ok (.putfield 38, 3) := by decide +kernel
theorem dX2_init_61 : decode cX2_init 61 = .ok (.aload_n 0, 1) := by decide +kernel
theorem dX2_init_62 : decode cX2_init 62 = .ok (.bipush 10, 2) := by decide +kernel
theorem dX2_init_64 : decode cX2_init 64 = .ok (.newarray .int, 2) := by decide +kernel
theorem dX2_init_66 : decode cX2_init 66 = .ok (.putfield 41, 3) := by decide +kernel
theorem dX2_init_69 : decode cX2_init 69 = .ok (.aload_n 0, 1) := by decide +kernel
theorem dX2_init_70 : decode cX2_init 70 = .ok (.bipush 10, 2) := by decide +kernel
theorem dX2_init_72 : decode cX2_init 72 = .ok (.newarray .int, 2) := by decide +kernel
theorem dX2_init_74 : decode cX2_init 74 = .ok (.putfield 44, 3) := by decide +kernel
theorem dX2_init_77 : decode cX2_init 77 = .ok (.aload_n 0, 1) := by decide +kernel
theorem dX2_init_78 : decode cX2_init 78 = .ok (.bipush 10, 2) := by decide +kernel
theorem dX2_init_80 : decode cX2_init 80 = .ok (.newarray .int, 2) := by decide +kernel
theorem dX2_init_82 : decode cX2_init 82 = .ok (.putfield 47, 3) := by decide +kernel
theorem dX2_init_85 : decode cX2_init 85 = .ok (.aload_n 0, 1) := by decide +kernel
theorem dX2_init_86 : decode cX2_init 86 = .ok (.bipush 90, 2) := by decide +kernel
theorem dX2_init_88 : decode cX2_init 88 = .ok (.newarray .int, 2) := by decide +kernel
theorem dX2_init_90 : decode cX2_init 90 = .ok (.putfield 50, 3) := by decide +kernel
theorem dX2_init_93 : decode cX2_init 93 = .ok (.aload_n 0, 1) := by decide +kernel
theorem dX2_init_94 : decode cX2_init 94 = .ok (.bipush 90, 2) := by decide +kernel
theorem dX2_init_96 : decode cX2_init 96 = .ok (.newarray .int, 2) := by decide +kernel
theorem dX2_init_98 : decode cX2_init 98 = .ok (.putfield 53, 3) := by decide +kernel
theorem dX2_init_101 : decode cX2_init 101 = .ok (.return_, 1) := by decide +kernel
theorem dX5_init_0 : decode cX5_init 0 = .ok (.aload_n 0, 1) := by decide +kernel
theorem dX5_init_1 : decode cX5_init 1 = .ok (.invokespecial 3, 3) := by decide +kernel
theorem dX5_init_4 : decode cX5_init 4 = .ok (.aload_n 0, 1) := by decide +kernel
theorem dX5_init_5 : decode cX5_init 5 = .ok (.aload_n 1, 1) := by decide +kernel
theorem dX5_init_6 : decode cX5_init 6 = .ok (.putfield 9, 3) := by decide +kernel
theorem dX5_init_9 : decode cX5_init 9 = .ok (.aload_n 0, 1) := by decide +kernel
theorem dX5_init_10 : decode cX5_init 10 = .ok (.iconst 0, 1) := by decide +kernel
theorem dX5_init_11 : decode cX5_init 11 = .ok (.putfield 15, 3) := by decide +kernel
theorem dX5_init_14 : decode cX5_init 14 = .ok (.return_, 1) := by decide +kernel
set_option maxRecDepth 20000 in
theorem ggX3_init_X5_init : GoodIn wsX3_init wsX5_init := goodIn_r _ [13, 14, 2, 3, 15, 16, 23, 24, 25, 26, 27, 28] (by decide +kernel) (by decide +kernel)
set_option maxRecDepth 20000 in
theorem gX3_init_X5_init : GoodIn wsX3_init (wsX5_init) := ggX3_init_X5_init
theorem dX3_init_0 : decode cX3_init 0 = .ok (.aload_n 0, 1) := by decide +kernel
theorem dX3_init_1 : decode cX3_init 1 = .ok (.invokespecial 3, 3) := by decide +kernel
theorem dX3_init_4 : decode cX3_init 4 = .ok (.aload_n 0, 1) := by decide +kernel
theorem dX3_init_5 : decode cX3_init 5 = .ok (.iconst 0, 1) := by decide +kernel
theorem dX3_init_6 : decode cX3_init 6 = .ok (.putfield 9, 3) := by decide +kernel
theorem dX3_init_9 : decode cX3_init 9 = .ok (.aload_n 0, 1) := by decide +kernel
theorem dX3_init_10 : decode cX3_init 10 = .ok (.iconst (-1), 1) := by decide +kernel
theorem dX3_init_11 : decode cX3_init 11 = .ok (.putfield 15, 3) := by decide +kernel
theorem dX3_init_14 : decode cX3_init 14 = .ok (.aload_n 0, 1) := by decide +kernel
theorem dX3_init_15 : decode cX3_init 15 = .ok (.new 18, 3) := by decide +kernel
theorem dX3_init_18 : decode cX3_init 18 = .ok (.dup, 1) := by decide +kernel
theorem dX3_init_19 : decode cX3_init 19 = .ok (.aload_n 1, 1) := by decide +kernel
theorem dX3_init_20 : decode cX3_init 20 = .ok (.invokespecial 20, 3) := by decide +kernel
theorem dX3_init_23 : decode cX3_init 23 = .ok (.putfield 23, 3) := by decide +kernel
theorem dX3_init_26 : decode cX3_init 26 = .ok (.aload_n 0, 1) := by decide +kernel
theorem dX3_init_27 : decode cX3_init 27 = .ok (.aload_n 2, 1) := by decide +kernel
theorem dX3_init_28 : decode cX3_init 28 = .ok (.putfield 27, 3) := by decide +kernel
theorem dX3_init_31 : decode cX3_init 31 = .ok (.return_, 1) := by decide +kernel
theorem dX8_init_0 : decode cX8_init 0 = .ok (.aload_n 0, 1) := by decide +kernel
theorem dX8_init_1 : decode cX8_init 1 = .ok (.invokespecial 3, 3) := by decide +kernel
theorem dX8_init_4 : decode cX8_init 4 = .ok (.aload_n 0, 1) := by decide +kernel
theorem dX8_init_5 : decode cX8_init 5 = .ok (.bipush 10, 2) := by decide +kernel
theorem dX8_init_7 : decode cX8_init 7 = .ok (.newarray .int, 2) := by decide +kernel
theorem dX8_init_9 : decode cX8_init 9 = .ok (.putfield 9, 3) := by decide +kernel
theorem dX8_init_12 : decode cX8_init 12 = .ok (.return_, 1) := by decide +kernel
theorem dX9_begin_0 : decode cX9_begin 0 = .ok (.aload_n 0, 1) := by decide +kernel
theorem dX9_begin_1 : decode cX9_begin 1 = .ok (.aload_n 1, 1) := by decide +kernel
theorem dX9_begin_2 : decode cX9_begin 2 = .ok (.putfield 33, 3) := by decide +kernel
theorem dX9_begin_5 : decode cX9_begin 5 = .ok (.aload_n 0, 1) := by decide +kernel
theorem dX9_begin_6 : decode cX9_begin 6 = .ok (.iconst 0, 1) := by decide +kernel
theorem dX9_begin_7 : decode cX9_begin 7 = .ok (.putfield 37, 3) := by decide +kernel
theorem dX9_begin_10 : decode cX9_begin 10 = .ok (.iconst 0, 1) := by decide +kernel
theorem dX9_begin_11 : decode cX9_begin 11 = .ok (.istore_n 2, 1) := by decide +kernel
theorem dX9_begin_12 : decode cX9_begin 12 = .ok (.iload_n 2, 1) := by decide +kernel
theorem dX9_begin_13 : decode cX9_begin 13 = .ok (.aload_n 0, 1) := by decide +kernel
theorem dX9_begin_14 : decode cX9_begin 14 = .ok (.getfield 33, 3) := by decide +kernel
theorem dX9_begin_17 : decode cX9_begin 17 = .ok (.getfield 41, 3) := by decide +kernel
theorem dX9_begin_20 : decode cX9_begin 20 = .ok (.if_icmp .ge 57, 3) := by decide +kernel
theorem dX9_begin_77 : decode cX9_begin 77 = .ok (.iconst 0, 1) := by decide +kernel
theorem dX9_begin_78 : decode cX9_begin 78 = .ok (.istore_n 2, 1) := by decide +kernel
theorem dX9_begin_79 : decode cX9_begin 79 = .ok (.iload_n 2, 1) := by decide +kernel
theorem dX9_begin_80 : decode cX9_begin 80 = .ok (.bipush 6, 2) := by decide +kernel
theorem dX9_begin_82 : decode cX9_begin 82 = .ok (.if_icmp .ge 16, 3) := by decide +kernel
theorem dX9_begin_85 : decode cX9_begin 85 = .ok (.aload_n 0, 1) := by decide +kernel
theorem dX9_begin_86 : decode cX9_begin 86 = .ok (.getfield 17, 3) := by decide +kernel
theorem dX9_begin_89 : decode cX9_begin 89 = .ok (.iload_n 2, 1) := by decide +kernel
theorem dX9_begin_90 : decode cX9_begin 90 = .ok (.iconst (-1), 1) := by decide +kernel
theorem dX9_begin_91 : decode cX9_begin 91 = .ok (.iastore, 1) := by decide +kernel
theorem dX9_begin_92 : decode cX9_begin 92 = .ok (.iinc 2 1, 3) := by decide +kernel
theorem dX9_begin_95 : decode cX9_begin 95 = .ok (.goto (-16), 3) := by decide +kernel
theorem dX9_begin_98 : decode cX9_begin 98 = .ok (.return_, 1) := by decide +kernel
set_option maxRecDepth 20000 in
theorem ggX9_init_X8_init : GoodIn wsX9_init wsX8_init := goodIn_r _ [14, 15, 2, 3, 6, 16, 78, 79, 80, 81, 82, 83, 84, 85, 86, 87, 88, 89, 90, 91, 92, 93, 94] (by decide +kernel) (by decide +kernel)
set_option maxRecDepth 20000 in
theorem gX9_init_X8_init_n28 : GoodIn wsX9_init (wsX8_init) := ggX9_init_X8_init
set_option maxRecDepth 20000 in
theorem ggX9_init_X9_begin : GoodIn wsX9_init wsX9_begin := goodIn_r _ [21, 22, 23, 24, 5, 25, 26, 7, 27, 28, 29, 30, 31, 32, 33, 34, 35, 36, 37, 38, 39, 40, 41, 42, 12, 43, 44, 45, 46, 47, 48, 49, 50, 51, 52, 53, 54, 55, 56, 57, 58, 59, 60, 61, 20, 62, 63, 64, 65, 66, 67, 68, 69, 70, 71, 72, 73, 74, 75, 76, 77, 95, 96, 97, 98, 99, 100, 101, 102, 103, 104, 105, 106, 107, 108, 78, 79, 80, 81, 82, 83, 84, 85, 86, 87, 88, 89, 90, 91, 92, 93, 94] (by decide +kernel) (by decide +kernel)
set_option maxRecDepth 20000 in
theorem gX9_init_X9_begin : GoodIn wsX9_init (wsV RX9 29 RX9 yX9_begin wsX9_begin) := goodIn_app (goodIn_of _ (by decide +kernel)) ggX9_init_X9_begin
theorem dX9_init_0 : decode cX9_init 0 = .ok (.aload_n 0, 1) := by decide +kernel
theorem dX9_init_1 : decode cX9_init 1 = .ok (.invokespecial 3, 3) := by decide +kernel
theorem dX9_init_4 : decode cX9_init 4 = .ok (.aload_n 0, 1) := by decide +kernel
theorem dX9_init_5 : decode cX9_init 5 = .ok (.bipush 10, 2) := by decide +kernel
theorem dX9_init_7 : decode cX9_init 7 = .ok (.anewarray 9, 3) := by decide +kernel
theorem dX9_init_10 : decode cX9_init 10 = .ok (.putfield 11, 3) := by decide +kernel
theorem dX9_init_13 : decode cX9_init 13 = .ok (.aload_n 0, 1) := by decide +kernel
theorem dX9_init_14 : decode cX9_init 14 = .ok (.bipush 6, 2) := by decide +kernel
theorem dX9_init_16 : decode cX9_init 16 = .ok (.newarray .int, 2) := by decide +kernel
theorem dX9_init_18 : decode cX9_init 18 = .ok (.putfield 17, 3) := by decide +kernel
theorem dX9_init_21 : decode cX9_init 21 = .ok (.aload_n 0, 1) := by decide +kernel
theorem dX9_init_22 : decode cX9_init 22 = .ok (.bipush 10, 2) := by decide +kernel
theorem dX9_init_24 : decode cX9_init 24 = .ok (.newarray .long, 2) := by decide +kernel
theorem dX9_init_26 : decode cX9_init 26 = .ok (.putfield 21, 3) := by decide +kernel
theorem dX9_init_29 : decode cX9_init 29 = .ok (.aload_n 0, 1) := by decide +kernel
theorem dX9_init_30 : decode cX9_init 30 = .ok (.bipush 10, 2) := by decide +kernel
theorem dX9_init_32 : decode cX9_init 32 = .ok (.newarray .int, 2) := by decide +kernel
theorem dX9_init_34 : decode cX9_init 34 = .ok (.putfield 25, 3) := by decide +kernel
theorem dX9_init_37 : decode cX9_init 37 = .ok (.iconst 0, 1) := by decide +kernel
theorem dX9_init_38 : decode cX9_init 38 = .ok (.istore_n 2, 1) := by decide +kernel
theorem dX9_init_39 : decode cX9_init 39 = .ok (.iload_n 2, 1) := by decide +kernel
theorem dX9_init_40 : decode cX9_init 40 = .ok (.bipush 10, 2) := by decide +kernel
theorem dX9_init_42 : decode cX9_init 42 = .ok (.if_icmp .ge 22, 3) := by decide +kernel
theorem dX9_init_45 : decode cX9_init 45 = .ok (.aload_n 0, 1) := by decide +kernel
theorem dX9_init_46 : decode cX9_init 46 = .ok (.getfield 11, 3) := by decide +kernel
theorem dX9_init_49 : decode cX9_init 49 = .ok (.iload_n 2, 1) := by decide +kernel
theorem dX9_init_50 : decode cX9_init 50 = .ok (.new 9, 3) := by decide +kernel
theorem dX9_init_53 : decode cX9_init 53 = .ok (.dup, 1) := by decide +kernel
theorem dX9_init_54 : decode cX9_init 54 = .ok (.invokespecial 28, 3) := by decide +kernel
theorem dX9_init_57 : decode cX9_init 57 = .ok (.aastore, 1) := by decide +kernel
theorem dX9_init_58 : decode cX9_init 58 = .ok (.iinc 2 1, 3) := by decide +kernel
theorem dX9_init_61 : decode cX9_init 61 = .ok (.goto (-22), 3) := by decide +kernel
theorem dX9_init_64 : decode cX9_init 64 = .ok (.aload_n 0, 1) := by decide +kernel
theorem dX9_init_65 : decode cX9_init 65 = .ok (.aload_n 1, 1) := by decide +kernel
theorem dX9_init_66 : decode cX9_init 66 = .ok (.invokevirtual 29, 3) := by decide +kernel
theorem dX9_init_69 : decode cX9_init 69 = .ok (.return_, 1) := by decide +kernel
set_option maxRecDepth 20000 in
theorem ggX0_init_X9_init : GoodIn wsX0_init wsX9_init := goodIn_r _ [13, 14, 2, 3, 15, 16, 4, 17, 18, 19, 20, 21, 22, 23, 24, 25, 26, 27, 28, 29, 9, 30, 31, 32, 33, 34, 35, 36, 37, 38, 39, 40, 41, 42, 43, 44, 45, 46, 47, 48, 49, 50, 51, 52, 53, 54, 55, 56, 57, 58, 59, 60, 61, 62, 63, 64, 65, 66, 67, 68, 69, 70, 71, 72, 73, 74, 75, 76, 77, 78, 79, 80, 84, 85, 86, 87, 88, 89, 90, 91, 92, 93, 94, 95, 96, 97, 98, 99, 100, 101, 102, 103, 104, 105, 106, 107, 108, 109, 110, 111, 112, 113, 114, 115, 116, 117, 118, 119, 120] (by decide +kernel) (by decide +kernel)
set_option maxRecDepth 20000 in
theorem gX0_init_X9_init : GoodIn wsX0_init (wsX9_init) := ggX0_init_X9_init
theorem dX0_init_0 : decode cX0_init 0 = .ok (.aload_n 0, 1) := by decide +kernel
theorem dX0_init_1 : decode cX0_init 1 = .ok (.invokespecial 3, 3) := by decide +kernel
theorem dX0_init_4 : decode cX0_init 4 = .ok (.aload_n 0, 1) := by decide +kernel
theorem dX0_init_5 : decode cX0_init 5 = .ok (.sipush 2000, 3) := by decide +kernel
theorem dX0_init_8 : decode cX0_init 8 = .ok (.newarray .int, 2) := by decide +kernel
theorem dX0_init_10 : decode cX0_init 10 = .ok (.putfield 9, 3) := by decide +kernel
theorem dX0_init_13 : decode cX0_init 13 = .ok (.aload_n 0, 1) := by decide +kernel
theorem dX0_init_14 : decode cX0_init 14 = .ok (.iconst 0, 1) := by decide +kernel
theorem dX0_init_15 : decode cX0_init 15 = .ok (.putfield 15, 3) := by decide +kernel
theorem dX0_init_18 : decode cX0_init 18 = .ok (.aload_n 0, 1) := by decide +kernel
theorem dX0_init_19 : decode cX0_init 19 = .ok (.new 19, 3) := by decide +kernel
theorem dX0_init_22 : decode cX0_init 22 = .ok (.dup, 1) := by decide +kernel
theorem dX0_init_23 : decode cX0_init 23 = .ok (.aload_n 1, 1) := by decide +kernel
theorem dX0_init_24 : decode cX0_init 24 = .ok (.invokespecial 21, 3) := by decide +kernel
theorem dX0_init_27 : decode cX0_init 27 = .ok (.putfield 24, 3) := by decide +kernel
theorem dX0_init_30 : decode cX0_init 30 = .ok (.return_, 1) := by decide +kernel
theorem dX1_init_0 : decode cX1_init 0 = .ok (.aload_n 0, 1) := by decide +kernel
theorem dX1_init_1 : decode cX1_init 1 = .ok (.invokespecial 3, 3) := by decide +kernel
theorem dX1_init_4 : decode cX1_init 4 = .ok (.aload_n 0, 1) := by decide +kernel
theorem dX1_init_5 : decode cX1_init 5 = .ok (.iconst 0, 1) := by decide +kernel
theorem dX1_init_6 : decode cX1_init 6 = .ok (.putfield 9, 3) := by decide +kernel
theorem dX1_init_9 : decode cX1_init 9 = .ok (.aload_n 0, 1) := by decide +kernel
theorem dX1_init_10 : decode cX1_init 10 = .ok (.bipush 60, 2) := by decide +kernel
theorem dX1_init_12 : decode cX1_init 12 = .ok (.newarray .int, 2) := by decide +kernel
theorem dX1_init_14 : decode cX1_init 14 = .ok (.putfield 15, 3) := by decide +kernel
theorem dX1_init_17 : decode cX1_init 17 = .ok (.aload_n 0, 1) := by decide +kernel
theorem dX1_init_18 : decode cX1_init 18 = .ok (.bipush 60, 2) := by decide +kernel
theorem dX1_init_20 : decode cX1_init 20 = .ok (.newarray .int, 2) := by decide +kernel
theorem dX1_init_22 : decode cX1_init 22 = .ok (.putfield 19, 3) := by decide +kernel
theorem dX1_init_25 : decode cX1_init 25 = .ok (.aload_n 0, 1) := by decide +kernel
theorem dX1_init_26 : decode cX1_init 26 = .ok (.bipush 60, 2) := by decide +kernel
theorem dX1_init_28 : decode cX1_init 28 = .ok (.newarray .int, 2) := by decide +kernel
theorem dX1_init_30 : decode cX1_init 30 = .ok (.putfield 22, 3) := by decide +kernel
theorem dX1_init_33 : decode cX1_init 33 = .ok (.return_, 1) := by decide +kernel
theorem dX6_init_0 : decode cX6_init 0 = .ok (.aload_n 0, 1) := by decide +kernel
theorem dX6_init_1 : decode cX6_init 1 = .ok (.invokespecial 3, 3) := by decide +kernel
theorem dX6_init_4 : decode cX6_init 4 = .ok (.aload_n 0, 1) := by decide +kernel
theorem dX6_init_5 : decode cX6_init 5 = .ok (.iconst 0, 1) := by decide +kernel
theorem dX6_init_6 : decode cX6_init 6 = .ok (.putfield 9, 3) := by decide +kernel
theorem dX6_init_9 : decode cX6_init 9 = .ok (.aload_n 0, 1) := by decide +kernel
theorem dX6_init_10 : decode cX6_init 10 = .ok (.bipush 20, 2) := by decide +kernel
theorem dX6_init_12 : decode cX6_init 12 = .ok (.newarray .int, 2) := by decide +kernel
theorem dX6_init_14 : decode cX6_init 14 = .ok (.putfield 15, 3) := by decide +kernel
theorem dX6_init_17 : decode cX6_init 17 = .ok (.aload_n 0, 1) := by decide +kernel
theorem dX6_init_18 : decode cX6_init 18 = .ok (.bipush 20, 2) := by decide +kernel
theorem dX6_init_20 : decode cX6_init 20 = .ok (.newarray .int, 2) := by decide +kernel
theorem dX6_init_22 : decode cX6_init 22 = .ok (.putfield 19, 3) := by decide +kernel
theorem dX6_init_25 : decode cX6_init 25 = .ok (.aload_n 0, 1) := by decide +kernel
theorem dX6_init_26 : decode cX6_init 26 = .ok (.bipush 20, 2) := by decide +kernel
theorem dX6_init_28 : decode cX6_init 28 = .ok (.newarray .boolean, 2) := by decide +kernel
theorem dX6_init_30 : decode cX6_init 30 = .ok (.putfield 22, 3) := by decide +kernel
theorem dX6_init_33 : decode cX6_init 33 = .ok (.aload_n 0, 1) := by decide +kernel
theorem dX6_init_34 : decode cX6_init 34 = .ok (.bipush 20, 2) := by decide +kernel
theorem dX6_init_36 : decode cX6_init 36 = .ok (.newarray .int, 2) := by decide +kernel
theorem dX6_init_38 : decode cX6_init 38 = .ok (.putfield 26, 3) := by decide +kernel
theorem dX6_init_41 : decode cX6_init 41 = .ok (.aload_n 0, 1) := by decide +kernel
theorem dX6_init_42 : decode cX6_init 42 = .ok (.bipush 20, 2) := by decide +kernel
theorem dX6_init_44 : decode cX6_init 44 = .ok (.newarray .int, 2) := by decide +kernel
theorem dX6_init_46 : decode cX6_init 46 = .ok (.putfield 29, 3) := by decide +kernel
theorem dX6_init_49 : decode cX6_init 49 = .ok (.return_, 1) := by decide +kernel
theorem dX4_init_0 : decode cX4_init 0 = .ok (.aload_n 0, 1) := by decide +kernel
theorem dX4_init_1 : decode cX4_init 1 = .ok (.invokespecial 3, 3) := by decide +kernel
theorem dX4_init_4 : decode cX4_init 4 = .ok (.aload_n 0, 1) := by decide +kernel
theorem dX4_init_5 : decode cX4_init 5 = .ok (.bipush 6, 2) := by decide +kernel
theorem dX4_init_7 : decode cX4_init 7 = .ok (.newarray .int, 2) := by decide +kernel
theorem dX4_init_9 : decode cX4_init 9 = .ok (.putfield 9, 3) := by decide +kernel
theorem dX4_init_12 : decode cX4_init 12 = .ok (.aload_n 0, 1) := by decide +kernel
theorem dX4_init_13 : decode cX4_init 13 = .ok (.bipush 6, 2) := by decide +kernel
theorem dX4_init_15 : decode cX4_init 15 = .ok (.newarray .int, 2) := by decide +kernel
theorem dX4_init_17 : decode cX4_init 17 = .ok (.putfield 15, 3) := by decide +kernel
theorem dX4_init_20 : decode cX4_init 20 = .ok (.aload_n 0, 1) := by decide +kernel
theorem dX4_init_21 : decode cX4_init 21 = .ok (.iconst 0, 1) := by decide +kernel
theorem dX4_init_22 : decode cX4_init 22 = .ok (.putfield 18, 3) := by decide +kernel
theorem dX4_init_25 : decode cX4_init 25 = .ok (.aload_n 0, 1) := by decide +kernel
theorem dX4_init_26 : decode cX4_init 26 = .ok (.bipush 6, 2) := by decide +kernel
theorem dX4_init_28 : decode cX4_init 28 = .ok (.newarray .int, 2) := by decide +kernel
theorem dX4_init_30 : decode cX4_init 30 = .ok (.putfield 22, 3) := by decide +kernel
theorem dX4_init_33 : decode cX4_init 33 = .ok (.return_, 1) := by decide +kernel
theorem iw_X7_init_7 : ∀ w ∈ u_ws RX7 TX7 2, w ∈ wsX7_init := by decide +kernel
set_option maxHeartbeats 4000000 in
set_option maxRecDepth 100000 in
/-- Tape(): 1,700 bytes, none fed -/
theorem k_X7_init (l : Launch) (D : va_G) (ca : Nat → ClassId) (sz : Nat) (h0 : Nat) : Met l yX7_init wsX7_init ({ frames := 1, cells := 1, slots := 1700, locals := 12 }) (PC [.ref h0] sz D ca [(h0, .inr (7, [.null, .int 0]))]) (QV (fun (u : Nat) => True) (fun (u : Nat) => [(h0, .inr (7, [.ref u, .int 0])), (u, .inl (ca 0, 1700, .inl (fun _ => 0)))]) [(h0, .inr (7, [.null, .int 0]))] sz D) 1 1700 (va_A [(h0, .inr (7, [.null, .int 0]))] sz) := by
  refine Met.ofW (cc := cX7_init) (maxL := 1) (ret := none) (by decide +kernel) rfl ?_
  intro p e s m args below meth c s₁ B hml hv
  obtain ⟨rfl, hsz, hP, hC, hD0⟩ := hv
  have hx := B.exec
  have hb := B.bytes
  have hr := B.returns
  have hts := atoms_spec (ws := wsX7_init) B.pre
  have hown : s.vm.findClass RX7 = some m.cls := findClass_of_methodNamed B.named
  have hlocks := B.notSynchronized
  have hin : meth.name = "<init>" := (name_of_methodNamed B.named B.method).1
  subst hsz
  have hD := hD0.self (sz := s.heap.size)
  dsimp only [QV, QI, QL, BQ]
  generalize hAe : va_A [(h0, .inr (7, [.null, .int 0]))] s.heap.size = A at hD ⊢
  have hA : ∀ q : Nat, s.heap.size ≤ q → A q := fun q h => by rw [← hAe]; exact Or.inr h
  have hDA : ∀ {w : va_W}, va_D A w → va_D (va_A [(h0, .inr (7, [.null, .int 0]))] s.heap.size) w := fun h => by rw [hAe]; exact h
  have hS : va_S A s.heap s.heap [] := va_S.rf
  have hP : va_P D vwCl [(h0, .inr (7, [.null, .int 0]))] s.heap := hP
  have hl := lv_entry ([.ref h0]) (n := 1) (Nat.le_of_ble_eq_true rfl)
  rw [lg_entry_eq]
  generalize (lg_sl ([.ref h0]) ++ List.replicate (1 - (lg_sl ([.ref h0])).length) Slot.unset).toArray = ls at hl ⊢
  have hl : lv_has ls 1 [(0, .ref h0)] := hl
  refine lv_aload_n hx hb dX7_init_0 rfl (lv_at hl 0 rfl) ?_
  refine W.objInit hx hb hown (hts (.methodLink RX7 3 objectInit) (by decide +kernel)) (hts (.instanceMethod objectInit) (by decide +kernel)) (hts (.code objectInit ⟨#[0xb1]⟩ 1 none) (by decide +kernel)) rfl (by rw [hml]; exact hl.1) rfl dX7_init_1 (Nat.le_of_ble_eq_true rfl) (Nat.le_of_ble_eq_true rfl) ?_
  refine W.eq (g2 := F0 m 4 ls []) rfl ?_
  refine lv_aload_n hx hb dX7_init_4 rfl (lv_at hl 0 rfl) ?_
  refine lv_sipush (v := 1700) hx hb dX7_init_5 (by decide +kernel) ?_
  refine ka_newa (atype := .byte) (ty := .byte) hx hb (hts (.arrayClass .byte) (by decide +kernel)) rfl hC.1 hP hD hS hA 1700 (ha_b 1700) rfl (by decide +kernel) (Nat.le_of_ble_eq_true rfl) (Nat.le_of_ble_eq_true rfl) (Nat.le_of_ble_eq_true rfl) dX7_init_8 0 rfl (fun q8 H hP hD hS => ?_)
  have hP : va_P D vwCl [(h0, .inr (7, [.null, .int 0])), (q8, .inl (ca 0, 1700, .inl (fun _ => 0)))] H := hP
  have hD : va_D A [(h0, .inr (7, [.null, .int 0])), (q8, .inl (ca 0, 1700, .inl (fun _ => 0)))] := hD
  refine va_putF (D := D) (ci := 7) (v := .ref q8) (ty := .array .byte) (C := RX7) (T := TX7) (N := 2) hx hb hts iw_X7_init_7 tyX7 tyX7_ok nmX7 hown hC.1 hP hD hS 0 rfl rfl 0 (by decide +kernel) (hts (.fieldLink RX7 9 "FairWheel$Tape" "bytes" "[B") (by decide +kernel)) (fun _ h9 => h9) rfl hin rfl (by decide +kernel) rfl rfl (Nat.le_of_ble_eq_true rfl) dX7_init_10 (fun H locs hP hD hS => ?_)
  have hP : va_P D vwCl [(h0, .inr (7, [.ref q8, .int 0])), (q8, .inl (ca 0, 1700, .inl (fun _ => 0)))] H := hP
  have hD : va_D A [(h0, .inr (7, [.ref q8, .int 0])), (q8, .inl (ca 0, 1700, .inl (fun _ => 0)))] := hD
  refine lv_aload_n hx hb dX7_init_13 rfl (lv_at hl 0 rfl) ?_
  refine lv_iconst (v := 0) hx hb dX7_init_14 (by decide +kernel) ?_
  refine va_put (D := D) (ci := 7) (v := .int 0) (ty := .int) (C := RX7) (T := TX7) (N := 2) hx hb hts iw_X7_init_7 tyX7 tyX7_ok nmX7 hown hC.1 hP hD hS 0 rfl rfl 1 (by decide +kernel) (hts (.fieldLink RX7 15 "FairWheel$Tape" "size" "I") (by decide +kernel)) (fun _ h9 => h9) rfl (by decide +kernel) rfl rfl (Nat.le_of_ble_eq_true rfl) dX7_init_15 (fun H locs hP hD hS => ?_)
  have hP : va_P D vwCl [(h0, .inr (7, [.ref q8, .int 0])), (q8, .inl (ca 0, 1700, .inl (fun _ => 0)))] H := hP
  have hD : va_D A [(h0, .inr (7, [.ref q8, .int 0])), (q8, .inl (ca 0, 1700, .inl (fun _ => 0)))] := hD
  refine W.widen (k := 1) (n := 1700) (by omega) (by omega) ?_
  exact W.vret hx hb hr (fun t ht hW => ⟨⟨q8, rfl, trivial, by rw [ht]; exact hP.sub [0, 1] rfl, hDA (hD.sub [0, 1] (by decide +kernel) rfl)⟩, hS.F ht⟩) hS.2.2 dX7_init_18
theorem iw_X2_init_2 : ∀ w ∈ u_ws RX2 TX2 14, w ∈ wsX2_init := by decide +kernel
set_option maxHeartbeats 4000000 in
set_option maxRecDepth 100000 in
/-- Plan(): one core -/
theorem k_X2_init (l : Launch) (D : va_G) (ca : Nat → ClassId) (sz : Nat) (h0 : Nat) : Met l yX2_init wsX2_init ({ frames := 1, cells := 9, slots := 250, locals := 12 }) (PC [.ref h0] sz D ca [(h0, .inr (2, [.int 0, .int 0, .int 0, .int 0, .int 0, .null, .null, .null, .null, .null, .null, .null, .null, .null]))]) (QV (fun (u : Nat × Nat × Nat × Nat × Nat × Nat × Nat × Nat × Nat) => True) (fun (u : Nat × Nat × Nat × Nat × Nat × Nat × Nat × Nat × Nat) => [(h0, .inr (2, [.int 1, .int 0, .int 0, .int 0, .int 0, .ref u.1, .ref u.2.1, .ref u.2.2.1, .ref u.2.2.2.1, .ref u.2.2.2.2.1, .ref u.2.2.2.2.2.1, .ref u.2.2.2.2.2.2.1, .ref u.2.2.2.2.2.2.2.1, .ref u.2.2.2.2.2.2.2.2]))]) [(h0, .inr (2, [.int 0, .int 0, .int 0, .int 0, .int 0, .null, .null, .null, .null, .null, .null, .null, .null, .null]))] sz D) 9 250 (va_A [(h0, .inr (2, [.int 0, .int 0, .int 0, .int 0, .int 0, .null, .null, .null, .null, .null, .null, .null, .null, .null]))] sz) := by
  refine Met.ofW (cc := cX2_init) (maxL := 1) (ret := none) (by decide +kernel) rfl ?_
  intro p e s m args below meth c s₁ B hml hv
  obtain ⟨rfl, hsz, hP, hC, hD0⟩ := hv
  have hx := B.exec
  have hb := B.bytes
  have hr := B.returns
  have hts := atoms_spec (ws := wsX2_init) B.pre
  have hown : s.vm.findClass RX2 = some m.cls := findClass_of_methodNamed B.named
  have hlocks := B.notSynchronized
  have hin : meth.name = "<init>" := (name_of_methodNamed B.named B.method).1
  subst hsz
  have hD := hD0.self (sz := s.heap.size)
  dsimp only [QV, QI, QL, BQ]
  generalize hAe : va_A [(h0, .inr (2, [.int 0, .int 0, .int 0, .int 0, .int 0, .null, .null, .null, .null, .null, .null, .null, .null, .null]))] s.heap.size = A at hD ⊢
  have hA : ∀ q : Nat, s.heap.size ≤ q → A q := fun q h => by rw [← hAe]; exact Or.inr h
  have hDA : ∀ {w : va_W}, va_D A w → va_D (va_A [(h0, .inr (2, [.int 0, .int 0, .int 0, .int 0, .int 0, .null, .null, .null, .null, .null, .null, .null, .null, .null]))] s.heap.size) w := fun h => by rw [hAe]; exact h
  have hS : va_S A s.heap s.heap [] := va_S.rf
  have hP : va_P D vwCl [(h0, .inr (2, [.int 0, .int 0, .int 0, .int 0, .int 0, .null, .null, .null, .null, .null, .null, .null, .null, .null]))] s.heap := hP
  have hl := lv_entry ([.ref h0]) (n := 1) (Nat.le_of_ble_eq_true rfl)
  rw [lg_entry_eq]
  generalize (lg_sl ([.ref h0]) ++ List.replicate (1 - (lg_sl ([.ref h0])).length) Slot.unset).toArray = ls at hl ⊢
  have hl : lv_has ls 1 [(0, .ref h0)] := hl
  refine lv_aload_n hx hb dX2_init_0 rfl (lv_at hl 0 rfl) ?_
  refine W.objInit hx hb hown (hts (.methodLink RX2 3 objectInit) (by decide +kernel)) (hts (.instanceMethod objectInit) (by decide +kernel)) (hts (.code objectInit ⟨#[0xb1]⟩ 1 none) (by decide +kernel)) rfl (by rw [hml]; exact hl.1) rfl dX2_init_1 (Nat.le_of_ble_eq_true rfl) (Nat.le_of_ble_eq_true rfl) ?_
  refine W.eq (g2 := F0 m 4 ls []) rfl ?_
  refine lv_aload_n hx hb dX2_init_4 rfl (lv_at hl 0 rfl) ?_
  refine lv_iconst (v := 1) hx hb dX2_init_5 (by decide +kernel) ?_
  refine va_put (D := D) (ci := 2) (v := .int 1) (ty := .int) (C := RX2) (T := TX2) (N := 14) hx hb hts iw_X2_init_2 tyX2 tyX2_ok nmX2 hown hC.1 hP hD hS 0 rfl rfl 0 (by decide +kernel) (hts (.fieldLink RX2 9 "FairWheel$Plan" "cores" "I") (by decide +kernel)) (fun _ h9 => h9) rfl (by decide +kernel) rfl rfl (Nat.le_of_ble_eq_true rfl) dX2_init_6 (fun H locs hP hD hS => ?_)
  have hP : va_P D vwCl [(h0, .inr (2, [.int 1, .int 0, .int 0, .int 0, .int 0, .null, .null, .null, .null, .null, .null, .null, .null, .null]))] H := hP
  have hD : va_D A [(h0, .inr (2, [.int 1, .int 0, .int 0, .int 0, .int 0, .null, .null, .null, .null, .null, .null, .null, .null, .null]))] := hD
  refine lv_aload_n hx hb dX2_init_9 rfl (lv_at hl 0 rfl) ?_
  refine lv_iconst (v := 0) hx hb dX2_init_10 (by decide +kernel) ?_
  refine va_put (D := D) (ci := 2) (v := .int 0) (ty := .int) (C := RX2) (T := TX2) (N := 14) hx hb hts iw_X2_init_2 tyX2 tyX2_ok nmX2 hown hC.1 hP hD hS 0 rfl rfl 1 (by decide +kernel) (hts (.fieldLink RX2 15 "FairWheel$Plan" "locks" "I") (by decide +kernel)) (fun _ h9 => h9) rfl (by decide +kernel) rfl rfl (Nat.le_of_ble_eq_true rfl) dX2_init_11 (fun H locs hP hD hS => ?_)
  have hP : va_P D vwCl [(h0, .inr (2, [.int 1, .int 0, .int 0, .int 0, .int 0, .null, .null, .null, .null, .null, .null, .null, .null, .null]))] H := hP
  have hD : va_D A [(h0, .inr (2, [.int 1, .int 0, .int 0, .int 0, .int 0, .null, .null, .null, .null, .null, .null, .null, .null, .null]))] := hD
  refine lv_aload_n hx hb dX2_init_14 rfl (lv_at hl 0 rfl) ?_
  refine lv_iconst (v := 0) hx hb dX2_init_15 (by decide +kernel) ?_
  refine va_put (D := D) (ci := 2) (v := .int 0) (ty := .int) (C := RX2) (T := TX2) (N := 14) hx hb hts iw_X2_init_2 tyX2 tyX2_ok nmX2 hown hC.1 hP hD hS 0 rfl rfl 2 (by decide +kernel) (hts (.fieldLink RX2 18 "FairWheel$Plan" "bells" "I") (by decide +kernel)) (fun _ h9 => h9) rfl (by decide +kernel) rfl rfl (Nat.le_of_ble_eq_true rfl) dX2_init_16 (fun H locs hP hD hS => ?_)
  have hP : va_P D vwCl [(h0, .inr (2, [.int 1, .int 0, .int 0, .int 0, .int 0, .null, .null, .null, .null, .null, .null, .null, .null, .null]))] H := hP
  have hD : va_D A [(h0, .inr (2, [.int 1, .int 0, .int 0, .int 0, .int 0, .null, .null, .null, .null, .null, .null, .null, .null, .null]))] := hD
  refine lv_aload_n hx hb dX2_init_19 rfl (lv_at hl 0 rfl) ?_
  refine lv_iconst (v := 0) hx hb dX2_init_20 (by decide +kernel) ?_
  refine va_put (D := D) (ci := 2) (v := .int 0) (ty := .int) (C := RX2) (T := TX2) (N := 14) hx hb hts iw_X2_init_2 tyX2 tyX2_ok nmX2 hown hC.1 hP hD hS 0 rfl rfl 3 (by decide +kernel) (hts (.fieldLink RX2 21 "FairWheel$Plan" "count" "I") (by decide +kernel)) (fun _ h9 => h9) rfl (by decide +kernel) rfl rfl (Nat.le_of_ble_eq_true rfl) dX2_init_21 (fun H locs hP hD hS => ?_)
  have hP : va_P D vwCl [(h0, .inr (2, [.int 1, .int 0, .int 0, .int 0, .int 0, .null, .null, .null, .null, .null, .null, .null, .null, .null]))] H := hP
  have hD : va_D A [(h0, .inr (2, [.int 1, .int 0, .int 0, .int 0, .int 0, .null, .null, .null, .null, .null, .null, .null, .null, .null]))] := hD
  refine lv_aload_n hx hb dX2_init_24 rfl (lv_at hl 0 rfl) ?_
  refine lv_iconst (v := 0) hx hb dX2_init_25 (by decide +kernel) ?_
  refine va_put (D := D) (ci := 2) (v := .int 0) (ty := .int) (C := RX2) (T := TX2) (N := 14) hx hb hts iw_X2_init_2 tyX2 tyX2_ok nmX2 hown hC.1 hP hD hS 0 rfl rfl 4 (by decide +kernel) (hts (.fieldLink RX2 24 "FairWheel$Plan" "ops" "I") (by decide +kernel)) (fun _ h9 => h9) rfl (by decide +kernel) rfl rfl (Nat.le_of_ble_eq_true rfl) dX2_init_26 (fun H locs hP hD hS => ?_)
  have hP : va_P D vwCl [(h0, .inr (2, [.int 1, .int 0, .int 0, .int 0, .int 0, .null, .null, .null, .null, .null, .null, .null, .null, .null]))] H := hP
  have hD : va_D A [(h0, .inr (2, [.int 1, .int 0, .int 0, .int 0, .int 0, .null, .null, .null, .null, .null, .null, .null, .null, .null]))] := hD
  refine lv_aload_n hx hb dX2_init_29 rfl (lv_at hl 0 rfl) ?_
  refine lv_bipush (v := 10) hx hb dX2_init_30 (by decide +kernel) ?_
  refine ka_newa (atype := .long) (ty := .long) hx hb (hts (.arrayClass .long) (by decide +kernel)) rfl hC.1 hP hD hS hA 10 (ha_l 10) rfl (by decide +kernel) (Nat.le_of_ble_eq_true rfl) (Nat.le_of_ble_eq_true rfl) (Nat.le_of_ble_eq_true rfl) dX2_init_32 2 rfl (fun q32 H hP hD hS => ?_)
  have hP : va_P D vwCl [(h0, .inr (2, [.int 1, .int 0, .int 0, .int 0, .int 0, .null, .null, .null, .null, .null, .null, .null, .null, .null])), (q32, .inl (ca 2, 10, .inr (.inl (fun _ => 0))))] H := hP
  have hD : va_D A [(h0, .inr (2, [.int 1, .int 0, .int 0, .int 0, .int 0, .null, .null, .null, .null, .null, .null, .null, .null, .null])), (q32, .inl (ca 2, 10, .inr (.inl (fun _ => 0))))] := hD
  refine va_putF (D := D) (ci := 2) (v := .ref q32) (ty := .array .long) (C := RX2) (T := TX2) (N := 14) hx hb hts iw_X2_init_2 tyX2 tyX2_ok nmX2 hown hC.1 hP hD hS 0 rfl rfl 5 (by decide +kernel) (hts (.fieldLink RX2 27 "FairWheel$Plan" "names" "[J") (by decide +kernel)) (fun _ h9 => h9) rfl hin rfl (by decide +kernel) rfl rfl (Nat.le_of_ble_eq_true rfl) dX2_init_34 (fun H locs hP hD hS => ?_)
  have hP : va_P D vwCl [(h0, .inr (2, [.int 1, .int 0, .int 0, .int 0, .int 0, .ref q32, .null, .null, .null, .null, .null, .null, .null, .null])), (q32, .inl (ca 2, 10, .inr (.inl (fun _ => 0))))] H := hP
  have hD : va_D A [(h0, .inr (2, [.int 1, .int 0, .int 0, .int 0, .int 0, .ref q32, .null, .null, .null, .null, .null, .null, .null, .null])), (q32, .inl (ca 2, 10, .inr (.inl (fun _ => 0))))] := hD
  refine lv_aload_n hx hb dX2_init_37 rfl (lv_at hl 0 rfl) ?_
  refine lv_bipush (v := 10) hx hb dX2_init_38 (by decide +kernel) ?_
  refine ka_newa (atype := .int) (ty := .int) hx hb (hts (.arrayClass .int) (by decide +kernel)) rfl hC.1 hP hD hS hA 10 (ha_i 10) rfl (by decide +kernel) (Nat.le_of_ble_eq_true rfl) (Nat.le_of_ble_eq_true rfl) (Nat.le_of_ble_eq_true rfl) dX2_init_40 1 rfl (fun q40 H hP hD hS => ?_)
  have hP : va_P D vwCl [(h0, .inr (2, [.int 1, .int 0, .int 0, .int 0, .int 0, .ref q32, .null, .null, .null, .null, .null, .null, .null, .null])), (q32, .inl (ca 2, 10, .inr (.inl (fun _ => 0)))), (q40, .inl (ca 1, 10, .inl (fun _ => 0)))] H := hP
  have hD : va_D A [(h0, .inr (2, [.int 1, .int 0, .int 0, .int 0, .int 0, .ref q32, .null, .null, .null, .null, .null, .null, .null, .null])), (q32, .inl (ca 2, 10, .inr (.inl (fun _ => 0)))), (q40, .inl (ca 1, 10, .inl (fun _ => 0)))] := hD
  refine va_putF (D := D) (ci := 2) (v := .ref q40) (ty := .array .int) (C := RX2) (T := TX2) (N := 14) hx hb hts iw_X2_init_2 tyX2 tyX2_ok nmX2 hown hC.1 hP hD hS 0 rfl rfl 6 (by decide +kernel) (hts (.fieldLink RX2 31 "FairWheel$Plan" "kinds" "[I") (by decide +kernel)) (fun _ h9 => h9) rfl hin rfl (by decide +kernel) rfl rfl (Nat.le_of_ble_eq_true rfl) dX2_init_42 (fun H locs hP hD hS => ?_)
  have hP : va_P D vwCl [(h0, .inr (2, [.int 1, .int 0, .int 0, .int 0, .int 0, .ref q32, .ref q40, .null, .null, .null, .null, .null, .null, .null])), (q32, .inl (ca 2, 10, .inr (.inl (fun _ => 0)))), (q40, .inl (ca 1, 10, .inl (fun _ => 0)))] H := hP
  have hD : va_D A [(h0, .inr (2, [.int 1, .int 0, .int 0, .int 0, .int 0, .ref q32, .ref q40, .null, .null, .null, .null, .null, .null, .null])), (q32, .inl (ca 2, 10, .inr (.inl (fun _ => 0)))), (q40, .inl (ca 1, 10, .inl (fun _ => 0)))] := hD
  refine lv_aload_n hx hb dX2_init_45 rfl (lv_at hl 0 rfl) ?_
  refine lv_bipush (v := 10) hx hb dX2_init_46 (by decide +kernel) ?_
  refine ka_newa (atype := .int) (ty := .int) hx hb (hts (.arrayClass .int) (by decide +kernel)) rfl hC.1 hP hD hS hA 10 (ha_i 10) rfl (by decide +kernel) (Nat.le_of_ble_eq_true rfl) (Nat.le_of_ble_eq_true rfl) (Nat.le_of_ble_eq_true rfl) dX2_init_48 1 rfl (fun q48 H hP hD hS => ?_)
  have hP : va_P D vwCl [(h0, .inr (2, [.int 1, .int 0, .int 0, .int 0, .int 0, .ref q32, .ref q40, .null, .null, .null, .null, .null, .null, .null])), (q32, .inl (ca 2, 10, .inr (.inl (fun _ => 0)))), (q40, .inl (ca 1, 10, .inl (fun _ => 0))), (q48, .inl (ca 1, 10, .inl (fun _ => 0)))] H := hP
  have hD : va_D A [(h0, .inr (2, [.int 1, .int 0, .int 0, .int 0, .int 0, .ref q32, .ref q40, .null, .null, .null, .null, .null, .null, .null])), (q32, .inl (ca 2, 10, .inr (.inl (fun _ => 0)))), (q40, .inl (ca 1, 10, .inl (fun _ => 0))), (q48, .inl (ca 1, 10, .inl (fun _ => 0)))] := hD
  refine va_putF (D := D) (ci := 2) (v := .ref q48) (ty := .array .int) (C := RX2) (T := TX2) (N := 14) hx hb hts iw_X2_init_2 tyX2 tyX2_ok nmX2 hown hC.1 hP hD hS 0 rfl rfl 7 (by decide +kernel) (hts (.fieldLink RX2 35 "FairWheel$Plan" "shares" "[I") (by decide +kernel)) (fun _ h9 => h9) rfl hin rfl (by decide +kernel) rfl rfl (Nat.le_of_ble_eq_true rfl) dX2_init_50 (fun H locs hP hD hS => ?_)
  have hP : va_P D vwCl [(h0, .inr (2, [.int 1, .int 0, .int 0, .int 0, .int 0, .ref q32, .ref q40, .ref q48, .null, .null, .null, .null, .null, .null])), (q32, .inl (ca 2, 10, .inr (.inl (fun _ => 0)))), (q40, .inl (ca 1, 10, .inl (fun _ => 0))), (q48, .inl (ca 1, 10, .inl (fun _ => 0)))] H := hP
  have hD : va_D A [(h0, .inr (2, [.int 1, .int 0, .int 0, .int 0, .int 0, .ref q32, .ref q40, .ref q48, .null, .null, .null, .null, .null, .null])), (q32, .inl (ca 2, 10, .inr (.inl (fun _ => 0)))), (q40, .inl (ca 1, 10, .inl (fun _ => 0))), (q48, .inl (ca 1, 10, .inl (fun _ => 0)))] := hD
  refine lv_aload_n hx hb dX2_init_53 rfl (lv_at hl 0 rfl) ?_
  refine lv_bipush (v := 10) hx hb dX2_init_54 (by decide +kernel) ?_
  refine ka_newa (atype := .int) (ty := .int) hx hb (hts (.arrayClass .int) (by decide +kernel)) rfl hC.1 hP hD hS hA 10 (ha_i 10) rfl (by decide +kernel) (Nat.le_of_ble_eq_true rfl) (Nat.le_of_ble_eq_true rfl) (Nat.le_of_ble_eq_true rfl) dX2_init_56 1 rfl (fun q56 H hP hD hS => ?_)
  have hP : va_P D vwCl [(h0, .inr (2, [.int 1, .int 0, .int 0, .int 0, .int 0, .ref q32, .ref q40, .ref q48, .null, .null, .null, .null, .null, .null])), (q32, .inl (ca 2, 10, .inr (.inl (fun _ => 0)))), (q40, .inl (ca 1, 10, .inl (fun _ => 0))), (q48, .inl (ca 1, 10, .inl (fun _ => 0))), (q56, .inl (ca 1, 10, .inl (fun _ => 0)))] H := hP
  have hD : va_D A [(h0, .inr (2, [.int 1, .int 0, .int 0, .int 0, .int 0, .ref q32, .ref q40, .ref q48, .null, .null, .null, .null, .null, .null])), (q32, .inl (ca 2, 10, .inr (.inl (fun _ => 0)))), (q40, .inl (ca 1, 10, .inl (fun _ => 0))), (q48, .inl (ca 1, 10, .inl (fun _ => 0))), (q56, .inl (ca 1, 10, .inl (fun _ => 0)))] := hD
  refine va_putF (D := D) (ci := 2) (v := .ref q56) (ty := .array .int) (C := RX2) (T := TX2) (N := 14) hx hb hts iw_X2_init_2 tyX2 tyX2_ok nmX2 hown hC.1 hP hD hS 0 rfl rfl 8 (by decide +kernel) (hts (.fieldLink RX2 38 "FairWheel$Plan" "every" "[I") (by decide +kernel)) (fun _ h9 => h9) rfl hin rfl (by decide +kernel) rfl rfl (Nat.le_of_ble_eq_true rfl) dX2_init_58 (fun H locs hP hD hS => ?_)
  have hP : va_P D vwCl [(h0, .inr (2, [.int 1, .int 0, .int 0, .int 0, .int 0, .ref q32, .ref q40, .ref q48, .ref q56, .null, .null, .null, .null, .null])), (q32, .inl (ca 2, 10, .inr (.inl (fun _ => 0)))), (q40, .inl (ca 1, 10, .inl (fun _ => 0))), (q48, .inl (ca 1, 10, .inl (fun _ => 0))), (q56, .inl (ca 1, 10, .inl (fun _ => 0)))] H := hP
  have hD : va_D A [(h0, .inr (2, [.int 1, .int 0, .int 0, .int 0, .int 0, .ref q32, .ref q40, .ref q48, .ref q56, .null, .null, .null, .null, .null])), (q32, .inl (ca 2, 10, .inr (.inl (fun _ => 0)))), (q40, .inl (ca 1, 10, .inl (fun _ => 0))), (q48, .inl (ca 1, 10, .inl (fun _ => 0))), (q56, .inl (ca 1, 10, .inl (fun _ => 0)))] := hD
  refine lv_aload_n hx hb dX2_init_61 rfl (lv_at hl 0 rfl) ?_
  refine lv_bipush (v := 10) hx hb dX2_init_62 (by decide +kernel) ?_
  refine ka_newa (atype := .int) (ty := .int) hx hb (hts (.arrayClass .int) (by decide +kernel)) rfl hC.1 hP hD hS hA 10 (ha_i 10) rfl (by decide +kernel) (Nat.le_of_ble_eq_true rfl) (Nat.le_of_ble_eq_true rfl) (Nat.le_of_ble_eq_true rfl) dX2_init_64 1 rfl (fun q64 H hP hD hS => ?_)
  have hP : va_P D vwCl [(h0, .inr (2, [.int 1, .int 0, .int 0, .int 0, .int 0, .ref q32, .ref q40, .ref q48, .ref q56, .null, .null, .null, .null, .null])), (q32, .inl (ca 2, 10, .inr (.inl (fun _ => 0)))), (q40, .inl (ca 1, 10, .inl (fun _ => 0))), (q48, .inl (ca 1, 10, .inl (fun _ => 0))), (q56, .inl (ca 1, 10, .inl (fun _ => 0))), (q64, .inl (ca 1, 10, .inl (fun _ => 0)))] H := hP
  have hD : va_D A [(h0, .inr (2, [.int 1, .int 0, .int 0, .int 0, .int 0, .ref q32, .ref q40, .ref q48, .ref q56, .null, .null, .null, .null, .null])), (q32, .inl (ca 2, 10, .inr (.inl (fun _ => 0)))), (q40, .inl (ca 1, 10, .inl (fun _ => 0))), (q48, .inl (ca 1, 10, .inl (fun _ => 0))), (q56, .inl (ca 1, 10, .inl (fun _ => 0))), (q64, .inl (ca 1, 10, .inl (fun _ => 0)))] := hD
  refine va_putF (D := D) (ci := 2) (v := .ref q64) (ty := .array .int) (C := RX2) (T := TX2) (N := 14) hx hb hts iw_X2_init_2 tyX2 tyX2_ok nmX2 hown hC.1 hP hD hS 0 rfl rfl 9 (by decide +kernel) (hts (.fieldLink RX2 41 "FairWheel$Plan" "budget" "[I") (by decide +kernel)) (fun _ h9 => h9) rfl hin rfl (by decide +kernel) rfl rfl (Nat.le_of_ble_eq_true rfl) dX2_init_66 (fun H locs hP hD hS => ?_)
  have hP : va_P D vwCl [(h0, .inr (2, [.int 1, .int 0, .int 0, .int 0, .int 0, .ref q32, .ref q40, .ref q48, .ref q56, .ref q64, .null, .null, .null, .null])), (q32, .inl (ca 2, 10, .inr (.inl (fun _ => 0)))), (q40, .inl (ca 1, 10, .inl (fun _ => 0))), (q48, .inl (ca 1, 10, .inl (fun _ => 0))), (q56, .inl (ca 1, 10, .inl (fun _ => 0))), (q64, .inl (ca 1, 10, .inl (fun _ => 0)))] H := hP
  have hD : va_D A [(h0, .inr (2, [.int 1, .int 0, .int 0, .int 0, .int 0, .ref q32, .ref q40, .ref q48, .ref q56, .ref q64, .null, .null, .null, .null])), (q32, .inl (ca 2, 10, .inr (.inl (fun _ => 0)))), (q40, .inl (ca 1, 10, .inl (fun _ => 0))), (q48, .inl (ca 1, 10, .inl (fun _ => 0))), (q56, .inl (ca 1, 10, .inl (fun _ => 0))), (q64, .inl (ca 1, 10, .inl (fun _ => 0)))] := hD
  refine lv_aload_n hx hb dX2_init_69 rfl (lv_at hl 0 rfl) ?_
  refine lv_bipush (v := 10) hx hb dX2_init_70 (by decide +kernel) ?_
  refine ka_newa (atype := .int) (ty := .int) hx hb (hts (.arrayClass .int) (by decide +kernel)) rfl hC.1 hP hD hS hA 10 (ha_i 10) rfl (by decide +kernel) (Nat.le_of_ble_eq_true rfl) (Nat.le_of_ble_eq_true rfl) (Nat.le_of_ble_eq_true rfl) dX2_init_72 1 rfl (fun q72 H hP hD hS => ?_)
  have hP : va_P D vwCl [(h0, .inr (2, [.int 1, .int 0, .int 0, .int 0, .int 0, .ref q32, .ref q40, .ref q48, .ref q56, .ref q64, .null, .null, .null, .null])), (q32, .inl (ca 2, 10, .inr (.inl (fun _ => 0)))), (q40, .inl (ca 1, 10, .inl (fun _ => 0))), (q48, .inl (ca 1, 10, .inl (fun _ => 0))), (q56, .inl (ca 1, 10, .inl (fun _ => 0))), (q64, .inl (ca 1, 10, .inl (fun _ => 0))), (q72, .inl (ca 1, 10, .inl (fun _ => 0)))] H := hP
  have hD : va_D A [(h0, .inr (2, [.int 1, .int 0, .int 0, .int 0, .int 0, .ref q32, .ref q40, .ref q48, .ref q56, .ref q64, .null, .null, .null, .null])), (q32, .inl (ca 2, 10, .inr (.inl (fun _ => 0)))), (q40, .inl (ca 1, 10, .inl (fun _ => 0))), (q48, .inl (ca 1, 10, .inl (fun _ => 0))), (q56, .inl (ca 1, 10, .inl (fun _ => 0))), (q64, .inl (ca 1, 10, .inl (fun _ => 0))), (q72, .inl (ca 1, 10, .inl (fun _ => 0)))] := hD
  refine va_putF (D := D) (ci := 2) (v := .ref q72) (ty := .array .int) (C := RX2) (T := TX2) (N := 14) hx hb hts iw_X2_init_2 tyX2 tyX2_ok nmX2 hown hC.1 hP hD hS 0 rfl rfl 10 (by decide +kernel) (hts (.fieldLink RX2 44 "FairWheel$Plan" "firstOp" "[I") (by decide +kernel)) (fun _ h9 => h9) rfl hin rfl (by decide +kernel) rfl rfl (Nat.le_of_ble_eq_true rfl) dX2_init_74 (fun H locs hP hD hS => ?_)
  have hP : va_P D vwCl [(h0, .inr (2, [.int 1, .int 0, .int 0, .int 0, .int 0, .ref q32, .ref q40, .ref q48, .ref q56, .ref q64, .ref q72, .null, .null, .null])), (q32, .inl (ca 2, 10, .inr (.inl (fun _ => 0)))), (q40, .inl (ca 1, 10, .inl (fun _ => 0))), (q48, .inl (ca 1, 10, .inl (fun _ => 0))), (q56, .inl (ca 1, 10, .inl (fun _ => 0))), (q64, .inl (ca 1, 10, .inl (fun _ => 0))), (q72, .inl (ca 1, 10, .inl (fun _ => 0)))] H := hP
  have hD : va_D A [(h0, .inr (2, [.int 1, .int 0, .int 0, .int 0, .int 0, .ref q32, .ref q40, .ref q48, .ref q56, .ref q64, .ref q72, .null, .null, .null])), (q32, .inl (ca 2, 10, .inr (.inl (fun _ => 0)))), (q40, .inl (ca 1, 10, .inl (fun _ => 0))), (q48, .inl (ca 1, 10, .inl (fun _ => 0))), (q56, .inl (ca 1, 10, .inl (fun _ => 0))), (q64, .inl (ca 1, 10, .inl (fun _ => 0))), (q72, .inl (ca 1, 10, .inl (fun _ => 0)))] := hD
  refine lv_aload_n hx hb dX2_init_77 rfl (lv_at hl 0 rfl) ?_
  refine lv_bipush (v := 10) hx hb dX2_init_78 (by decide +kernel) ?_
  refine ka_newa (atype := .int) (ty := .int) hx hb (hts (.arrayClass .int) (by decide +kernel)) rfl hC.1 hP hD hS hA 10 (ha_i 10) rfl (by decide +kernel) (Nat.le_of_ble_eq_true rfl) (Nat.le_of_ble_eq_true rfl) (Nat.le_of_ble_eq_true rfl) dX2_init_80 1 rfl (fun q80 H hP hD hS => ?_)
  have hP : va_P D vwCl [(h0, .inr (2, [.int 1, .int 0, .int 0, .int 0, .int 0, .ref q32, .ref q40, .ref q48, .ref q56, .ref q64, .ref q72, .null, .null, .null])), (q32, .inl (ca 2, 10, .inr (.inl (fun _ => 0)))), (q40, .inl (ca 1, 10, .inl (fun _ => 0))), (q48, .inl (ca 1, 10, .inl (fun _ => 0))), (q56, .inl (ca 1, 10, .inl (fun _ => 0))), (q64, .inl (ca 1, 10, .inl (fun _ => 0))), (q72, .inl (ca 1, 10, .inl (fun _ => 0))), (q80, .inl (ca 1, 10, .inl (fun _ => 0)))] H := hP
  have hD : va_D A [(h0, .inr (2, [.int 1, .int 0, .int 0, .int 0, .int 0, .ref q32, .ref q40, .ref q48, .ref q56, .ref q64, .ref q72, .null, .null, .null])), (q32, .inl (ca 2, 10, .inr (.inl (fun _ => 0)))), (q40, .inl (ca 1, 10, .inl (fun _ => 0))), (q48, .inl (ca 1, 10, .inl (fun _ => 0))), (q56, .inl (ca 1, 10, .inl (fun _ => 0))), (q64, .inl (ca 1, 10, .inl (fun _ => 0))), (q72, .inl (ca 1, 10, .inl (fun _ => 0))), (q80, .inl (ca 1, 10, .inl (fun _ => 0)))] := hD
  refine va_putF (D := D) (ci := 2) (v := .ref q80) (ty := .array .int) (C := RX2) (T := TX2) (N := 14) hx hb hts iw_X2_init_2 tyX2 tyX2_ok nmX2 hown hC.1 hP hD hS 0 rfl rfl 11 (by decide +kernel) (hts (.fieldLink RX2 47 "FairWheel$Plan" "opCount" "[I") (by decide +kernel)) (fun _ h9 => h9) rfl hin rfl (by decide +kernel) rfl rfl (Nat.le_of_ble_eq_true rfl) dX2_init_82 (fun H locs hP hD hS => ?_)
  have hP : va_P D vwCl [(h0, .inr (2, [.int 1, .int 0, .int 0, .int 0, .int 0, .ref q32, .ref q40, .ref q48, .ref q56, .ref q64, .ref q72, .ref q80, .null, .null])), (q32, .inl (ca 2, 10, .inr (.inl (fun _ => 0)))), (q40, .inl (ca 1, 10, .inl (fun _ => 0))), (q48, .inl (ca 1, 10, .inl (fun _ => 0))), (q56, .inl (ca 1, 10, .inl (fun _ => 0))), (q64, .inl (ca 1, 10, .inl (fun _ => 0))), (q72, .inl (ca 1, 10, .inl (fun _ => 0))), (q80, .inl (ca 1, 10, .inl (fun _ => 0)))] H := hP
  have hD : va_D A [(h0, .inr (2, [.int 1, .int 0, .int 0, .int 0, .int 0, .ref q32, .ref q40, .ref q48, .ref q56, .ref q64, .ref q72, .ref q80, .null, .null])), (q32, .inl (ca 2, 10, .inr (.inl (fun _ => 0)))), (q40, .inl (ca 1, 10, .inl (fun _ => 0))), (q48, .inl (ca 1, 10, .inl (fun _ => 0))), (q56, .inl (ca 1, 10, .inl (fun _ => 0))), (q64, .inl (ca 1, 10, .inl (fun _ => 0))), (q72, .inl (ca 1, 10, .inl (fun _ => 0))), (q80, .inl (ca 1, 10, .inl (fun _ => 0)))] := hD
  refine lv_aload_n hx hb dX2_init_85 rfl (lv_at hl 0 rfl) ?_
  refine lv_bipush (v := 90) hx hb dX2_init_86 (by decide +kernel) ?_
  refine ka_newa (atype := .int) (ty := .int) hx hb (hts (.arrayClass .int) (by decide +kernel)) rfl hC.1 hP hD hS hA 90 (ha_i 90) rfl (by decide +kernel) (Nat.le_of_ble_eq_true rfl) (Nat.le_of_ble_eq_true rfl) (Nat.le_of_ble_eq_true rfl) dX2_init_88 1 rfl (fun q88 H hP hD hS => ?_)
  have hP : va_P D vwCl [(h0, .inr (2, [.int 1, .int 0, .int 0, .int 0, .int 0, .ref q32, .ref q40, .ref q48, .ref q56, .ref q64, .ref q72, .ref q80, .null, .null])), (q32, .inl (ca 2, 10, .inr (.inl (fun _ => 0)))), (q40, .inl (ca 1, 10, .inl (fun _ => 0))), (q48, .inl (ca 1, 10, .inl (fun _ => 0))), (q56, .inl (ca 1, 10, .inl (fun _ => 0))), (q64, .inl (ca 1, 10, .inl (fun _ => 0))), (q72, .inl (ca 1, 10, .inl (fun _ => 0))), (q80, .inl (ca 1, 10, .inl (fun _ => 0))), (q88, .inl (ca 1, 90, .inl (fun _ => 0)))] H := hP
  have hD : va_D A [(h0, .inr (2, [.int 1, .int 0, .int 0, .int 0, .int 0, .ref q32, .ref q40, .ref q48, .ref q56, .ref q64, .ref q72, .ref q80, .null, .null])), (q32, .inl (ca 2, 10, .inr (.inl (fun _ => 0)))), (q40, .inl (ca 1, 10, .inl (fun _ => 0))), (q48, .inl (ca 1, 10, .inl (fun _ => 0))), (q56, .inl (ca 1, 10, .inl (fun _ => 0))), (q64, .inl (ca 1, 10, .inl (fun _ => 0))), (q72, .inl (ca 1, 10, .inl (fun _ => 0))), (q80, .inl (ca 1, 10, .inl (fun _ => 0))), (q88, .inl (ca 1, 90, .inl (fun _ => 0)))] := hD
  refine va_putF (D := D) (ci := 2) (v := .ref q88) (ty := .array .int) (C := RX2) (T := TX2) (N := 14) hx hb hts iw_X2_init_2 tyX2 tyX2_ok nmX2 hown hC.1 hP hD hS 0 rfl rfl 12 (by decide +kernel) (hts (.fieldLink RX2 50 "FairWheel$Plan" "codes" "[I") (by decide +kernel)) (fun _ h9 => h9) rfl hin rfl (by decide +kernel) rfl rfl (Nat.le_of_ble_eq_true rfl) dX2_init_90 (fun H locs hP hD hS => ?_)
  have hP : va_P D vwCl [(h0, .inr (2, [.int 1, .int 0, .int 0, .int 0, .int 0, .ref q32, .ref q40, .ref q48, .ref q56, .ref q64, .ref q72, .ref q80, .ref q88, .null])), (q32, .inl (ca 2, 10, .inr (.inl (fun _ => 0)))), (q40, .inl (ca 1, 10, .inl (fun _ => 0))), (q48, .inl (ca 1, 10, .inl (fun _ => 0))), (q56, .inl (ca 1, 10, .inl (fun _ => 0))), (q64, .inl (ca 1, 10, .inl (fun _ => 0))), (q72, .inl (ca 1, 10, .inl (fun _ => 0))), (q80, .inl (ca 1, 10, .inl (fun _ => 0))), (q88, .inl (ca 1, 90, .inl (fun _ => 0)))] H := hP
  have hD : va_D A [(h0, .inr (2, [.int 1, .int 0, .int 0, .int 0, .int 0, .ref q32, .ref q40, .ref q48, .ref q56, .ref q64, .ref q72, .ref q80, .ref q88, .null])), (q32, .inl (ca 2, 10, .inr (.inl (fun _ => 0)))), (q40, .inl (ca 1, 10, .inl (fun _ => 0))), (q48, .inl (ca 1, 10, .inl (fun _ => 0))), (q56, .inl (ca 1, 10, .inl (fun _ => 0))), (q64, .inl (ca 1, 10, .inl (fun _ => 0))), (q72, .inl (ca 1, 10, .inl (fun _ => 0))), (q80, .inl (ca 1, 10, .inl (fun _ => 0))), (q88, .inl (ca 1, 90, .inl (fun _ => 0)))] := hD
  refine lv_aload_n hx hb dX2_init_93 rfl (lv_at hl 0 rfl) ?_
  refine lv_bipush (v := 90) hx hb dX2_init_94 (by decide +kernel) ?_
  refine ka_newa (atype := .int) (ty := .int) hx hb (hts (.arrayClass .int) (by decide +kernel)) rfl hC.1 hP hD hS hA 90 (ha_i 90) rfl (by decide +kernel) (Nat.le_of_ble_eq_true rfl) (Nat.le_of_ble_eq_true rfl) (Nat.le_of_ble_eq_true rfl) dX2_init_96 1 rfl (fun q96 H hP hD hS => ?_)
  have hP : va_P D vwCl [(h0, .inr (2, [.int 1, .int 0, .int 0, .int 0, .int 0, .ref q32, .ref q40, .ref q48, .ref q56, .ref q64, .ref q72, .ref q80, .ref q88, .null])), (q32, .inl (ca 2, 10, .inr (.inl (fun _ => 0)))), (q40, .inl (ca 1, 10, .inl (fun _ => 0))), (q48, .inl (ca 1, 10, .inl (fun _ => 0))), (q56, .inl (ca 1, 10, .inl (fun _ => 0))), (q64, .inl (ca 1, 10, .inl (fun _ => 0))), (q72, .inl (ca 1, 10, .inl (fun _ => 0))), (q80, .inl (ca 1, 10, .inl (fun _ => 0))), (q88, .inl (ca 1, 90, .inl (fun _ => 0))), (q96, .inl (ca 1, 90, .inl (fun _ => 0)))] H := hP
  have hD : va_D A [(h0, .inr (2, [.int 1, .int 0, .int 0, .int 0, .int 0, .ref q32, .ref q40, .ref q48, .ref q56, .ref q64, .ref q72, .ref q80, .ref q88, .null])), (q32, .inl (ca 2, 10, .inr (.inl (fun _ => 0)))), (q40, .inl (ca 1, 10, .inl (fun _ => 0))), (q48, .inl (ca 1, 10, .inl (fun _ => 0))), (q56, .inl (ca 1, 10, .inl (fun _ => 0))), (q64, .inl (ca 1, 10, .inl (fun _ => 0))), (q72, .inl (ca 1, 10, .inl (fun _ => 0))), (q80, .inl (ca 1, 10, .inl (fun _ => 0))), (q88, .inl (ca 1, 90, .inl (fun _ => 0))), (q96, .inl (ca 1, 90, .inl (fun _ => 0)))] := hD
  refine va_putF (D := D) (ci := 2) (v := .ref q96) (ty := .array .int) (C := RX2) (T := TX2) (N := 14) hx hb hts iw_X2_init_2 tyX2 tyX2_ok nmX2 hown hC.1 hP hD hS 0 rfl rfl 13 (by decide +kernel) (hts (.fieldLink RX2 53 "FairWheel$Plan" "numbers" "[I") (by decide +kernel)) (fun _ h9 => h9) rfl hin rfl (by decide +kernel) rfl rfl (Nat.le_of_ble_eq_true rfl) dX2_init_98 (fun H locs hP hD hS => ?_)
  have hP : va_P D vwCl [(h0, .inr (2, [.int 1, .int 0, .int 0, .int 0, .int 0, .ref q32, .ref q40, .ref q48, .ref q56, .ref q64, .ref q72, .ref q80, .ref q88, .ref q96])), (q32, .inl (ca 2, 10, .inr (.inl (fun _ => 0)))), (q40, .inl (ca 1, 10, .inl (fun _ => 0))), (q48, .inl (ca 1, 10, .inl (fun _ => 0))), (q56, .inl (ca 1, 10, .inl (fun _ => 0))), (q64, .inl (ca 1, 10, .inl (fun _ => 0))), (q72, .inl (ca 1, 10, .inl (fun _ => 0))), (q80, .inl (ca 1, 10, .inl (fun _ => 0))), (q88, .inl (ca 1, 90, .inl (fun _ => 0))), (q96, .inl (ca 1, 90, .inl (fun _ => 0)))] H := hP
  have hD : va_D A [(h0, .inr (2, [.int 1, .int 0, .int 0, .int 0, .int 0, .ref q32, .ref q40, .ref q48, .ref q56, .ref q64, .ref q72, .ref q80, .ref q88, .ref q96])), (q32, .inl (ca 2, 10, .inr (.inl (fun _ => 0)))), (q40, .inl (ca 1, 10, .inl (fun _ => 0))), (q48, .inl (ca 1, 10, .inl (fun _ => 0))), (q56, .inl (ca 1, 10, .inl (fun _ => 0))), (q64, .inl (ca 1, 10, .inl (fun _ => 0))), (q72, .inl (ca 1, 10, .inl (fun _ => 0))), (q80, .inl (ca 1, 10, .inl (fun _ => 0))), (q88, .inl (ca 1, 90, .inl (fun _ => 0))), (q96, .inl (ca 1, 90, .inl (fun _ => 0)))] := hD
  refine W.widen (k := 9) (n := 250) (by omega) (by omega) ?_
  exact W.vret hx hb hr (fun t ht hW => ⟨⟨(q32, q40, q48, q56, q64, q72, q80, q88, q96), rfl, trivial, by rw [ht]; exact hP.sub [0] rfl, hDA (hD.sub [0] (by decide +kernel) rfl)⟩, hS.F ht⟩) hS.2.2 dX2_init_101
theorem iw_X5_init_5 : ∀ w ∈ u_ws RX5 TX5 6, w ∈ wsX5_init := by decide +kernel
set_option maxHeartbeats 4000000 in
set_option maxRecDepth 100000 in
/-- Scanner(tape) -/
theorem k_X5_init (l : Launch) (D : va_G) (ca : Nat → ClassId) (sz : Nat) (h0 : Nat) (tp : Nat) : Met l yX5_init wsX5_init ({ frames := 1, cells := 0, slots := 0, locals := 12 }) (PC [.ref h0, .ref tp] sz D ca [(h0, .inr (5, [.null, .int 0, .int 0, .int 0, .long 0, .int 0]))]) (QV (fun (u : Unit) => True) (fun (_ : Unit) => [(h0, .inr (5, [.ref tp, .int 0, .int 0, .int 0, .long 0, .int 0]))]) [(h0, .inr (5, [.null, .int 0, .int 0, .int 0, .long 0, .int 0]))] sz D) 0 0 (va_A [(h0, .inr (5, [.null, .int 0, .int 0, .int 0, .long 0, .int 0]))] sz) := by
  refine Met.ofW (cc := cX5_init) (maxL := 2) (ret := none) (by decide +kernel) rfl ?_
  intro p e s m args below meth c s₁ B hml hv
  obtain ⟨rfl, hsz, hP, hC, hD0⟩ := hv
  have hx := B.exec
  have hb := B.bytes
  have hr := B.returns
  have hts := atoms_spec (ws := wsX5_init) B.pre
  have hown : s.vm.findClass RX5 = some m.cls := findClass_of_methodNamed B.named
  have hlocks := B.notSynchronized
  have hin : meth.name = "<init>" := (name_of_methodNamed B.named B.method).1
  subst hsz
  have hD := hD0.self (sz := s.heap.size)
  dsimp only [QV, QI, QL, BQ]
  generalize hAe : va_A [(h0, .inr (5, [.null, .int 0, .int 0, .int 0, .long 0, .int 0]))] s.heap.size = A at hD ⊢
  have hA : ∀ q : Nat, s.heap.size ≤ q → A q := fun q h => by rw [← hAe]; exact Or.inr h
  have hDA : ∀ {w : va_W}, va_D A w → va_D (va_A [(h0, .inr (5, [.null, .int 0, .int 0, .int 0, .long 0, .int 0]))] s.heap.size) w := fun h => by rw [hAe]; exact h
  have hS : va_S A s.heap s.heap [] := va_S.rf
  have hP : va_P D vwCl [(h0, .inr (5, [.null, .int 0, .int 0, .int 0, .long 0, .int 0]))] s.heap := hP
  have hl := lv_entry ([.ref h0, .ref tp]) (n := 2) (Nat.le_of_ble_eq_true rfl)
  rw [lg_entry_eq]
  generalize (lg_sl ([.ref h0, .ref tp]) ++ List.replicate (2 - (lg_sl ([.ref h0, .ref tp])).length) Slot.unset).toArray = ls at hl ⊢
  have hl : lv_has ls 2 [(0, .ref h0), (1, .ref tp)] := hl
  refine lv_aload_n hx hb dX5_init_0 rfl (lv_at hl 0 rfl) ?_
  refine W.objInit hx hb hown (hts (.methodLink RX5 3 objectInit) (by decide +kernel)) (hts (.instanceMethod objectInit) (by decide +kernel)) (hts (.code objectInit ⟨#[0xb1]⟩ 1 none) (by decide +kernel)) rfl (by rw [hml]; exact hl.1) rfl dX5_init_1 (Nat.le_of_ble_eq_true rfl) (Nat.le_of_ble_eq_true rfl) ?_
  refine W.eq (g2 := F0 m 4 ls []) rfl ?_
  refine lv_aload_n hx hb dX5_init_4 rfl (lv_at hl 0 rfl) ?_
  refine lv_aload_n hx hb dX5_init_5 rfl (lv_at hl 1 rfl) ?_
  refine va_putF (D := D) (ci := 5) (v := .ref tp) (ty := .object "FairWheel$Tape") (C := RX5) (T := TX5) (N := 6) hx hb hts iw_X5_init_5 tyX5 tyX5_ok nmX5 hown hC.1 hP hD hS 0 rfl rfl 0 (by decide +kernel) (hts (.fieldLink RX5 9 "FairWheel$Scanner" "tape" "LFairWheel$Tape;") (by decide +kernel)) (fun _ h9 => h9) rfl hin rfl (by decide +kernel) rfl rfl (Nat.le_of_ble_eq_true rfl) dX5_init_6 (fun H locs hP hD hS => ?_)
  have hP : va_P D vwCl [(h0, .inr (5, [.ref tp, .int 0, .int 0, .int 0, .long 0, .int 0]))] H := hP
  have hD : va_D A [(h0, .inr (5, [.ref tp, .int 0, .int 0, .int 0, .long 0, .int 0]))] := hD
  refine lv_aload_n hx hb dX5_init_9 rfl (lv_at hl 0 rfl) ?_
  refine lv_iconst (v := 0) hx hb dX5_init_10 (by decide +kernel) ?_
  refine va_put (D := D) (ci := 5) (v := .int 0) (ty := .int) (C := RX5) (T := TX5) (N := 6) hx hb hts iw_X5_init_5 tyX5 tyX5_ok nmX5 hown hC.1 hP hD hS 0 rfl rfl 1 (by decide +kernel) (hts (.fieldLink RX5 15 "FairWheel$Scanner" "at" "I") (by decide +kernel)) (fun _ h9 => h9) rfl (by decide +kernel) rfl rfl (Nat.le_of_ble_eq_true rfl) dX5_init_11 (fun H locs hP hD hS => ?_)
  have hP : va_P D vwCl [(h0, .inr (5, [.ref tp, .int 0, .int 0, .int 0, .long 0, .int 0]))] H := hP
  have hD : va_D A [(h0, .inr (5, [.ref tp, .int 0, .int 0, .int 0, .long 0, .int 0]))] := hD
  exact W.vret hx hb hr (fun t ht hW => ⟨⟨(), rfl, trivial, by rw [ht]; exact hP.sub [0] rfl, hDA (hD.sub [0] (by decide +kernel) rfl)⟩, hS.F ht⟩) hS.2.2 dX5_init_14
theorem iw_X3_init_3 : ∀ w ∈ u_ws RX3 TX3 6, w ∈ wsX3_init := by decide +kernel
theorem iw_X3_init_5 : ∀ w ∈ u_ws RX5 TX5 6, w ∈ wsX3_init := by decide +kernel
set_option maxHeartbeats 4000000 in
set_option maxRecDepth 100000 in
/-- Reader(tape, plan) -/
theorem k_X3_init (l : Launch) (D : va_G) (ca : Nat → ClassId) (sz : Nat) (h0 : Nat) (tp : Nat) (pl : Nat) : Met l yX3_init wsX3_init ({ frames := 2, cells := 1, slots := 6, locals := 33 }) (PC [.ref h0, .ref tp, .ref pl] sz D ca [(h0, .inr (3, [.null, .null, .int 0, .int 0, .int 0, .int 0]))]) (QV (fun (u : Nat) => True) (fun (u : Nat) => [(h0, .inr (3, [.ref u, .ref pl, .int 0, .int 0, .int 0, .int (-1)])), (u, .inr (5, [.ref tp, .int 0, .int 0, .int 0, .long 0, .int 0]))]) [(h0, .inr (3, [.null, .null, .int 0, .int 0, .int 0, .int 0]))] sz D) 1 6 (va_A [(h0, .inr (3, [.null, .null, .int 0, .int 0, .int 0, .int 0]))] sz) := by
  refine Met.ofW (cc := cX3_init) (maxL := 3) (ret := none) (by decide +kernel) rfl ?_
  intro p e s m args below meth c s₁ B hml hv
  obtain ⟨rfl, hsz, hP, hC, hD0⟩ := hv
  have hx := B.exec
  have hb := B.bytes
  have hr := B.returns
  have hts := atoms_spec (ws := wsX3_init) B.pre
  have hown : s.vm.findClass RX3 = some m.cls := findClass_of_methodNamed B.named
  have hlocks := B.notSynchronized
  have hin : meth.name = "<init>" := (name_of_methodNamed B.named B.method).1
  subst hsz
  have hD := hD0.self (sz := s.heap.size)
  dsimp only [QV, QI, QL, BQ]
  generalize hAe : va_A [(h0, .inr (3, [.null, .null, .int 0, .int 0, .int 0, .int 0]))] s.heap.size = A at hD ⊢
  have hA : ∀ q : Nat, s.heap.size ≤ q → A q := fun q h => by rw [← hAe]; exact Or.inr h
  have hDA : ∀ {w : va_W}, va_D A w → va_D (va_A [(h0, .inr (3, [.null, .null, .int 0, .int 0, .int 0, .int 0]))] s.heap.size) w := fun h => by rw [hAe]; exact h
  have hS : va_S A s.heap s.heap [] := va_S.rf
  have hP : va_P D vwCl [(h0, .inr (3, [.null, .null, .int 0, .int 0, .int 0, .int 0]))] s.heap := hP
  have hl := lv_entry ([.ref h0, .ref tp, .ref pl]) (n := 3) (Nat.le_of_ble_eq_true rfl)
  rw [lg_entry_eq]
  generalize (lg_sl ([.ref h0, .ref tp, .ref pl]) ++ List.replicate (3 - (lg_sl ([.ref h0, .ref tp, .ref pl])).length) Slot.unset).toArray = ls at hl ⊢
  have hl : lv_has ls 3 [(0, .ref h0), (1, .ref tp), (2, .ref pl)] := hl
  refine lv_aload_n hx hb dX3_init_0 rfl (lv_at hl 0 rfl) ?_
  refine W.objInit hx hb hown (hts (.methodLink RX3 3 objectInit) (by decide +kernel)) (hts (.instanceMethod objectInit) (by decide +kernel)) (hts (.code objectInit ⟨#[0xb1]⟩ 1 none) (by decide +kernel)) rfl (by rw [hml]; exact hl.1) rfl dX3_init_1 (Nat.le_of_ble_eq_true rfl) (Nat.le_of_ble_eq_true rfl) ?_
  refine W.eq (g2 := F0 m 4 ls []) rfl ?_
  refine lv_aload_n hx hb dX3_init_4 rfl (lv_at hl 0 rfl) ?_
  refine lv_iconst (v := 0) hx hb dX3_init_5 (by decide +kernel) ?_
  refine va_put (D := D) (ci := 3) (v := .int 0) (ty := .int) (C := RX3) (T := TX3) (N := 6) hx hb hts iw_X3_init_3 tyX3 tyX3_ok nmX3 hown hC.1 hP hD hS 0 rfl rfl 4 (by decide +kernel) (hts (.fieldLink RX3 9 "FairWheel$Reader" "found" "I") (by decide +kernel)) (fun _ h9 => h9) rfl (by decide +kernel) rfl rfl (Nat.le_of_ble_eq_true rfl) dX3_init_6 (fun H locs hP hD hS => ?_)
  have hP : va_P D vwCl [(h0, .inr (3, [.null, .null, .int 0, .int 0, .int 0, .int 0]))] H := hP
  have hD : va_D A [(h0, .inr (3, [.null, .null, .int 0, .int 0, .int 0, .int 0]))] := hD
  refine lv_aload_n hx hb dX3_init_9 rfl (lv_at hl 0 rfl) ?_
  refine lv_iconst (v := (-1)) hx hb dX3_init_10 (by decide +kernel) ?_
  refine va_put (D := D) (ci := 3) (v := .int (-1)) (ty := .int) (C := RX3) (T := TX3) (N := 6) hx hb hts iw_X3_init_3 tyX3 tyX3_ok nmX3 hown hC.1 hP hD hS 0 rfl rfl 5 (by decide +kernel) (hts (.fieldLink RX3 15 "FairWheel$Reader" "foundAt" "I") (by decide +kernel)) (fun _ h9 => h9) rfl (by decide +kernel) rfl rfl (Nat.le_of_ble_eq_true rfl) dX3_init_11 (fun H locs hP hD hS => ?_)
  have hP : va_P D vwCl [(h0, .inr (3, [.null, .null, .int 0, .int 0, .int 0, .int (-1)]))] H := hP
  have hD : va_D A [(h0, .inr (3, [.null, .null, .int 0, .int 0, .int 0, .int (-1)]))] := hD
  refine lv_aload_n hx hb dX3_init_14 rfl (lv_at hl 0 rfl) ?_
  refine va_new (ci := 5) (fs := [.null, .int 0, .int 0, .int 0, .long 0, .int 0]) (C := RX5) (T := TX5) (N := 6) hx hb hts iw_X3_init_5 tyX5 tyX5_ok hown (hts (.classLink RX3 18 RX5) (by decide +kernel)) (hts (.instantiable RX5 6) (by decide +kernel)) (hts (.initialized RX5) (by decide +kernel)) hC.1 hP hD hS hA rfl df_X5 (Nat.le_of_ble_eq_true rfl) (Nat.le_of_ble_eq_true rfl) dX3_init_15 (fun q15 H hP hD hS => ?_)
  have hP : va_P D vwCl [(h0, .inr (3, [.null, .null, .int 0, .int 0, .int 0, .int (-1)])), (q15, .inr (5, [.null, .int 0, .int 0, .int 0, .long 0, .int 0]))] H := hP
  have hD : va_D A [(h0, .inr (3, [.null, .null, .int 0, .int 0, .int 0, .int (-1)])), (q15, .inr (5, [.null, .int 0, .int 0, .int 0, .long 0, .int 0]))] := hD
  refine lv_dup hx hb dX3_init_18 rfl ?_
  refine lv_aload_n hx hb dX3_init_19 rfl (lv_at hl 1 rfl) ?_
  refine kc_v (wr := [(h0, .inr (3, [.null, .null, .int 0, .int 0, .int 0, .int (-1)]))]) (va_runI (As := [.ref tp]) (rest := [.ref q15, .ref h0]) ⟨hx, hb, hml, hown, hts⟩ (k_X5_init l D ca H.size q15 tp) (cwI 1 hts gX3_init_X5_init rfl rfl rfl (hts (.initialized RX5) (by decide +kernel)) (hts (.methodLink RX3 20 yX5_init) (by decide +kernel)) (hts (.instanceMethod yX5_init) (by decide +kernel)) rfl (by decide +kernel) ⟨(Nat.le_of_ble_eq_true rfl), (Nat.le_of_ble_eq_true rfl)⟩) (PC.preS hC hP hD [1] rfl (by decide +kernel)) rfl rfl hl.1 rfl (lv_room (Nat.le_of_ble_eq_true rfl)) dX3_init_20 ⟨(Nat.le_of_ble_eq_true rfl), (Nat.le_of_ble_eq_true rfl)⟩) hP hD hS hA [1] [0] rfl rfl (by decide +kernel) (by decide +kernel) (fun u_2 H locs hw_1 hP hD hS => ?_)
  have hP : va_P D vwCl [(h0, .inr (3, [.null, .null, .int 0, .int 0, .int 0, .int (-1)])), (q15, .inr (5, [.ref tp, .int 0, .int 0, .int 0, .long 0, .int 0]))] H := hP
  have hD : va_D A [(h0, .inr (3, [.null, .null, .int 0, .int 0, .int 0, .int (-1)])), (q15, .inr (5, [.ref tp, .int 0, .int 0, .int 0, .long 0, .int 0]))] := hD
  refine va_putF (D := D) (ci := 3) (v := .ref q15) (ty := .object "FairWheel$Scanner") (C := RX3) (T := TX3) (N := 6) hx hb hts iw_X3_init_3 tyX3 tyX3_ok nmX3 hown hC.1 hP hD hS 0 rfl rfl 0 (by decide +kernel) (hts (.fieldLink RX3 23 "FairWheel$Reader" "scanner" "LFairWheel$Scanner;") (by decide +kernel)) (fun _ h9 => h9) rfl hin rfl (by decide +kernel) rfl rfl (Nat.le_of_ble_eq_true rfl) dX3_init_23 (fun H locs hP hD hS => ?_)
  have hP : va_P D vwCl [(h0, .inr (3, [.ref q15, .null, .int 0, .int 0, .int 0, .int (-1)])), (q15, .inr (5, [.ref tp, .int 0, .int 0, .int 0, .long 0, .int 0]))] H := hP
  have hD : va_D A [(h0, .inr (3, [.ref q15, .null, .int 0, .int 0, .int 0, .int (-1)])), (q15, .inr (5, [.ref tp, .int 0, .int 0, .int 0, .long 0, .int 0]))] := hD
  refine lv_aload_n hx hb dX3_init_26 rfl (lv_at hl 0 rfl) ?_
  refine lv_aload_n hx hb dX3_init_27 rfl (lv_at hl 2 rfl) ?_
  refine va_put (D := D) (ci := 3) (v := .ref pl) (ty := .object "FairWheel$Plan") (C := RX3) (T := TX3) (N := 6) hx hb hts iw_X3_init_3 tyX3 tyX3_ok nmX3 hown hC.1 hP hD hS 0 rfl rfl 1 (by decide +kernel) (hts (.fieldLink RX3 27 "FairWheel$Reader" "into" "LFairWheel$Plan;") (by decide +kernel)) (fun _ h9 => h9) rfl (by decide +kernel) rfl rfl (Nat.le_of_ble_eq_true rfl) dX3_init_28 (fun H locs hP hD hS => ?_)
  have hP : va_P D vwCl [(h0, .inr (3, [.ref q15, .ref pl, .int 0, .int 0, .int 0, .int (-1)])), (q15, .inr (5, [.ref tp, .int 0, .int 0, .int 0, .long 0, .int 0]))] H := hP
  have hD : va_D A [(h0, .inr (3, [.ref q15, .ref pl, .int 0, .int 0, .int 0, .int (-1)])), (q15, .inr (5, [.ref tp, .int 0, .int 0, .int 0, .long 0, .int 0]))] := hD
  refine W.widen (k := 1) (n := 6) (by omega) (by omega) ?_
  exact W.vret hx hb hr (fun t ht hW => ⟨⟨q15, rfl, trivial, by rw [ht]; exact hP.sub [0, 1] rfl, hDA (hD.sub [0, 1] (by decide +kernel) rfl)⟩, hS.F ht⟩) hS.2.2 dX3_init_31
theorem iw_X8_init_8 : ∀ w ∈ u_ws RX8 TX8 17, w ∈ wsX8_init := by decide +kernel
set_option maxHeartbeats 4000000 in
set_option maxRecDepth 100000 in
/-- Task() -/
theorem k_X8_init (l : Launch) (D : va_G) (ca : Nat → ClassId) (sz : Nat) (h0 : Nat) : Met l yX8_init wsX8_init ({ frames := 1, cells := 1, slots := 10, locals := 12 }) (PC [.ref h0] sz D ca [(h0, .inr (8, [.int 0, .int 0, .int 0, .int 0, .int 0, .int 0, .int 0, .int 0, .int 0, .int 0, .int 0, .int 0, .int 0, .int 0, .long 0, .int 0, .null]))]) (QV (fun (u : Nat) => True) (fun (u : Nat) => [(h0, .inr (8, [.int 0, .int 0, .int 0, .int 0, .int 0, .int 0, .int 0, .int 0, .int 0, .int 0, .int 0, .int 0, .int 0, .int 0, .long 0, .int 0, .ref u]))]) [(h0, .inr (8, [.int 0, .int 0, .int 0, .int 0, .int 0, .int 0, .int 0, .int 0, .int 0, .int 0, .int 0, .int 0, .int 0, .int 0, .long 0, .int 0, .null]))] sz D) 1 10 (va_A [(h0, .inr (8, [.int 0, .int 0, .int 0, .int 0, .int 0, .int 0, .int 0, .int 0, .int 0, .int 0, .int 0, .int 0, .int 0, .int 0, .long 0, .int 0, .null]))] sz) := by
  refine Met.ofW (cc := cX8_init) (maxL := 1) (ret := none) (by decide +kernel) rfl ?_
  intro p e s m args below meth c s₁ B hml hv
  obtain ⟨rfl, hsz, hP, hC, hD0⟩ := hv
  have hx := B.exec
  have hb := B.bytes
  have hr := B.returns
  have hts := atoms_spec (ws := wsX8_init) B.pre
  have hown : s.vm.findClass RX8 = some m.cls := findClass_of_methodNamed B.named
  have hlocks := B.notSynchronized
  have hin : meth.name = "<init>" := (name_of_methodNamed B.named B.method).1
  subst hsz
  have hD := hD0.self (sz := s.heap.size)
  dsimp only [QV, QI, QL, BQ]
  generalize hAe : va_A [(h0, .inr (8, [.int 0, .int 0, .int 0, .int 0, .int 0, .int 0, .int 0, .int 0, .int 0, .int 0, .int 0, .int 0, .int 0, .int 0, .long 0, .int 0, .null]))] s.heap.size = A at hD ⊢
  have hA : ∀ q : Nat, s.heap.size ≤ q → A q := fun q h => by rw [← hAe]; exact Or.inr h
  have hDA : ∀ {w : va_W}, va_D A w → va_D (va_A [(h0, .inr (8, [.int 0, .int 0, .int 0, .int 0, .int 0, .int 0, .int 0, .int 0, .int 0, .int 0, .int 0, .int 0, .int 0, .int 0, .long 0, .int 0, .null]))] s.heap.size) w := fun h => by rw [hAe]; exact h
  have hS : va_S A s.heap s.heap [] := va_S.rf
  have hP : va_P D vwCl [(h0, .inr (8, [.int 0, .int 0, .int 0, .int 0, .int 0, .int 0, .int 0, .int 0, .int 0, .int 0, .int 0, .int 0, .int 0, .int 0, .long 0, .int 0, .null]))] s.heap := hP
  have hl := lv_entry ([.ref h0]) (n := 1) (Nat.le_of_ble_eq_true rfl)
  rw [lg_entry_eq]
  generalize (lg_sl ([.ref h0]) ++ List.replicate (1 - (lg_sl ([.ref h0])).length) Slot.unset).toArray = ls at hl ⊢
  have hl : lv_has ls 1 [(0, .ref h0)] := hl
  refine lv_aload_n hx hb dX8_init_0 rfl (lv_at hl 0 rfl) ?_
  refine W.objInit hx hb hown (hts (.methodLink RX8 3 objectInit) (by decide +kernel)) (hts (.instanceMethod objectInit) (by decide +kernel)) (hts (.code objectInit ⟨#[0xb1]⟩ 1 none) (by decide +kernel)) rfl (by rw [hml]; exact hl.1) rfl dX8_init_1 (Nat.le_of_ble_eq_true rfl) (Nat.le_of_ble_eq_true rfl) ?_
  refine W.eq (g2 := F0 m 4 ls []) rfl ?_
  refine lv_aload_n hx hb dX8_init_4 rfl (lv_at hl 0 rfl) ?_
  refine lv_bipush (v := 10) hx hb dX8_init_5 (by decide +kernel) ?_
  refine ka_newa (atype := .int) (ty := .int) hx hb (hts (.arrayClass .int) (by decide +kernel)) rfl hC.1 hP hD hS hA 10 (ha_i 10) rfl (by decide +kernel) (Nat.le_of_ble_eq_true rfl) (Nat.le_of_ble_eq_true rfl) (Nat.le_of_ble_eq_true rfl) dX8_init_7 1 rfl (fun q7 H hP hD hS => ?_)
  have hP : va_P D vwCl [(h0, .inr (8, [.int 0, .int 0, .int 0, .int 0, .int 0, .int 0, .int 0, .int 0, .int 0, .int 0, .int 0, .int 0, .int 0, .int 0, .long 0, .int 0, .null])), (q7, .inl (ca 1, 10, .inl (fun _ => 0)))] H := hP
  have hD : va_D A [(h0, .inr (8, [.int 0, .int 0, .int 0, .int 0, .int 0, .int 0, .int 0, .int 0, .int 0, .int 0, .int 0, .int 0, .int 0, .int 0, .long 0, .int 0, .null])), (q7, .inl (ca 1, 10, .inl (fun _ => 0)))] := hD
  refine va_putF (D := D) (ci := 8) (v := .ref q7) (ty := .array .int) (C := RX8) (T := TX8) (N := 17) hx hb hts iw_X8_init_8 tyX8 tyX8_ok nmX8 hown hC.1 hP hD hS 0 rfl rfl 16 (by decide +kernel) (hts (.fieldLink RX8 9 "FairWheel$Task" "ringOf" "[I") (by decide +kernel)) (fun _ h9 => h9) rfl hin rfl (by decide +kernel) rfl rfl (Nat.le_of_ble_eq_true rfl) dX8_init_9 (fun H locs hP hD hS => ?_)
  have hP : va_P D vwCl [(h0, .inr (8, [.int 0, .int 0, .int 0, .int 0, .int 0, .int 0, .int 0, .int 0, .int 0, .int 0, .int 0, .int 0, .int 0, .int 0, .long 0, .int 0, .ref q7])), (q7, .inl (ca 1, 10, .inl (fun _ => 0)))] H := hP
  have hD : va_D A [(h0, .inr (8, [.int 0, .int 0, .int 0, .int 0, .int 0, .int 0, .int 0, .int 0, .int 0, .int 0, .int 0, .int 0, .int 0, .int 0, .long 0, .int 0, .ref q7])), (q7, .inl (ca 1, 10, .inl (fun _ => 0)))] := hD
  refine W.widen (k := 1) (n := 10) (by omega) (by omega) ?_
  exact W.vret hx hb hr (fun t ht hW => ⟨⟨q7, rfl, trivial, by rw [ht]; exact hP.sub [0] rfl, hDA (hD.sub [0] (by decide +kernel) rfl)⟩, hS.F ht⟩) hS.2.2 dX8_init_12
theorem iw_X9_begin_2 : ∀ w ∈ u_ws RX2 TX2 14, w ∈ wsX9_begin := by decide +kernel
theorem iw_X9_begin_9 : ∀ w ∈ u_ws RX9 TX9 6, w ∈ wsX9_begin := by decide +kernel
set_option maxHeartbeats 4000000 in
set_option maxRecDepth 100000 in
/-- Wheel.begin of an empty plan, at first -/
theorem k_X9_begin_n (l : Launch) (D : va_G) (ca : Nat → ClassId) (sz : Nat) (h0 : Nat) (w2 : Nat) (w3 : Nat) (w4 : Nat) (w5 : Nat) (pl : Nat) (pl5 : Nat) (pl6 : Nat) (pl7 : Nat) (pl8 : Nat) (pl9 : Nat) (pl10 : Nat) (pl11 : Nat) (pl12 : Nat) (pl13 : Nat) (fh : Nat → Int32) : Met l yX9_begin wsX9_begin ({ frames := 0, cells := 0, slots := 0, locals := 0 }) (PC [.ref h0, .ref pl] sz D ca [(h0, .inr (9, [.null, .int 0, .ref w2, .ref w3, .ref w4, .ref w5])), (pl, .inr (2, [.int 1, .int 0, .int 0, .int 0, .int 0, .ref pl5, .ref pl6, .ref pl7, .ref pl8, .ref pl9, .ref pl10, .ref pl11, .ref pl12, .ref pl13])), (w3, .inl (ca 1, 6, .inl fh))]) (QV (fun (u : (Nat → Int32)) => True) (fun (u : (Nat → Int32)) => [(h0, .inr (9, [.ref pl, .int 0, .ref w2, .ref w3, .ref w4, .ref w5])), (pl, .inr (2, [.int 1, .int 0, .int 0, .int 0, .int 0, .ref pl5, .ref pl6, .ref pl7, .ref pl8, .ref pl9, .ref pl10, .ref pl11, .ref pl12, .ref pl13])), (w3, .inl (ca 1, 6, .inl u))]) [(h0, .inr (9, [.null, .int 0, .ref w2, .ref w3, .ref w4, .ref w5])), (pl, .inr (2, [.int 1, .int 0, .int 0, .int 0, .int 0, .ref pl5, .ref pl6, .ref pl7, .ref pl8, .ref pl9, .ref pl10, .ref pl11, .ref pl12, .ref pl13])), (w3, .inl (ca 1, 6, .inl fh))] sz D) 0 0 (va_A [(h0, .inr (9, [.null, .int 0, .ref w2, .ref w3, .ref w4, .ref w5])), (pl, .inr (2, [.int 1, .int 0, .int 0, .int 0, .int 0, .ref pl5, .ref pl6, .ref pl7, .ref pl8, .ref pl9, .ref pl10, .ref pl11, .ref pl12, .ref pl13])), (w3, .inl (ca 1, 6, .inl fh))] sz) := by
  refine Met.ofW (cc := cX9_begin) (maxL := 3) (ret := none) (by decide +kernel) rfl ?_
  intro p e s m args below meth c s₁ B hml hv
  obtain ⟨rfl, hsz, hP, hC, hD0⟩ := hv
  have hx := B.exec
  have hb := B.bytes
  have hr := B.returns
  have hts := atoms_spec (ws := wsX9_begin) B.pre
  have hown : s.vm.findClass RX9 = some m.cls := findClass_of_methodNamed B.named
  have hlocks := B.notSynchronized
  subst hsz
  have hD := hD0.self (sz := s.heap.size)
  dsimp only [QV, QI, QL, BQ]
  generalize hAe : va_A [(h0, .inr (9, [.null, .int 0, .ref w2, .ref w3, .ref w4, .ref w5])), (pl, .inr (2, [.int 1, .int 0, .int 0, .int 0, .int 0, .ref pl5, .ref pl6, .ref pl7, .ref pl8, .ref pl9, .ref pl10, .ref pl11, .ref pl12, .ref pl13])), (w3, .inl (ca 1, 6, .inl fh))] s.heap.size = A at hD ⊢
  have hA : ∀ q : Nat, s.heap.size ≤ q → A q := fun q h => by rw [← hAe]; exact Or.inr h
  have hDA : ∀ {w : va_W}, va_D A w → va_D (va_A [(h0, .inr (9, [.null, .int 0, .ref w2, .ref w3, .ref w4, .ref w5])), (pl, .inr (2, [.int 1, .int 0, .int 0, .int 0, .int 0, .ref pl5, .ref pl6, .ref pl7, .ref pl8, .ref pl9, .ref pl10, .ref pl11, .ref pl12, .ref pl13])), (w3, .inl (ca 1, 6, .inl fh))] s.heap.size) w := fun h => by rw [hAe]; exact h
  have hS : va_S A s.heap s.heap [] := va_S.rf
  have hP : va_P D vwCl [(h0, .inr (9, [.null, .int 0, .ref w2, .ref w3, .ref w4, .ref w5])), (pl, .inr (2, [.int 1, .int 0, .int 0, .int 0, .int 0, .ref pl5, .ref pl6, .ref pl7, .ref pl8, .ref pl9, .ref pl10, .ref pl11, .ref pl12, .ref pl13])), (w3, .inl (ca 1, 6, .inl fh))] s.heap := hP
  have hl := lv_entry ([.ref h0, .ref pl]) (n := 3) (Nat.le_of_ble_eq_true rfl)
  rw [lg_entry_eq]
  generalize (lg_sl ([.ref h0, .ref pl]) ++ List.replicate (3 - (lg_sl ([.ref h0, .ref pl])).length) Slot.unset).toArray = ls at hl ⊢
  have hl : lv_has ls 3 [(0, .ref h0), (1, .ref pl)] := hl
  refine lv_aload_n hx hb dX9_begin_0 rfl (lv_at hl 0 rfl) ?_
  refine lv_aload_n hx hb dX9_begin_1 rfl (lv_at hl 1 rfl) ?_
  refine va_put (D := D) (ci := 9) (v := .ref pl) (ty := .object "FairWheel$Plan") (C := RX9) (T := TX9) (N := 6) hx hb hts iw_X9_begin_9 tyX9 tyX9_ok nmX9 hown hC.1 hP hD hS 0 rfl rfl 0 (by decide +kernel) (hts (.fieldLink RX9 33 "FairWheel$Wheel" "plan" "LFairWheel$Plan;") (by decide +kernel)) (fun _ h9 => h9) rfl (by decide +kernel) rfl rfl (Nat.le_of_ble_eq_true rfl) dX9_begin_2 (fun H locs hP hD hS => ?_)
  have hP : va_P D vwCl [(h0, .inr (9, [.ref pl, .int 0, .ref w2, .ref w3, .ref w4, .ref w5])), (pl, .inr (2, [.int 1, .int 0, .int 0, .int 0, .int 0, .ref pl5, .ref pl6, .ref pl7, .ref pl8, .ref pl9, .ref pl10, .ref pl11, .ref pl12, .ref pl13])), (w3, .inl (ca 1, 6, .inl fh))] H := hP
  have hD : va_D A [(h0, .inr (9, [.ref pl, .int 0, .ref w2, .ref w3, .ref w4, .ref w5])), (pl, .inr (2, [.int 1, .int 0, .int 0, .int 0, .int 0, .ref pl5, .ref pl6, .ref pl7, .ref pl8, .ref pl9, .ref pl10, .ref pl11, .ref pl12, .ref pl13])), (w3, .inl (ca 1, 6, .inl fh))] := hD
  refine lv_aload_n hx hb dX9_begin_5 rfl (lv_at hl 0 rfl) ?_
  refine lv_iconst (v := 0) hx hb dX9_begin_6 (by decide +kernel) ?_
  refine va_put (D := D) (ci := 9) (v := .int 0) (ty := .int) (C := RX9) (T := TX9) (N := 6) hx hb hts iw_X9_begin_9 tyX9 tyX9_ok nmX9 hown hC.1 hP hD hS 0 rfl rfl 1 (by decide +kernel) (hts (.fieldLink RX9 37 "FairWheel$Wheel" "now" "I") (by decide +kernel)) (fun _ h9 => h9) rfl (by decide +kernel) rfl rfl (Nat.le_of_ble_eq_true rfl) dX9_begin_7 (fun H locs hP hD hS => ?_)
  have hP : va_P D vwCl [(h0, .inr (9, [.ref pl, .int 0, .ref w2, .ref w3, .ref w4, .ref w5])), (pl, .inr (2, [.int 1, .int 0, .int 0, .int 0, .int 0, .ref pl5, .ref pl6, .ref pl7, .ref pl8, .ref pl9, .ref pl10, .ref pl11, .ref pl12, .ref pl13])), (w3, .inl (ca 1, 6, .inl fh))] H := hP
  have hD : va_D A [(h0, .inr (9, [.ref pl, .int 0, .ref w2, .ref w3, .ref w4, .ref w5])), (pl, .inr (2, [.int 1, .int 0, .int 0, .int 0, .int 0, .ref pl5, .ref pl6, .ref pl7, .ref pl8, .ref pl9, .ref pl10, .ref pl11, .ref pl12, .ref pl13])), (w3, .inl (ca 1, 6, .inl fh))] := hD
  refine lv_iconst (v := 0) hx hb dX9_begin_10 (by decide +kernel) ?_
  refine lv_istore_n (lv' := [(2, .int 0), (0, .ref h0), (1, .ref pl)]) hx hb dX9_begin_11 rfl hl (by decide +kernel) rfl (fun ls hl => ?_)
  refine lv_iload_n hx hb dX9_begin_12 rfl (lv_at hl 0 rfl) ?_
  refine lv_aload_n hx hb dX9_begin_13 rfl (lv_at hl 1 rfl) ?_
  refine va_get (D := D) (ci := 9) (v := .ref pl) (C := RX9) (T := TX9) (N := 6) hx hb hts iw_X9_begin_9 hown hC.1 hP 0 rfl rfl 0 (by decide +kernel) (hts (.fieldLink RX9 33 "FairWheel$Wheel" "plan" "LFairWheel$Plan;") (by decide +kernel)) (fun _ h9 => h9) rfl dX9_begin_14 ?_
  refine va_get (D := D) (ci := 2) (v := .int 0) (C := RX2) (T := TX2) (N := 14) hx hb hts iw_X9_begin_2 hown hC.1 hP 1 rfl rfl 3 (by decide +kernel) (hts (.fieldLink RX9 41 "FairWheel$Plan" "count" "I") (by decide +kernel)) (fun _ h9 => h9) rfl dX9_begin_17 ?_
  refine lv_icmp_ge (tgt := 77) hx hb dX9_begin_20 (by decide +kernel) (fun c_1 => ?_) (fun c_1 => absurd (by decide +kernel) c_1)
  refine lv_iconst (v := 0) hx hb dX9_begin_77 (by decide +kernel) ?_
  refine lv_istore_n (lv' := [(2, .int 0), (0, .ref h0), (1, .ref pl)]) hx hb dX9_begin_78 rfl hl (by decide +kernel) rfl (fun ls hl => ?_)
  refine lv_iload_n hx hb dX9_begin_79 rfl (lv_at hl 0 rfl) ?_
  refine lv_bipush (v := 6) hx hb dX9_begin_80 (by decide +kernel) ?_
  refine lv_icmp_ge (tgt := 98) hx hb dX9_begin_82 (by decide +kernel) (fun c_2 => absurd c_2 (by decide +kernel)) (fun c_2 => ?_)
  refine lv_aload_n hx hb dX9_begin_85 rfl (lv_at hl 1 rfl) ?_
  refine va_get (D := D) (ci := 9) (v := .ref w3) (C := RX9) (T := TX9) (N := 6) hx hb hts iw_X9_begin_9 hown hC.1 hP 0 rfl rfl 3 (by decide +kernel) (hts (.fieldLink RX9 17 "FairWheel$Wheel" "holders" "[I") (by decide +kernel)) (fun _ h9 => h9) rfl dX9_begin_86 ?_
  refine lv_iload_n hx hb dX9_begin_89 rfl (lv_at hl 0 rfl) ?_
  refine lv_iconst (v := (-1)) hx hb dX9_begin_90 (by decide +kernel) ?_
  refine ka_iast hx hb hC.1 hP hD hS 2 1 rfl rfl 0 rfl (by decide +kernel) (by decide +kernel) dX9_begin_91 (fun H locs hP hD hS => ?_)
  have hP : va_P D vwCl [(h0, .inr (9, [.ref pl, .int 0, .ref w2, .ref w3, .ref w4, .ref w5])), (pl, .inr (2, [.int 1, .int 0, .int 0, .int 0, .int 0, .ref pl5, .ref pl6, .ref pl7, .ref pl8, .ref pl9, .ref pl10, .ref pl11, .ref pl12, .ref pl13])), (w3, .inl (ca 1, 6, .inl (upd fh 0 (-1))))] H := hP
  have hD : va_D A [(h0, .inr (9, [.ref pl, .int 0, .ref w2, .ref w3, .ref w4, .ref w5])), (pl, .inr (2, [.int 1, .int 0, .int 0, .int 0, .int 0, .ref pl5, .ref pl6, .ref pl7, .ref pl8, .ref pl9, .ref pl10, .ref pl11, .ref pl12, .ref pl13])), (w3, .inl (ca 1, 6, .inl (upd fh 0 (-1))))] := hD
  refine lv_iinc (v := 1) (lv' := [(2, .int 1), (0, .ref h0), (1, .ref pl)]) hx hb dX9_begin_92 hl (k := 0) rfl (by decide +kernel) (by decide +kernel) rfl (fun ls hl => ?_)
  refine lv_goto (tgt := 79) hx hb dX9_begin_95 (by decide +kernel) ?_
  refine lv_iload_n hx hb dX9_begin_79 rfl (lv_at hl 0 rfl) ?_
  refine lv_bipush (v := 6) hx hb dX9_begin_80 (by decide +kernel) ?_
  refine lv_icmp_ge (tgt := 98) hx hb dX9_begin_82 (by decide +kernel) (fun c_3 => absurd c_3 (by decide +kernel)) (fun c_3 => ?_)
  refine lv_aload_n hx hb dX9_begin_85 rfl (lv_at hl 1 rfl) ?_
  refine va_get (D := D) (ci := 9) (v := .ref w3) (C := RX9) (T := TX9) (N := 6) hx hb hts iw_X9_begin_9 hown hC.1 hP 0 rfl rfl 3 (by decide +kernel) (hts (.fieldLink RX9 17 "FairWheel$Wheel" "holders" "[I") (by decide +kernel)) (fun _ h9 => h9) rfl dX9_begin_86 ?_
  refine lv_iload_n hx hb dX9_begin_89 rfl (lv_at hl 0 rfl) ?_
  refine lv_iconst (v := (-1)) hx hb dX9_begin_90 (by decide +kernel) ?_
  refine ka_iast hx hb hC.1 hP hD hS 2 1 rfl rfl 1 rfl (by decide +kernel) (by decide +kernel) dX9_begin_91 (fun H locs hP hD hS => ?_)
  have hP : va_P D vwCl [(h0, .inr (9, [.ref pl, .int 0, .ref w2, .ref w3, .ref w4, .ref w5])), (pl, .inr (2, [.int 1, .int 0, .int 0, .int 0, .int 0, .ref pl5, .ref pl6, .ref pl7, .ref pl8, .ref pl9, .ref pl10, .ref pl11, .ref pl12, .ref pl13])), (w3, .inl (ca 1, 6, .inl (upd (upd fh 0 (-1)) 1 (-1))))] H := hP
  have hD : va_D A [(h0, .inr (9, [.ref pl, .int 0, .ref w2, .ref w3, .ref w4, .ref w5])), (pl, .inr (2, [.int 1, .int 0, .int 0, .int 0, .int 0, .ref pl5, .ref pl6, .ref pl7, .ref pl8, .ref pl9, .ref pl10, .ref pl11, .ref pl12, .ref pl13])), (w3, .inl (ca 1, 6, .inl (upd (upd fh 0 (-1)) 1 (-1))))] := hD
  refine lv_iinc (v := 2) (lv' := [(2, .int 2), (0, .ref h0), (1, .ref pl)]) hx hb dX9_begin_92 hl (k := 0) rfl (by decide +kernel) (by decide +kernel) rfl (fun ls hl => ?_)
  refine lv_goto (tgt := 79) hx hb dX9_begin_95 (by decide +kernel) ?_
  refine lv_iload_n hx hb dX9_begin_79 rfl (lv_at hl 0 rfl) ?_
  refine lv_bipush (v := 6) hx hb dX9_begin_80 (by decide +kernel) ?_
  refine lv_icmp_ge (tgt := 98) hx hb dX9_begin_82 (by decide +kernel) (fun c_4 => absurd c_4 (by decide +kernel)) (fun c_4 => ?_)
  refine lv_aload_n hx hb dX9_begin_85 rfl (lv_at hl 1 rfl) ?_
  refine va_get (D := D) (ci := 9) (v := .ref w3) (C := RX9) (T := TX9) (N := 6) hx hb hts iw_X9_begin_9 hown hC.1 hP 0 rfl rfl 3 (by decide +kernel) (hts (.fieldLink RX9 17 "FairWheel$Wheel" "holders" "[I") (by decide +kernel)) (fun _ h9 => h9) rfl dX9_begin_86 ?_
  refine lv_iload_n hx hb dX9_begin_89 rfl (lv_at hl 0 rfl) ?_
  refine lv_iconst (v := (-1)) hx hb dX9_begin_90 (by decide +kernel) ?_
  refine ka_iast hx hb hC.1 hP hD hS 2 1 rfl rfl 2 rfl (by decide +kernel) (by decide +kernel) dX9_begin_91 (fun H locs hP hD hS => ?_)
  have hP : va_P D vwCl [(h0, .inr (9, [.ref pl, .int 0, .ref w2, .ref w3, .ref w4, .ref w5])), (pl, .inr (2, [.int 1, .int 0, .int 0, .int 0, .int 0, .ref pl5, .ref pl6, .ref pl7, .ref pl8, .ref pl9, .ref pl10, .ref pl11, .ref pl12, .ref pl13])), (w3, .inl (ca 1, 6, .inl (upd (upd (upd fh 0 (-1)) 1 (-1)) 2 (-1))))] H := hP
  have hD : va_D A [(h0, .inr (9, [.ref pl, .int 0, .ref w2, .ref w3, .ref w4, .ref w5])), (pl, .inr (2, [.int 1, .int 0, .int 0, .int 0, .int 0, .ref pl5, .ref pl6, .ref pl7, .ref pl8, .ref pl9, .ref pl10, .ref pl11, .ref pl12, .ref pl13])), (w3, .inl (ca 1, 6, .inl (upd (upd (upd fh 0 (-1)) 1 (-1)) 2 (-1))))] := hD
  refine lv_iinc (v := 3) (lv' := [(2, .int 3), (0, .ref h0), (1, .ref pl)]) hx hb dX9_begin_92 hl (k := 0) rfl (by decide +kernel) (by decide +kernel) rfl (fun ls hl => ?_)
  refine lv_goto (tgt := 79) hx hb dX9_begin_95 (by decide +kernel) ?_
  refine lv_iload_n hx hb dX9_begin_79 rfl (lv_at hl 0 rfl) ?_
  refine lv_bipush (v := 6) hx hb dX9_begin_80 (by decide +kernel) ?_
  refine lv_icmp_ge (tgt := 98) hx hb dX9_begin_82 (by decide +kernel) (fun c_5 => absurd c_5 (by decide +kernel)) (fun c_5 => ?_)
  refine lv_aload_n hx hb dX9_begin_85 rfl (lv_at hl 1 rfl) ?_
  refine va_get (D := D) (ci := 9) (v := .ref w3) (C := RX9) (T := TX9) (N := 6) hx hb hts iw_X9_begin_9 hown hC.1 hP 0 rfl rfl 3 (by decide +kernel) (hts (.fieldLink RX9 17 "FairWheel$Wheel" "holders" "[I") (by decide +kernel)) (fun _ h9 => h9) rfl dX9_begin_86 ?_
  refine lv_iload_n hx hb dX9_begin_89 rfl (lv_at hl 0 rfl) ?_
  refine lv_iconst (v := (-1)) hx hb dX9_begin_90 (by decide +kernel) ?_
  refine ka_iast hx hb hC.1 hP hD hS 2 1 rfl rfl 3 rfl (by decide +kernel) (by decide +kernel) dX9_begin_91 (fun H locs hP hD hS => ?_)
  have hP : va_P D vwCl [(h0, .inr (9, [.ref pl, .int 0, .ref w2, .ref w3, .ref w4, .ref w5])), (pl, .inr (2, [.int 1, .int 0, .int 0, .int 0, .int 0, .ref pl5, .ref pl6, .ref pl7, .ref pl8, .ref pl9, .ref pl10, .ref pl11, .ref pl12, .ref pl13])), (w3, .inl (ca 1, 6, .inl (upd (upd (upd (upd fh 0 (-1)) 1 (-1)) 2 (-1)) 3 (-1))))] H := hP
  have hD : va_D A [(h0, .inr (9, [.ref pl, .int 0, .ref w2, .ref w3, .ref w4, .ref w5])), (pl, .inr (2, [.int 1, .int 0, .int 0, .int 0, .int 0, .ref pl5, .ref pl6, .ref pl7, .ref pl8, .ref pl9, .ref pl10, .ref pl11, .ref pl12, .ref pl13])), (w3, .inl (ca 1, 6, .inl (upd (upd (upd (upd fh 0 (-1)) 1 (-1)) 2 (-1)) 3 (-1))))] := hD
  refine lv_iinc (v := 4) (lv' := [(2, .int 4), (0, .ref h0), (1, .ref pl)]) hx hb dX9_begin_92 hl (k := 0) rfl (by decide +kernel) (by decide +kernel) rfl (fun ls hl => ?_)
  refine lv_goto (tgt := 79) hx hb dX9_begin_95 (by decide +kernel) ?_
  refine lv_iload_n hx hb dX9_begin_79 rfl (lv_at hl 0 rfl) ?_
  refine lv_bipush (v := 6) hx hb dX9_begin_80 (by decide +kernel) ?_
  refine lv_icmp_ge (tgt := 98) hx hb dX9_begin_82 (by decide +kernel) (fun c_6 => absurd c_6 (by decide +kernel)) (fun c_6 => ?_)
  refine lv_aload_n hx hb dX9_begin_85 rfl (lv_at hl 1 rfl) ?_
  refine va_get (D := D) (ci := 9) (v := .ref w3) (C := RX9) (T := TX9) (N := 6) hx hb hts iw_X9_begin_9 hown hC.1 hP 0 rfl rfl 3 (by decide +kernel) (hts (.fieldLink RX9 17 "FairWheel$Wheel" "holders" "[I") (by decide +kernel)) (fun _ h9 => h9) rfl dX9_begin_86 ?_
  refine lv_iload_n hx hb dX9_begin_89 rfl (lv_at hl 0 rfl) ?_
  refine lv_iconst (v := (-1)) hx hb dX9_begin_90 (by decide +kernel) ?_
  refine ka_iast hx hb hC.1 hP hD hS 2 1 rfl rfl 4 rfl (by decide +kernel) (by decide +kernel) dX9_begin_91 (fun H locs hP hD hS => ?_)
  have hP : va_P D vwCl [(h0, .inr (9, [.ref pl, .int 0, .ref w2, .ref w3, .ref w4, .ref w5])), (pl, .inr (2, [.int 1, .int 0, .int 0, .int 0, .int 0, .ref pl5, .ref pl6, .ref pl7, .ref pl8, .ref pl9, .ref pl10, .ref pl11, .ref pl12, .ref pl13])), (w3, .inl (ca 1, 6, .inl (upd (upd (upd (upd (upd fh 0 (-1)) 1 (-1)) 2 (-1)) 3 (-1)) 4 (-1))))] H := hP
  have hD : va_D A [(h0, .inr (9, [.ref pl, .int 0, .ref w2, .ref w3, .ref w4, .ref w5])), (pl, .inr (2, [.int 1, .int 0, .int 0, .int 0, .int 0, .ref pl5, .ref pl6, .ref pl7, .ref pl8, .ref pl9, .ref pl10, .ref pl11, .ref pl12, .ref pl13])), (w3, .inl (ca 1, 6, .inl (upd (upd (upd (upd (upd fh 0 (-1)) 1 (-1)) 2 (-1)) 3 (-1)) 4 (-1))))] := hD
  refine lv_iinc (v := 5) (lv' := [(2, .int 5), (0, .ref h0), (1, .ref pl)]) hx hb dX9_begin_92 hl (k := 0) rfl (by decide +kernel) (by decide +kernel) rfl (fun ls hl => ?_)
  refine lv_goto (tgt := 79) hx hb dX9_begin_95 (by decide +kernel) ?_
  refine lv_iload_n hx hb dX9_begin_79 rfl (lv_at hl 0 rfl) ?_
  refine lv_bipush (v := 6) hx hb dX9_begin_80 (by decide +kernel) ?_
  refine lv_icmp_ge (tgt := 98) hx hb dX9_begin_82 (by decide +kernel) (fun c_7 => absurd c_7 (by decide +kernel)) (fun c_7 => ?_)
  refine lv_aload_n hx hb dX9_begin_85 rfl (lv_at hl 1 rfl) ?_
  refine va_get (D := D) (ci := 9) (v := .ref w3) (C := RX9) (T := TX9) (N := 6) hx hb hts iw_X9_begin_9 hown hC.1 hP 0 rfl rfl 3 (by decide +kernel) (hts (.fieldLink RX9 17 "FairWheel$Wheel" "holders" "[I") (by decide +kernel)) (fun _ h9 => h9) rfl dX9_begin_86 ?_
  refine lv_iload_n hx hb dX9_begin_89 rfl (lv_at hl 0 rfl) ?_
  refine lv_iconst (v := (-1)) hx hb dX9_begin_90 (by decide +kernel) ?_
  refine ka_iast hx hb hC.1 hP hD hS 2 1 rfl rfl 5 rfl (by decide +kernel) (by decide +kernel) dX9_begin_91 (fun H locs hP hD hS => ?_)
  have hP : va_P D vwCl [(h0, .inr (9, [.ref pl, .int 0, .ref w2, .ref w3, .ref w4, .ref w5])), (pl, .inr (2, [.int 1, .int 0, .int 0, .int 0, .int 0, .ref pl5, .ref pl6, .ref pl7, .ref pl8, .ref pl9, .ref pl10, .ref pl11, .ref pl12, .ref pl13])), (w3, .inl (ca 1, 6, .inl (upd (upd (upd (upd (upd (upd fh 0 (-1)) 1 (-1)) 2 (-1)) 3 (-1)) 4 (-1)) 5 (-1))))] H := hP
  have hD : va_D A [(h0, .inr (9, [.ref pl, .int 0, .ref w2, .ref w3, .ref w4, .ref w5])), (pl, .inr (2, [.int 1, .int 0, .int 0, .int 0, .int 0, .ref pl5, .ref pl6, .ref pl7, .ref pl8, .ref pl9, .ref pl10, .ref pl11, .ref pl12, .ref pl13])), (w3, .inl (ca 1, 6, .inl (upd (upd (upd (upd (upd (upd fh 0 (-1)) 1 (-1)) 2 (-1)) 3 (-1)) 4 (-1)) 5 (-1))))] := hD
  refine lv_iinc (v := 6) (lv' := [(2, .int 6), (0, .ref h0), (1, .ref pl)]) hx hb dX9_begin_92 hl (k := 0) rfl (by decide +kernel) (by decide +kernel) rfl (fun ls hl => ?_)
  refine lv_goto (tgt := 79) hx hb dX9_begin_95 (by decide +kernel) ?_
  refine lv_iload_n hx hb dX9_begin_79 rfl (lv_at hl 0 rfl) ?_
  refine lv_bipush (v := 6) hx hb dX9_begin_80 (by decide +kernel) ?_
  refine lv_icmp_ge (tgt := 98) hx hb dX9_begin_82 (by decide +kernel) (fun c_8 => ?_) (fun c_8 => absurd (by decide +kernel) c_8)
  exact W.vret hx hb hr (fun t ht hW => ⟨⟨(upd (upd (upd (upd (upd (upd fh 0 (-1)) 1 (-1)) 2 (-1)) 3 (-1)) 4 (-1)) 5 (-1)), rfl, trivial, by rw [ht]; exact hP.sub [0, 1, 2] rfl, hDA (hD.sub [0, 1, 2] (by decide +kernel) rfl)⟩, hS.F ht⟩) hS.2.2 dX9_begin_98
theorem iw_X9_init_8 : ∀ w ∈ u_ws RX8 TX8 17, w ∈ wsX9_init := by decide +kernel
theorem iw_X9_init_9 : ∀ w ∈ u_ws RX9 TX9 6, w ∈ wsX9_init := by decide +kernel
set_option maxHeartbeats 4000000 in
set_option maxRecDepth 100000 in
/-- Wheel(plan) -/
theorem k_X9_init (l : Launch) (D : va_G) (ca : Nat → ClassId) (sz : Nat) (h0 : Nat) (pl : Nat) (pl5 : Nat) (pl6 : Nat) (pl7 : Nat) (pl8 : Nat) (pl9 : Nat) (pl10 : Nat) (pl11 : Nat) (pl12 : Nat) (pl13 : Nat) : Met l yX9_init wsX9_init ({ frames := 2, cells := 24, slots := 306, locals := 32 }) (PC [.ref h0, .ref pl] sz D ca [(h0, .inr (9, [.null, .int 0, .null, .null, .null, .null])), (pl, .inr (2, [.int 1, .int 0, .int 0, .int 0, .int 0, .ref pl5, .ref pl6, .ref pl7, .ref pl8, .ref pl9, .ref pl10, .ref pl11, .ref pl12, .ref pl13]))]) (QV (fun (u : Nat × Nat × Nat × Nat × (Nat → Int32)) => True) (fun (u : Nat × Nat × Nat × Nat × (Nat → Int32)) => [(h0, .inr (9, [.ref pl, .int 0, .ref u.2.1, .ref u.1, .ref u.2.2.1, .ref u.2.2.2.1])), (pl, .inr (2, [.int 1, .int 0, .int 0, .int 0, .int 0, .ref pl5, .ref pl6, .ref pl7, .ref pl8, .ref pl9, .ref pl10, .ref pl11, .ref pl12, .ref pl13])), (u.1, .inl (ca 1, 6, .inl u.2.2.2.2))]) [(h0, .inr (9, [.null, .int 0, .null, .null, .null, .null])), (pl, .inr (2, [.int 1, .int 0, .int 0, .int 0, .int 0, .ref pl5, .ref pl6, .ref pl7, .ref pl8, .ref pl9, .ref pl10, .ref pl11, .ref pl12, .ref pl13]))] sz D) 24 306 (va_A [(h0, .inr (9, [.null, .int 0, .null, .null, .null, .null])), (pl, .inr (2, [.int 1, .int 0, .int 0, .int 0, .int 0, .ref pl5, .ref pl6, .ref pl7, .ref pl8, .ref pl9, .ref pl10, .ref pl11, .ref pl12, .ref pl13]))] sz) := by
  refine Met.ofW (cc := cX9_init) (maxL := 3) (ret := none) (by decide +kernel) rfl ?_
  intro p e s m args below meth c s₁ B hml hv
  obtain ⟨rfl, hsz, hP, hC, hD0⟩ := hv
  have hx := B.exec
  have hb := B.bytes
  have hr := B.returns
  have hts := atoms_spec (ws := wsX9_init) B.pre
  have hown : s.vm.findClass RX9 = some m.cls := findClass_of_methodNamed B.named
  have hlocks := B.notSynchronized
  have hin : meth.name = "<init>" := (name_of_methodNamed B.named B.method).1
  subst hsz
  have hD := hD0.self (sz := s.heap.size)
  dsimp only [QV, QI, QL, BQ]
  generalize hAe : va_A [(h0, .inr (9, [.null, .int 0, .null, .null, .null, .null])), (pl, .inr (2, [.int 1, .int 0, .int 0, .int 0, .int 0, .ref pl5, .ref pl6, .ref pl7, .ref pl8, .ref pl9, .ref pl10, .ref pl11, .ref pl12, .ref pl13]))] s.heap.size = A at hD ⊢
  have hA : ∀ q : Nat, s.heap.size ≤ q → A q := fun q h => by rw [← hAe]; exact Or.inr h
  have hDA : ∀ {w : va_W}, va_D A w → va_D (va_A [(h0, .inr (9, [.null, .int 0, .null, .null, .null, .null])), (pl, .inr (2, [.int 1, .int 0, .int 0, .int 0, .int 0, .ref pl5, .ref pl6, .ref pl7, .ref pl8, .ref pl9, .ref pl10, .ref pl11, .ref pl12, .ref pl13]))] s.heap.size) w := fun h => by rw [hAe]; exact h
  have hS : va_S A s.heap s.heap [] := va_S.rf
  have hP : va_P D vwCl [(h0, .inr (9, [.null, .int 0, .null, .null, .null, .null])), (pl, .inr (2, [.int 1, .int 0, .int 0, .int 0, .int 0, .ref pl5, .ref pl6, .ref pl7, .ref pl8, .ref pl9, .ref pl10, .ref pl11, .ref pl12, .ref pl13]))] s.heap := hP
  have hl := lv_entry ([.ref h0, .ref pl]) (n := 3) (Nat.le_of_ble_eq_true rfl)
  rw [lg_entry_eq]
  generalize (lg_sl ([.ref h0, .ref pl]) ++ List.replicate (3 - (lg_sl ([.ref h0, .ref pl])).length) Slot.unset).toArray = ls at hl ⊢
  have hl : lv_has ls 3 [(0, .ref h0), (1, .ref pl)] := hl
  refine lv_aload_n hx hb dX9_init_0 rfl (lv_at hl 0 rfl) ?_
  refine W.objInit hx hb hown (hts (.methodLink RX9 3 objectInit) (by decide +kernel)) (hts (.instanceMethod objectInit) (by decide +kernel)) (hts (.code objectInit ⟨#[0xb1]⟩ 1 none) (by decide +kernel)) rfl (by rw [hml]; exact hl.1) rfl dX9_init_1 (Nat.le_of_ble_eq_true rfl) (Nat.le_of_ble_eq_true rfl) ?_
  refine W.eq (g2 := F0 m 4 ls []) rfl ?_
  refine lv_aload_n hx hb dX9_init_4 rfl (lv_at hl 0 rfl) ?_
  refine lv_bipush (v := 10) hx hb dX9_init_5 (by decide +kernel) ?_
  refine ka_newq hx hb hown (hts (.classLink RX9 9 RX8) (by decide +kernel)) hC.2.1.2 hC.1 hP hD hS hA 10 rfl (by decide +kernel) (Nat.le_of_ble_eq_true rfl) (Nat.le_of_ble_eq_true rfl) (Nat.le_of_ble_eq_true rfl) dX9_init_7 5 rfl (fun q7 H hP hD hS => ?_)
  have hP : va_P D vwCl [(h0, .inr (9, [.null, .int 0, .null, .null, .null, .null])), (pl, .inr (2, [.int 1, .int 0, .int 0, .int 0, .int 0, .ref pl5, .ref pl6, .ref pl7, .ref pl8, .ref pl9, .ref pl10, .ref pl11, .ref pl12, .ref pl13])), (q7, .inl (ca 5, 10, .inr (.inr (.inr (.inr (fun _ => none))))))] H := hP
  have hD : va_D A [(h0, .inr (9, [.null, .int 0, .null, .null, .null, .null])), (pl, .inr (2, [.int 1, .int 0, .int 0, .int 0, .int 0, .ref pl5, .ref pl6, .ref pl7, .ref pl8, .ref pl9, .ref pl10, .ref pl11, .ref pl12, .ref pl13])), (q7, .inl (ca 5, 10, .inr (.inr (.inr (.inr (fun _ => none))))))] := hD
  refine va_putF (D := D) (ci := 9) (v := .ref q7) (ty := .array (.object "FairWheel$Task")) (C := RX9) (T := TX9) (N := 6) hx hb hts iw_X9_init_9 tyX9 tyX9_ok nmX9 hown hC.1 hP hD hS 0 rfl rfl 2 (by decide +kernel) (hts (.fieldLink RX9 11 "FairWheel$Wheel" "tasks" "[LFairWheel$Task;") (by decide +kernel)) (fun _ h9 => h9) rfl hin rfl (by decide +kernel) rfl rfl (Nat.le_of_ble_eq_true rfl) dX9_init_10 (fun H locs hP hD hS => ?_)
  have hP : va_P D vwCl [(h0, .inr (9, [.null, .int 0, .ref q7, .null, .null, .null])), (pl, .inr (2, [.int 1, .int 0, .int 0, .int 0, .int 0, .ref pl5, .ref pl6, .ref pl7, .ref pl8, .ref pl9, .ref pl10, .ref pl11, .ref pl12, .ref pl13])), (q7, .inl (ca 5, 10, .inr (.inr (.inr (.inr (fun _ => none))))))] H := hP
  have hD : va_D A [(h0, .inr (9, [.null, .int 0, .ref q7, .null, .null, .null])), (pl, .inr (2, [.int 1, .int 0, .int 0, .int 0, .int 0, .ref pl5, .ref pl6, .ref pl7, .ref pl8, .ref pl9, .ref pl10, .ref pl11, .ref pl12, .ref pl13])), (q7, .inl (ca 5, 10, .inr (.inr (.inr (.inr (fun _ => none))))))] := hD
  refine lv_aload_n hx hb dX9_init_13 rfl (lv_at hl 0 rfl) ?_
  refine lv_bipush (v := 6) hx hb dX9_init_14 (by decide +kernel) ?_
  refine ka_newa (atype := .int) (ty := .int) hx hb (hts (.arrayClass .int) (by decide +kernel)) rfl hC.1 hP hD hS hA 6 (ha_i 6) rfl (by decide +kernel) (Nat.le_of_ble_eq_true rfl) (Nat.le_of_ble_eq_true rfl) (Nat.le_of_ble_eq_true rfl) dX9_init_16 1 rfl (fun q16 H hP hD hS => ?_)
  have hP : va_P D vwCl [(h0, .inr (9, [.null, .int 0, .ref q7, .null, .null, .null])), (pl, .inr (2, [.int 1, .int 0, .int 0, .int 0, .int 0, .ref pl5, .ref pl6, .ref pl7, .ref pl8, .ref pl9, .ref pl10, .ref pl11, .ref pl12, .ref pl13])), (q7, .inl (ca 5, 10, .inr (.inr (.inr (.inr (fun _ => none)))))), (q16, .inl (ca 1, 6, .inl (fun _ => 0)))] H := hP
  have hD : va_D A [(h0, .inr (9, [.null, .int 0, .ref q7, .null, .null, .null])), (pl, .inr (2, [.int 1, .int 0, .int 0, .int 0, .int 0, .ref pl5, .ref pl6, .ref pl7, .ref pl8, .ref pl9, .ref pl10, .ref pl11, .ref pl12, .ref pl13])), (q7, .inl (ca 5, 10, .inr (.inr (.inr (.inr (fun _ => none)))))), (q16, .inl (ca 1, 6, .inl (fun _ => 0)))] := hD
  refine va_putF (D := D) (ci := 9) (v := .ref q16) (ty := .array .int) (C := RX9) (T := TX9) (N := 6) hx hb hts iw_X9_init_9 tyX9 tyX9_ok nmX9 hown hC.1 hP hD hS 0 rfl rfl 3 (by decide +kernel) (hts (.fieldLink RX9 17 "FairWheel$Wheel" "holders" "[I") (by decide +kernel)) (fun _ h9 => h9) rfl hin rfl (by decide +kernel) rfl rfl (Nat.le_of_ble_eq_true rfl) dX9_init_18 (fun H locs hP hD hS => ?_)
  have hP : va_P D vwCl [(h0, .inr (9, [.null, .int 0, .ref q7, .ref q16, .null, .null])), (pl, .inr (2, [.int 1, .int 0, .int 0, .int 0, .int 0, .ref pl5, .ref pl6, .ref pl7, .ref pl8, .ref pl9, .ref pl10, .ref pl11, .ref pl12, .ref pl13])), (q7, .inl (ca 5, 10, .inr (.inr (.inr (.inr (fun _ => none)))))), (q16, .inl (ca 1, 6, .inl (fun _ => 0)))] H := hP
  have hD : va_D A [(h0, .inr (9, [.null, .int 0, .ref q7, .ref q16, .null, .null])), (pl, .inr (2, [.int 1, .int 0, .int 0, .int 0, .int 0, .ref pl5, .ref pl6, .ref pl7, .ref pl8, .ref pl9, .ref pl10, .ref pl11, .ref pl12, .ref pl13])), (q7, .inl (ca 5, 10, .inr (.inr (.inr (.inr (fun _ => none)))))), (q16, .inl (ca 1, 6, .inl (fun _ => 0)))] := hD
  refine lv_aload_n hx hb dX9_init_21 rfl (lv_at hl 0 rfl) ?_
  refine lv_bipush (v := 10) hx hb dX9_init_22 (by decide +kernel) ?_
  refine ka_newa (atype := .long) (ty := .long) hx hb (hts (.arrayClass .long) (by decide +kernel)) rfl hC.1 hP hD hS hA 10 (ha_l 10) rfl (by decide +kernel) (Nat.le_of_ble_eq_true rfl) (Nat.le_of_ble_eq_true rfl) (Nat.le_of_ble_eq_true rfl) dX9_init_24 2 rfl (fun q24 H hP hD hS => ?_)
  have hP : va_P D vwCl [(h0, .inr (9, [.null, .int 0, .ref q7, .ref q16, .null, .null])), (pl, .inr (2, [.int 1, .int 0, .int 0, .int 0, .int 0, .ref pl5, .ref pl6, .ref pl7, .ref pl8, .ref pl9, .ref pl10, .ref pl11, .ref pl12, .ref pl13])), (q7, .inl (ca 5, 10, .inr (.inr (.inr (.inr (fun _ => none)))))), (q16, .inl (ca 1, 6, .inl (fun _ => 0))), (q24, .inl (ca 2, 10, .inr (.inl (fun _ => 0))))] H := hP
  have hD : va_D A [(h0, .inr (9, [.null, .int 0, .ref q7, .ref q16, .null, .null])), (pl, .inr (2, [.int 1, .int 0, .int 0, .int 0, .int 0, .ref pl5, .ref pl6, .ref pl7, .ref pl8, .ref pl9, .ref pl10, .ref pl11, .ref pl12, .ref pl13])), (q7, .inl (ca 5, 10, .inr (.inr (.inr (.inr (fun _ => none)))))), (q16, .inl (ca 1, 6, .inl (fun _ => 0))), (q24, .inl (ca 2, 10, .inr (.inl (fun _ => 0))))] := hD
  refine va_putF (D := D) (ci := 9) (v := .ref q24) (ty := .array .long) (C := RX9) (T := TX9) (N := 6) hx hb hts iw_X9_init_9 tyX9 tyX9_ok nmX9 hown hC.1 hP hD hS 0 rfl rfl 4 (by decide +kernel) (hts (.fieldLink RX9 21 "FairWheel$Wheel" "front" "[J") (by decide +kernel)) (fun _ h9 => h9) rfl hin rfl (by decide +kernel) rfl rfl (Nat.le_of_ble_eq_true rfl) dX9_init_26 (fun H locs hP hD hS => ?_)
  have hP : va_P D vwCl [(h0, .inr (9, [.null, .int 0, .ref q7, .ref q16, .ref q24, .null])), (pl, .inr (2, [.int 1, .int 0, .int 0, .int 0, .int 0, .ref pl5, .ref pl6, .ref pl7, .ref pl8, .ref pl9, .ref pl10, .ref pl11, .ref pl12, .ref pl13])), (q7, .inl (ca 5, 10, .inr (.inr (.inr (.inr (fun _ => none)))))), (q16, .inl (ca 1, 6, .inl (fun _ => 0))), (q24, .inl (ca 2, 10, .inr (.inl (fun _ => 0))))] H := hP
  have hD : va_D A [(h0, .inr (9, [.null, .int 0, .ref q7, .ref q16, .ref q24, .null])), (pl, .inr (2, [.int 1, .int 0, .int 0, .int 0, .int 0, .ref pl5, .ref pl6, .ref pl7, .ref pl8, .ref pl9, .ref pl10, .ref pl11, .ref pl12, .ref pl13])), (q7, .inl (ca 5, 10, .inr (.inr (.inr (.inr (fun _ => none)))))), (q16, .inl (ca 1, 6, .inl (fun _ => 0))), (q24, .inl (ca 2, 10, .inr (.inl (fun _ => 0))))] := hD
  refine lv_aload_n hx hb dX9_init_29 rfl (lv_at hl 0 rfl) ?_
  refine lv_bipush (v := 10) hx hb dX9_init_30 (by decide +kernel) ?_
  refine ka_newa (atype := .int) (ty := .int) hx hb (hts (.arrayClass .int) (by decide +kernel)) rfl hC.1 hP hD hS hA 10 (ha_i 10) rfl (by decide +kernel) (Nat.le_of_ble_eq_true rfl) (Nat.le_of_ble_eq_true rfl) (Nat.le_of_ble_eq_true rfl) dX9_init_32 1 rfl (fun q32 H hP hD hS => ?_)
  have hP : va_P D vwCl [(h0, .inr (9, [.null, .int 0, .ref q7, .ref q16, .ref q24, .null])), (pl, .inr (2, [.int 1, .int 0, .int 0, .int 0, .int 0, .ref pl5, .ref pl6, .ref pl7, .ref pl8, .ref pl9, .ref pl10, .ref pl11, .ref pl12, .ref pl13])), (q7, .inl (ca 5, 10, .inr (.inr (.inr (.inr (fun _ => none)))))), (q16, .inl (ca 1, 6, .inl (fun _ => 0))), (q24, .inl (ca 2, 10, .inr (.inl (fun _ => 0)))), (q32, .inl (ca 1, 10, .inl (fun _ => 0)))] H := hP
  have hD : va_D A [(h0, .inr (9, [.null, .int 0, .ref q7, .ref q16, .ref q24, .null])), (pl, .inr (2, [.int 1, .int 0, .int 0, .int 0, .int 0, .ref pl5, .ref pl6, .ref pl7, .ref pl8, .ref pl9, .ref pl10, .ref pl11, .ref pl12, .ref pl13])), (q7, .inl (ca 5, 10, .inr (.inr (.inr (.inr (fun _ => none)))))), (q16, .inl (ca 1, 6, .inl (fun _ => 0))), (q24, .inl (ca 2, 10, .inr (.inl (fun _ => 0)))), (q32, .inl (ca 1, 10, .inl (fun _ => 0)))] := hD
  refine va_putF (D := D) (ci := 9) (v := .ref q32) (ty := .array .int) (C := RX9) (T := TX9) (N := 6) hx hb hts iw_X9_init_9 tyX9 tyX9_ok nmX9 hown hC.1 hP hD hS 0 rfl rfl 5 (by decide +kernel) (hts (.fieldLink RX9 25 "FairWheel$Wheel" "closing" "[I") (by decide +kernel)) (fun _ h9 => h9) rfl hin rfl (by decide +kernel) rfl rfl (Nat.le_of_ble_eq_true rfl) dX9_init_34 (fun H locs hP hD hS => ?_)
  have hP : va_P D vwCl [(h0, .inr (9, [.null, .int 0, .ref q7, .ref q16, .ref q24, .ref q32])), (pl, .inr (2, [.int 1, .int 0, .int 0, .int 0, .int 0, .ref pl5, .ref pl6, .ref pl7, .ref pl8, .ref pl9, .ref pl10, .ref pl11, .ref pl12, .ref pl13])), (q7, .inl (ca 5, 10, .inr (.inr (.inr (.inr (fun _ => none)))))), (q16, .inl (ca 1, 6, .inl (fun _ => 0))), (q24, .inl (ca 2, 10, .inr (.inl (fun _ => 0)))), (q32, .inl (ca 1, 10, .inl (fun _ => 0)))] H := hP
  have hD : va_D A [(h0, .inr (9, [.null, .int 0, .ref q7, .ref q16, .ref q24, .ref q32])), (pl, .inr (2, [.int 1, .int 0, .int 0, .int 0, .int 0, .ref pl5, .ref pl6, .ref pl7, .ref pl8, .ref pl9, .ref pl10, .ref pl11, .ref pl12, .ref pl13])), (q7, .inl (ca 5, 10, .inr (.inr (.inr (.inr (fun _ => none)))))), (q16, .inl (ca 1, 6, .inl (fun _ => 0))), (q24, .inl (ca 2, 10, .inr (.inl (fun _ => 0)))), (q32, .inl (ca 1, 10, .inl (fun _ => 0)))] := hD
  refine lv_iconst (v := 0) hx hb dX9_init_37 (by decide +kernel) ?_
  refine lv_istore_n (lv' := [(2, .int 0), (0, .ref h0), (1, .ref pl)]) hx hb dX9_init_38 rfl hl (by decide +kernel) rfl (fun ls hl => ?_)
  have hP : va_P D vwCl [(h0, .inr (9, [.null, .int 0, .ref q7, .ref q16, .ref q24, .ref q32])), (pl, .inr (2, [.int 1, .int 0, .int 0, .int 0, .int 0, .ref pl5, .ref pl6, .ref pl7, .ref pl8, .ref pl9, .ref pl10, .ref pl11, .ref pl12, .ref pl13])), (q7, .inl (ca 5, 10, .inr (.inr (.inr (.inr (fun _ => none)))))), (q16, .inl (ca 1, 6, .inl (fun _ => 0)))] H := hP.sub [0, 1, 2, 3] rfl
  have hD : va_D A [(h0, .inr (9, [.null, .int 0, .ref q7, .ref q16, .ref q24, .ref q32])), (pl, .inr (2, [.int 1, .int 0, .int 0, .int 0, .int 0, .ref pl5, .ref pl6, .ref pl7, .ref pl8, .ref pl9, .ref pl10, .ref pl11, .ref pl12, .ref pl13])), (q7, .inl (ca 5, 10, .inr (.inr (.inr (.inr (fun _ => none)))))), (q16, .inl (ca 1, 6, .inl (fun _ => 0)))] := hD.sub [0, 1, 2, 3] (by decide) rfl
  refine lv_iload_n hx hb dX9_init_39 rfl (lv_at hl 0 rfl) ?_
  refine lv_bipush (v := 10) hx hb dX9_init_40 (by decide +kernel) ?_
  refine lv_icmp_ge (tgt := 64) hx hb dX9_init_42 (by decide +kernel) (fun c_1 => absurd c_1 (by decide +kernel)) (fun c_1 => ?_)
  refine lv_aload_n hx hb dX9_init_45 rfl (lv_at hl 1 rfl) ?_
  refine va_get (D := D) (ci := 9) (v := .ref q7) (C := RX9) (T := TX9) (N := 6) hx hb hts iw_X9_init_9 hown hC.1 hP 0 rfl rfl 2 (by decide +kernel) (hts (.fieldLink RX9 11 "FairWheel$Wheel" "tasks" "[LFairWheel$Task;") (by decide +kernel)) (fun _ h9 => h9) rfl dX9_init_46 ?_
  refine lv_iload_n hx hb dX9_init_49 rfl (lv_at hl 0 rfl) ?_
  refine va_new (ci := 8) (fs := [.int 0, .int 0, .int 0, .int 0, .int 0, .int 0, .int 0, .int 0, .int 0, .int 0, .int 0, .int 0, .int 0, .int 0, .long 0, .int 0, .null]) (C := RX8) (T := TX8) (N := 17) hx hb hts iw_X9_init_8 tyX8 tyX8_ok hown (hts (.classLink RX9 9 RX8) (by decide +kernel)) (hts (.instantiable RX8 17) (by decide +kernel)) (hts (.initialized RX8) (by decide +kernel)) hC.1 hP hD hS hA rfl df_X8 (Nat.le_of_ble_eq_true rfl) (Nat.le_of_ble_eq_true rfl) dX9_init_50 (fun q50 H hP hD hS => ?_)
  have hP : va_P D vwCl [(h0, .inr (9, [.null, .int 0, .ref q7, .ref q16, .ref q24, .ref q32])), (pl, .inr (2, [.int 1, .int 0, .int 0, .int 0, .int 0, .ref pl5, .ref pl6, .ref pl7, .ref pl8, .ref pl9, .ref pl10, .ref pl11, .ref pl12, .ref pl13])), (q7, .inl (ca 5, 10, .inr (.inr (.inr (.inr (fun _ => none)))))), (q16, .inl (ca 1, 6, .inl (fun _ => 0))), (q50, .inr (8, [.int 0, .int 0, .int 0, .int 0, .int 0, .int 0, .int 0, .int 0, .int 0, .int 0, .int 0, .int 0, .int 0, .int 0, .long 0, .int 0, .null]))] H := hP
  have hD : va_D A [(h0, .inr (9, [.null, .int 0, .ref q7, .ref q16, .ref q24, .ref q32])), (pl, .inr (2, [.int 1, .int 0, .int 0, .int 0, .int 0, .ref pl5, .ref pl6, .ref pl7, .ref pl8, .ref pl9, .ref pl10, .ref pl11, .ref pl12, .ref pl13])), (q7, .inl (ca 5, 10, .inr (.inr (.inr (.inr (fun _ => none)))))), (q16, .inl (ca 1, 6, .inl (fun _ => 0))), (q50, .inr (8, [.int 0, .int 0, .int 0, .int 0, .int 0, .int 0, .int 0, .int 0, .int 0, .int 0, .int 0, .int 0, .int 0, .int 0, .long 0, .int 0, .null]))] := hD
  refine lv_dup hx hb dX9_init_53 rfl ?_
  refine kc_v (wr := [(h0, .inr (9, [.null, .int 0, .ref q7, .ref q16, .ref q24, .ref q32])), (pl, .inr (2, [.int 1, .int 0, .int 0, .int 0, .int 0, .ref pl5, .ref pl6, .ref pl7, .ref pl8, .ref pl9, .ref pl10, .ref pl11, .ref pl12, .ref pl13])), (q7, .inl (ca 5, 10, .inr (.inr (.inr (.inr (fun _ => none)))))), (q16, .inl (ca 1, 6, .inl (fun _ => 0)))]) (va_runIN (As := []) (rest := [.ref q50, .int 0, .ref q7]) ⟨hx, hb, hml, hown, hts⟩ (k_X8_init l D ca H.size q50) (⟨va_cnB 0 hts gX9_init_X8_init_n28 rfl rfl rfl hC.2.2.2.2.1 (hts (.initialized RX8) (by decide +kernel)) (by decide +kernel) ⟨(Nat.le_of_ble_eq_true rfl), (Nat.le_of_ble_eq_true rfl)⟩, rfl, hts (.instanceMethod yX8_init) (by decide +kernel)⟩) (PC.preS hC hP hD [4] rfl (by decide +kernel)) rfl rfl hl.1 rfl (lv_room (Nat.le_of_ble_eq_true rfl)) dX9_init_54 ⟨(Nat.le_of_ble_eq_true rfl), (Nat.le_of_ble_eq_true rfl)⟩) hP hD hS hA [4] [0, 1, 2, 3] rfl rfl (by decide +kernel) (by decide +kernel) (fun u_3 H locs hw_2 hP hD hS => ?_)
  obtain ⟨a_4, rfl⟩ : ∃ z, z = u_3 := ⟨_, rfl⟩
  have hP : va_P D vwCl [(h0, .inr (9, [.null, .int 0, .ref q7, .ref q16, .ref q24, .ref q32])), (pl, .inr (2, [.int 1, .int 0, .int 0, .int 0, .int 0, .ref pl5, .ref pl6, .ref pl7, .ref pl8, .ref pl9, .ref pl10, .ref pl11, .ref pl12, .ref pl13])), (q7, .inl (ca 5, 10, .inr (.inr (.inr (.inr (fun _ => none)))))), (q16, .inl (ca 1, 6, .inl (fun _ => 0))), (q50, .inr (8, [.int 0, .int 0, .int 0, .int 0, .int 0, .int 0, .int 0, .int 0, .int 0, .int 0, .int 0, .int 0, .int 0, .int 0, .long 0, .int 0, .ref a_4]))] H := hP
  have hD : va_D A [(h0, .inr (9, [.null, .int 0, .ref q7, .ref q16, .ref q24, .ref q32])), (pl, .inr (2, [.int 1, .int 0, .int 0, .int 0, .int 0, .ref pl5, .ref pl6, .ref pl7, .ref pl8, .ref pl9, .ref pl10, .ref pl11, .ref pl12, .ref pl13])), (q7, .inl (ca 5, 10, .inr (.inr (.inr (.inr (fun _ => none)))))), (q16, .inl (ca 1, 6, .inl (fun _ => 0))), (q50, .inr (8, [.int 0, .int 0, .int 0, .int 0, .int 0, .int 0, .int 0, .int 0, .int 0, .int 0, .int 0, .int 0, .int 0, .int 0, .long 0, .int 0, .ref a_4]))] := hD
  refine ka_astq hx hb hC.1 hP hD hS 2 5 4 8 rfl rfl rfl rfl 0 rfl (by decide +kernel) (by decide +kernel) dX9_init_57 (fun H locs hP hD hS => ?_)
  have hP : va_P D vwCl [(h0, .inr (9, [.null, .int 0, .ref q7, .ref q16, .ref q24, .ref q32])), (pl, .inr (2, [.int 1, .int 0, .int 0, .int 0, .int 0, .ref pl5, .ref pl6, .ref pl7, .ref pl8, .ref pl9, .ref pl10, .ref pl11, .ref pl12, .ref pl13])), (q7, .inl (ca 5, 10, .inr (.inr (.inr (.inr (va_up (fun _ => none) 0 (some q50))))))), (q16, .inl (ca 1, 6, .inl (fun _ => 0))), (q50, .inr (8, [.int 0, .int 0, .int 0, .int 0, .int 0, .int 0, .int 0, .int 0, .int 0, .int 0, .int 0, .int 0, .int 0, .int 0, .long 0, .int 0, .ref a_4]))] H := hP
  have hD : va_D A [(h0, .inr (9, [.null, .int 0, .ref q7, .ref q16, .ref q24, .ref q32])), (pl, .inr (2, [.int 1, .int 0, .int 0, .int 0, .int 0, .ref pl5, .ref pl6, .ref pl7, .ref pl8, .ref pl9, .ref pl10, .ref pl11, .ref pl12, .ref pl13])), (q7, .inl (ca 5, 10, .inr (.inr (.inr (.inr (va_up (fun _ => none) 0 (some q50))))))), (q16, .inl (ca 1, 6, .inl (fun _ => 0))), (q50, .inr (8, [.int 0, .int 0, .int 0, .int 0, .int 0, .int 0, .int 0, .int 0, .int 0, .int 0, .int 0, .int 0, .int 0, .int 0, .long 0, .int 0, .ref a_4]))] := hD
  generalize (va_up (fun _ => none) 0 (some q50)) = f_5 at hP hD
  refine lv_iinc (v := 1) (lv' := [(2, .int 1), (0, .ref h0), (1, .ref pl)]) hx hb dX9_init_58 hl (k := 0) rfl (by decide +kernel) (by decide +kernel) rfl (fun ls hl => ?_)
  refine lv_goto (tgt := 39) hx hb dX9_init_61 (by decide +kernel) ?_
  have hP : va_P D vwCl [(h0, .inr (9, [.null, .int 0, .ref q7, .ref q16, .ref q24, .ref q32])), (pl, .inr (2, [.int 1, .int 0, .int 0, .int 0, .int 0, .ref pl5, .ref pl6, .ref pl7, .ref pl8, .ref pl9, .ref pl10, .ref pl11, .ref pl12, .ref pl13])), (q7, .inl (ca 5, 10, .inr (.inr (.inr (.inr f_5))))), (q16, .inl (ca 1, 6, .inl (fun _ => 0)))] H := hP.sub [0, 1, 2, 3] rfl
  have hD : va_D A [(h0, .inr (9, [.null, .int 0, .ref q7, .ref q16, .ref q24, .ref q32])), (pl, .inr (2, [.int 1, .int 0, .int 0, .int 0, .int 0, .ref pl5, .ref pl6, .ref pl7, .ref pl8, .ref pl9, .ref pl10, .ref pl11, .ref pl12, .ref pl13])), (q7, .inl (ca 5, 10, .inr (.inr (.inr (.inr f_5))))), (q16, .inl (ca 1, 6, .inl (fun _ => 0)))] := hD.sub [0, 1, 2, 3] (by decide) rfl
  refine lv_iload_n hx hb dX9_init_39 rfl (lv_at hl 0 rfl) ?_
  refine lv_bipush (v := 10) hx hb dX9_init_40 (by decide +kernel) ?_
  refine lv_icmp_ge (tgt := 64) hx hb dX9_init_42 (by decide +kernel) (fun c_6 => absurd c_6 (by decide +kernel)) (fun c_6 => ?_)
  refine lv_aload_n hx hb dX9_init_45 rfl (lv_at hl 1 rfl) ?_
  refine va_get (D := D) (ci := 9) (v := .ref q7) (C := RX9) (T := TX9) (N := 6) hx hb hts iw_X9_init_9 hown hC.1 hP 0 rfl rfl 2 (by decide +kernel) (hts (.fieldLink RX9 11 "FairWheel$Wheel" "tasks" "[LFairWheel$Task;") (by decide +kernel)) (fun _ h9 => h9) rfl dX9_init_46 ?_
  refine lv_iload_n hx hb dX9_init_49 rfl (lv_at hl 0 rfl) ?_
  refine va_new (ci := 8) (fs := [.int 0, .int 0, .int 0, .int 0, .int 0, .int 0, .int 0, .int 0, .int 0, .int 0, .int 0, .int 0, .int 0, .int 0, .long 0, .int 0, .null]) (C := RX8) (T := TX8) (N := 17) hx hb hts iw_X9_init_8 tyX8 tyX8_ok hown (hts (.classLink RX9 9 RX8) (by decide +kernel)) (hts (.instantiable RX8 17) (by decide +kernel)) (hts (.initialized RX8) (by decide +kernel)) hC.1 hP hD hS hA rfl df_X8 (Nat.le_of_ble_eq_true rfl) (Nat.le_of_ble_eq_true rfl) dX9_init_50 (fun q50_7 H hP hD hS => ?_)
  have hP : va_P D vwCl [(h0, .inr (9, [.null, .int 0, .ref q7, .ref q16, .ref q24, .ref q32])), (pl, .inr (2, [.int 1, .int 0, .int 0, .int 0, .int 0, .ref pl5, .ref pl6, .ref pl7, .ref pl8, .ref pl9, .ref pl10, .ref pl11, .ref pl12, .ref pl13])), (q7, .inl (ca 5, 10, .inr (.inr (.inr (.inr f_5))))), (q16, .inl (ca 1, 6, .inl (fun _ => 0))), (q50_7, .inr (8, [.int 0, .int 0, .int 0, .int 0, .int 0, .int 0, .int 0, .int 0, .int 0, .int 0, .int 0, .int 0, .int 0, .int 0, .long 0, .int 0, .null]))] H := hP
  have hD : va_D A [(h0, .inr (9, [.null, .int 0, .ref q7, .ref q16, .ref q24, .ref q32])), (pl, .inr (2, [.int 1, .int 0, .int 0, .int 0, .int 0, .ref pl5, .ref pl6, .ref pl7, .ref pl8, .ref pl9, .ref pl10, .ref pl11, .ref pl12, .ref pl13])), (q7, .inl (ca 5, 10, .inr (.inr (.inr (.inr f_5))))), (q16, .inl (ca 1, 6, .inl (fun _ => 0))), (q50_7, .inr (8, [.int 0, .int 0, .int 0, .int 0, .int 0, .int 0, .int 0, .int 0, .int 0, .int 0, .int 0, .int 0, .int 0, .int 0, .long 0, .int 0, .null]))] := hD
  refine lv_dup hx hb dX9_init_53 rfl ?_
  refine kc_v (wr := [(h0, .inr (9, [.null, .int 0, .ref q7, .ref q16, .ref q24, .ref q32])), (pl, .inr (2, [.int 1, .int 0, .int 0, .int 0, .int 0, .ref pl5, .ref pl6, .ref pl7, .ref pl8, .ref pl9, .ref pl10, .ref pl11, .ref pl12, .ref pl13])), (q7, .inl (ca 5, 10, .inr (.inr (.inr (.inr f_5))))), (q16, .inl (ca 1, 6, .inl (fun _ => 0)))]) (va_runIN (As := []) (rest := [.ref q50_7, .int 1, .ref q7]) ⟨hx, hb, hml, hown, hts⟩ (k_X8_init l D ca H.size q50_7) (⟨va_cnB 0 hts gX9_init_X8_init_n28 rfl rfl rfl hC.2.2.2.2.1 (hts (.initialized RX8) (by decide +kernel)) (by decide +kernel) ⟨(Nat.le_of_ble_eq_true rfl), (Nat.le_of_ble_eq_true rfl)⟩, rfl, hts (.instanceMethod yX8_init) (by decide +kernel)⟩) (PC.preS hC hP hD [4] rfl (by decide +kernel)) rfl rfl hl.1 rfl (lv_room (Nat.le_of_ble_eq_true rfl)) dX9_init_54 ⟨(Nat.le_of_ble_eq_true rfl), (Nat.le_of_ble_eq_true rfl)⟩) hP hD hS hA [4] [0, 1, 2, 3] rfl rfl (by decide +kernel) (by decide +kernel) (fun u_9 H locs hw_8 hP hD hS => ?_)
  obtain ⟨a_10, rfl⟩ : ∃ z, z = u_9 := ⟨_, rfl⟩
  have hP : va_P D vwCl [(h0, .inr (9, [.null, .int 0, .ref q7, .ref q16, .ref q24, .ref q32])), (pl, .inr (2, [.int 1, .int 0, .int 0, .int 0, .int 0, .ref pl5, .ref pl6, .ref pl7, .ref pl8, .ref pl9, .ref pl10, .ref pl11, .ref pl12, .ref pl13])), (q7, .inl (ca 5, 10, .inr (.inr (.inr (.inr f_5))))), (q16, .inl (ca 1, 6, .inl (fun _ => 0))), (q50_7, .inr (8, [.int 0, .int 0, .int 0, .int 0, .int 0, .int 0, .int 0, .int 0, .int 0, .int 0, .int 0, .int 0, .int 0, .int 0, .long 0, .int 0, .ref a_10]))] H := hP
  have hD : va_D A [(h0, .inr (9, [.null, .int 0, .ref q7, .ref q16, .ref q24, .ref q32])), (pl, .inr (2, [.int 1, .int 0, .int 0, .int 0, .int 0, .ref pl5, .ref pl6, .ref pl7, .ref pl8, .ref pl9, .ref pl10, .ref pl11, .ref pl12, .ref pl13])), (q7, .inl (ca 5, 10, .inr (.inr (.inr (.inr f_5))))), (q16, .inl (ca 1, 6, .inl (fun _ => 0))), (q50_7, .inr (8, [.int 0, .int 0, .int 0, .int 0, .int 0, .int 0, .int 0, .int 0, .int 0, .int 0, .int 0, .int 0, .int 0, .int 0, .long 0, .int 0, .ref a_10]))] := hD
  refine ka_astq hx hb hC.1 hP hD hS 2 5 4 8 rfl rfl rfl rfl 1 rfl (by decide +kernel) (by decide +kernel) dX9_init_57 (fun H locs hP hD hS => ?_)
  have hP : va_P D vwCl [(h0, .inr (9, [.null, .int 0, .ref q7, .ref q16, .ref q24, .ref q32])), (pl, .inr (2, [.int 1, .int 0, .int 0, .int 0, .int 0, .ref pl5, .ref pl6, .ref pl7, .ref pl8, .ref pl9, .ref pl10, .ref pl11, .ref pl12, .ref pl13])), (q7, .inl (ca 5, 10, .inr (.inr (.inr (.inr (va_up f_5 1 (some q50_7))))))), (q16, .inl (ca 1, 6, .inl (fun _ => 0))), (q50_7, .inr (8, [.int 0, .int 0, .int 0, .int 0, .int 0, .int 0, .int 0, .int 0, .int 0, .int 0, .int 0, .int 0, .int 0, .int 0, .long 0, .int 0, .ref a_10]))] H := hP
  have hD : va_D A [(h0, .inr (9, [.null, .int 0, .ref q7, .ref q16, .ref q24, .ref q32])), (pl, .inr (2, [.int 1, .int 0, .int 0, .int 0, .int 0, .ref pl5, .ref pl6, .ref pl7, .ref pl8, .ref pl9, .ref pl10, .ref pl11, .ref pl12, .ref pl13])), (q7, .inl (ca 5, 10, .inr (.inr (.inr (.inr (va_up f_5 1 (some q50_7))))))), (q16, .inl (ca 1, 6, .inl (fun _ => 0))), (q50_7, .inr (8, [.int 0, .int 0, .int 0, .int 0, .int 0, .int 0, .int 0, .int 0, .int 0, .int 0, .int 0, .int 0, .int 0, .int 0, .long 0, .int 0, .ref a_10]))] := hD
  generalize (va_up f_5 1 (some q50_7)) = f_11 at hP hD
  refine lv_iinc (v := 2) (lv' := [(2, .int 2), (0, .ref h0), (1, .ref pl)]) hx hb dX9_init_58 hl (k := 0) rfl (by decide +kernel) (by decide +kernel) rfl (fun ls hl => ?_)
  refine lv_goto (tgt := 39) hx hb dX9_init_61 (by decide +kernel) ?_
  have hP : va_P D vwCl [(h0, .inr (9, [.null, .int 0, .ref q7, .ref q16, .ref q24, .ref q32])), (pl, .inr (2, [.int 1, .int 0, .int 0, .int 0, .int 0, .ref pl5, .ref pl6, .ref pl7, .ref pl8, .ref pl9, .ref pl10, .ref pl11, .ref pl12, .ref pl13])), (q7, .inl (ca 5, 10, .inr (.inr (.inr (.inr f_11))))), (q16, .inl (ca 1, 6, .inl (fun _ => 0)))] H := hP.sub [0, 1, 2, 3] rfl
  have hD : va_D A [(h0, .inr (9, [.null, .int 0, .ref q7, .ref q16, .ref q24, .ref q32])), (pl, .inr (2, [.int 1, .int 0, .int 0, .int 0, .int 0, .ref pl5, .ref pl6, .ref pl7, .ref pl8, .ref pl9, .ref pl10, .ref pl11, .ref pl12, .ref pl13])), (q7, .inl (ca 5, 10, .inr (.inr (.inr (.inr f_11))))), (q16, .inl (ca 1, 6, .inl (fun _ => 0)))] := hD.sub [0, 1, 2, 3] (by decide) rfl
  refine lv_iload_n hx hb dX9_init_39 rfl (lv_at hl 0 rfl) ?_
  refine lv_bipush (v := 10) hx hb dX9_init_40 (by decide +kernel) ?_
  refine lv_icmp_ge (tgt := 64) hx hb dX9_init_42 (by decide +kernel) (fun c_12 => absurd c_12 (by decide +kernel)) (fun c_12 => ?_)
  refine lv_aload_n hx hb dX9_init_45 rfl (lv_at hl 1 rfl) ?_
  refine va_get (D := D) (ci := 9) (v := .ref q7) (C := RX9) (T := TX9) (N := 6) hx hb hts iw_X9_init_9 hown hC.1 hP 0 rfl rfl 2 (by decide +kernel) (hts (.fieldLink RX9 11 "FairWheel$Wheel" "tasks" "[LFairWheel$Task;") (by decide +kernel)) (fun _ h9 => h9) rfl dX9_init_46 ?_
  refine lv_iload_n hx hb dX9_init_49 rfl (lv_at hl 0 rfl) ?_
  refine va_new (ci := 8) (fs := [.int 0, .int 0, .int 0, .int 0, .int 0, .int 0, .int 0, .int 0, .int 0, .int 0, .int 0, .int 0, .int 0, .int 0, .long 0, .int 0, .null]) (C := RX8) (T := TX8) (N := 17) hx hb hts iw_X9_init_8 tyX8 tyX8_ok hown (hts (.classLink RX9 9 RX8) (by decide +kernel)) (hts (.instantiable RX8 17) (by decide +kernel)) (hts (.initialized RX8) (by decide +kernel)) hC.1 hP hD hS hA rfl df_X8 (Nat.le_of_ble_eq_true rfl) (Nat.le_of_ble_eq_true rfl) dX9_init_50 (fun q50_13 H hP hD hS => ?_)
  have hP : va_P D vwCl [(h0, .inr (9, [.null, .int 0, .ref q7, .ref q16, .ref q24, .ref q32])), (pl, .inr (2, [.int 1, .int 0, .int 0, .int 0, .int 0, .ref pl5, .ref pl6, .ref pl7, .ref pl8, .ref pl9, .ref pl10, .ref pl11, .ref pl12, .ref pl13])), (q7, .inl (ca 5, 10, .inr (.inr (.inr (.inr f_11))))), (q16, .inl (ca 1, 6, .inl (fun _ => 0))), (q50_13, .inr (8, [.int 0, .int 0, .int 0, .int 0, .int 0, .int 0, .int 0, .int 0, .int 0, .int 0, .int 0, .int 0, .int 0, .int 0, .long 0, .int 0, .null]))] H := hP
  have hD : va_D A [(h0, .inr (9, [.null, .int 0, .ref q7, .ref q16, .ref q24, .ref q32])), (pl, .inr (2, [.int 1, .int 0, .int 0, .int 0, .int 0, .ref pl5, .ref pl6, .ref pl7, .ref pl8, .ref pl9, .ref pl10, .ref pl11, .ref pl12, .ref pl13])), (q7, .inl (ca 5, 10, .inr (.inr (.inr (.inr f_11))))), (q16, .inl (ca 1, 6, .inl (fun _ => 0))), (q50_13, .inr (8, [.int 0, .int 0, .int 0, .int 0, .int 0, .int 0, .int 0, .int 0, .int 0, .int 0, .int 0, .int 0, .int 0, .int 0, .long 0, .int 0, .null]))] := hD
  refine lv_dup hx hb dX9_init_53 rfl ?_
  refine kc_v (wr := [(h0, .inr (9, [.null, .int 0, .ref q7, .ref q16, .ref q24, .ref q32])), (pl, .inr (2, [.int 1, .int 0, .int 0, .int 0, .int 0, .ref pl5, .ref pl6, .ref pl7, .ref pl8, .ref pl9, .ref pl10, .ref pl11, .ref pl12, .ref pl13])), (q7, .inl (ca 5, 10, .inr (.inr (.inr (.inr f_11))))), (q16, .inl (ca 1, 6, .inl (fun _ => 0)))]) (va_runIN (As := []) (rest := [.ref q50_13, .int 2, .ref q7]) ⟨hx, hb, hml, hown, hts⟩ (k_X8_init l D ca H.size q50_13) (⟨va_cnB 0 hts gX9_init_X8_init_n28 rfl rfl rfl hC.2.2.2.2.1 (hts (.initialized RX8) (by decide +kernel)) (by decide +kernel) ⟨(Nat.le_of_ble_eq_true rfl), (Nat.le_of_ble_eq_true rfl)⟩, rfl, hts (.instanceMethod yX8_init) (by decide +kernel)⟩) (PC.preS hC hP hD [4] rfl (by decide +kernel)) rfl rfl hl.1 rfl (lv_room (Nat.le_of_ble_eq_true rfl)) dX9_init_54 ⟨(Nat.le_of_ble_eq_true rfl), (Nat.le_of_ble_eq_true rfl)⟩) hP hD hS hA [4] [0, 1, 2, 3] rfl rfl (by decide +kernel) (by decide +kernel) (fun u_15 H locs hw_14 hP hD hS => ?_)
  obtain ⟨a_16, rfl⟩ : ∃ z, z = u_15 := ⟨_, rfl⟩
  have hP : va_P D vwCl [(h0, .inr (9, [.null, .int 0, .ref q7, .ref q16, .ref q24, .ref q32])), (pl, .inr (2, [.int 1, .int 0, .int 0, .int 0, .int 0, .ref pl5, .ref pl6, .ref pl7, .ref pl8, .ref pl9, .ref pl10, .ref pl11, .ref pl12, .ref pl13])), (q7, .inl (ca 5, 10, .inr (.inr (.inr (.inr f_11))))), (q16, .inl (ca 1, 6, .inl (fun _ => 0))), (q50_13, .inr (8, [.int 0, .int 0, .int 0, .int 0, .int 0, .int 0, .int 0, .int 0, .int 0, .int 0, .int 0, .int 0, .int 0, .int 0, .long 0, .int 0, .ref a_16]))] H := hP
  have hD : va_D A [(h0, .inr (9, [.null, .int 0, .ref q7, .ref q16, .ref q24, .ref q32])), (pl, .inr (2, [.int 1, .int 0, .int 0, .int 0, .int 0, .ref pl5, .ref pl6, .ref pl7, .ref pl8, .ref pl9, .ref pl10, .ref pl11, .ref pl12, .ref pl13])), (q7, .inl (ca 5, 10, .inr (.inr (.inr (.inr f_11))))), (q16, .inl (ca 1, 6, .inl (fun _ => 0))), (q50_13, .inr (8, [.int 0, .int 0, .int 0, .int 0, .int 0, .int 0, .int 0, .int 0, .int 0, .int 0, .int 0, .int 0, .int 0, .int 0, .long 0, .int 0, .ref a_16]))] := hD
  refine ka_astq hx hb hC.1 hP hD hS 2 5 4 8 rfl rfl rfl rfl 2 rfl (by decide +kernel) (by decide +kernel) dX9_init_57 (fun H locs hP hD hS => ?_)
  have hP : va_P D vwCl [(h0, .inr (9, [.null, .int 0, .ref q7, .ref q16, .ref q24, .ref q32])), (pl, .inr (2, [.int 1, .int 0, .int 0, .int 0, .int 0, .ref pl5, .ref pl6, .ref pl7, .ref pl8, .ref pl9, .ref pl10, .ref pl11, .ref pl12, .ref pl13])), (q7, .inl (ca 5, 10, .inr (.inr (.inr (.inr (va_up f_11 2 (some q50_13))))))), (q16, .inl (ca 1, 6, .inl (fun _ => 0))), (q50_13, .inr (8, [.int 0, .int 0, .int 0, .int 0, .int 0, .int 0, .int 0, .int 0, .int 0, .int 0, .int 0, .int 0, .int 0, .int 0, .long 0, .int 0, .ref a_16]))] H := hP
  have hD : va_D A [(h0, .inr (9, [.null, .int 0, .ref q7, .ref q16, .ref q24, .ref q32])), (pl, .inr (2, [.int 1, .int 0, .int 0, .int 0, .int 0, .ref pl5, .ref pl6, .ref pl7, .ref pl8, .ref pl9, .ref pl10, .ref pl11, .ref pl12, .ref pl13])), (q7, .inl (ca 5, 10, .inr (.inr (.inr (.inr (va_up f_11 2 (some q50_13))))))), (q16, .inl (ca 1, 6, .inl (fun _ => 0))), (q50_13, .inr (8, [.int 0, .int 0, .int 0, .int 0, .int 0, .int 0, .int 0, .int 0, .int 0, .int 0, .int 0, .int 0, .int 0, .int 0, .long 0, .int 0, .ref a_16]))] := hD
  generalize (va_up f_11 2 (some q50_13)) = f_17 at hP hD
  refine lv_iinc (v := 3) (lv' := [(2, .int 3), (0, .ref h0), (1, .ref pl)]) hx hb dX9_init_58 hl (k := 0) rfl (by decide +kernel) (by decide +kernel) rfl (fun ls hl => ?_)
  refine lv_goto (tgt := 39) hx hb dX9_init_61 (by decide +kernel) ?_
  have hP : va_P D vwCl [(h0, .inr (9, [.null, .int 0, .ref q7, .ref q16, .ref q24, .ref q32])), (pl, .inr (2, [.int 1, .int 0, .int 0, .int 0, .int 0, .ref pl5, .ref pl6, .ref pl7, .ref pl8, .ref pl9, .ref pl10, .ref pl11, .ref pl12, .ref pl13])), (q7, .inl (ca 5, 10, .inr (.inr (.inr (.inr f_17))))), (q16, .inl (ca 1, 6, .inl (fun _ => 0)))] H := hP.sub [0, 1, 2, 3] rfl
  have hD : va_D A [(h0, .inr (9, [.null, .int 0, .ref q7, .ref q16, .ref q24, .ref q32])), (pl, .inr (2, [.int 1, .int 0, .int 0, .int 0, .int 0, .ref pl5, .ref pl6, .ref pl7, .ref pl8, .ref pl9, .ref pl10, .ref pl11, .ref pl12, .ref pl13])), (q7, .inl (ca 5, 10, .inr (.inr (.inr (.inr f_17))))), (q16, .inl (ca 1, 6, .inl (fun _ => 0)))] := hD.sub [0, 1, 2, 3] (by decide) rfl
  refine lv_iload_n hx hb dX9_init_39 rfl (lv_at hl 0 rfl) ?_
  refine lv_bipush (v := 10) hx hb dX9_init_40 (by decide +kernel) ?_
  refine lv_icmp_ge (tgt := 64) hx hb dX9_init_42 (by decide +kernel) (fun c_18 => absurd c_18 (by decide +kernel)) (fun c_18 => ?_)
  refine lv_aload_n hx hb dX9_init_45 rfl (lv_at hl 1 rfl) ?_
  refine va_get (D := D) (ci := 9) (v := .ref q7) (C := RX9) (T := TX9) (N := 6) hx hb hts iw_X9_init_9 hown hC.1 hP 0 rfl rfl 2 (by decide +kernel) (hts (.fieldLink RX9 11 "FairWheel$Wheel" "tasks" "[LFairWheel$Task;") (by decide +kernel)) (fun _ h9 => h9) rfl dX9_init_46 ?_
  refine lv_iload_n hx hb dX9_init_49 rfl (lv_at hl 0 rfl) ?_
  refine va_new (ci := 8) (fs := [.int 0, .int 0, .int 0, .int 0, .int 0, .int 0, .int 0, .int 0, .int 0, .int 0, .int 0, .int 0, .int 0, .int 0, .long 0, .int 0, .null]) (C := RX8) (T := TX8) (N := 17) hx hb hts iw_X9_init_8 tyX8 tyX8_ok hown (hts (.classLink RX9 9 RX8) (by decide +kernel)) (hts (.instantiable RX8 17) (by decide +kernel)) (hts (.initialized RX8) (by decide +kernel)) hC.1 hP hD hS hA rfl df_X8 (Nat.le_of_ble_eq_true rfl) (Nat.le_of_ble_eq_true rfl) dX9_init_50 (fun q50_19 H hP hD hS => ?_)
  have hP : va_P D vwCl [(h0, .inr (9, [.null, .int 0, .ref q7, .ref q16, .ref q24, .ref q32])), (pl, .inr (2, [.int 1, .int 0, .int 0, .int 0, .int 0, .ref pl5, .ref pl6, .ref pl7, .ref pl8, .ref pl9, .ref pl10, .ref pl11, .ref pl12, .ref pl13])), (q7, .inl (ca 5, 10, .inr (.inr (.inr (.inr f_17))))), (q16, .inl (ca 1, 6, .inl (fun _ => 0))), (q50_19, .inr (8, [.int 0, .int 0, .int 0, .int 0, .int 0, .int 0, .int 0, .int 0, .int 0, .int 0, .int 0, .int 0, .int 0, .int 0, .long 0, .int 0, .null]))] H := hP
  have hD : va_D A [(h0, .inr (9, [.null, .int 0, .ref q7, .ref q16, .ref q24, .ref q32])), (pl, .inr (2, [.int 1, .int 0, .int 0, .int 0, .int 0, .ref pl5, .ref pl6, .ref pl7, .ref pl8, .ref pl9, .ref pl10, .ref pl11, .ref pl12, .ref pl13])), (q7, .inl (ca 5, 10, .inr (.inr (.inr (.inr f_17))))), (q16, .inl (ca 1, 6, .inl (fun _ => 0))), (q50_19, .inr (8, [.int 0, .int 0, .int 0, .int 0, .int 0, .int 0, .int 0, .int 0, .int 0, .int 0, .int 0, .int 0, .int 0, .int 0, .long 0, .int 0, .null]))] := hD
  refine lv_dup hx hb dX9_init_53 rfl ?_
  refine kc_v (wr := [(h0, .inr (9, [.null, .int 0, .ref q7, .ref q16, .ref q24, .ref q32])), (pl, .inr (2, [.int 1, .int 0, .int 0, .int 0, .int 0, .ref pl5, .ref pl6, .ref pl7, .ref pl8, .ref pl9, .ref pl10, .ref pl11, .ref pl12, .ref pl13])), (q7, .inl (ca 5, 10, .inr (.inr (.inr (.inr f_17))))), (q16, .inl (ca 1, 6, .inl (fun _ => 0)))]) (va_runIN (As := []) (rest := [.ref q50_19, .int 3, .ref q7]) ⟨hx, hb, hml, hown, hts⟩ (k_X8_init l D ca H.size q50_19) (⟨va_cnB 0 hts gX9_init_X8_init_n28 rfl rfl rfl hC.2.2.2.2.1 (hts (.initialized RX8) (by decide +kernel)) (by decide +kernel) ⟨(Nat.le_of_ble_eq_true rfl), (Nat.le_of_ble_eq_true rfl)⟩, rfl, hts (.instanceMethod yX8_init) (by decide +kernel)⟩) (PC.preS hC hP hD [4] rfl (by decide +kernel)) rfl rfl hl.1 rfl (lv_room (Nat.le_of_ble_eq_true rfl)) dX9_init_54 ⟨(Nat.le_of_ble_eq_true rfl), (Nat.le_of_ble_eq_true rfl)⟩) hP hD hS hA [4] [0, 1, 2, 3] rfl rfl (by decide +kernel) (by decide +kernel) (fun u_21 H locs hw_20 hP hD hS => ?_)
  obtain ⟨a_22, rfl⟩ : ∃ z, z = u_21 := ⟨_, rfl⟩
  have hP : va_P D vwCl [(h0, .inr (9, [.null, .int 0, .ref q7, .ref q16, .ref q24, .ref q32])), (pl, .inr (2, [.int 1, .int 0, .int 0, .int 0, .int 0, .ref pl5, .ref pl6, .ref pl7, .ref pl8, .ref pl9, .ref pl10, .ref pl11, .ref pl12, .ref pl13])), (q7, .inl (ca 5, 10, .inr (.inr (.inr (.inr f_17))))), (q16, .inl (ca 1, 6, .inl (fun _ => 0))), (q50_19, .inr (8, [.int 0, .int 0, .int 0, .int 0, .int 0, .int 0, .int 0, .int 0, .int 0, .int 0, .int 0, .int 0, .int 0, .int 0, .long 0, .int 0, .ref a_22]))] H := hP
  have hD : va_D A [(h0, .inr (9, [.null, .int 0, .ref q7, .ref q16, .ref q24, .ref q32])), (pl, .inr (2, [.int 1, .int 0, .int 0, .int 0, .int 0, .ref pl5, .ref pl6, .ref pl7, .ref pl8, .ref pl9, .ref pl10, .ref pl11, .ref pl12, .ref pl13])), (q7, .inl (ca 5, 10, .inr (.inr (.inr (.inr f_17))))), (q16, .inl (ca 1, 6, .inl (fun _ => 0))), (q50_19, .inr (8, [.int 0, .int 0, .int 0, .int 0, .int 0, .int 0, .int 0, .int 0, .int 0, .int 0, .int 0, .int 0, .int 0, .int 0, .long 0, .int 0, .ref a_22]))] := hD
  refine ka_astq hx hb hC.1 hP hD hS 2 5 4 8 rfl rfl rfl rfl 3 rfl (by decide +kernel) (by decide +kernel) dX9_init_57 (fun H locs hP hD hS => ?_)
  have hP : va_P D vwCl [(h0, .inr (9, [.null, .int 0, .ref q7, .ref q16, .ref q24, .ref q32])), (pl, .inr (2, [.int 1, .int 0, .int 0, .int 0, .int 0, .ref pl5, .ref pl6, .ref pl7, .ref pl8, .ref pl9, .ref pl10, .ref pl11, .ref pl12, .ref pl13])), (q7, .inl (ca 5, 10, .inr (.inr (.inr (.inr (va_up f_17 3 (some q50_19))))))), (q16, .inl (ca 1, 6, .inl (fun _ => 0))), (q50_19, .inr (8, [.int 0, .int 0, .int 0, .int 0, .int 0, .int 0, .int 0, .int 0, .int 0, .int 0, .int 0, .int 0, .int 0, .int 0, .long 0, .int 0, .ref a_22]))] H := hP
  have hD : va_D A [(h0, .inr (9, [.null, .int 0, .ref q7, .ref q16, .ref q24, .ref q32])), (pl, .inr (2, [.int 1, .int 0, .int 0, .int 0, .int 0, .ref pl5, .ref pl6, .ref pl7, .ref pl8, .ref pl9, .ref pl10, .ref pl11, .ref pl12, .ref pl13])), (q7, .inl (ca 5, 10, .inr (.inr (.inr (.inr (va_up f_17 3 (some q50_19))))))), (q16, .inl (ca 1, 6, .inl (fun _ => 0))), (q50_19, .inr (8, [.int 0, .int 0, .int 0, .int 0, .int 0, .int 0, .int 0, .int 0, .int 0, .int 0, .int 0, .int 0, .int 0, .int 0, .long 0, .int 0, .ref a_22]))] := hD
  generalize (va_up f_17 3 (some q50_19)) = f_23 at hP hD
  refine lv_iinc (v := 4) (lv' := [(2, .int 4), (0, .ref h0), (1, .ref pl)]) hx hb dX9_init_58 hl (k := 0) rfl (by decide +kernel) (by decide +kernel) rfl (fun ls hl => ?_)
  refine lv_goto (tgt := 39) hx hb dX9_init_61 (by decide +kernel) ?_
  have hP : va_P D vwCl [(h0, .inr (9, [.null, .int 0, .ref q7, .ref q16, .ref q24, .ref q32])), (pl, .inr (2, [.int 1, .int 0, .int 0, .int 0, .int 0, .ref pl5, .ref pl6, .ref pl7, .ref pl8, .ref pl9, .ref pl10, .ref pl11, .ref pl12, .ref pl13])), (q7, .inl (ca 5, 10, .inr (.inr (.inr (.inr f_23))))), (q16, .inl (ca 1, 6, .inl (fun _ => 0)))] H := hP.sub [0, 1, 2, 3] rfl
  have hD : va_D A [(h0, .inr (9, [.null, .int 0, .ref q7, .ref q16, .ref q24, .ref q32])), (pl, .inr (2, [.int 1, .int 0, .int 0, .int 0, .int 0, .ref pl5, .ref pl6, .ref pl7, .ref pl8, .ref pl9, .ref pl10, .ref pl11, .ref pl12, .ref pl13])), (q7, .inl (ca 5, 10, .inr (.inr (.inr (.inr f_23))))), (q16, .inl (ca 1, 6, .inl (fun _ => 0)))] := hD.sub [0, 1, 2, 3] (by decide) rfl
  refine lv_iload_n hx hb dX9_init_39 rfl (lv_at hl 0 rfl) ?_
  refine lv_bipush (v := 10) hx hb dX9_init_40 (by decide +kernel) ?_
  refine lv_icmp_ge (tgt := 64) hx hb dX9_init_42 (by decide +kernel) (fun c_24 => absurd c_24 (by decide +kernel)) (fun c_24 => ?_)
  refine lv_aload_n hx hb dX9_init_45 rfl (lv_at hl 1 rfl) ?_
  refine va_get (D := D) (ci := 9) (v := .ref q7) (C := RX9) (T := TX9) (N := 6) hx hb hts iw_X9_init_9 hown hC.1 hP 0 rfl rfl 2 (by decide +kernel) (hts (.fieldLink RX9 11 "FairWheel$Wheel" "tasks" "[LFairWheel$Task;") (by decide +kernel)) (fun _ h9 => h9) rfl dX9_init_46 ?_
  refine lv_iload_n hx hb dX9_init_49 rfl (lv_at hl 0 rfl) ?_
  refine va_new (ci := 8) (fs := [.int 0, .int 0, .int 0, .int 0, .int 0, .int 0, .int 0, .int 0, .int 0, .int 0, .int 0, .int 0, .int 0, .int 0, .long 0, .int 0, .null]) (C := RX8) (T := TX8) (N := 17) hx hb hts iw_X9_init_8 tyX8 tyX8_ok hown (hts (.classLink RX9 9 RX8) (by decide +kernel)) (hts (.instantiable RX8 17) (by decide +kernel)) (hts (.initialized RX8) (by decide +kernel)) hC.1 hP hD hS hA rfl df_X8 (Nat.le_of_ble_eq_true rfl) (Nat.le_of_ble_eq_true rfl) dX9_init_50 (fun q50_25 H hP hD hS => ?_)
  have hP : va_P D vwCl [(h0, .inr (9, [.null, .int 0, .ref q7, .ref q16, .ref q24, .ref q32])), (pl, .inr (2, [.int 1, .int 0, .int 0, .int 0, .int 0, .ref pl5, .ref pl6, .ref pl7, .ref pl8, .ref pl9, .ref pl10, .ref pl11, .ref pl12, .ref pl13])), (q7, .inl (ca 5, 10, .inr (.inr (.inr (.inr f_23))))), (q16, .inl (ca 1, 6, .inl (fun _ => 0))), (q50_25, .inr (8, [.int 0, .int 0, .int 0, .int 0, .int 0, .int 0, .int 0, .int 0, .int 0, .int 0, .int 0, .int 0, .int 0, .int 0, .long 0, .int 0, .null]))] H := hP
  have hD : va_D A [(h0, .inr (9, [.null, .int 0, .ref q7, .ref q16, .ref q24, .ref q32])), (pl, .inr (2, [.int 1, .int 0, .int 0, .int 0, .int 0, .ref pl5, .ref pl6, .ref pl7, .ref pl8, .ref pl9, .ref pl10, .ref pl11, .ref pl12, .ref pl13])), (q7, .inl (ca 5, 10, .inr (.inr (.inr (.inr f_23))))), (q16, .inl (ca 1, 6, .inl (fun _ => 0))), (q50_25, .inr (8, [.int 0, .int 0, .int 0, .int 0, .int 0, .int 0, .int 0, .int 0, .int 0, .int 0, .int 0, .int 0, .int 0, .int 0, .long 0, .int 0, .null]))] := hD
  refine lv_dup hx hb dX9_init_53 rfl ?_
  refine kc_v (wr := [(h0, .inr (9, [.null, .int 0, .ref q7, .ref q16, .ref q24, .ref q32])), (pl, .inr (2, [.int 1, .int 0, .int 0, .int 0, .int 0, .ref pl5, .ref pl6, .ref pl7, .ref pl8, .ref pl9, .ref pl10, .ref pl11, .ref pl12, .ref pl13])), (q7, .inl (ca 5, 10, .inr (.inr (.inr (.inr f_23))))), (q16, .inl (ca 1, 6, .inl (fun _ => 0)))]) (va_runIN (As := []) (rest := [.ref q50_25, .int 4, .ref q7]) ⟨hx, hb, hml, hown, hts⟩ (k_X8_init l D ca H.size q50_25) (⟨va_cnB 0 hts gX9_init_X8_init_n28 rfl rfl rfl hC.2.2.2.2.1 (hts (.initialized RX8) (by decide +kernel)) (by decide +kernel) ⟨(Nat.le_of_ble_eq_true rfl), (Nat.le_of_ble_eq_true rfl)⟩, rfl, hts (.instanceMethod yX8_init) (by decide +kernel)⟩) (PC.preS hC hP hD [4] rfl (by decide +kernel)) rfl rfl hl.1 rfl (lv_room (Nat.le_of_ble_eq_true rfl)) dX9_init_54 ⟨(Nat.le_of_ble_eq_true rfl), (Nat.le_of_ble_eq_true rfl)⟩) hP hD hS hA [4] [0, 1, 2, 3] rfl rfl (by decide +kernel) (by decide +kernel) (fun u_27 H locs hw_26 hP hD hS => ?_)
  obtain ⟨a_28, rfl⟩ : ∃ z, z = u_27 := ⟨_, rfl⟩
  have hP : va_P D vwCl [(h0, .inr (9, [.null, .int 0, .ref q7, .ref q16, .ref q24, .ref q32])), (pl, .inr (2, [.int 1, .int 0, .int 0, .int 0, .int 0, .ref pl5, .ref pl6, .ref pl7, .ref pl8, .ref pl9, .ref pl10, .ref pl11, .ref pl12, .ref pl13])), (q7, .inl (ca 5, 10, .inr (.inr (.inr (.inr f_23))))), (q16, .inl (ca 1, 6, .inl (fun _ => 0))), (q50_25, .inr (8, [.int 0, .int 0, .int 0, .int 0, .int 0, .int 0, .int 0, .int 0, .int 0, .int 0, .int 0, .int 0, .int 0, .int 0, .long 0, .int 0, .ref a_28]))] H := hP
  have hD : va_D A [(h0, .inr (9, [.null, .int 0, .ref q7, .ref q16, .ref q24, .ref q32])), (pl, .inr (2, [.int 1, .int 0, .int 0, .int 0, .int 0, .ref pl5, .ref pl6, .ref pl7, .ref pl8, .ref pl9, .ref pl10, .ref pl11, .ref pl12, .ref pl13])), (q7, .inl (ca 5, 10, .inr (.inr (.inr (.inr f_23))))), (q16, .inl (ca 1, 6, .inl (fun _ => 0))), (q50_25, .inr (8, [.int 0, .int 0, .int 0, .int 0, .int 0, .int 0, .int 0, .int 0, .int 0, .int 0, .int 0, .int 0, .int 0, .int 0, .long 0, .int 0, .ref a_28]))] := hD
  refine ka_astq hx hb hC.1 hP hD hS 2 5 4 8 rfl rfl rfl rfl 4 rfl (by decide +kernel) (by decide +kernel) dX9_init_57 (fun H locs hP hD hS => ?_)
  have hP : va_P D vwCl [(h0, .inr (9, [.null, .int 0, .ref q7, .ref q16, .ref q24, .ref q32])), (pl, .inr (2, [.int 1, .int 0, .int 0, .int 0, .int 0, .ref pl5, .ref pl6, .ref pl7, .ref pl8, .ref pl9, .ref pl10, .ref pl11, .ref pl12, .ref pl13])), (q7, .inl (ca 5, 10, .inr (.inr (.inr (.inr (va_up f_23 4 (some q50_25))))))), (q16, .inl (ca 1, 6, .inl (fun _ => 0))), (q50_25, .inr (8, [.int 0, .int 0, .int 0, .int 0, .int 0, .int 0, .int 0, .int 0, .int 0, .int 0, .int 0, .int 0, .int 0, .int 0, .long 0, .int 0, .ref a_28]))] H := hP
  have hD : va_D A [(h0, .inr (9, [.null, .int 0, .ref q7, .ref q16, .ref q24, .ref q32])), (pl, .inr (2, [.int 1, .int 0, .int 0, .int 0, .int 0, .ref pl5, .ref pl6, .ref pl7, .ref pl8, .ref pl9, .ref pl10, .ref pl11, .ref pl12, .ref pl13])), (q7, .inl (ca 5, 10, .inr (.inr (.inr (.inr (va_up f_23 4 (some q50_25))))))), (q16, .inl (ca 1, 6, .inl (fun _ => 0))), (q50_25, .inr (8, [.int 0, .int 0, .int 0, .int 0, .int 0, .int 0, .int 0, .int 0, .int 0, .int 0, .int 0, .int 0, .int 0, .int 0, .long 0, .int 0, .ref a_28]))] := hD
  generalize (va_up f_23 4 (some q50_25)) = f_29 at hP hD
  refine lv_iinc (v := 5) (lv' := [(2, .int 5), (0, .ref h0), (1, .ref pl)]) hx hb dX9_init_58 hl (k := 0) rfl (by decide +kernel) (by decide +kernel) rfl (fun ls hl => ?_)
  refine lv_goto (tgt := 39) hx hb dX9_init_61 (by decide +kernel) ?_
  have hP : va_P D vwCl [(h0, .inr (9, [.null, .int 0, .ref q7, .ref q16, .ref q24, .ref q32])), (pl, .inr (2, [.int 1, .int 0, .int 0, .int 0, .int 0, .ref pl5, .ref pl6, .ref pl7, .ref pl8, .ref pl9, .ref pl10, .ref pl11, .ref pl12, .ref pl13])), (q7, .inl (ca 5, 10, .inr (.inr (.inr (.inr f_29))))), (q16, .inl (ca 1, 6, .inl (fun _ => 0)))] H := hP.sub [0, 1, 2, 3] rfl
  have hD : va_D A [(h0, .inr (9, [.null, .int 0, .ref q7, .ref q16, .ref q24, .ref q32])), (pl, .inr (2, [.int 1, .int 0, .int 0, .int 0, .int 0, .ref pl5, .ref pl6, .ref pl7, .ref pl8, .ref pl9, .ref pl10, .ref pl11, .ref pl12, .ref pl13])), (q7, .inl (ca 5, 10, .inr (.inr (.inr (.inr f_29))))), (q16, .inl (ca 1, 6, .inl (fun _ => 0)))] := hD.sub [0, 1, 2, 3] (by decide) rfl
  refine lv_iload_n hx hb dX9_init_39 rfl (lv_at hl 0 rfl) ?_
  refine lv_bipush (v := 10) hx hb dX9_init_40 (by decide +kernel) ?_
  refine lv_icmp_ge (tgt := 64) hx hb dX9_init_42 (by decide +kernel) (fun c_30 => absurd c_30 (by decide +kernel)) (fun c_30 => ?_)
  refine lv_aload_n hx hb dX9_init_45 rfl (lv_at hl 1 rfl) ?_
  refine va_get (D := D) (ci := 9) (v := .ref q7) (C := RX9) (T := TX9) (N := 6) hx hb hts iw_X9_init_9 hown hC.1 hP 0 rfl rfl 2 (by decide +kernel) (hts (.fieldLink RX9 11 "FairWheel$Wheel" "tasks" "[LFairWheel$Task;") (by decide +kernel)) (fun _ h9 => h9) rfl dX9_init_46 ?_
  refine lv_iload_n hx hb dX9_init_49 rfl (lv_at hl 0 rfl) ?_
  refine va_new (ci := 8) (fs := [.int 0, .int 0, .int 0, .int 0, .int 0, .int 0, .int 0, .int 0, .int 0, .int 0, .int 0, .int 0, .int 0, .int 0, .long 0, .int 0, .null]) (C := RX8) (T := TX8) (N := 17) hx hb hts iw_X9_init_8 tyX8 tyX8_ok hown (hts (.classLink RX9 9 RX8) (by decide +kernel)) (hts (.instantiable RX8 17) (by decide +kernel)) (hts (.initialized RX8) (by decide +kernel)) hC.1 hP hD hS hA rfl df_X8 (Nat.le_of_ble_eq_true rfl) (Nat.le_of_ble_eq_true rfl) dX9_init_50 (fun q50_31 H hP hD hS => ?_)
  have hP : va_P D vwCl [(h0, .inr (9, [.null, .int 0, .ref q7, .ref q16, .ref q24, .ref q32])), (pl, .inr (2, [.int 1, .int 0, .int 0, .int 0, .int 0, .ref pl5, .ref pl6, .ref pl7, .ref pl8, .ref pl9, .ref pl10, .ref pl11, .ref pl12, .ref pl13])), (q7, .inl (ca 5, 10, .inr (.inr (.inr (.inr f_29))))), (q16, .inl (ca 1, 6, .inl (fun _ => 0))), (q50_31, .inr (8, [.int 0, .int 0, .int 0, .int 0, .int 0, .int 0, .int 0, .int 0, .int 0, .int 0, .int 0, .int 0, .int 0, .int 0, .long 0, .int 0, .null]))] H := hP
  have hD : va_D A [(h0, .inr (9, [.null, .int 0, .ref q7, .ref q16, .ref q24, .ref q32])), (pl, .inr (2, [.int 1, .int 0, .int 0, .int 0, .int 0, .ref pl5, .ref pl6, .ref pl7, .ref pl8, .ref pl9, .ref pl10, .ref pl11, .ref pl12, .ref pl13])), (q7, .inl (ca 5, 10, .inr (.inr (.inr (.inr f_29))))), (q16, .inl (ca 1, 6, .inl (fun _ => 0))), (q50_31, .inr (8, [.int 0, .int 0, .int 0, .int 0, .int 0, .int 0, .int 0, .int 0, .int 0, .int 0, .int 0, .int 0, .int 0, .int 0, .long 0, .int 0, .null]))] := hD
  refine lv_dup hx hb dX9_init_53 rfl ?_
  refine kc_v (wr := [(h0, .inr (9, [.null, .int 0, .ref q7, .ref q16, .ref q24, .ref q32])), (pl, .inr (2, [.int 1, .int 0, .int 0, .int 0, .int 0, .ref pl5, .ref pl6, .ref pl7, .ref pl8, .ref pl9, .ref pl10, .ref pl11, .ref pl12, .ref pl13])), (q7, .inl (ca 5, 10, .inr (.inr (.inr (.inr f_29))))), (q16, .inl (ca 1, 6, .inl (fun _ => 0)))]) (va_runIN (As := []) (rest := [.ref q50_31, .int 5, .ref q7]) ⟨hx, hb, hml, hown, hts⟩ (k_X8_init l D ca H.size q50_31) (⟨va_cnB 0 hts gX9_init_X8_init_n28 rfl rfl rfl hC.2.2.2.2.1 (hts (.initialized RX8) (by decide +kernel)) (by decide +kernel) ⟨(Nat.le_of_ble_eq_true rfl), (Nat.le_of_ble_eq_true rfl)⟩, rfl, hts (.instanceMethod yX8_init) (by decide +kernel)⟩) (PC.preS hC hP hD [4] rfl (by decide +kernel)) rfl rfl hl.1 rfl (lv_room (Nat.le_of_ble_eq_true rfl)) dX9_init_54 ⟨(Nat.le_of_ble_eq_true rfl), (Nat.le_of_ble_eq_true rfl)⟩) hP hD hS hA [4] [0, 1, 2, 3] rfl rfl (by decide +kernel) (by decide +kernel) (fun u_33 H locs hw_32 hP hD hS => ?_)
  obtain ⟨a_34, rfl⟩ : ∃ z, z = u_33 := ⟨_, rfl⟩
  have hP : va_P D vwCl [(h0, .inr (9, [.null, .int 0, .ref q7, .ref q16, .ref q24, .ref q32])), (pl, .inr (2, [.int 1, .int 0, .int 0, .int 0, .int 0, .ref pl5, .ref pl6, .ref pl7, .ref pl8, .ref pl9, .ref pl10, .ref pl11, .ref pl12, .ref pl13])), (q7, .inl (ca 5, 10, .inr (.inr (.inr (.inr f_29))))), (q16, .inl (ca 1, 6, .inl (fun _ => 0))), (q50_31, .inr (8, [.int 0, .int 0, .int 0, .int 0, .int 0, .int 0, .int 0, .int 0, .int 0, .int 0, .int 0, .int 0, .int 0, .int 0, .long 0, .int 0, .ref a_34]))] H := hP
  have hD : va_D A [(h0, .inr (9, [.null, .int 0, .ref q7, .ref q16, .ref q24, .ref q32])), (pl, .inr (2, [.int 1, .int 0, .int 0, .int 0, .int 0, .ref pl5, .ref pl6, .ref pl7, .ref pl8, .ref pl9, .ref pl10, .ref pl11, .ref pl12, .ref pl13])), (q7, .inl (ca 5, 10, .inr (.inr (.inr (.inr f_29))))), (q16, .inl (ca 1, 6, .inl (fun _ => 0))), (q50_31, .inr (8, [.int 0, .int 0, .int 0, .int 0, .int 0, .int 0, .int 0, .int 0, .int 0, .int 0, .int 0, .int 0, .int 0, .int 0, .long 0, .int 0, .ref a_34]))] := hD
  refine ka_astq hx hb hC.1 hP hD hS 2 5 4 8 rfl rfl rfl rfl 5 rfl (by decide +kernel) (by decide +kernel) dX9_init_57 (fun H locs hP hD hS => ?_)
  have hP : va_P D vwCl [(h0, .inr (9, [.null, .int 0, .ref q7, .ref q16, .ref q24, .ref q32])), (pl, .inr (2, [.int 1, .int 0, .int 0, .int 0, .int 0, .ref pl5, .ref pl6, .ref pl7, .ref pl8, .ref pl9, .ref pl10, .ref pl11, .ref pl12, .ref pl13])), (q7, .inl (ca 5, 10, .inr (.inr (.inr (.inr (va_up f_29 5 (some q50_31))))))), (q16, .inl (ca 1, 6, .inl (fun _ => 0))), (q50_31, .inr (8, [.int 0, .int 0, .int 0, .int 0, .int 0, .int 0, .int 0, .int 0, .int 0, .int 0, .int 0, .int 0, .int 0, .int 0, .long 0, .int 0, .ref a_34]))] H := hP
  have hD : va_D A [(h0, .inr (9, [.null, .int 0, .ref q7, .ref q16, .ref q24, .ref q32])), (pl, .inr (2, [.int 1, .int 0, .int 0, .int 0, .int 0, .ref pl5, .ref pl6, .ref pl7, .ref pl8, .ref pl9, .ref pl10, .ref pl11, .ref pl12, .ref pl13])), (q7, .inl (ca 5, 10, .inr (.inr (.inr (.inr (va_up f_29 5 (some q50_31))))))), (q16, .inl (ca 1, 6, .inl (fun _ => 0))), (q50_31, .inr (8, [.int 0, .int 0, .int 0, .int 0, .int 0, .int 0, .int 0, .int 0, .int 0, .int 0, .int 0, .int 0, .int 0, .int 0, .long 0, .int 0, .ref a_34]))] := hD
  generalize (va_up f_29 5 (some q50_31)) = f_35 at hP hD
  refine lv_iinc (v := 6) (lv' := [(2, .int 6), (0, .ref h0), (1, .ref pl)]) hx hb dX9_init_58 hl (k := 0) rfl (by decide +kernel) (by decide +kernel) rfl (fun ls hl => ?_)
  refine lv_goto (tgt := 39) hx hb dX9_init_61 (by decide +kernel) ?_
  have hP : va_P D vwCl [(h0, .inr (9, [.null, .int 0, .ref q7, .ref q16, .ref q24, .ref q32])), (pl, .inr (2, [.int 1, .int 0, .int 0, .int 0, .int 0, .ref pl5, .ref pl6, .ref pl7, .ref pl8, .ref pl9, .ref pl10, .ref pl11, .ref pl12, .ref pl13])), (q7, .inl (ca 5, 10, .inr (.inr (.inr (.inr f_35))))), (q16, .inl (ca 1, 6, .inl (fun _ => 0)))] H := hP.sub [0, 1, 2, 3] rfl
  have hD : va_D A [(h0, .inr (9, [.null, .int 0, .ref q7, .ref q16, .ref q24, .ref q32])), (pl, .inr (2, [.int 1, .int 0, .int 0, .int 0, .int 0, .ref pl5, .ref pl6, .ref pl7, .ref pl8, .ref pl9, .ref pl10, .ref pl11, .ref pl12, .ref pl13])), (q7, .inl (ca 5, 10, .inr (.inr (.inr (.inr f_35))))), (q16, .inl (ca 1, 6, .inl (fun _ => 0)))] := hD.sub [0, 1, 2, 3] (by decide) rfl
  refine lv_iload_n hx hb dX9_init_39 rfl (lv_at hl 0 rfl) ?_
  refine lv_bipush (v := 10) hx hb dX9_init_40 (by decide +kernel) ?_
  refine lv_icmp_ge (tgt := 64) hx hb dX9_init_42 (by decide +kernel) (fun c_36 => absurd c_36 (by decide +kernel)) (fun c_36 => ?_)
  refine lv_aload_n hx hb dX9_init_45 rfl (lv_at hl 1 rfl) ?_
  refine va_get (D := D) (ci := 9) (v := .ref q7) (C := RX9) (T := TX9) (N := 6) hx hb hts iw_X9_init_9 hown hC.1 hP 0 rfl rfl 2 (by decide +kernel) (hts (.fieldLink RX9 11 "FairWheel$Wheel" "tasks" "[LFairWheel$Task;") (by decide +kernel)) (fun _ h9 => h9) rfl dX9_init_46 ?_
  refine lv_iload_n hx hb dX9_init_49 rfl (lv_at hl 0 rfl) ?_
  refine va_new (ci := 8) (fs := [.int 0, .int 0, .int 0, .int 0, .int 0, .int 0, .int 0, .int 0, .int 0, .int 0, .int 0, .int 0, .int 0, .int 0, .long 0, .int 0, .null]) (C := RX8) (T := TX8) (N := 17) hx hb hts iw_X9_init_8 tyX8 tyX8_ok hown (hts (.classLink RX9 9 RX8) (by decide +kernel)) (hts (.instantiable RX8 17) (by decide +kernel)) (hts (.initialized RX8) (by decide +kernel)) hC.1 hP hD hS hA rfl df_X8 (Nat.le_of_ble_eq_true rfl) (Nat.le_of_ble_eq_true rfl) dX9_init_50 (fun q50_37 H hP hD hS => ?_)
  have hP : va_P D vwCl [(h0, .inr (9, [.null, .int 0, .ref q7, .ref q16, .ref q24, .ref q32])), (pl, .inr (2, [.int 1, .int 0, .int 0, .int 0, .int 0, .ref pl5, .ref pl6, .ref pl7, .ref pl8, .ref pl9, .ref pl10, .ref pl11, .ref pl12, .ref pl13])), (q7, .inl (ca 5, 10, .inr (.inr (.inr (.inr f_35))))), (q16, .inl (ca 1, 6, .inl (fun _ => 0))), (q50_37, .inr (8, [.int 0, .int 0, .int 0, .int 0, .int 0, .int 0, .int 0, .int 0, .int 0, .int 0, .int 0, .int 0, .int 0, .int 0, .long 0, .int 0, .null]))] H := hP
  have hD : va_D A [(h0, .inr (9, [.null, .int 0, .ref q7, .ref q16, .ref q24, .ref q32])), (pl, .inr (2, [.int 1, .int 0, .int 0, .int 0, .int 0, .ref pl5, .ref pl6, .ref pl7, .ref pl8, .ref pl9, .ref pl10, .ref pl11, .ref pl12, .ref pl13])), (q7, .inl (ca 5, 10, .inr (.inr (.inr (.inr f_35))))), (q16, .inl (ca 1, 6, .inl (fun _ => 0))), (q50_37, .inr (8, [.int 0, .int 0, .int 0, .int 0, .int 0, .int 0, .int 0, .int 0, .int 0, .int 0, .int 0, .int 0, .int 0, .int 0, .long 0, .int 0, .null]))] := hD
  refine lv_dup hx hb dX9_init_53 rfl ?_
  refine kc_v (wr := [(h0, .inr (9, [.null, .int 0, .ref q7, .ref q16, .ref q24, .ref q32])), (pl, .inr (2, [.int 1, .int 0, .int 0, .int 0, .int 0, .ref pl5, .ref pl6, .ref pl7, .ref pl8, .ref pl9, .ref pl10, .ref pl11, .ref pl12, .ref pl13])), (q7, .inl (ca 5, 10, .inr (.inr (.inr (.inr f_35))))), (q16, .inl (ca 1, 6, .inl (fun _ => 0)))]) (va_runIN (As := []) (rest := [.ref q50_37, .int 6, .ref q7]) ⟨hx, hb, hml, hown, hts⟩ (k_X8_init l D ca H.size q50_37) (⟨va_cnB 0 hts gX9_init_X8_init_n28 rfl rfl rfl hC.2.2.2.2.1 (hts (.initialized RX8) (by decide +kernel)) (by decide +kernel) ⟨(Nat.le_of_ble_eq_true rfl), (Nat.le_of_ble_eq_true rfl)⟩, rfl, hts (.instanceMethod yX8_init) (by decide +kernel)⟩) (PC.preS hC hP hD [4] rfl (by decide +kernel)) rfl rfl hl.1 rfl (lv_room (Nat.le_of_ble_eq_true rfl)) dX9_init_54 ⟨(Nat.le_of_ble_eq_true rfl), (Nat.le_of_ble_eq_true rfl)⟩) hP hD hS hA [4] [0, 1, 2, 3] rfl rfl (by decide +kernel) (by decide +kernel) (fun u_39 H locs hw_38 hP hD hS => ?_)
  obtain ⟨a_40, rfl⟩ : ∃ z, z = u_39 := ⟨_, rfl⟩
  have hP : va_P D vwCl [(h0, .inr (9, [.null, .int 0, .ref q7, .ref q16, .ref q24, .ref q32])), (pl, .inr (2, [.int 1, .int 0, .int 0, .int 0, .int 0, .ref pl5, .ref pl6, .ref pl7, .ref pl8, .ref pl9, .ref pl10, .ref pl11, .ref pl12, .ref pl13])), (q7, .inl (ca 5, 10, .inr (.inr (.inr (.inr f_35))))), (q16, .inl (ca 1, 6, .inl (fun _ => 0))), (q50_37, .inr (8, [.int 0, .int 0, .int 0, .int 0, .int 0, .int 0, .int 0, .int 0, .int 0, .int 0, .int 0, .int 0, .int 0, .int 0, .long 0, .int 0, .ref a_40]))] H := hP
  have hD : va_D A [(h0, .inr (9, [.null, .int 0, .ref q7, .ref q16, .ref q24, .ref q32])), (pl, .inr (2, [.int 1, .int 0, .int 0, .int 0, .int 0, .ref pl5, .ref pl6, .ref pl7, .ref pl8, .ref pl9, .ref pl10, .ref pl11, .ref pl12, .ref pl13])), (q7, .inl (ca 5, 10, .inr (.inr (.inr (.inr f_35))))), (q16, .inl (ca 1, 6, .inl (fun _ => 0))), (q50_37, .inr (8, [.int 0, .int 0, .int 0, .int 0, .int 0, .int 0, .int 0, .int 0, .int 0, .int 0, .int 0, .int 0, .int 0, .int 0, .long 0, .int 0, .ref a_40]))] := hD
  refine ka_astq hx hb hC.1 hP hD hS 2 5 4 8 rfl rfl rfl rfl 6 rfl (by decide +kernel) (by decide +kernel) dX9_init_57 (fun H locs hP hD hS => ?_)
  have hP : va_P D vwCl [(h0, .inr (9, [.null, .int 0, .ref q7, .ref q16, .ref q24, .ref q32])), (pl, .inr (2, [.int 1, .int 0, .int 0, .int 0, .int 0, .ref pl5, .ref pl6, .ref pl7, .ref pl8, .ref pl9, .ref pl10, .ref pl11, .ref pl12, .ref pl13])), (q7, .inl (ca 5, 10, .inr (.inr (.inr (.inr (va_up f_35 6 (some q50_37))))))), (q16, .inl (ca 1, 6, .inl (fun _ => 0))), (q50_37, .inr (8, [.int 0, .int 0, .int 0, .int 0, .int 0, .int 0, .int 0, .int 0, .int 0, .int 0, .int 0, .int 0, .int 0, .int 0, .long 0, .int 0, .ref a_40]))] H := hP
  have hD : va_D A [(h0, .inr (9, [.null, .int 0, .ref q7, .ref q16, .ref q24, .ref q32])), (pl, .inr (2, [.int 1, .int 0, .int 0, .int 0, .int 0, .ref pl5, .ref pl6, .ref pl7, .ref pl8, .ref pl9, .ref pl10, .ref pl11, .ref pl12, .ref pl13])), (q7, .inl (ca 5, 10, .inr (.inr (.inr (.inr (va_up f_35 6 (some q50_37))))))), (q16, .inl (ca 1, 6, .inl (fun _ => 0))), (q50_37, .inr (8, [.int 0, .int 0, .int 0, .int 0, .int 0, .int 0, .int 0, .int 0, .int 0, .int 0, .int 0, .int 0, .int 0, .int 0, .long 0, .int 0, .ref a_40]))] := hD
  generalize (va_up f_35 6 (some q50_37)) = f_41 at hP hD
  refine lv_iinc (v := 7) (lv' := [(2, .int 7), (0, .ref h0), (1, .ref pl)]) hx hb dX9_init_58 hl (k := 0) rfl (by decide +kernel) (by decide +kernel) rfl (fun ls hl => ?_)
  refine lv_goto (tgt := 39) hx hb dX9_init_61 (by decide +kernel) ?_
  have hP : va_P D vwCl [(h0, .inr (9, [.null, .int 0, .ref q7, .ref q16, .ref q24, .ref q32])), (pl, .inr (2, [.int 1, .int 0, .int 0, .int 0, .int 0, .ref pl5, .ref pl6, .ref pl7, .ref pl8, .ref pl9, .ref pl10, .ref pl11, .ref pl12, .ref pl13])), (q7, .inl (ca 5, 10, .inr (.inr (.inr (.inr f_41))))), (q16, .inl (ca 1, 6, .inl (fun _ => 0)))] H := hP.sub [0, 1, 2, 3] rfl
  have hD : va_D A [(h0, .inr (9, [.null, .int 0, .ref q7, .ref q16, .ref q24, .ref q32])), (pl, .inr (2, [.int 1, .int 0, .int 0, .int 0, .int 0, .ref pl5, .ref pl6, .ref pl7, .ref pl8, .ref pl9, .ref pl10, .ref pl11, .ref pl12, .ref pl13])), (q7, .inl (ca 5, 10, .inr (.inr (.inr (.inr f_41))))), (q16, .inl (ca 1, 6, .inl (fun _ => 0)))] := hD.sub [0, 1, 2, 3] (by decide) rfl
  refine lv_iload_n hx hb dX9_init_39 rfl (lv_at hl 0 rfl) ?_
  refine lv_bipush (v := 10) hx hb dX9_init_40 (by decide +kernel) ?_
  refine lv_icmp_ge (tgt := 64) hx hb dX9_init_42 (by decide +kernel) (fun c_42 => absurd c_42 (by decide +kernel)) (fun c_42 => ?_)
  refine lv_aload_n hx hb dX9_init_45 rfl (lv_at hl 1 rfl) ?_
  refine va_get (D := D) (ci := 9) (v := .ref q7) (C := RX9) (T := TX9) (N := 6) hx hb hts iw_X9_init_9 hown hC.1 hP 0 rfl rfl 2 (by decide +kernel) (hts (.fieldLink RX9 11 "FairWheel$Wheel" "tasks" "[LFairWheel$Task;") (by decide +kernel)) (fun _ h9 => h9) rfl dX9_init_46 ?_
  refine lv_iload_n hx hb dX9_init_49 rfl (lv_at hl 0 rfl) ?_
  refine va_new (ci := 8) (fs := [.int 0, .int 0, .int 0, .int 0, .int 0, .int 0, .int 0, .int 0, .int 0, .int 0, .int 0, .int 0, .int 0, .int 0, .long 0, .int 0, .null]) (C := RX8) (T := TX8) (N := 17) hx hb hts iw_X9_init_8 tyX8 tyX8_ok hown (hts (.classLink RX9 9 RX8) (by decide +kernel)) (hts (.instantiable RX8 17) (by decide +kernel)) (hts (.initialized RX8) (by decide +kernel)) hC.1 hP hD hS hA rfl df_X8 (Nat.le_of_ble_eq_true rfl) (Nat.le_of_ble_eq_true rfl) dX9_init_50 (fun q50_43 H hP hD hS => ?_)
  have hP : va_P D vwCl [(h0, .inr (9, [.null, .int 0, .ref q7, .ref q16, .ref q24, .ref q32])), (pl, .inr (2, [.int 1, .int 0, .int 0, .int 0, .int 0, .ref pl5, .ref pl6, .ref pl7, .ref pl8, .ref pl9, .ref pl10, .ref pl11, .ref pl12, .ref pl13])), (q7, .inl (ca 5, 10, .inr (.inr (.inr (.inr f_41))))), (q16, .inl (ca 1, 6, .inl (fun _ => 0))), (q50_43, .inr (8, [.int 0, .int 0, .int 0, .int 0, .int 0, .int 0, .int 0, .int 0, .int 0, .int 0, .int 0, .int 0, .int 0, .int 0, .long 0, .int 0, .null]))] H := hP
  have hD : va_D A [(h0, .inr (9, [.null, .int 0, .ref q7, .ref q16, .ref q24, .ref q32])), (pl, .inr (2, [.int 1, .int 0, .int 0, .int 0, .int 0, .ref pl5, .ref pl6, .ref pl7, .ref pl8, .ref pl9, .ref pl10, .ref pl11, .ref pl12, .ref pl13])), (q7, .inl (ca 5, 10, .inr (.inr (.inr (.inr f_41))))), (q16, .inl (ca 1, 6, .inl (fun _ => 0))), (q50_43, .inr (8, [.int 0, .int 0, .int 0, .int 0, .int 0, .int 0, .int 0, .int 0, .int 0, .int 0, .int 0, .int 0, .int 0, .int 0, .long 0, .int 0, .null]))] := hD
  refine lv_dup hx hb dX9_init_53 rfl ?_
  refine kc_v (wr := [(h0, .inr (9, [.null, .int 0, .ref q7, .ref q16, .ref q24, .ref q32])), (pl, .inr (2, [.int 1, .int 0, .int 0, .int 0, .int 0, .ref pl5, .ref pl6, .ref pl7, .ref pl8, .ref pl9, .ref pl10, .ref pl11, .ref pl12, .ref pl13])), (q7, .inl (ca 5, 10, .inr (.inr (.inr (.inr f_41))))), (q16, .inl (ca 1, 6, .inl (fun _ => 0)))]) (va_runIN (As := []) (rest := [.ref q50_43, .int 7, .ref q7]) ⟨hx, hb, hml, hown, hts⟩ (k_X8_init l D ca H.size q50_43) (⟨va_cnB 0 hts gX9_init_X8_init_n28 rfl rfl rfl hC.2.2.2.2.1 (hts (.initialized RX8) (by decide +kernel)) (by decide +kernel) ⟨(Nat.le_of_ble_eq_true rfl), (Nat.le_of_ble_eq_true rfl)⟩, rfl, hts (.instanceMethod yX8_init) (by decide +kernel)⟩) (PC.preS hC hP hD [4] rfl (by decide +kernel)) rfl rfl hl.1 rfl (lv_room (Nat.le_of_ble_eq_true rfl)) dX9_init_54 ⟨(Nat.le_of_ble_eq_true rfl), (Nat.le_of_ble_eq_true rfl)⟩) hP hD hS hA [4] [0, 1, 2, 3] rfl rfl (by decide +kernel) (by decide +kernel) (fun u_45 H locs hw_44 hP hD hS => ?_)
  obtain ⟨a_46, rfl⟩ : ∃ z, z = u_45 := ⟨_, rfl⟩
  have hP : va_P D vwCl [(h0, .inr (9, [.null, .int 0, .ref q7, .ref q16, .ref q24, .ref q32])), (pl, .inr (2, [.int 1, .int 0, .int 0, .int 0, .int 0, .ref pl5, .ref pl6, .ref pl7, .ref pl8, .ref pl9, .ref pl10, .ref pl11, .ref pl12, .ref pl13])), (q7, .inl (ca 5, 10, .inr (.inr (.inr (.inr f_41))))), (q16, .inl (ca 1, 6, .inl (fun _ => 0))), (q50_43, .inr (8, [.int 0, .int 0, .int 0, .int 0, .int 0, .int 0, .int 0, .int 0, .int 0, .int 0, .int 0, .int 0, .int 0, .int 0, .long 0, .int 0, .ref a_46]))] H := hP
  have hD : va_D A [(h0, .inr (9, [.null, .int 0, .ref q7, .ref q16, .ref q24, .ref q32])), (pl, .inr (2, [.int 1, .int 0, .int 0, .int 0, .int 0, .ref pl5, .ref pl6, .ref pl7, .ref pl8, .ref pl9, .ref pl10, .ref pl11, .ref pl12, .ref pl13])), (q7, .inl (ca 5, 10, .inr (.inr (.inr (.inr f_41))))), (q16, .inl (ca 1, 6, .inl (fun _ => 0))), (q50_43, .inr (8, [.int 0, .int 0, .int 0, .int 0, .int 0, .int 0, .int 0, .int 0, .int 0, .int 0, .int 0, .int 0, .int 0, .int 0, .long 0, .int 0, .ref a_46]))] := hD
  refine ka_astq hx hb hC.1 hP hD hS 2 5 4 8 rfl rfl rfl rfl 7 rfl (by decide +kernel) (by decide +kernel) dX9_init_57 (fun H locs hP hD hS => ?_)
  have hP : va_P D vwCl [(h0, .inr (9, [.null, .int 0, .ref q7, .ref q16, .ref q24, .ref q32])), (pl, .inr (2, [.int 1, .int 0, .int 0, .int 0, .int 0, .ref pl5, .ref pl6, .ref pl7, .ref pl8, .ref pl9, .ref pl10, .ref pl11, .ref pl12, .ref pl13])), (q7, .inl (ca 5, 10, .inr (.inr (.inr (.inr (va_up f_41 7 (some q50_43))))))), (q16, .inl (ca 1, 6, .inl (fun _ => 0))), (q50_43, .inr (8, [.int 0, .int 0, .int 0, .int 0, .int 0, .int 0, .int 0, .int 0, .int 0, .int 0, .int 0, .int 0, .int 0, .int 0, .long 0, .int 0, .ref a_46]))] H := hP
  have hD : va_D A [(h0, .inr (9, [.null, .int 0, .ref q7, .ref q16, .ref q24, .ref q32])), (pl, .inr (2, [.int 1, .int 0, .int 0, .int 0, .int 0, .ref pl5, .ref pl6, .ref pl7, .ref pl8, .ref pl9, .ref pl10, .ref pl11, .ref pl12, .ref pl13])), (q7, .inl (ca 5, 10, .inr (.inr (.inr (.inr (va_up f_41 7 (some q50_43))))))), (q16, .inl (ca 1, 6, .inl (fun _ => 0))), (q50_43, .inr (8, [.int 0, .int 0, .int 0, .int 0, .int 0, .int 0, .int 0, .int 0, .int 0, .int 0, .int 0, .int 0, .int 0, .int 0, .long 0, .int 0, .ref a_46]))] := hD
  generalize (va_up f_41 7 (some q50_43)) = f_47 at hP hD
  refine lv_iinc (v := 8) (lv' := [(2, .int 8), (0, .ref h0), (1, .ref pl)]) hx hb dX9_init_58 hl (k := 0) rfl (by decide +kernel) (by decide +kernel) rfl (fun ls hl => ?_)
  refine lv_goto (tgt := 39) hx hb dX9_init_61 (by decide +kernel) ?_
  have hP : va_P D vwCl [(h0, .inr (9, [.null, .int 0, .ref q7, .ref q16, .ref q24, .ref q32])), (pl, .inr (2, [.int 1, .int 0, .int 0, .int 0, .int 0, .ref pl5, .ref pl6, .ref pl7, .ref pl8, .ref pl9, .ref pl10, .ref pl11, .ref pl12, .ref pl13])), (q7, .inl (ca 5, 10, .inr (.inr (.inr (.inr f_47))))), (q16, .inl (ca 1, 6, .inl (fun _ => 0)))] H := hP.sub [0, 1, 2, 3] rfl
  have hD : va_D A [(h0, .inr (9, [.null, .int 0, .ref q7, .ref q16, .ref q24, .ref q32])), (pl, .inr (2, [.int 1, .int 0, .int 0, .int 0, .int 0, .ref pl5, .ref pl6, .ref pl7, .ref pl8, .ref pl9, .ref pl10, .ref pl11, .ref pl12, .ref pl13])), (q7, .inl (ca 5, 10, .inr (.inr (.inr (.inr f_47))))), (q16, .inl (ca 1, 6, .inl (fun _ => 0)))] := hD.sub [0, 1, 2, 3] (by decide) rfl
  refine lv_iload_n hx hb dX9_init_39 rfl (lv_at hl 0 rfl) ?_
  refine lv_bipush (v := 10) hx hb dX9_init_40 (by decide +kernel) ?_
  refine lv_icmp_ge (tgt := 64) hx hb dX9_init_42 (by decide +kernel) (fun c_48 => absurd c_48 (by decide +kernel)) (fun c_48 => ?_)
  refine lv_aload_n hx hb dX9_init_45 rfl (lv_at hl 1 rfl) ?_
  refine va_get (D := D) (ci := 9) (v := .ref q7) (C := RX9) (T := TX9) (N := 6) hx hb hts iw_X9_init_9 hown hC.1 hP 0 rfl rfl 2 (by decide +kernel) (hts (.fieldLink RX9 11 "FairWheel$Wheel" "tasks" "[LFairWheel$Task;") (by decide +kernel)) (fun _ h9 => h9) rfl dX9_init_46 ?_
  refine lv_iload_n hx hb dX9_init_49 rfl (lv_at hl 0 rfl) ?_
  refine va_new (ci := 8) (fs := [.int 0, .int 0, .int 0, .int 0, .int 0, .int 0, .int 0, .int 0, .int 0, .int 0, .int 0, .int 0, .int 0, .int 0, .long 0, .int 0, .null]) (C := RX8) (T := TX8) (N := 17) hx hb hts iw_X9_init_8 tyX8 tyX8_ok hown (hts (.classLink RX9 9 RX8) (by decide +kernel)) (hts (.instantiable RX8 17) (by decide +kernel)) (hts (.initialized RX8) (by decide +kernel)) hC.1 hP hD hS hA rfl df_X8 (Nat.le_of_ble_eq_true rfl) (Nat.le_of_ble_eq_true rfl) dX9_init_50 (fun q50_49 H hP hD hS => ?_)
  have hP : va_P D vwCl [(h0, .inr (9, [.null, .int 0, .ref q7, .ref q16, .ref q24, .ref q32])), (pl, .inr (2, [.int 1, .int 0, .int 0, .int 0, .int 0, .ref pl5, .ref pl6, .ref pl7, .ref pl8, .ref pl9, .ref pl10, .ref pl11, .ref pl12, .ref pl13])), (q7, .inl (ca 5, 10, .inr (.inr (.inr (.inr f_47))))), (q16, .inl (ca 1, 6, .inl (fun _ => 0))), (q50_49, .inr (8, [.int 0, .int 0, .int 0, .int 0, .int 0, .int 0, .int 0, .int 0, .int 0, .int 0, .int 0, .int 0, .int 0, .int 0, .long 0, .int 0, .null]))] H := hP
  have hD : va_D A [(h0, .inr (9, [.null, .int 0, .ref q7, .ref q16, .ref q24, .ref q32])), (pl, .inr (2, [.int 1, .int 0, .int 0, .int 0, .int 0, .ref pl5, .ref pl6, .ref pl7, .ref pl8, .ref pl9, .ref pl10, .ref pl11, .ref pl12, .ref pl13])), (q7, .inl (ca 5, 10, .inr (.inr (.inr (.inr f_47))))), (q16, .inl (ca 1, 6, .inl (fun _ => 0))), (q50_49, .inr (8, [.int 0, .int 0, .int 0, .int 0, .int 0, .int 0, .int 0, .int 0, .int 0, .int 0, .int 0, .int 0, .int 0, .int 0, .long 0, .int 0, .null]))] := hD
  refine lv_dup hx hb dX9_init_53 rfl ?_
  refine kc_v (wr := [(h0, .inr (9, [.null, .int 0, .ref q7, .ref q16, .ref q24, .ref q32])), (pl, .inr (2, [.int 1, .int 0, .int 0, .int 0, .int 0, .ref pl5, .ref pl6, .ref pl7, .ref pl8, .ref pl9, .ref pl10, .ref pl11, .ref pl12, .ref pl13])), (q7, .inl (ca 5, 10, .inr (.inr (.inr (.inr f_47))))), (q16, .inl (ca 1, 6, .inl (fun _ => 0)))]) (va_runIN (As := []) (rest := [.ref q50_49, .int 8, .ref q7]) ⟨hx, hb, hml, hown, hts⟩ (k_X8_init l D ca H.size q50_49) (⟨va_cnB 0 hts gX9_init_X8_init_n28 rfl rfl rfl hC.2.2.2.2.1 (hts (.initialized RX8) (by decide +kernel)) (by decide +kernel) ⟨(Nat.le_of_ble_eq_true rfl), (Nat.le_of_ble_eq_true rfl)⟩, rfl, hts (.instanceMethod yX8_init) (by decide +kernel)⟩) (PC.preS hC hP hD [4] rfl (by decide +kernel)) rfl rfl hl.1 rfl (lv_room (Nat.le_of_ble_eq_true rfl)) dX9_init_54 ⟨(Nat.le_of_ble_eq_true rfl), (Nat.le_of_ble_eq_true rfl)⟩) hP hD hS hA [4] [0, 1, 2, 3] rfl rfl (by decide +kernel) (by decide +kernel) (fun u_51 H locs hw_50 hP hD hS => ?_)
  obtain ⟨a_52, rfl⟩ : ∃ z, z = u_51 := ⟨_, rfl⟩
  have hP : va_P D vwCl [(h0, .inr (9, [.null, .int 0, .ref q7, .ref q16, .ref q24, .ref q32])), (pl, .inr (2, [.int 1, .int 0, .int 0, .int 0, .int 0, .ref pl5, .ref pl6, .ref pl7, .ref pl8, .ref pl9, .ref pl10, .ref pl11, .ref pl12, .ref pl13])), (q7, .inl (ca 5, 10, .inr (.inr (.inr (.inr f_47))))), (q16, .inl (ca 1, 6, .inl (fun _ => 0))), (q50_49, .inr (8, [.int 0, .int 0, .int 0, .int 0, .int 0, .int 0, .int 0, .int 0, .int 0, .int 0, .int 0, .int 0, .int 0, .int 0, .long 0, .int 0, .ref a_52]))] H := hP
  have hD : va_D A [(h0, .inr (9, [.null, .int 0, .ref q7, .ref q16, .ref q24, .ref q32])), (pl, .inr (2, [.int 1, .int 0, .int 0, .int 0, .int 0, .ref pl5, .ref pl6, .ref pl7, .ref pl8, .ref pl9, .ref pl10, .ref pl11, .ref pl12, .ref pl13])), (q7, .inl (ca 5, 10, .inr (.inr (.inr (.inr f_47))))), (q16, .inl (ca 1, 6, .inl (fun _ => 0))), (q50_49, .inr (8, [.int 0, .int 0, .int 0, .int 0, .int 0, .int 0, .int 0, .int 0, .int 0, .int 0, .int 0, .int 0, .int 0, .int 0, .long 0, .int 0, .ref a_52]))] := hD
  refine ka_astq hx hb hC.1 hP hD hS 2 5 4 8 rfl rfl rfl rfl 8 rfl (by decide +kernel) (by decide +kernel) dX9_init_57 (fun H locs hP hD hS => ?_)
  have hP : va_P D vwCl [(h0, .inr (9, [.null, .int 0, .ref q7, .ref q16, .ref q24, .ref q32])), (pl, .inr (2, [.int 1, .int 0, .int 0, .int 0, .int 0, .ref pl5, .ref pl6, .ref pl7, .ref pl8, .ref pl9, .ref pl10, .ref pl11, .ref pl12, .ref pl13])), (q7, .inl (ca 5, 10, .inr (.inr (.inr (.inr (va_up f_47 8 (some q50_49))))))), (q16, .inl (ca 1, 6, .inl (fun _ => 0))), (q50_49, .inr (8, [.int 0, .int 0, .int 0, .int 0, .int 0, .int 0, .int 0, .int 0, .int 0, .int 0, .int 0, .int 0, .int 0, .int 0, .long 0, .int 0, .ref a_52]))] H := hP
  have hD : va_D A [(h0, .inr (9, [.null, .int 0, .ref q7, .ref q16, .ref q24, .ref q32])), (pl, .inr (2, [.int 1, .int 0, .int 0, .int 0, .int 0, .ref pl5, .ref pl6, .ref pl7, .ref pl8, .ref pl9, .ref pl10, .ref pl11, .ref pl12, .ref pl13])), (q7, .inl (ca 5, 10, .inr (.inr (.inr (.inr (va_up f_47 8 (some q50_49))))))), (q16, .inl (ca 1, 6, .inl (fun _ => 0))), (q50_49, .inr (8, [.int 0, .int 0, .int 0, .int 0, .int 0, .int 0, .int 0, .int 0, .int 0, .int 0, .int 0, .int 0, .int 0, .int 0, .long 0, .int 0, .ref a_52]))] := hD
  generalize (va_up f_47 8 (some q50_49)) = f_53 at hP hD
  refine lv_iinc (v := 9) (lv' := [(2, .int 9), (0, .ref h0), (1, .ref pl)]) hx hb dX9_init_58 hl (k := 0) rfl (by decide +kernel) (by decide +kernel) rfl (fun ls hl => ?_)
  refine lv_goto (tgt := 39) hx hb dX9_init_61 (by decide +kernel) ?_
  have hP : va_P D vwCl [(h0, .inr (9, [.null, .int 0, .ref q7, .ref q16, .ref q24, .ref q32])), (pl, .inr (2, [.int 1, .int 0, .int 0, .int 0, .int 0, .ref pl5, .ref pl6, .ref pl7, .ref pl8, .ref pl9, .ref pl10, .ref pl11, .ref pl12, .ref pl13])), (q7, .inl (ca 5, 10, .inr (.inr (.inr (.inr f_53))))), (q16, .inl (ca 1, 6, .inl (fun _ => 0)))] H := hP.sub [0, 1, 2, 3] rfl
  have hD : va_D A [(h0, .inr (9, [.null, .int 0, .ref q7, .ref q16, .ref q24, .ref q32])), (pl, .inr (2, [.int 1, .int 0, .int 0, .int 0, .int 0, .ref pl5, .ref pl6, .ref pl7, .ref pl8, .ref pl9, .ref pl10, .ref pl11, .ref pl12, .ref pl13])), (q7, .inl (ca 5, 10, .inr (.inr (.inr (.inr f_53))))), (q16, .inl (ca 1, 6, .inl (fun _ => 0)))] := hD.sub [0, 1, 2, 3] (by decide) rfl
  refine lv_iload_n hx hb dX9_init_39 rfl (lv_at hl 0 rfl) ?_
  refine lv_bipush (v := 10) hx hb dX9_init_40 (by decide +kernel) ?_
  refine lv_icmp_ge (tgt := 64) hx hb dX9_init_42 (by decide +kernel) (fun c_54 => absurd c_54 (by decide +kernel)) (fun c_54 => ?_)
  refine lv_aload_n hx hb dX9_init_45 rfl (lv_at hl 1 rfl) ?_
  refine va_get (D := D) (ci := 9) (v := .ref q7) (C := RX9) (T := TX9) (N := 6) hx hb hts iw_X9_init_9 hown hC.1 hP 0 rfl rfl 2 (by decide +kernel) (hts (.fieldLink RX9 11 "FairWheel$Wheel" "tasks" "[LFairWheel$Task;") (by decide +kernel)) (fun _ h9 => h9) rfl dX9_init_46 ?_
  refine lv_iload_n hx hb dX9_init_49 rfl (lv_at hl 0 rfl) ?_
  refine va_new (ci := 8) (fs := [.int 0, .int 0, .int 0, .int 0, .int 0, .int 0, .int 0, .int 0, .int 0, .int 0, .int 0, .int 0, .int 0, .int 0, .long 0, .int 0, .null]) (C := RX8) (T := TX8) (N := 17) hx hb hts iw_X9_init_8 tyX8 tyX8_ok hown (hts (.classLink RX9 9 RX8) (by decide +kernel)) (hts (.instantiable RX8 17) (by decide +kernel)) (hts (.initialized RX8) (by decide +kernel)) hC.1 hP hD hS hA rfl df_X8 (Nat.le_of_ble_eq_true rfl) (Nat.le_of_ble_eq_true rfl) dX9_init_50 (fun q50_55 H hP hD hS => ?_)
  have hP : va_P D vwCl [(h0, .inr (9, [.null, .int 0, .ref q7, .ref q16, .ref q24, .ref q32])), (pl, .inr (2, [.int 1, .int 0, .int 0, .int 0, .int 0, .ref pl5, .ref pl6, .ref pl7, .ref pl8, .ref pl9, .ref pl10, .ref pl11, .ref pl12, .ref pl13])), (q7, .inl (ca 5, 10, .inr (.inr (.inr (.inr f_53))))), (q16, .inl (ca 1, 6, .inl (fun _ => 0))), (q50_55, .inr (8, [.int 0, .int 0, .int 0, .int 0, .int 0, .int 0, .int 0, .int 0, .int 0, .int 0, .int 0, .int 0, .int 0, .int 0, .long 0, .int 0, .null]))] H := hP
  have hD : va_D A [(h0, .inr (9, [.null, .int 0, .ref q7, .ref q16, .ref q24, .ref q32])), (pl, .inr (2, [.int 1, .int 0, .int 0, .int 0, .int 0, .ref pl5, .ref pl6, .ref pl7, .ref pl8, .ref pl9, .ref pl10, .ref pl11, .ref pl12, .ref pl13])), (q7, .inl (ca 5, 10, .inr (.inr (.inr (.inr f_53))))), (q16, .inl (ca 1, 6, .inl (fun _ => 0))), (q50_55, .inr (8, [.int 0, .int 0, .int 0, .int 0, .int 0, .int 0, .int 0, .int 0, .int 0, .int 0, .int 0, .int 0, .int 0, .int 0, .long 0, .int 0, .null]))] := hD
  refine lv_dup hx hb dX9_init_53 rfl ?_
  refine kc_v (wr := [(h0, .inr (9, [.null, .int 0, .ref q7, .ref q16, .ref q24, .ref q32])), (pl, .inr (2, [.int 1, .int 0, .int 0, .int 0, .int 0, .ref pl5, .ref pl6, .ref pl7, .ref pl8, .ref pl9, .ref pl10, .ref pl11, .ref pl12, .ref pl13])), (q7, .inl (ca 5, 10, .inr (.inr (.inr (.inr f_53))))), (q16, .inl (ca 1, 6, .inl (fun _ => 0)))]) (va_runIN (As := []) (rest := [.ref q50_55, .int 9, .ref q7]) ⟨hx, hb, hml, hown, hts⟩ (k_X8_init l D ca H.size q50_55) (⟨va_cnB 0 hts gX9_init_X8_init_n28 rfl rfl rfl hC.2.2.2.2.1 (hts (.initialized RX8) (by decide +kernel)) (by decide +kernel) ⟨(Nat.le_of_ble_eq_true rfl), (Nat.le_of_ble_eq_true rfl)⟩, rfl, hts (.instanceMethod yX8_init) (by decide +kernel)⟩) (PC.preS hC hP hD [4] rfl (by decide +kernel)) rfl rfl hl.1 rfl (lv_room (Nat.le_of_ble_eq_true rfl)) dX9_init_54 ⟨(Nat.le_of_ble_eq_true rfl), (Nat.le_of_ble_eq_true rfl)⟩) hP hD hS hA [4] [0, 1, 2, 3] rfl rfl (by decide +kernel) (by decide +kernel) (fun u_57 H locs hw_56 hP hD hS => ?_)
  obtain ⟨a_58, rfl⟩ : ∃ z, z = u_57 := ⟨_, rfl⟩
  have hP : va_P D vwCl [(h0, .inr (9, [.null, .int 0, .ref q7, .ref q16, .ref q24, .ref q32])), (pl, .inr (2, [.int 1, .int 0, .int 0, .int 0, .int 0, .ref pl5, .ref pl6, .ref pl7, .ref pl8, .ref pl9, .ref pl10, .ref pl11, .ref pl12, .ref pl13])), (q7, .inl (ca 5, 10, .inr (.inr (.inr (.inr f_53))))), (q16, .inl (ca 1, 6, .inl (fun _ => 0))), (q50_55, .inr (8, [.int 0, .int 0, .int 0, .int 0, .int 0, .int 0, .int 0, .int 0, .int 0, .int 0, .int 0, .int 0, .int 0, .int 0, .long 0, .int 0, .ref a_58]))] H := hP
  have hD : va_D A [(h0, .inr (9, [.null, .int 0, .ref q7, .ref q16, .ref q24, .ref q32])), (pl, .inr (2, [.int 1, .int 0, .int 0, .int 0, .int 0, .ref pl5, .ref pl6, .ref pl7, .ref pl8, .ref pl9, .ref pl10, .ref pl11, .ref pl12, .ref pl13])), (q7, .inl (ca 5, 10, .inr (.inr (.inr (.inr f_53))))), (q16, .inl (ca 1, 6, .inl (fun _ => 0))), (q50_55, .inr (8, [.int 0, .int 0, .int 0, .int 0, .int 0, .int 0, .int 0, .int 0, .int 0, .int 0, .int 0, .int 0, .int 0, .int 0, .long 0, .int 0, .ref a_58]))] := hD
  refine ka_astq hx hb hC.1 hP hD hS 2 5 4 8 rfl rfl rfl rfl 9 rfl (by decide +kernel) (by decide +kernel) dX9_init_57 (fun H locs hP hD hS => ?_)
  have hP : va_P D vwCl [(h0, .inr (9, [.null, .int 0, .ref q7, .ref q16, .ref q24, .ref q32])), (pl, .inr (2, [.int 1, .int 0, .int 0, .int 0, .int 0, .ref pl5, .ref pl6, .ref pl7, .ref pl8, .ref pl9, .ref pl10, .ref pl11, .ref pl12, .ref pl13])), (q7, .inl (ca 5, 10, .inr (.inr (.inr (.inr (va_up f_53 9 (some q50_55))))))), (q16, .inl (ca 1, 6, .inl (fun _ => 0))), (q50_55, .inr (8, [.int 0, .int 0, .int 0, .int 0, .int 0, .int 0, .int 0, .int 0, .int 0, .int 0, .int 0, .int 0, .int 0, .int 0, .long 0, .int 0, .ref a_58]))] H := hP
  have hD : va_D A [(h0, .inr (9, [.null, .int 0, .ref q7, .ref q16, .ref q24, .ref q32])), (pl, .inr (2, [.int 1, .int 0, .int 0, .int 0, .int 0, .ref pl5, .ref pl6, .ref pl7, .ref pl8, .ref pl9, .ref pl10, .ref pl11, .ref pl12, .ref pl13])), (q7, .inl (ca 5, 10, .inr (.inr (.inr (.inr (va_up f_53 9 (some q50_55))))))), (q16, .inl (ca 1, 6, .inl (fun _ => 0))), (q50_55, .inr (8, [.int 0, .int 0, .int 0, .int 0, .int 0, .int 0, .int 0, .int 0, .int 0, .int 0, .int 0, .int 0, .int 0, .int 0, .long 0, .int 0, .ref a_58]))] := hD
  generalize (va_up f_53 9 (some q50_55)) = f_59 at hP hD
  refine lv_iinc (v := 10) (lv' := [(2, .int 10), (0, .ref h0), (1, .ref pl)]) hx hb dX9_init_58 hl (k := 0) rfl (by decide +kernel) (by decide +kernel) rfl (fun ls hl => ?_)
  refine lv_goto (tgt := 39) hx hb dX9_init_61 (by decide +kernel) ?_
  have hP : va_P D vwCl [(h0, .inr (9, [.null, .int 0, .ref q7, .ref q16, .ref q24, .ref q32])), (pl, .inr (2, [.int 1, .int 0, .int 0, .int 0, .int 0, .ref pl5, .ref pl6, .ref pl7, .ref pl8, .ref pl9, .ref pl10, .ref pl11, .ref pl12, .ref pl13])), (q7, .inl (ca 5, 10, .inr (.inr (.inr (.inr f_59))))), (q16, .inl (ca 1, 6, .inl (fun _ => 0)))] H := hP.sub [0, 1, 2, 3] rfl
  have hD : va_D A [(h0, .inr (9, [.null, .int 0, .ref q7, .ref q16, .ref q24, .ref q32])), (pl, .inr (2, [.int 1, .int 0, .int 0, .int 0, .int 0, .ref pl5, .ref pl6, .ref pl7, .ref pl8, .ref pl9, .ref pl10, .ref pl11, .ref pl12, .ref pl13])), (q7, .inl (ca 5, 10, .inr (.inr (.inr (.inr f_59))))), (q16, .inl (ca 1, 6, .inl (fun _ => 0)))] := hD.sub [0, 1, 2, 3] (by decide) rfl
  refine lv_iload_n hx hb dX9_init_39 rfl (lv_at hl 0 rfl) ?_
  refine lv_bipush (v := 10) hx hb dX9_init_40 (by decide +kernel) ?_
  refine lv_icmp_ge (tgt := 64) hx hb dX9_init_42 (by decide +kernel) (fun c_60 => ?_) (fun c_60 => absurd (by decide +kernel) c_60)
  have hP : va_P D vwCl [(h0, .inr (9, [.null, .int 0, .ref q7, .ref q16, .ref q24, .ref q32])), (pl, .inr (2, [.int 1, .int 0, .int 0, .int 0, .int 0, .ref pl5, .ref pl6, .ref pl7, .ref pl8, .ref pl9, .ref pl10, .ref pl11, .ref pl12, .ref pl13])), (q16, .inl (ca 1, 6, .inl (fun _ => 0)))] H := hP.sub [0, 1, 3] rfl
  have hD : va_D A [(h0, .inr (9, [.null, .int 0, .ref q7, .ref q16, .ref q24, .ref q32])), (pl, .inr (2, [.int 1, .int 0, .int 0, .int 0, .int 0, .ref pl5, .ref pl6, .ref pl7, .ref pl8, .ref pl9, .ref pl10, .ref pl11, .ref pl12, .ref pl13])), (q16, .inl (ca 1, 6, .inl (fun _ => 0)))] := hD.sub [0, 1, 3] (by decide) rfl
  refine lv_aload_n hx hb dX9_init_64 rfl (lv_at hl 1 rfl) ?_
  refine lv_aload_n hx hb dX9_init_65 rfl (lv_at hl 2 rfl) ?_
  refine kc_v (wr := []) (va_runV (As := [.ref pl]) (rest := []) ⟨hx, hb, hml, hown, hts⟩ (k_X9_begin_n l D ca H.size h0 q7 q16 q24 q32 pl pl5 pl6 pl7 pl8 pl9 pl10 pl11 pl12 pl13 (fun _ => 0)) (cwV 1 hts gX9_init_X9_begin rfl rfl rfl (by decide +kernel) ⟨(Nat.le_of_ble_eq_true rfl), (Nat.le_of_ble_eq_true rfl)⟩) (PC.preV (ci := 9) hC hP hD [0, 1, 2] rfl (by decide +kernel) rfl rfl) rfl rfl hl.1 rfl (lv_room (Nat.le_of_ble_eq_true rfl)) dX9_init_66 ⟨(Nat.le_of_ble_eq_true rfl), (Nat.le_of_ble_eq_true rfl)⟩) hP hD hS hA [0, 1, 2] [] rfl rfl (by decide +kernel) (by decide +kernel) (fun u_62 H locs hw_61 hP hD hS => ?_)
  obtain ⟨f_63, rfl⟩ : ∃ z, z = u_62 := ⟨_, rfl⟩
  have hP : va_P D vwCl [(h0, .inr (9, [.ref pl, .int 0, .ref q7, .ref q16, .ref q24, .ref q32])), (pl, .inr (2, [.int 1, .int 0, .int 0, .int 0, .int 0, .ref pl5, .ref pl6, .ref pl7, .ref pl8, .ref pl9, .ref pl10, .ref pl11, .ref pl12, .ref pl13])), (q16, .inl (ca 1, 6, .inl f_63))] H := hP
  have hD : va_D A [(h0, .inr (9, [.ref pl, .int 0, .ref q7, .ref q16, .ref q24, .ref q32])), (pl, .inr (2, [.int 1, .int 0, .int 0, .int 0, .int 0, .ref pl5, .ref pl6, .ref pl7, .ref pl8, .ref pl9, .ref pl10, .ref pl11, .ref pl12, .ref pl13])), (q16, .inl (ca 1, 6, .inl f_63))] := hD
  refine W.widen (k := 24) (n := 306) (by omega) (by omega) ?_
  exact W.vret hx hb hr (fun t ht hW => ⟨⟨(q16, q7, q24, q32, f_63), rfl, trivial, by rw [ht]; exact hP.sub [0, 1, 2] rfl, hDA (hD.sub [0, 1, 2] (by decide +kernel) rfl)⟩, hS.F ht⟩) hS.2.2 dX9_init_69
theorem iw_X0_init_0 : ∀ w ∈ u_ws RX0 TX0 3, w ∈ wsX0_init := by decide +kernel
theorem iw_X0_init_9 : ∀ w ∈ u_ws RX9 TX9 6, w ∈ wsX0_init := by decide +kernel
set_option maxHeartbeats 4000000 in
set_option maxRecDepth 100000 in
/-- Box(plan) -/
theorem k_X0_init (l : Launch) (D : va_G) (ca : Nat → ClassId) (sz : Nat) (h0 : Nat) (pl : Nat) (pl5 : Nat) (pl6 : Nat) (pl7 : Nat) (pl8 : Nat) (pl9 : Nat) (pl10 : Nat) (pl11 : Nat) (pl12 : Nat) (pl13 : Nat) : Met l yX0_init wsX0_init ({ frames := 3, cells := 26, slots := 2312, locals := 54 }) (PC [.ref h0, .ref pl] sz D ca [(h0, .inr (0, [.null, .null, .int 0])), (pl, .inr (2, [.int 1, .int 0, .int 0, .int 0, .int 0, .ref pl5, .ref pl6, .ref pl7, .ref pl8, .ref pl9, .ref pl10, .ref pl11, .ref pl12, .ref pl13]))]) (QV (fun (u : Nat × Nat × Nat × Nat × Nat × Nat × (Nat → Int32)) => True) (fun (u : Nat × Nat × Nat × Nat × Nat × Nat × (Nat → Int32)) => [(h0, .inr (0, [.ref u.2.1, .ref u.1, .int 0])), (u.1, .inl (ca 1, 2000, .inl (fun _ => 0))), (u.2.1, .inr (9, [.ref pl, .int 0, .ref u.2.2.2.1, .ref u.2.2.1, .ref u.2.2.2.2.1, .ref u.2.2.2.2.2.1])), (pl, .inr (2, [.int 1, .int 0, .int 0, .int 0, .int 0, .ref pl5, .ref pl6, .ref pl7, .ref pl8, .ref pl9, .ref pl10, .ref pl11, .ref pl12, .ref pl13])), (u.2.2.1, .inl (ca 1, 6, .inl u.2.2.2.2.2.2))]) [(h0, .inr (0, [.null, .null, .int 0])), (pl, .inr (2, [.int 1, .int 0, .int 0, .int 0, .int 0, .ref pl5, .ref pl6, .ref pl7, .ref pl8, .ref pl9, .ref pl10, .ref pl11, .ref pl12, .ref pl13]))] sz D) 26 2312 (va_A [(h0, .inr (0, [.null, .null, .int 0])), (pl, .inr (2, [.int 1, .int 0, .int 0, .int 0, .int 0, .ref pl5, .ref pl6, .ref pl7, .ref pl8, .ref pl9, .ref pl10, .ref pl11, .ref pl12, .ref pl13]))] sz) := by
  refine Met.ofW (cc := cX0_init) (maxL := 2) (ret := none) (by decide +kernel) rfl ?_
  intro p e s m args below meth c s₁ B hml hv
  obtain ⟨rfl, hsz, hP, hC, hD0⟩ := hv
  have hx := B.exec
  have hb := B.bytes
  have hr := B.returns
  have hts := atoms_spec (ws := wsX0_init) B.pre
  have hown : s.vm.findClass RX0 = some m.cls := findClass_of_methodNamed B.named
  have hlocks := B.notSynchronized
  have hin : meth.name = "<init>" := (name_of_methodNamed B.named B.method).1
  subst hsz
  have hD := hD0.self (sz := s.heap.size)
  dsimp only [QV, QI, QL, BQ]
  generalize hAe : va_A [(h0, .inr (0, [.null, .null, .int 0])), (pl, .inr (2, [.int 1, .int 0, .int 0, .int 0, .int 0, .ref pl5, .ref pl6, .ref pl7, .ref pl8, .ref pl9, .ref pl10, .ref pl11, .ref pl12, .ref pl13]))] s.heap.size = A at hD ⊢
  have hA : ∀ q : Nat, s.heap.size ≤ q → A q := fun q h => by rw [← hAe]; exact Or.inr h
  have hDA : ∀ {w : va_W}, va_D A w → va_D (va_A [(h0, .inr (0, [.null, .null, .int 0])), (pl, .inr (2, [.int 1, .int 0, .int 0, .int 0, .int 0, .ref pl5, .ref pl6, .ref pl7, .ref pl8, .ref pl9, .ref pl10, .ref pl11, .ref pl12, .ref pl13]))] s.heap.size) w := fun h => by rw [hAe]; exact h
  have hS : va_S A s.heap s.heap [] := va_S.rf
  have hP : va_P D vwCl [(h0, .inr (0, [.null, .null, .int 0])), (pl, .inr (2, [.int 1, .int 0, .int 0, .int 0, .int 0, .ref pl5, .ref pl6, .ref pl7, .ref pl8, .ref pl9, .ref pl10, .ref pl11, .ref pl12, .ref pl13]))] s.heap := hP
  have hl := lv_entry ([.ref h0, .ref pl]) (n := 2) (Nat.le_of_ble_eq_true rfl)
  rw [lg_entry_eq]
  generalize (lg_sl ([.ref h0, .ref pl]) ++ List.replicate (2 - (lg_sl ([.ref h0, .ref pl])).length) Slot.unset).toArray = ls at hl ⊢
  have hl : lv_has ls 2 [(0, .ref h0), (1, .ref pl)] := hl
  refine lv_aload_n hx hb dX0_init_0 rfl (lv_at hl 0 rfl) ?_
  refine W.objInit hx hb hown (hts (.methodLink RX0 3 objectInit) (by decide +kernel)) (hts (.instanceMethod objectInit) (by decide +kernel)) (hts (.code objectInit ⟨#[0xb1]⟩ 1 none) (by decide +kernel)) rfl (by rw [hml]; exact hl.1) rfl dX0_init_1 (Nat.le_of_ble_eq_true rfl) (Nat.le_of_ble_eq_true rfl) ?_
  refine W.eq (g2 := F0 m 4 ls []) rfl ?_
  refine lv_aload_n hx hb dX0_init_4 rfl (lv_at hl 0 rfl) ?_
  refine lv_sipush (v := 2000) hx hb dX0_init_5 (by decide +kernel) ?_
  refine ka_newa (atype := .int) (ty := .int) hx hb (hts (.arrayClass .int) (by decide +kernel)) rfl hC.1 hP hD hS hA 2000 (ha_i 2000) rfl (by decide +kernel) (Nat.le_of_ble_eq_true rfl) (Nat.le_of_ble_eq_true rfl) (Nat.le_of_ble_eq_true rfl) dX0_init_8 1 rfl (fun q8 H hP hD hS => ?_)
  have hP : va_P D vwCl [(h0, .inr (0, [.null, .null, .int 0])), (pl, .inr (2, [.int 1, .int 0, .int 0, .int 0, .int 0, .ref pl5, .ref pl6, .ref pl7, .ref pl8, .ref pl9, .ref pl10, .ref pl11, .ref pl12, .ref pl13])), (q8, .inl (ca 1, 2000, .inl (fun _ => 0)))] H := hP
  have hD : va_D A [(h0, .inr (0, [.null, .null, .int 0])), (pl, .inr (2, [.int 1, .int 0, .int 0, .int 0, .int 0, .ref pl5, .ref pl6, .ref pl7, .ref pl8, .ref pl9, .ref pl10, .ref pl11, .ref pl12, .ref pl13])), (q8, .inl (ca 1, 2000, .inl (fun _ => 0)))] := hD
  refine va_putF (D := D) (ci := 0) (v := .ref q8) (ty := .array .int) (C := RX0) (T := TX0) (N := 3) hx hb hts iw_X0_init_0 tyX0 tyX0_ok nmX0 hown hC.1 hP hD hS 0 rfl rfl 1 (by decide +kernel) (hts (.fieldLink RX0 9 "FairWheel$Box" "rows" "[I") (by decide +kernel)) (fun _ h9 => h9) rfl hin rfl (by decide +kernel) rfl rfl (Nat.le_of_ble_eq_true rfl) dX0_init_10 (fun H locs hP hD hS => ?_)
  have hP : va_P D vwCl [(h0, .inr (0, [.null, .ref q8, .int 0])), (pl, .inr (2, [.int 1, .int 0, .int 0, .int 0, .int 0, .ref pl5, .ref pl6, .ref pl7, .ref pl8, .ref pl9, .ref pl10, .ref pl11, .ref pl12, .ref pl13])), (q8, .inl (ca 1, 2000, .inl (fun _ => 0)))] H := hP
  have hD : va_D A [(h0, .inr (0, [.null, .ref q8, .int 0])), (pl, .inr (2, [.int 1, .int 0, .int 0, .int 0, .int 0, .ref pl5, .ref pl6, .ref pl7, .ref pl8, .ref pl9, .ref pl10, .ref pl11, .ref pl12, .ref pl13])), (q8, .inl (ca 1, 2000, .inl (fun _ => 0)))] := hD
  refine lv_aload_n hx hb dX0_init_13 rfl (lv_at hl 0 rfl) ?_
  refine lv_iconst (v := 0) hx hb dX0_init_14 (by decide +kernel) ?_
  refine va_put (D := D) (ci := 0) (v := .int 0) (ty := .boolean) (C := RX0) (T := TX0) (N := 3) hx hb hts iw_X0_init_0 tyX0 tyX0_ok nmX0 hown hC.1 hP hD hS 0 rfl rfl 2 (by decide +kernel) (hts (.fieldLink RX0 15 "FairWheel$Box" "full" "Z") (by decide +kernel)) (fun _ h9 => h9) rfl (by decide +kernel) rfl rfl (Nat.le_of_ble_eq_true rfl) dX0_init_15 (fun H locs hP hD hS => ?_)
  have hP : va_P D vwCl [(h0, .inr (0, [.null, .ref q8, .int 0])), (pl, .inr (2, [.int 1, .int 0, .int 0, .int 0, .int 0, .ref pl5, .ref pl6, .ref pl7, .ref pl8, .ref pl9, .ref pl10, .ref pl11, .ref pl12, .ref pl13])), (q8, .inl (ca 1, 2000, .inl (fun _ => 0)))] H := hP
  have hD : va_D A [(h0, .inr (0, [.null, .ref q8, .int 0])), (pl, .inr (2, [.int 1, .int 0, .int 0, .int 0, .int 0, .ref pl5, .ref pl6, .ref pl7, .ref pl8, .ref pl9, .ref pl10, .ref pl11, .ref pl12, .ref pl13])), (q8, .inl (ca 1, 2000, .inl (fun _ => 0)))] := hD
  refine lv_aload_n hx hb dX0_init_18 rfl (lv_at hl 0 rfl) ?_
  refine va_new (ci := 9) (fs := [.null, .int 0, .null, .null, .null, .null]) (C := RX9) (T := TX9) (N := 6) hx hb hts iw_X0_init_9 tyX9 tyX9_ok hown (hts (.classLink RX0 19 RX9) (by decide +kernel)) (hts (.instantiable RX9 6) (by decide +kernel)) (hts (.initialized RX9) (by decide +kernel)) hC.1 hP hD hS hA rfl df_X9 (Nat.le_of_ble_eq_true rfl) (Nat.le_of_ble_eq_true rfl) dX0_init_19 (fun q19 H hP hD hS => ?_)
  have hP : va_P D vwCl [(h0, .inr (0, [.null, .ref q8, .int 0])), (pl, .inr (2, [.int 1, .int 0, .int 0, .int 0, .int 0, .ref pl5, .ref pl6, .ref pl7, .ref pl8, .ref pl9, .ref pl10, .ref pl11, .ref pl12, .ref pl13])), (q8, .inl (ca 1, 2000, .inl (fun _ => 0))), (q19, .inr (9, [.null, .int 0, .null, .null, .null, .null]))] H := hP
  have hD : va_D A [(h0, .inr (0, [.null, .ref q8, .int 0])), (pl, .inr (2, [.int 1, .int 0, .int 0, .int 0, .int 0, .ref pl5, .ref pl6, .ref pl7, .ref pl8, .ref pl9, .ref pl10, .ref pl11, .ref pl12, .ref pl13])), (q8, .inl (ca 1, 2000, .inl (fun _ => 0))), (q19, .inr (9, [.null, .int 0, .null, .null, .null, .null]))] := hD
  refine lv_dup hx hb dX0_init_22 rfl ?_
  refine lv_aload_n hx hb dX0_init_23 rfl (lv_at hl 1 rfl) ?_
  refine kc_v (wr := [(h0, .inr (0, [.null, .ref q8, .int 0])), (q8, .inl (ca 1, 2000, .inl (fun _ => 0)))]) (va_runI (As := [.ref pl]) (rest := [.ref q19, .ref h0]) ⟨hx, hb, hml, hown, hts⟩ (k_X9_init l D ca H.size q19 pl pl5 pl6 pl7 pl8 pl9 pl10 pl11 pl12 pl13) (cwI 1 hts gX0_init_X9_init rfl rfl rfl (hts (.initialized RX9) (by decide +kernel)) (hts (.methodLink RX0 21 yX9_init) (by decide +kernel)) (hts (.instanceMethod yX9_init) (by decide +kernel)) rfl (by decide +kernel) ⟨(Nat.le_of_ble_eq_true rfl), (Nat.le_of_ble_eq_true rfl)⟩) (PC.preS hC hP hD [3, 1] rfl (by decide +kernel)) rfl rfl hl.1 rfl (lv_room (Nat.le_of_ble_eq_true rfl)) dX0_init_24 ⟨(Nat.le_of_ble_eq_true rfl), (Nat.le_of_ble_eq_true rfl)⟩) hP hD hS hA [3, 1] [0, 2] rfl rfl (by decide +kernel) (by decide +kernel) (fun u_2 H locs hw_1 hP hD hS => ?_)
  obtain ⟨a_3, a_4, a_5, a_6, f_7⟩ := u_2
  have hP : va_P D vwCl [(h0, .inr (0, [.null, .ref q8, .int 0])), (q8, .inl (ca 1, 2000, .inl (fun _ => 0))), (q19, .inr (9, [.ref pl, .int 0, .ref a_4, .ref a_3, .ref a_5, .ref a_6])), (pl, .inr (2, [.int 1, .int 0, .int 0, .int 0, .int 0, .ref pl5, .ref pl6, .ref pl7, .ref pl8, .ref pl9, .ref pl10, .ref pl11, .ref pl12, .ref pl13])), (a_3, .inl (ca 1, 6, .inl f_7))] H := hP
  have hD : va_D A [(h0, .inr (0, [.null, .ref q8, .int 0])), (q8, .inl (ca 1, 2000, .inl (fun _ => 0))), (q19, .inr (9, [.ref pl, .int 0, .ref a_4, .ref a_3, .ref a_5, .ref a_6])), (pl, .inr (2, [.int 1, .int 0, .int 0, .int 0, .int 0, .ref pl5, .ref pl6, .ref pl7, .ref pl8, .ref pl9, .ref pl10, .ref pl11, .ref pl12, .ref pl13])), (a_3, .inl (ca 1, 6, .inl f_7))] := hD
  refine va_putF (D := D) (ci := 0) (v := .ref q19) (ty := .object "FairWheel$Wheel") (C := RX0) (T := TX0) (N := 3) hx hb hts iw_X0_init_0 tyX0 tyX0_ok nmX0 hown hC.1 hP hD hS 0 rfl rfl 0 (by decide +kernel) (hts (.fieldLink RX0 24 "FairWheel$Box" "wheel" "LFairWheel$Wheel;") (by decide +kernel)) (fun _ h9 => h9) rfl hin rfl (by decide +kernel) rfl rfl (Nat.le_of_ble_eq_true rfl) dX0_init_27 (fun H locs hP hD hS => ?_)
  have hP : va_P D vwCl [(h0, .inr (0, [.ref q19, .ref q8, .int 0])), (q8, .inl (ca 1, 2000, .inl (fun _ => 0))), (q19, .inr (9, [.ref pl, .int 0, .ref a_4, .ref a_3, .ref a_5, .ref a_6])), (pl, .inr (2, [.int 1, .int 0, .int 0, .int 0, .int 0, .ref pl5, .ref pl6, .ref pl7, .ref pl8, .ref pl9, .ref pl10, .ref pl11, .ref pl12, .ref pl13])), (a_3, .inl (ca 1, 6, .inl f_7))] H := hP
  have hD : va_D A [(h0, .inr (0, [.ref q19, .ref q8, .int 0])), (q8, .inl (ca 1, 2000, .inl (fun _ => 0))), (q19, .inr (9, [.ref pl, .int 0, .ref a_4, .ref a_3, .ref a_5, .ref a_6])), (pl, .inr (2, [.int 1, .int 0, .int 0, .int 0, .int 0, .ref pl5, .ref pl6, .ref pl7, .ref pl8, .ref pl9, .ref pl10, .ref pl11, .ref pl12, .ref pl13])), (a_3, .inl (ca 1, 6, .inl f_7))] := hD
  refine W.widen (k := 26) (n := 2312) (by omega) (by omega) ?_
  exact W.vret hx hb hr (fun t ht hW => ⟨⟨(q8, q19, a_3, a_4, a_5, a_6, f_7), rfl, trivial, by rw [ht]; exact hP.sub [0, 1, 2, 3, 4] rfl, hDA (hD.sub [0, 1, 2, 3, 4] (by decide +kernel) rfl)⟩, hS.F ht⟩) hS.2.2 dX0_init_30
theorem iw_X1_init_1 : ∀ w ∈ u_ws RX1 TX1 4, w ∈ wsX1_init := by decide +kernel
set_option maxHeartbeats 4000000 in
set_option maxRecDepth 100000 in
/-- Choices() -/
theorem k_X1_init (l : Launch) (D : va_G) (ca : Nat → ClassId) (sz : Nat) (h0 : Nat) : Met l yX1_init wsX1_init ({ frames := 1, cells := 3, slots := 180, locals := 12 }) (PC [.ref h0] sz D ca [(h0, .inr (1, [.int 0, .null, .null, .null]))]) (QV (fun (u : Nat × Nat × Nat) => True) (fun (u : Nat × Nat × Nat) => [(h0, .inr (1, [.int 0, .ref u.1, .ref u.2.1, .ref u.2.2])), (u.1, .inl (ca 1, 60, .inl (fun _ => 0))), (u.2.1, .inl (ca 1, 60, .inl (fun _ => 0))), (u.2.2, .inl (ca 1, 60, .inl (fun _ => 0)))]) [(h0, .inr (1, [.int 0, .null, .null, .null]))] sz D) 3 180 (va_A [(h0, .inr (1, [.int 0, .null, .null, .null]))] sz) := by
  refine Met.ofW (cc := cX1_init) (maxL := 1) (ret := none) (by decide +kernel) rfl ?_
  intro p e s m args below meth c s₁ B hml hv
  obtain ⟨rfl, hsz, hP, hC, hD0⟩ := hv
  have hx := B.exec
  have hb := B.bytes
  have hr := B.returns
  have hts := atoms_spec (ws := wsX1_init) B.pre
  have hown : s.vm.findClass RX1 = some m.cls := findClass_of_methodNamed B.named
  have hlocks := B.notSynchronized
  have hin : meth.name = "<init>" := (name_of_methodNamed B.named B.method).1
  subst hsz
  have hD := hD0.self (sz := s.heap.size)
  dsimp only [QV, QI, QL, BQ]
  generalize hAe : va_A [(h0, .inr (1, [.int 0, .null, .null, .null]))] s.heap.size = A at hD ⊢
  have hA : ∀ q : Nat, s.heap.size ≤ q → A q := fun q h => by rw [← hAe]; exact Or.inr h
  have hDA : ∀ {w : va_W}, va_D A w → va_D (va_A [(h0, .inr (1, [.int 0, .null, .null, .null]))] s.heap.size) w := fun h => by rw [hAe]; exact h
  have hS : va_S A s.heap s.heap [] := va_S.rf
  have hP : va_P D vwCl [(h0, .inr (1, [.int 0, .null, .null, .null]))] s.heap := hP
  have hl := lv_entry ([.ref h0]) (n := 1) (Nat.le_of_ble_eq_true rfl)
  rw [lg_entry_eq]
  generalize (lg_sl ([.ref h0]) ++ List.replicate (1 - (lg_sl ([.ref h0])).length) Slot.unset).toArray = ls at hl ⊢
  have hl : lv_has ls 1 [(0, .ref h0)] := hl
  refine lv_aload_n hx hb dX1_init_0 rfl (lv_at hl 0 rfl) ?_
  refine W.objInit hx hb hown (hts (.methodLink RX1 3 objectInit) (by decide +kernel)) (hts (.instanceMethod objectInit) (by decide +kernel)) (hts (.code objectInit ⟨#[0xb1]⟩ 1 none) (by decide +kernel)) rfl (by rw [hml]; exact hl.1) rfl dX1_init_1 (Nat.le_of_ble_eq_true rfl) (Nat.le_of_ble_eq_true rfl) ?_
  refine W.eq (g2 := F0 m 4 ls []) rfl ?_
  refine lv_aload_n hx hb dX1_init_4 rfl (lv_at hl 0 rfl) ?_
  refine lv_iconst (v := 0) hx hb dX1_init_5 (by decide +kernel) ?_
  refine va_put (D := D) (ci := 1) (v := .int 0) (ty := .int) (C := RX1) (T := TX1) (N := 4) hx hb hts iw_X1_init_1 tyX1 tyX1_ok nmX1 hown hC.1 hP hD hS 0 rfl rfl 0 (by decide +kernel) (hts (.fieldLink RX1 9 "FairWheel$Choices" "count" "I") (by decide +kernel)) (fun _ h9 => h9) rfl (by decide +kernel) rfl rfl (Nat.le_of_ble_eq_true rfl) dX1_init_6 (fun H locs hP hD hS => ?_)
  have hP : va_P D vwCl [(h0, .inr (1, [.int 0, .null, .null, .null]))] H := hP
  have hD : va_D A [(h0, .inr (1, [.int 0, .null, .null, .null]))] := hD
  refine lv_aload_n hx hb dX1_init_9 rfl (lv_at hl 0 rfl) ?_
  refine lv_bipush (v := 60) hx hb dX1_init_10 (by decide +kernel) ?_
  refine ka_newa (atype := .int) (ty := .int) hx hb (hts (.arrayClass .int) (by decide +kernel)) rfl hC.1 hP hD hS hA 60 (ha_i 60) rfl (by decide +kernel) (Nat.le_of_ble_eq_true rfl) (Nat.le_of_ble_eq_true rfl) (Nat.le_of_ble_eq_true rfl) dX1_init_12 1 rfl (fun q12 H hP hD hS => ?_)
  have hP : va_P D vwCl [(h0, .inr (1, [.int 0, .null, .null, .null])), (q12, .inl (ca 1, 60, .inl (fun _ => 0)))] H := hP
  have hD : va_D A [(h0, .inr (1, [.int 0, .null, .null, .null])), (q12, .inl (ca 1, 60, .inl (fun _ => 0)))] := hD
  refine va_putF (D := D) (ci := 1) (v := .ref q12) (ty := .array .int) (C := RX1) (T := TX1) (N := 4) hx hb hts iw_X1_init_1 tyX1 tyX1_ok nmX1 hown hC.1 hP hD hS 0 rfl rfl 1 (by decide +kernel) (hts (.fieldLink RX1 15 "FairWheel$Choices" "ticks" "[I") (by decide +kernel)) (fun _ h9 => h9) rfl hin rfl (by decide +kernel) rfl rfl (Nat.le_of_ble_eq_true rfl) dX1_init_14 (fun H locs hP hD hS => ?_)
  have hP : va_P D vwCl [(h0, .inr (1, [.int 0, .ref q12, .null, .null])), (q12, .inl (ca 1, 60, .inl (fun _ => 0)))] H := hP
  have hD : va_D A [(h0, .inr (1, [.int 0, .ref q12, .null, .null])), (q12, .inl (ca 1, 60, .inl (fun _ => 0)))] := hD
  refine lv_aload_n hx hb dX1_init_17 rfl (lv_at hl 0 rfl) ?_
  refine lv_bipush (v := 60) hx hb dX1_init_18 (by decide +kernel) ?_
  refine ka_newa (atype := .int) (ty := .int) hx hb (hts (.arrayClass .int) (by decide +kernel)) rfl hC.1 hP hD hS hA 60 (ha_i 60) rfl (by decide +kernel) (Nat.le_of_ble_eq_true rfl) (Nat.le_of_ble_eq_true rfl) (Nat.le_of_ble_eq_true rfl) dX1_init_20 1 rfl (fun q20 H hP hD hS => ?_)
  have hP : va_P D vwCl [(h0, .inr (1, [.int 0, .ref q12, .null, .null])), (q12, .inl (ca 1, 60, .inl (fun _ => 0))), (q20, .inl (ca 1, 60, .inl (fun _ => 0)))] H := hP
  have hD : va_D A [(h0, .inr (1, [.int 0, .ref q12, .null, .null])), (q12, .inl (ca 1, 60, .inl (fun _ => 0))), (q20, .inl (ca 1, 60, .inl (fun _ => 0)))] := hD
  refine va_putF (D := D) (ci := 1) (v := .ref q20) (ty := .array .int) (C := RX1) (T := TX1) (N := 4) hx hb hts iw_X1_init_1 tyX1 tyX1_ok nmX1 hown hC.1 hP hD hS 0 rfl rfl 2 (by decide +kernel) (hts (.fieldLink RX1 19 "FairWheel$Choices" "processors" "[I") (by decide +kernel)) (fun _ h9 => h9) rfl hin rfl (by decide +kernel) rfl rfl (Nat.le_of_ble_eq_true rfl) dX1_init_22 (fun H locs hP hD hS => ?_)
  have hP : va_P D vwCl [(h0, .inr (1, [.int 0, .ref q12, .ref q20, .null])), (q12, .inl (ca 1, 60, .inl (fun _ => 0))), (q20, .inl (ca 1, 60, .inl (fun _ => 0)))] H := hP
  have hD : va_D A [(h0, .inr (1, [.int 0, .ref q12, .ref q20, .null])), (q12, .inl (ca 1, 60, .inl (fun _ => 0))), (q20, .inl (ca 1, 60, .inl (fun _ => 0)))] := hD
  refine lv_aload_n hx hb dX1_init_25 rfl (lv_at hl 0 rfl) ?_
  refine lv_bipush (v := 60) hx hb dX1_init_26 (by decide +kernel) ?_
  refine ka_newa (atype := .int) (ty := .int) hx hb (hts (.arrayClass .int) (by decide +kernel)) rfl hC.1 hP hD hS hA 60 (ha_i 60) rfl (by decide +kernel) (Nat.le_of_ble_eq_true rfl) (Nat.le_of_ble_eq_true rfl) (Nat.le_of_ble_eq_true rfl) dX1_init_28 1 rfl (fun q28 H hP hD hS => ?_)
  have hP : va_P D vwCl [(h0, .inr (1, [.int 0, .ref q12, .ref q20, .null])), (q12, .inl (ca 1, 60, .inl (fun _ => 0))), (q20, .inl (ca 1, 60, .inl (fun _ => 0))), (q28, .inl (ca 1, 60, .inl (fun _ => 0)))] H := hP
  have hD : va_D A [(h0, .inr (1, [.int 0, .ref q12, .ref q20, .null])), (q12, .inl (ca 1, 60, .inl (fun _ => 0))), (q20, .inl (ca 1, 60, .inl (fun _ => 0))), (q28, .inl (ca 1, 60, .inl (fun _ => 0)))] := hD
  refine va_putF (D := D) (ci := 1) (v := .ref q28) (ty := .array .int) (C := RX1) (T := TX1) (N := 4) hx hb hts iw_X1_init_1 tyX1 tyX1_ok nmX1 hown hC.1 hP hD hS 0 rfl rfl 3 (by decide +kernel) (hts (.fieldLink RX1 22 "FairWheel$Choices" "tasks" "[I") (by decide +kernel)) (fun _ h9 => h9) rfl hin rfl (by decide +kernel) rfl rfl (Nat.le_of_ble_eq_true rfl) dX1_init_30 (fun H locs hP hD hS => ?_)
  have hP : va_P D vwCl [(h0, .inr (1, [.int 0, .ref q12, .ref q20, .ref q28])), (q12, .inl (ca 1, 60, .inl (fun _ => 0))), (q20, .inl (ca 1, 60, .inl (fun _ => 0))), (q28, .inl (ca 1, 60, .inl (fun _ => 0)))] H := hP
  have hD : va_D A [(h0, .inr (1, [.int 0, .ref q12, .ref q20, .ref q28])), (q12, .inl (ca 1, 60, .inl (fun _ => 0))), (q20, .inl (ca 1, 60, .inl (fun _ => 0))), (q28, .inl (ca 1, 60, .inl (fun _ => 0)))] := hD
  refine W.widen (k := 3) (n := 180) (by omega) (by omega) ?_
  exact W.vret hx hb hr (fun t ht hW => ⟨⟨(q12, q20, q28), rfl, trivial, by rw [ht]; exact hP.sub [0, 1, 2, 3] rfl, hDA (hD.sub [0, 1, 2, 3] (by decide +kernel) rfl)⟩, hS.F ht⟩) hS.2.2 dX1_init_33
theorem iw_X6_init_6 : ∀ w ∈ u_ws RX6 TX6 6, w ∈ wsX6_init := by decide +kernel
set_option maxHeartbeats 4000000 in
set_option maxRecDepth 100000 in
/-- Sights() -/
theorem k_X6_init (l : Launch) (D : va_G) (ca : Nat → ClassId) (sz : Nat) (h0 : Nat) : Met l yX6_init wsX6_init ({ frames := 1, cells := 5, slots := 100, locals := 12 }) (PC [.ref h0] sz D ca [(h0, .inr (6, [.int 0, .null, .null, .null, .null, .null]))]) (QV (fun (u : Nat × Nat × Nat × Nat × Nat) => True) (fun (u : Nat × Nat × Nat × Nat × Nat) => [(h0, .inr (6, [.int 0, .ref u.1, .ref u.2.1, .ref u.2.2.1, .ref u.2.2.2.1, .ref u.2.2.2.2]))]) [(h0, .inr (6, [.int 0, .null, .null, .null, .null, .null]))] sz D) 5 100 (va_A [(h0, .inr (6, [.int 0, .null, .null, .null, .null, .null]))] sz) := by
  refine Met.ofW (cc := cX6_init) (maxL := 1) (ret := none) (by decide +kernel) rfl ?_
  intro p e s m args below meth c s₁ B hml hv
  obtain ⟨rfl, hsz, hP, hC, hD0⟩ := hv
  have hx := B.exec
  have hb := B.bytes
  have hr := B.returns
  have hts := atoms_spec (ws := wsX6_init) B.pre
  have hown : s.vm.findClass RX6 = some m.cls := findClass_of_methodNamed B.named
  have hlocks := B.notSynchronized
  have hin : meth.name = "<init>" := (name_of_methodNamed B.named B.method).1
  subst hsz
  have hD := hD0.self (sz := s.heap.size)
  dsimp only [QV, QI, QL, BQ]
  generalize hAe : va_A [(h0, .inr (6, [.int 0, .null, .null, .null, .null, .null]))] s.heap.size = A at hD ⊢
  have hA : ∀ q : Nat, s.heap.size ≤ q → A q := fun q h => by rw [← hAe]; exact Or.inr h
  have hDA : ∀ {w : va_W}, va_D A w → va_D (va_A [(h0, .inr (6, [.int 0, .null, .null, .null, .null, .null]))] s.heap.size) w := fun h => by rw [hAe]; exact h
  have hS : va_S A s.heap s.heap [] := va_S.rf
  have hP : va_P D vwCl [(h0, .inr (6, [.int 0, .null, .null, .null, .null, .null]))] s.heap := hP
  have hl := lv_entry ([.ref h0]) (n := 1) (Nat.le_of_ble_eq_true rfl)
  rw [lg_entry_eq]
  generalize (lg_sl ([.ref h0]) ++ List.replicate (1 - (lg_sl ([.ref h0])).length) Slot.unset).toArray = ls at hl ⊢
  have hl : lv_has ls 1 [(0, .ref h0)] := hl
  refine lv_aload_n hx hb dX6_init_0 rfl (lv_at hl 0 rfl) ?_
  refine W.objInit hx hb hown (hts (.methodLink RX6 3 objectInit) (by decide +kernel)) (hts (.instanceMethod objectInit) (by decide +kernel)) (hts (.code objectInit ⟨#[0xb1]⟩ 1 none) (by decide +kernel)) rfl (by rw [hml]; exact hl.1) rfl dX6_init_1 (Nat.le_of_ble_eq_true rfl) (Nat.le_of_ble_eq_true rfl) ?_
  refine W.eq (g2 := F0 m 4 ls []) rfl ?_
  refine lv_aload_n hx hb dX6_init_4 rfl (lv_at hl 0 rfl) ?_
  refine lv_iconst (v := 0) hx hb dX6_init_5 (by decide +kernel) ?_
  refine va_put (D := D) (ci := 6) (v := .int 0) (ty := .int) (C := RX6) (T := TX6) (N := 6) hx hb hts iw_X6_init_6 tyX6 tyX6_ok nmX6 hown hC.1 hP hD hS 0 rfl rfl 0 (by decide +kernel) (hts (.fieldLink RX6 9 "FairWheel$Sights" "count" "I") (by decide +kernel)) (fun _ h9 => h9) rfl (by decide +kernel) rfl rfl (Nat.le_of_ble_eq_true rfl) dX6_init_6 (fun H locs hP hD hS => ?_)
  have hP : va_P D vwCl [(h0, .inr (6, [.int 0, .null, .null, .null, .null, .null]))] H := hP
  have hD : va_D A [(h0, .inr (6, [.int 0, .null, .null, .null, .null, .null]))] := hD
  refine lv_aload_n hx hb dX6_init_9 rfl (lv_at hl 0 rfl) ?_
  refine lv_bipush (v := 20) hx hb dX6_init_10 (by decide +kernel) ?_
  refine ka_newa (atype := .int) (ty := .int) hx hb (hts (.arrayClass .int) (by decide +kernel)) rfl hC.1 hP hD hS hA 20 (ha_i 20) rfl (by decide +kernel) (Nat.le_of_ble_eq_true rfl) (Nat.le_of_ble_eq_true rfl) (Nat.le_of_ble_eq_true rfl) dX6_init_12 1 rfl (fun q12 H hP hD hS => ?_)
  have hP : va_P D vwCl [(h0, .inr (6, [.int 0, .null, .null, .null, .null, .null])), (q12, .inl (ca 1, 20, .inl (fun _ => 0)))] H := hP
  have hD : va_D A [(h0, .inr (6, [.int 0, .null, .null, .null, .null, .null])), (q12, .inl (ca 1, 20, .inl (fun _ => 0)))] := hD
  refine va_putF (D := D) (ci := 6) (v := .ref q12) (ty := .array .int) (C := RX6) (T := TX6) (N := 6) hx hb hts iw_X6_init_6 tyX6 tyX6_ok nmX6 hown hC.1 hP hD hS 0 rfl rfl 1 (by decide +kernel) (hts (.fieldLink RX6 15 "FairWheel$Sights" "ticks" "[I") (by decide +kernel)) (fun _ h9 => h9) rfl hin rfl (by decide +kernel) rfl rfl (Nat.le_of_ble_eq_true rfl) dX6_init_14 (fun H locs hP hD hS => ?_)
  have hP : va_P D vwCl [(h0, .inr (6, [.int 0, .ref q12, .null, .null, .null, .null])), (q12, .inl (ca 1, 20, .inl (fun _ => 0)))] H := hP
  have hD : va_D A [(h0, .inr (6, [.int 0, .ref q12, .null, .null, .null, .null])), (q12, .inl (ca 1, 20, .inl (fun _ => 0)))] := hD
  refine lv_aload_n hx hb dX6_init_17 rfl (lv_at hl 0 rfl) ?_
  refine lv_bipush (v := 20) hx hb dX6_init_18 (by decide +kernel) ?_
  refine ka_newa (atype := .int) (ty := .int) hx hb (hts (.arrayClass .int) (by decide +kernel)) rfl hC.1 hP hD hS hA 20 (ha_i 20) rfl (by decide +kernel) (Nat.le_of_ble_eq_true rfl) (Nat.le_of_ble_eq_true rfl) (Nat.le_of_ble_eq_true rfl) dX6_init_20 1 rfl (fun q20 H hP hD hS => ?_)
  have hP : va_P D vwCl [(h0, .inr (6, [.int 0, .ref q12, .null, .null, .null, .null])), (q12, .inl (ca 1, 20, .inl (fun _ => 0))), (q20, .inl (ca 1, 20, .inl (fun _ => 0)))] H := hP
  have hD : va_D A [(h0, .inr (6, [.int 0, .ref q12, .null, .null, .null, .null])), (q12, .inl (ca 1, 20, .inl (fun _ => 0))), (q20, .inl (ca 1, 20, .inl (fun _ => 0)))] := hD
  refine va_putF (D := D) (ci := 6) (v := .ref q20) (ty := .array .int) (C := RX6) (T := TX6) (N := 6) hx hb hts iw_X6_init_6 tyX6 tyX6_ok nmX6 hown hC.1 hP hD hS 0 rfl rfl 2 (by decide +kernel) (hts (.fieldLink RX6 19 "FairWheel$Sights" "tasks" "[I") (by decide +kernel)) (fun _ h9 => h9) rfl hin rfl (by decide +kernel) rfl rfl (Nat.le_of_ble_eq_true rfl) dX6_init_22 (fun H locs hP hD hS => ?_)
  have hP : va_P D vwCl [(h0, .inr (6, [.int 0, .ref q12, .ref q20, .null, .null, .null])), (q12, .inl (ca 1, 20, .inl (fun _ => 0))), (q20, .inl (ca 1, 20, .inl (fun _ => 0)))] H := hP
  have hD : va_D A [(h0, .inr (6, [.int 0, .ref q12, .ref q20, .null, .null, .null])), (q12, .inl (ca 1, 20, .inl (fun _ => 0))), (q20, .inl (ca 1, 20, .inl (fun _ => 0)))] := hD
  refine lv_aload_n hx hb dX6_init_25 rfl (lv_at hl 0 rfl) ?_
  refine lv_bipush (v := 20) hx hb dX6_init_26 (by decide +kernel) ?_
  refine ka_newa (atype := .boolean) (ty := .boolean) hx hb (hts (.arrayClass .boolean) (by decide +kernel)) rfl hC.1 hP hD hS hA 20 (ha_z 20) rfl (by decide +kernel) (Nat.le_of_ble_eq_true rfl) (Nat.le_of_ble_eq_true rfl) (Nat.le_of_ble_eq_true rfl) dX6_init_28 3 rfl (fun q28 H hP hD hS => ?_)
  have hP : va_P D vwCl [(h0, .inr (6, [.int 0, .ref q12, .ref q20, .null, .null, .null])), (q12, .inl (ca 1, 20, .inl (fun _ => 0))), (q20, .inl (ca 1, 20, .inl (fun _ => 0))), (q28, .inl (ca 3, 20, .inl (fun _ => 0)))] H := hP
  have hD : va_D A [(h0, .inr (6, [.int 0, .ref q12, .ref q20, .null, .null, .null])), (q12, .inl (ca 1, 20, .inl (fun _ => 0))), (q20, .inl (ca 1, 20, .inl (fun _ => 0))), (q28, .inl (ca 3, 20, .inl (fun _ => 0)))] := hD
  refine va_putF (D := D) (ci := 6) (v := .ref q28) (ty := .array .boolean) (C := RX6) (T := TX6) (N := 6) hx hb hts iw_X6_init_6 tyX6 tyX6_ok nmX6 hown hC.1 hP hD hS 0 rfl rfl 3 (by decide +kernel) (hts (.fieldLink RX6 22 "FairWheel$Sights" "ran" "[Z") (by decide +kernel)) (fun _ h9 => h9) rfl hin rfl (by decide +kernel) rfl rfl (Nat.le_of_ble_eq_true rfl) dX6_init_30 (fun H locs hP hD hS => ?_)
  have hP : va_P D vwCl [(h0, .inr (6, [.int 0, .ref q12, .ref q20, .ref q28, .null, .null])), (q12, .inl (ca 1, 20, .inl (fun _ => 0))), (q20, .inl (ca 1, 20, .inl (fun _ => 0))), (q28, .inl (ca 3, 20, .inl (fun _ => 0)))] H := hP
  have hD : va_D A [(h0, .inr (6, [.int 0, .ref q12, .ref q20, .ref q28, .null, .null])), (q12, .inl (ca 1, 20, .inl (fun _ => 0))), (q20, .inl (ca 1, 20, .inl (fun _ => 0))), (q28, .inl (ca 3, 20, .inl (fun _ => 0)))] := hD
  refine lv_aload_n hx hb dX6_init_33 rfl (lv_at hl 0 rfl) ?_
  refine lv_bipush (v := 20) hx hb dX6_init_34 (by decide +kernel) ?_
  refine ka_newa (atype := .int) (ty := .int) hx hb (hts (.arrayClass .int) (by decide +kernel)) rfl hC.1 hP hD hS hA 20 (ha_i 20) rfl (by decide +kernel) (Nat.le_of_ble_eq_true rfl) (Nat.le_of_ble_eq_true rfl) (Nat.le_of_ble_eq_true rfl) dX6_init_36 1 rfl (fun q36 H hP hD hS => ?_)
  have hP : va_P D vwCl [(h0, .inr (6, [.int 0, .ref q12, .ref q20, .ref q28, .null, .null])), (q12, .inl (ca 1, 20, .inl (fun _ => 0))), (q20, .inl (ca 1, 20, .inl (fun _ => 0))), (q28, .inl (ca 3, 20, .inl (fun _ => 0))), (q36, .inl (ca 1, 20, .inl (fun _ => 0)))] H := hP
  have hD : va_D A [(h0, .inr (6, [.int 0, .ref q12, .ref q20, .ref q28, .null, .null])), (q12, .inl (ca 1, 20, .inl (fun _ => 0))), (q20, .inl (ca 1, 20, .inl (fun _ => 0))), (q28, .inl (ca 3, 20, .inl (fun _ => 0))), (q36, .inl (ca 1, 20, .inl (fun _ => 0)))] := hD
  refine va_putF (D := D) (ci := 6) (v := .ref q36) (ty := .array .int) (C := RX6) (T := TX6) (N := 6) hx hb hts iw_X6_init_6 tyX6 tyX6_ok nmX6 hown hC.1 hP hD hS 0 rfl rfl 4 (by decide +kernel) (hts (.fieldLink RX6 26 "FairWheel$Sights" "since" "[I") (by decide +kernel)) (fun _ h9 => h9) rfl hin rfl (by decide +kernel) rfl rfl (Nat.le_of_ble_eq_true rfl) dX6_init_38 (fun H locs hP hD hS => ?_)
  have hP : va_P D vwCl [(h0, .inr (6, [.int 0, .ref q12, .ref q20, .ref q28, .ref q36, .null])), (q12, .inl (ca 1, 20, .inl (fun _ => 0))), (q20, .inl (ca 1, 20, .inl (fun _ => 0))), (q28, .inl (ca 3, 20, .inl (fun _ => 0))), (q36, .inl (ca 1, 20, .inl (fun _ => 0)))] H := hP
  have hD : va_D A [(h0, .inr (6, [.int 0, .ref q12, .ref q20, .ref q28, .ref q36, .null])), (q12, .inl (ca 1, 20, .inl (fun _ => 0))), (q20, .inl (ca 1, 20, .inl (fun _ => 0))), (q28, .inl (ca 3, 20, .inl (fun _ => 0))), (q36, .inl (ca 1, 20, .inl (fun _ => 0)))] := hD
  refine lv_aload_n hx hb dX6_init_41 rfl (lv_at hl 0 rfl) ?_
  refine lv_bipush (v := 20) hx hb dX6_init_42 (by decide +kernel) ?_
  refine ka_newa (atype := .int) (ty := .int) hx hb (hts (.arrayClass .int) (by decide +kernel)) rfl hC.1 hP hD hS hA 20 (ha_i 20) rfl (by decide +kernel) (Nat.le_of_ble_eq_true rfl) (Nat.le_of_ble_eq_true rfl) (Nat.le_of_ble_eq_true rfl) dX6_init_44 1 rfl (fun q44 H hP hD hS => ?_)
  have hP : va_P D vwCl [(h0, .inr (6, [.int 0, .ref q12, .ref q20, .ref q28, .ref q36, .null])), (q12, .inl (ca 1, 20, .inl (fun _ => 0))), (q20, .inl (ca 1, 20, .inl (fun _ => 0))), (q28, .inl (ca 3, 20, .inl (fun _ => 0))), (q36, .inl (ca 1, 20, .inl (fun _ => 0))), (q44, .inl (ca 1, 20, .inl (fun _ => 0)))] H := hP
  have hD : va_D A [(h0, .inr (6, [.int 0, .ref q12, .ref q20, .ref q28, .ref q36, .null])), (q12, .inl (ca 1, 20, .inl (fun _ => 0))), (q20, .inl (ca 1, 20, .inl (fun _ => 0))), (q28, .inl (ca 3, 20, .inl (fun _ => 0))), (q36, .inl (ca 1, 20, .inl (fun _ => 0))), (q44, .inl (ca 1, 20, .inl (fun _ => 0)))] := hD
  refine va_putF (D := D) (ci := 6) (v := .ref q44) (ty := .array .int) (C := RX6) (T := TX6) (N := 6) hx hb hts iw_X6_init_6 tyX6 tyX6_ok nmX6 hown hC.1 hP hD hS 0 rfl rfl 5 (by decide +kernel) (hts (.fieldLink RX6 29 "FairWheel$Sights" "untold" "[I") (by decide +kernel)) (fun _ h9 => h9) rfl hin rfl (by decide +kernel) rfl rfl (Nat.le_of_ble_eq_true rfl) dX6_init_46 (fun H locs hP hD hS => ?_)
  have hP : va_P D vwCl [(h0, .inr (6, [.int 0, .ref q12, .ref q20, .ref q28, .ref q36, .ref q44])), (q12, .inl (ca 1, 20, .inl (fun _ => 0))), (q20, .inl (ca 1, 20, .inl (fun _ => 0))), (q28, .inl (ca 3, 20, .inl (fun _ => 0))), (q36, .inl (ca 1, 20, .inl (fun _ => 0))), (q44, .inl (ca 1, 20, .inl (fun _ => 0)))] H := hP
  have hD : va_D A [(h0, .inr (6, [.int 0, .ref q12, .ref q20, .ref q28, .ref q36, .ref q44])), (q12, .inl (ca 1, 20, .inl (fun _ => 0))), (q20, .inl (ca 1, 20, .inl (fun _ => 0))), (q28, .inl (ca 3, 20, .inl (fun _ => 0))), (q36, .inl (ca 1, 20, .inl (fun _ => 0))), (q44, .inl (ca 1, 20, .inl (fun _ => 0)))] := hD
  refine W.widen (k := 5) (n := 100) (by omega) (by omega) ?_
  exact W.vret hx hb hr (fun t ht hW => ⟨⟨(q12, q20, q28, q36, q44), rfl, trivial, by rw [ht]; exact hP.sub [0] rfl, hDA (hD.sub [0] (by decide +kernel) rfl)⟩, hS.F ht⟩) hS.2.2 dX6_init_49
theorem iw_X4_init_4 : ∀ w ∈ u_ws RX4 TX4 4, w ∈ wsX4_init := by decide +kernel
set_option maxHeartbeats 4000000 in
set_option maxRecDepth 100000 in
/-- Risk() -/
theorem k_X4_init (l : Launch) (D : va_G) (ca : Nat → ClassId) (sz : Nat) (h0 : Nat) : Met l yX4_init wsX4_init ({ frames := 1, cells := 3, slots := 18, locals := 12 }) (PC [.ref h0] sz D ca [(h0, .inr (4, [.null, .null, .int 0, .null]))]) (QV (fun (u : Nat × Nat × Nat) => True) (fun (u : Nat × Nat × Nat) => [(h0, .inr (4, [.ref u.1, .ref u.2.1, .int 0, .ref u.2.2])), (u.1, .inl (ca 1, 6, .inl (fun _ => 0))), (u.2.1, .inl (ca 1, 6, .inl (fun _ => 0))), (u.2.2, .inl (ca 1, 6, .inl (fun _ => 0)))]) [(h0, .inr (4, [.null, .null, .int 0, .null]))] sz D) 3 18 (va_A [(h0, .inr (4, [.null, .null, .int 0, .null]))] sz) := by
  refine Met.ofW (cc := cX4_init) (maxL := 1) (ret := none) (by decide +kernel) rfl ?_
  intro p e s m args below meth c s₁ B hml hv
  obtain ⟨rfl, hsz, hP, hC, hD0⟩ := hv
  have hx := B.exec
  have hb := B.bytes
  have hr := B.returns
  have hts := atoms_spec (ws := wsX4_init) B.pre
  have hown : s.vm.findClass RX4 = some m.cls := findClass_of_methodNamed B.named
  have hlocks := B.notSynchronized
  have hin : meth.name = "<init>" := (name_of_methodNamed B.named B.method).1
  subst hsz
  have hD := hD0.self (sz := s.heap.size)
  dsimp only [QV, QI, QL, BQ]
  generalize hAe : va_A [(h0, .inr (4, [.null, .null, .int 0, .null]))] s.heap.size = A at hD ⊢
  have hA : ∀ q : Nat, s.heap.size ≤ q → A q := fun q h => by rw [← hAe]; exact Or.inr h
  have hDA : ∀ {w : va_W}, va_D A w → va_D (va_A [(h0, .inr (4, [.null, .null, .int 0, .null]))] s.heap.size) w := fun h => by rw [hAe]; exact h
  have hS : va_S A s.heap s.heap [] := va_S.rf
  have hP : va_P D vwCl [(h0, .inr (4, [.null, .null, .int 0, .null]))] s.heap := hP
  have hl := lv_entry ([.ref h0]) (n := 1) (Nat.le_of_ble_eq_true rfl)
  rw [lg_entry_eq]
  generalize (lg_sl ([.ref h0]) ++ List.replicate (1 - (lg_sl ([.ref h0])).length) Slot.unset).toArray = ls at hl ⊢
  have hl : lv_has ls 1 [(0, .ref h0)] := hl
  refine lv_aload_n hx hb dX4_init_0 rfl (lv_at hl 0 rfl) ?_
  refine W.objInit hx hb hown (hts (.methodLink RX4 3 objectInit) (by decide +kernel)) (hts (.instanceMethod objectInit) (by decide +kernel)) (hts (.code objectInit ⟨#[0xb1]⟩ 1 none) (by decide +kernel)) rfl (by rw [hml]; exact hl.1) rfl dX4_init_1 (Nat.le_of_ble_eq_true rfl) (Nat.le_of_ble_eq_true rfl) ?_
  refine W.eq (g2 := F0 m 4 ls []) rfl ?_
  refine lv_aload_n hx hb dX4_init_4 rfl (lv_at hl 0 rfl) ?_
  refine lv_bipush (v := 6) hx hb dX4_init_5 (by decide +kernel) ?_
  refine ka_newa (atype := .int) (ty := .int) hx hb (hts (.arrayClass .int) (by decide +kernel)) rfl hC.1 hP hD hS hA 6 (ha_i 6) rfl (by decide +kernel) (Nat.le_of_ble_eq_true rfl) (Nat.le_of_ble_eq_true rfl) (Nat.le_of_ble_eq_true rfl) dX4_init_7 1 rfl (fun q7 H hP hD hS => ?_)
  have hP : va_P D vwCl [(h0, .inr (4, [.null, .null, .int 0, .null])), (q7, .inl (ca 1, 6, .inl (fun _ => 0)))] H := hP
  have hD : va_D A [(h0, .inr (4, [.null, .null, .int 0, .null])), (q7, .inl (ca 1, 6, .inl (fun _ => 0)))] := hD
  refine va_putF (D := D) (ci := 4) (v := .ref q7) (ty := .array .int) (C := RX4) (T := TX4) (N := 4) hx hb hts iw_X4_init_4 tyX4 tyX4_ok nmX4 hown hC.1 hP hD hS 0 rfl rfl 0 (by decide +kernel) (hts (.fieldLink RX4 9 "FairWheel$Risk" "behind" "[I") (by decide +kernel)) (fun _ h9 => h9) rfl hin rfl (by decide +kernel) rfl rfl (Nat.le_of_ble_eq_true rfl) dX4_init_9 (fun H locs hP hD hS => ?_)
  have hP : va_P D vwCl [(h0, .inr (4, [.ref q7, .null, .int 0, .null])), (q7, .inl (ca 1, 6, .inl (fun _ => 0)))] H := hP
  have hD : va_D A [(h0, .inr (4, [.ref q7, .null, .int 0, .null])), (q7, .inl (ca 1, 6, .inl (fun _ => 0)))] := hD
  refine lv_aload_n hx hb dX4_init_12 rfl (lv_at hl 0 rfl) ?_
  refine lv_bipush (v := 6) hx hb dX4_init_13 (by decide +kernel) ?_
  refine ka_newa (atype := .int) (ty := .int) hx hb (hts (.arrayClass .int) (by decide +kernel)) rfl hC.1 hP hD hS hA 6 (ha_i 6) rfl (by decide +kernel) (Nat.le_of_ble_eq_true rfl) (Nat.le_of_ble_eq_true rfl) (Nat.le_of_ble_eq_true rfl) dX4_init_15 1 rfl (fun q15 H hP hD hS => ?_)
  have hP : va_P D vwCl [(h0, .inr (4, [.ref q7, .null, .int 0, .null])), (q7, .inl (ca 1, 6, .inl (fun _ => 0))), (q15, .inl (ca 1, 6, .inl (fun _ => 0)))] H := hP
  have hD : va_D A [(h0, .inr (4, [.ref q7, .null, .int 0, .null])), (q7, .inl (ca 1, 6, .inl (fun _ => 0))), (q15, .inl (ca 1, 6, .inl (fun _ => 0)))] := hD
  refine va_putF (D := D) (ci := 4) (v := .ref q15) (ty := .array .int) (C := RX4) (T := TX4) (N := 4) hx hb hts iw_X4_init_4 tyX4 tyX4_ok nmX4 hown hC.1 hP hD hS 0 rfl rfl 1 (by decide +kernel) (hts (.fieldLink RX4 15 "FairWheel$Risk" "steps" "[I") (by decide +kernel)) (fun _ h9 => h9) rfl hin rfl (by decide +kernel) rfl rfl (Nat.le_of_ble_eq_true rfl) dX4_init_17 (fun H locs hP hD hS => ?_)
  have hP : va_P D vwCl [(h0, .inr (4, [.ref q7, .ref q15, .int 0, .null])), (q7, .inl (ca 1, 6, .inl (fun _ => 0))), (q15, .inl (ca 1, 6, .inl (fun _ => 0)))] H := hP
  have hD : va_D A [(h0, .inr (4, [.ref q7, .ref q15, .int 0, .null])), (q7, .inl (ca 1, 6, .inl (fun _ => 0))), (q15, .inl (ca 1, 6, .inl (fun _ => 0)))] := hD
  refine lv_aload_n hx hb dX4_init_20 rfl (lv_at hl 0 rfl) ?_
  refine lv_iconst (v := 0) hx hb dX4_init_21 (by decide +kernel) ?_
  refine va_put (D := D) (ci := 4) (v := .int 0) (ty := .int) (C := RX4) (T := TX4) (N := 4) hx hb hts iw_X4_init_4 tyX4 tyX4_ok nmX4 hown hC.1 hP hD hS 0 rfl rfl 2 (by decide +kernel) (hts (.fieldLink RX4 18 "FairWheel$Risk" "size" "I") (by decide +kernel)) (fun _ h9 => h9) rfl (by decide +kernel) rfl rfl (Nat.le_of_ble_eq_true rfl) dX4_init_22 (fun H locs hP hD hS => ?_)
  have hP : va_P D vwCl [(h0, .inr (4, [.ref q7, .ref q15, .int 0, .null])), (q7, .inl (ca 1, 6, .inl (fun _ => 0))), (q15, .inl (ca 1, 6, .inl (fun _ => 0)))] H := hP
  have hD : va_D A [(h0, .inr (4, [.ref q7, .ref q15, .int 0, .null])), (q7, .inl (ca 1, 6, .inl (fun _ => 0))), (q15, .inl (ca 1, 6, .inl (fun _ => 0)))] := hD
  refine lv_aload_n hx hb dX4_init_25 rfl (lv_at hl 0 rfl) ?_
  refine lv_bipush (v := 6) hx hb dX4_init_26 (by decide +kernel) ?_
  refine ka_newa (atype := .int) (ty := .int) hx hb (hts (.arrayClass .int) (by decide +kernel)) rfl hC.1 hP hD hS hA 6 (ha_i 6) rfl (by decide +kernel) (Nat.le_of_ble_eq_true rfl) (Nat.le_of_ble_eq_true rfl) (Nat.le_of_ble_eq_true rfl) dX4_init_28 1 rfl (fun q28 H hP hD hS => ?_)
  have hP : va_P D vwCl [(h0, .inr (4, [.ref q7, .ref q15, .int 0, .null])), (q7, .inl (ca 1, 6, .inl (fun _ => 0))), (q15, .inl (ca 1, 6, .inl (fun _ => 0))), (q28, .inl (ca 1, 6, .inl (fun _ => 0)))] H := hP
  have hD : va_D A [(h0, .inr (4, [.ref q7, .ref q15, .int 0, .null])), (q7, .inl (ca 1, 6, .inl (fun _ => 0))), (q15, .inl (ca 1, 6, .inl (fun _ => 0))), (q28, .inl (ca 1, 6, .inl (fun _ => 0)))] := hD
  refine va_putF (D := D) (ci := 4) (v := .ref q28) (ty := .array .int) (C := RX4) (T := TX4) (N := 4) hx hb hts iw_X4_init_4 tyX4 tyX4_ok nmX4 hown hC.1 hP hD hS 0 rfl rfl 3 (by decide +kernel) (hts (.fieldLink RX4 22 "FairWheel$Risk" "round" "[I") (by decide +kernel)) (fun _ h9 => h9) rfl hin rfl (by decide +kernel) rfl rfl (Nat.le_of_ble_eq_true rfl) dX4_init_30 (fun H locs hP hD hS => ?_)
  have hP : va_P D vwCl [(h0, .inr (4, [.ref q7, .ref q15, .int 0, .ref q28])), (q7, .inl (ca 1, 6, .inl (fun _ => 0))), (q15, .inl (ca 1, 6, .inl (fun _ => 0))), (q28, .inl (ca 1, 6, .inl (fun _ => 0)))] H := hP
  have hD : va_D A [(h0, .inr (4, [.ref q7, .ref q15, .int 0, .ref q28])), (q7, .inl (ca 1, 6, .inl (fun _ => 0))), (q15, .inl (ca 1, 6, .inl (fun _ => 0))), (q28, .inl (ca 1, 6, .inl (fun _ => 0)))] := hD
  refine W.widen (k := 3) (n := 18) (by omega) (by omega) ?_
  exact W.vret hx hb hr (fun t ht hW => ⟨⟨(q7, q15, q28), rfl, trivial, by rw [ht]; exact hP.sub [0, 1, 2, 3] rfl, hDA (hD.sub [0, 1, 2, 3] (by decide +kernel) rfl)⟩, hS.F ht⟩) hS.2.2 dX4_init_33
