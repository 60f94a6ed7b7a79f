theorem dX2_clear_0 : decode cX2_clear 0 = .ok (.aload_n 0, 1) := by decide +kernel
theorem dX2_clear_1 : decode cX2_clear 1 = .ok (.iconst 1, 1) := by decide +kernel
theorem dX2_clear_2 : decode cX2_clear 2 = .ok (.putfield 9, 3) := by decide +kernel
theorem dX2_clear_5 : decode cX2_clear 5 = .ok (.aload_n 0, 1) := by decide +kernel
theorem dX2_clear_6 : decode cX2_clear 6 = .ok (.iconst 0, 1) := by decide +kernel
theorem dX2_clear_7 : decode cX2_clear 7 = .ok (.putfield 15, 3) := by decide +kernel
theorem dX2_clear_10 : decode cX2_clear 10 = .ok (.aload_n 0, 1) := by decide +kernel
theorem dX2_clear_11 : decode cX2_clear 11 = .ok (.iconst 0, 1) := by decide +kernel
theorem dX2_clear_12 : decode cX2_clear 12 = .ok (.putfield 18, 3) := by decide +kernel
theorem dX2_clear_15 : decode cX2_clear 15 = .ok (.aload_n 0, 1) := by decide +kernel
theorem dX2_clear_16 : decode cX2_clear 16 = .ok (.iconst 0, 1) := by decide +kernel
theorem dX2_clear_17 : decode cX2_clear 17 = .ok (.putfield 21, 3) := by decide +kernel
theorem dX2_clear_20 : decode cX2_clear 20 = .ok (.aload_n 0, 1) := by decide +kernel
theorem dX2_clear_21 : decode cX2_clear 21 = .ok (.iconst 0, 1) := by decide +kernel
theorem dX2_clear_22 : decode cX2_clear 22 = .ok (.putfield 24, 3) := by decide +kernel
theorem dX2_clear_25 : decode cX2_clear 25 = .ok (.return_, 1) := by decide +kernel
theorem dX5_begin_0 : decode cX5_begin 0 = .ok (.aload_n 0, 1) := by decide +kernel
theorem dX5_begin_1 : decode cX5_begin 1 = .ok (.iconst 0, 1) := by decide +kernel
theorem dX5_begin_2 : decode cX5_begin 2 = .ok (.putfield 15, 3) := by decide +kernel
theorem dX5_begin_5 : decode cX5_begin 5 = .ok (.return_, 1) := by decide +kernel
theorem dX7_at_0 : decode cX7_at 0 = .ok (.iload_n 1, 1) := by decide +kernel
theorem dX7_at_1 : decode cX7_at 1 = .ok (.ifCond .lt 20, 3) := by decide +kernel
theorem dX7_at_4 : decode cX7_at 4 = .ok (.iload_n 1, 1) := by decide +kernel
theorem dX7_at_5 : decode cX7_at 5 = .ok (.aload_n 0, 1) := by decide +kernel
theorem dX7_at_6 : decode cX7_at 6 = .ok (.getfield 15, 3) := by decide +kernel
theorem dX7_at_9 : decode cX7_at 9 = .ok (.if_icmp .ge 12, 3) := by decide +kernel
theorem dX7_at_21 : decode cX7_at 21 = .ok (.iconst 0, 1) := by decide +kernel
theorem dX7_at_22 : decode cX7_at 22 = .ok (.goto 13, 3) := by decide +kernel
theorem dX7_at_35 : decode cX7_at 35 = .ok (.ireturn, 1) := by decide +kernel
set_option maxRecDepth 20000 in
theorem ggX5_next_X7_at : GoodIn wsX5_next wsX7_at := goodIn_r _ [10, 11, 12, 84, 85] (by decide +kernel) (by decide +kernel)
set_option maxRecDepth 20000 in
theorem gX5_next_X7_at : GoodIn wsX5_next (wsV RX5 24 RX7 yX7_at wsX7_at) := goodIn_app (goodIn_of _ (by decide +kernel)) ggX5_next_X7_at
theorem dX5_next_0 : decode cX5_next 0 = .ok (.aload_n 0, 1) := by decide +kernel
theorem dX5_next_1 : decode cX5_next 1 = .ok (.getfield 15, 3) := by decide +kernel
theorem dX5_next_4 : decode cX5_next 4 = .ok (.aload_n 0, 1) := by decide +kernel
theorem dX5_next_5 : decode cX5_next 5 = .ok (.getfield 9, 3) := by decide +kernel
theorem dX5_next_8 : decode cX5_next 8 = .ok (.getfield 19, 3) := by decide +kernel
theorem dX5_next_11 : decode cX5_next 11 = .ok (.if_icmp .ge 33, 3) := by decide +kernel
theorem dX5_next_44 : decode cX5_next 44 = .ok (.aload_n 0, 1) := by decide +kernel
theorem dX5_next_45 : decode cX5_next 45 = .ok (.aload_n 0, 1) := by decide +kernel
theorem dX5_next_46 : decode cX5_next 46 = .ok (.getfield 15, 3) := by decide +kernel
theorem dX5_next_49 : decode cX5_next 49 = .ok (.putfield 31, 3) := by decide +kernel
theorem dX5_next_52 : decode cX5_next 52 = .ok (.aload_n 0, 1) := by decide +kernel
theorem dX5_next_53 : decode cX5_next 53 = .ok (.getfield 9, 3) := by decide +kernel
theorem dX5_next_56 : decode cX5_next 56 = .ok (.aload_n 0, 1) := by decide +kernel
theorem dX5_next_57 : decode cX5_next 57 = .ok (.getfield 15, 3) := by decide +kernel
theorem dX5_next_60 : decode cX5_next 60 = .ok (.invokevirtual 24, 3) := by decide +kernel
theorem dX5_next_63 : decode cX5_next 63 = .ok (.istore_n 1, 1) := by decide +kernel
theorem dX5_next_64 : decode cX5_next 64 = .ok (.aload_n 0, 1) := by decide +kernel
theorem dX5_next_65 : decode cX5_next 65 = .ok (.getfield 15, 3) := by decide +kernel
theorem dX5_next_68 : decode cX5_next 68 = .ok (.aload_n 0, 1) := by decide +kernel
theorem dX5_next_69 : decode cX5_next 69 = .ok (.getfield 9, 3) := by decide +kernel
theorem dX5_next_72 : decode cX5_next 72 = .ok (.getfield 19, 3) := by decide +kernel
theorem dX5_next_75 : decode cX5_next 75 = .ok (.if_icmp .lt 12, 3) := by decide +kernel
theorem dX5_next_78 : decode cX5_next 78 = .ok (.aload_n 0, 1) := by decide +kernel
theorem dX5_next_79 : decode cX5_next 79 = .ok (.bipush 21, 2) := by decide +kernel
theorem dX5_next_81 : decode cX5_next 81 = .ok (.putfield 34, 3) := by decide +kernel
theorem dX5_next_84 : decode cX5_next 84 = .ok (.goto 94, 3) := by decide +kernel
theorem dX5_next_178 : decode cX5_next 178 = .ok (.return_, 1) := by decide +kernel
set_option maxRecDepth 20000 in
theorem ggX3_read_X2_clear : GoodIn wsX3_read wsX2_clear := goodIn_r _ [11, 12, 13, 14, 15, 16, 174, 175, 176, 177, 178, 179, 180, 181, 182, 183, 184, 185, 186, 187] (by decide +kernel) (by decide +kernel)
set_option maxRecDepth 20000 in
theorem gX3_read_X2_clear : GoodIn wsX3_read (wsV RX3 31 RX2 yX2_clear wsX2_clear) := goodIn_app (goodIn_of _ (by decide +kernel)) ggX3_read_X2_clear
set_option maxRecDepth 20000 in
theorem ggX3_read_X5_begin : GoodIn wsX3_read wsX5_begin := goodIn_r _ [21, 22, 168, 169, 170, 171, 172, 173] (by decide +kernel) (by decide +kernel)
set_option maxRecDepth 20000 in
theorem gX3_read_X5_begin : GoodIn wsX3_read (wsV RX3 39 RX5 yX5_begin wsX5_begin) := goodIn_app (goodIn_of _ (by decide +kernel)) ggX3_read_X5_begin
set_option maxRecDepth 20000 in
theorem ggX3_read_X5_next : GoodIn wsX3_read wsX5_next := goodIn_r _ [26, 22, 27, 28, 29, 30, 31, 32, 33, 34, 35, 36, 37, 38, 39, 20, 40, 41, 42, 43, 44, 45, 46, 47, 48, 49, 50, 51, 52, 53, 54, 55, 56, 57, 58, 59, 60, 61, 62, 63, 64, 65, 66, 67, 68, 69, 70, 71, 72, 73, 74, 75, 76, 77, 78, 79, 80, 81, 82, 83, 84, 85, 86, 87, 88, 89, 90, 91, 92, 93, 94, 95, 96, 97, 98, 99, 100, 101, 168, 169, 170, 171, 172, 173, 188, 189] (by decide +kernel) (by decide +kernel)
set_option maxRecDepth 20000 in
theorem gX3_read_X5_next : GoodIn wsX3_read (wsV RX3 42 RX5 yX5_next wsX5_next) := goodIn_app (goodIn_of _ (by decide +kernel)) ggX3_read_X5_next
theorem dX3_read_0 : decode cX3_read 0 = .ok (.aload_n 0, 1) := by decide +kernel
theorem dX3_read_1 : decode cX3_read 1 = .ok (.aload_n 1, 1) := by decide +kernel
theorem dX3_read_2 : decode cX3_read 2 = .ok (.putfield 27, 3) := by decide +kernel
theorem dX3_read_5 : decode cX3_read 5 = .ok (.aload_n 0, 1) := by decide +kernel
theorem dX3_read_6 : decode cX3_read 6 = .ok (.getfield 27, 3) := by decide +kernel
theorem dX3_read_9 : decode cX3_read 9 = .ok (.invokevirtual 31, 3) := by decide +kernel
theorem dX3_read_12 : decode cX3_read 12 = .ok (.aload_n 0, 1) := by decide +kernel
theorem dX3_read_13 : decode cX3_read 13 = .ok (.iconst 0, 1) := by decide +kernel
theorem dX3_read_14 : decode cX3_read 14 = .ok (.putfield 36, 3) := by decide +kernel
theorem dX3_read_17 : decode cX3_read 17 = .ok (.aload_n 0, 1) := by decide +kernel
theorem dX3_read_18 : decode cX3_read 18 = .ok (.iconst 0, 1) := by decide +kernel
theorem dX3_read_19 : decode cX3_read 19 = .ok (.putfield 9, 3) := by decide +kernel
theorem dX3_read_22 : decode cX3_read 22 = .ok (.aload_n 0, 1) := by decide +kernel
theorem dX3_read_23 : decode cX3_read 23 = .ok (.iconst (-1), 1) := by decide +kernel
theorem dX3_read_24 : decode cX3_read 24 = .ok (.putfield 15, 3) := by decide +kernel
theorem dX3_read_27 : decode cX3_read 27 = .ok (.aload_n 0, 1) := by decide +kernel
theorem dX3_read_28 : decode cX3_read 28 = .ok (.getfield 23, 3) := by decide +kernel
theorem dX3_read_31 : decode cX3_read 31 = .ok (.invokevirtual 39, 3) := by decide +kernel
theorem dX3_read_34 : decode cX3_read 34 = .ok (.aload_n 0, 1) := by decide +kernel
theorem dX3_read_35 : decode cX3_read 35 = .ok (.getfield 23, 3) := by decide +kernel
theorem dX3_read_38 : decode cX3_read 38 = .ok (.invokevirtual 42, 3) := by decide +kernel
theorem dX3_read_41 : decode cX3_read 41 = .ok (.iconst 0, 1) := by decide +kernel
theorem dX3_read_42 : decode cX3_read 42 = .ok (.istore_n 2, 1) := by decide +kernel
theorem dX3_read_43 : decode cX3_read 43 = .ok (.iload_n 2, 1) := by decide +kernel
theorem dX3_read_44 : decode cX3_read 44 = .ok (.sipush 1700, 3) := by decide +kernel
theorem dX3_read_47 : decode cX3_read 47 = .ok (.if_icmp .gt 50, 3) := by decide +kernel
theorem dX3_read_50 : decode cX3_read 50 = .ok (.aload_n 0, 1) := by decide +kernel
theorem dX3_read_51 : decode cX3_read 51 = .ok (.getfield 23, 3) := by decide +kernel
theorem dX3_read_54 : decode cX3_read 54 = .ok (.getfield 45, 3) := by decide +kernel
theorem dX3_read_57 : decode cX3_read 57 = .ok (.bipush 21, 2) := by decide +kernel
theorem dX3_read_59 : decode cX3_read 59 = .ok (.if_icmp .eq 38, 3) := by decide +kernel
theorem dX3_read_97 : decode cX3_read 97 = .ok (.iconst 1, 1) := by decide +kernel
theorem dX3_read_98 : decode cX3_read 98 = .ok (.ireturn, 1) := by decide +kernel
set_option maxRecDepth 20000 in
theorem ggX10_kernel_X3_read : GoodIn wsX10_kernel wsX3_read := goodIn_r _ [18, 19, 20, 21, 22, 23, 24, 25, 26, 27, 28, 29, 30, 31, 32, 33, 34, 35, 36, 37, 38, 39, 40, 41, 42, 43, 44, 45, 46, 47, 48, 49, 50, 51, 52, 53, 54, 55, 56, 57, 58, 59, 60, 61, 62, 63, 64, 65, 66, 67, 68, 69, 70, 71, 72, 73, 74, 75, 76, 77, 78, 79, 80, 81, 82, 83, 84, 85, 86, 87, 88, 89, 90, 91, 92, 93, 94, 95, 96, 97, 98, 99, 100, 101, 102, 103, 104, 105, 106, 107, 108, 109, 110, 111, 112, 113, 114, 115, 116, 117, 118, 119, 120, 121, 122, 17, 123, 124, 125, 126, 127, 128, 129, 130, 131, 132, 133, 134, 135, 136, 137, 138, 139, 140, 141, 142, 143, 144, 145, 146, 147, 148, 149, 150, 151, 152, 153, 154, 155, 156, 157, 158, 159, 160, 161, 162, 163, 164, 165, 166, 167, 168, 169, 170, 171, 172, 173, 174, 175, 176, 177, 178, 277, 278, 279, 280, 281, 282, 283, 284, 285, 286, 287, 288, 263, 264, 265, 266, 267, 268, 269, 270, 271, 272, 273, 274, 275, 276, 248, 249] (by decide +kernel) (by decide +kernel)
set_option maxRecDepth 20000 in
theorem gX10_kernel_X3_read : GoodIn wsX10_kernel (wsV RX10 90 RX3 yX3_read wsX3_read) := goodIn_app (goodIn_of _ (by decide +kernel)) ggX10_kernel_X3_read
set_option maxRecDepth 20000 in
theorem ggX10_kernel_X9_begin : GoodIn wsX10_kernel wsX9_begin := goodIn_r _ [183, 184, 185, 186, 187, 188, 189, 190, 191, 192, 193, 28, 194, 195, 196, 197, 198, 199, 200, 201, 202, 203, 204, 205, 206, 207, 208, 209, 210, 211, 212, 213, 214, 215, 216, 217, 218, 219, 220, 221, 222, 223, 224, 225, 182, 226, 227, 228, 229, 230, 231, 232, 233, 234, 235, 289, 290, 291, 292, 293, 294, 263, 264, 265, 266, 267, 268, 269, 270, 271, 272, 273, 274, 275, 276, 295, 296, 297, 298, 299, 300, 301, 302, 303, 304, 305, 306, 307, 308, 309, 310, 311] (by decide +kernel) (by decide +kernel)
set_option maxRecDepth 20000 in
theorem gX10_kernel_X9_begin : GoodIn wsX10_kernel (wsV RX10 94 RX9 yX9_begin wsX9_begin) := goodIn_app (goodIn_of _ (by decide +kernel)) ggX10_kernel_X9_begin
theorem dX10_kernel_0 : decode cX10_kernel 0 = .ok (.aload_n 0, 1) := by decide +kernel
theorem dX10_kernel_1 : decode cX10_kernel 1 = .ok (.getfield 31, 3) := by decide +kernel
theorem dX10_kernel_4 : decode cX10_kernel 4 = .ok (.aload_n 0, 1) := by decide +kernel
theorem dX10_kernel_5 : decode cX10_kernel 5 = .ok (.getfield 23, 3) := by decide +kernel
theorem dX10_kernel_8 : decode cX10_kernel 8 = .ok (.invokevirtual 90, 3) := by decide +kernel
theorem dX10_kernel_11 : decode cX10_kernel 11 = .ok (.ifCond .ne 5, 3) := by decide +kernel
theorem dX10_kernel_16 : decode cX10_kernel 16 = .ok (.aload_n 0, 1) := by decide +kernel
theorem dX10_kernel_17 : decode cX10_kernel 17 = .ok (.getfield 23, 3) := by decide +kernel
theorem dX10_kernel_20 : decode cX10_kernel 20 = .ok (.astore_n 1, 1) := by decide +kernel
theorem dX10_kernel_21 : decode cX10_kernel 21 = .ok (.aload_n 0, 1) := by decide +kernel
theorem dX10_kernel_22 : decode cX10_kernel 22 = .ok (.aload_n 0, 1) := by decide +kernel
theorem dX10_kernel_23 : decode cX10_kernel 23 = .ok (.getfield 19, 3) := by decide +kernel
theorem dX10_kernel_26 : decode cX10_kernel 26 = .ok (.putfield 23, 3) := by decide +kernel
theorem dX10_kernel_29 : decode cX10_kernel 29 = .ok (.aload_n 0, 1) := by decide +kernel
theorem dX10_kernel_30 : decode cX10_kernel 30 = .ok (.aload_n 1, 1) := by decide +kernel
theorem dX10_kernel_31 : decode cX10_kernel 31 = .ok (.putfield 19, 3) := by decide +kernel
theorem dX10_kernel_34 : decode cX10_kernel 34 = .ok (.aload_n 0, 1) := by decide +kernel
theorem dX10_kernel_35 : decode cX10_kernel 35 = .ok (.getfield 12, 3) := by decide +kernel
theorem dX10_kernel_38 : decode cX10_kernel 38 = .ok (.iconst 0, 1) := by decide +kernel
theorem dX10_kernel_39 : decode cX10_kernel 39 = .ok (.putfield 83, 3) := by decide +kernel
theorem dX10_kernel_42 : decode cX10_kernel 42 = .ok (.aload_n 0, 1) := by decide +kernel
theorem dX10_kernel_43 : decode cX10_kernel 43 = .ok (.getfield 40, 3) := by decide +kernel
theorem dX10_kernel_46 : decode cX10_kernel 46 = .ok (.aload_n 0, 1) := by decide +kernel
theorem dX10_kernel_47 : decode cX10_kernel 47 = .ok (.getfield 19, 3) := by decide +kernel
theorem dX10_kernel_50 : decode cX10_kernel 50 = .ok (.invokevirtual 94, 3) := by decide +kernel
theorem dX10_kernel_53 : decode cX10_kernel 53 = .ok (.aload_n 0, 1) := by decide +kernel
theorem dX10_kernel_54 : decode cX10_kernel 54 = .ok (.getfield 61, 3) := by decide +kernel
theorem dX10_kernel_57 : decode cX10_kernel 57 = .ok (.iconst 0, 1) := by decide +kernel
theorem dX10_kernel_58 : decode cX10_kernel 58 = .ok (.putfield 97, 3) := by decide +kernel
theorem dX10_kernel_61 : decode cX10_kernel 61 = .ok (.aload_n 0, 1) := by decide +kernel
theorem dX10_kernel_62 : decode cX10_kernel 62 = .ok (.getfield 68, 3) := by decide +kernel
theorem dX10_kernel_65 : decode cX10_kernel 65 = .ok (.iconst 0, 1) := by decide +kernel
theorem dX10_kernel_66 : decode cX10_kernel 66 = .ok (.putfield 100, 3) := by decide +kernel
theorem dX10_kernel_69 : decode cX10_kernel 69 = .ok (.iconst 0, 1) := by decide +kernel
theorem dX10_kernel_70 : decode cX10_kernel 70 = .ok (.istore_n 2, 1) := by decide +kernel
theorem dX10_kernel_71 : decode cX10_kernel 71 = .ok (.iload_n 2, 1) := by decide +kernel
theorem dX10_kernel_72 : decode cX10_kernel 72 = .ok (.aload_n 0, 1) := by decide +kernel
theorem dX10_kernel_73 : decode cX10_kernel 73 = .ok (.getfield 53, 3) := by decide +kernel
theorem dX10_kernel_76 : decode cX10_kernel 76 = .ok (.arraylength, 1) := by decide +kernel
theorem dX10_kernel_77 : decode cX10_kernel 77 = .ok (.if_icmp .ge 19, 3) := by decide +kernel
theorem dX10_kernel_80 : decode cX10_kernel 80 = .ok (.aload_n 0, 1) := by decide +kernel
theorem dX10_kernel_81 : decode cX10_kernel 81 = .ok (.getfield 53, 3) := by decide +kernel
theorem dX10_kernel_84 : decode cX10_kernel 84 = .ok (.iload_n 2, 1) := by decide +kernel
theorem dX10_kernel_85 : decode cX10_kernel 85 = .ok (.aaload, 1) := by decide +kernel
theorem dX10_kernel_86 : decode cX10_kernel 86 = .ok (.iconst 0, 1) := by decide +kernel
theorem dX10_kernel_87 : decode cX10_kernel 87 = .ok (.putfield 101, 3) := by decide +kernel
theorem dX10_kernel_90 : decode cX10_kernel 90 = .ok (.iinc 2 1, 3) := by decide +kernel
theorem dX10_kernel_93 : decode cX10_kernel 93 = .ok (.goto (-22), 3) := by decide +kernel
theorem dX10_kernel_96 : decode cX10_kernel 96 = .ok (.aload_n 0, 1) := by decide +kernel
theorem dX10_kernel_97 : decode cX10_kernel 97 = .ok (.getfield 19, 3) := by decide +kernel
theorem dX10_kernel_100 : decode cX10_kernel 100 = .ok (.getfield 105, 3) := by decide +kernel
theorem dX10_kernel_103 : decode cX10_kernel 103 = .ok (.ireturn, 1) := by decide +kernel
theorem dX9_refill_0 : decode cX9_refill 0 = .ok (.iconst 0, 1) := by decide +kernel
theorem dX9_refill_1 : decode cX9_refill 1 = .ok (.istore_n 1, 1) := by decide +kernel
theorem dX9_refill_2 : decode cX9_refill 2 = .ok (.iload_n 1, 1) := by decide +kernel
theorem dX9_refill_3 : decode cX9_refill 3 = .ok (.aload_n 0, 1) := by decide +kernel
theorem dX9_refill_4 : decode cX9_refill 4 = .ok (.getfield 33, 3) := by decide +kernel
theorem dX9_refill_7 : decode cX9_refill 7 = .ok (.getfield 41, 3) := by decide +kernel
theorem dX9_refill_10 : decode cX9_refill 10 = .ok (.if_icmp .ge 117, 3) := by decide +kernel
theorem dX9_refill_127 : decode cX9_refill 127 = .ok (.return_, 1) := by decide +kernel
theorem dX9_awake_0 : decode cX9_awake 0 = .ok (.iconst 0, 1) := by decide +kernel
theorem dX9_awake_1 : decode cX9_awake 1 = .ok (.istore_n 1, 1) := by decide +kernel
theorem dX9_awake_2 : decode cX9_awake 2 = .ok (.iload_n 1, 1) := by decide +kernel
theorem dX9_awake_3 : decode cX9_awake 3 = .ok (.aload_n 0, 1) := by decide +kernel
theorem dX9_awake_4 : decode cX9_awake 4 = .ok (.getfield 33, 3) := by decide +kernel
theorem dX9_awake_7 : decode cX9_awake 7 = .ok (.getfield 41, 3) := by decide +kernel
theorem dX9_awake_10 : decode cX9_awake 10 = .ok (.if_icmp .ge 43, 3) := by decide +kernel
theorem dX9_awake_53 : decode cX9_awake 53 = .ok (.return_, 1) := by decide +kernel
theorem dX9_lend_0 : decode cX9_lend 0 = .ok (.iconst 0, 1) := by decide +kernel
theorem dX9_lend_1 : decode cX9_lend 1 = .ok (.istore_n 1, 1) := by decide +kernel
theorem dX9_lend_2 : decode cX9_lend 2 = .ok (.iload_n 1, 1) := by decide +kernel
theorem dX9_lend_3 : decode cX9_lend 3 = .ok (.aload_n 0, 1) := by decide +kernel
theorem dX9_lend_4 : decode cX9_lend 4 = .ok (.getfield 33, 3) := by decide +kernel
theorem dX9_lend_7 : decode cX9_lend 7 = .ok (.getfield 41, 3) := by decide +kernel
theorem dX9_lend_10 : decode cX9_lend 10 = .ok (.if_icmp .ge 24, 3) := by decide +kernel
theorem dX9_lend_34 : decode cX9_lend 34 = .ok (.iconst 0, 1) := by decide +kernel
theorem dX9_lend_35 : decode cX9_lend 35 = .ok (.istore_n 1, 1) := by decide +kernel
theorem dX9_lend_36 : decode cX9_lend 36 = .ok (.iload_n 1, 1) := by decide +kernel
theorem dX9_lend_37 : decode cX9_lend 37 = .ok (.aload_n 0, 1) := by decide +kernel
theorem dX9_lend_38 : decode cX9_lend 38 = .ok (.getfield 33, 3) := by decide +kernel
theorem dX9_lend_41 : decode cX9_lend 41 = .ok (.getfield 41, 3) := by decide +kernel
theorem dX9_lend_44 : decode cX9_lend 44 = .ok (.if_icmp .ge 64, 3) := by decide +kernel
theorem dX9_lend_108 : decode cX9_lend 108 = .ok (.return_, 1) := by decide +kernel
theorem dX9_foremostReady_0 : decode cX9_foremostReady 0 = .ok (.iconst (-1), 1) := by decide +kernel
theorem dX9_foremostReady_1 : decode cX9_foremostReady 1 = .ok (.istore_n 2, 1) := by decide +kernel
theorem dX9_foremostReady_2 : decode cX9_foremostReady 2 = .ok (.ldc2_w 136, 3) := by decide +kernel
theorem dX9_foremostReady_5 : decode cX9_foremostReady 5 = .ok (.lstore_n 3, 1) := by decide +kernel
theorem dX9_foremostReady_6 : decode cX9_foremostReady 6 = .ok (.iconst 0, 1) := by decide +kernel
theorem dX9_foremostReady_7 : decode cX9_foremostReady 7 = .ok (.istore 5, 2) := by decide +kernel
theorem dX9_foremostReady_9 : decode cX9_foremostReady 9 = .ok (.iload 5, 2) := by decide +kernel
theorem dX9_foremostReady_11 : decode cX9_foremostReady 11 = .ok (.aload_n 0, 1) := by decide +kernel
theorem dX9_foremostReady_12 : decode cX9_foremostReady 12 = .ok (.getfield 33, 3) := by decide +kernel
theorem dX9_foremostReady_15 : decode cX9_foremostReady 15 = .ok (.getfield 41, 3) := by decide +kernel
theorem dX9_foremostReady_18 : decode cX9_foremostReady 18 = .ok (.if_icmp .ge 54, 3) := by decide +kernel
theorem dX9_foremostReady_72 : decode cX9_foremostReady 72 = .ok (.iload_n 2, 1) := by decide +kernel
theorem dX9_foremostReady_73 : decode cX9_foremostReady 73 = .ok (.ireturn, 1) := by decide +kernel
set_option maxRecDepth 20000 in
theorem ggX9_choose_X9_foremostReady : GoodIn wsX9_choose wsX9_foremostReady := goodIn_r _ [26, 27, 1, 3, 4, 5, 11, 39, 40, 41, 42, 43, 44, 45, 46, 47, 48, 49, 50, 51, 52, 53, 54, 55, 56, 57, 58, 59, 60, 61, 62, 63, 64, 65, 66, 67, 68, 69, 70, 71, 72, 73, 74, 75] (by decide +kernel) (by decide +kernel)
set_option maxRecDepth 20000 in
theorem gX9_choose_X9_foremostReady : GoodIn wsX9_choose (wsV RX9 129 RX9 yX9_foremostReady wsX9_foremostReady) := goodIn_app (goodIn_of _ (by decide +kernel)) ggX9_choose_X9_foremostReady
set_option maxRecDepth 20000 in
theorem ggX9_choose_X9_lend : GoodIn wsX9_choose wsX9_lend := goodIn_r _ [10, 1, 3, 11, 4, 12, 13, 14, 15, 16, 17, 18, 19, 9, 20, 21, 5, 22, 39, 40, 41, 42, 43, 44, 45, 46, 47, 48, 49, 50, 51, 52, 53, 54, 55, 56, 57, 58, 59, 60, 61, 62, 63, 64, 65, 66, 67, 68, 69, 70, 71, 72, 73, 74, 75] (by decide +kernel) (by decide +kernel)
set_option maxRecDepth 20000 in
theorem gX9_choose_X9_lend : GoodIn wsX9_choose (wsV RX9 126 RX9 yX9_lend wsX9_lend) := goodIn_app (goodIn_of _ (by decide +kernel)) ggX9_choose_X9_lend
theorem dX9_choose_0 : decode cX9_choose 0 = .ok (.aload_n 0, 1) := by decide +kernel
theorem dX9_choose_1 : decode cX9_choose 1 = .ok (.invokevirtual 126, 3) := by decide +kernel
theorem dX9_choose_4 : decode cX9_choose 4 = .ok (.iconst 0, 1) := by decide +kernel
theorem dX9_choose_5 : decode cX9_choose 5 = .ok (.istore_n 1, 1) := by decide +kernel
theorem dX9_choose_6 : decode cX9_choose 6 = .ok (.iconst 0, 1) := by decide +kernel
theorem dX9_choose_7 : decode cX9_choose 7 = .ok (.istore_n 2, 1) := by decide +kernel
theorem dX9_choose_8 : decode cX9_choose 8 = .ok (.iconst 0, 1) := by decide +kernel
theorem dX9_choose_9 : decode cX9_choose 9 = .ok (.istore_n 3, 1) := by decide +kernel
theorem dX9_choose_10 : decode cX9_choose 10 = .ok (.iload_n 3, 1) := by decide +kernel
theorem dX9_choose_11 : decode cX9_choose 11 = .ok (.aload_n 0, 1) := by decide +kernel
theorem dX9_choose_12 : decode cX9_choose 12 = .ok (.getfield 33, 3) := by decide +kernel
theorem dX9_choose_15 : decode cX9_choose 15 = .ok (.getfield 87, 3) := by decide +kernel
theorem dX9_choose_18 : decode cX9_choose 18 = .ok (.if_icmp .ge 40, 3) := by decide +kernel
theorem dX9_choose_21 : decode cX9_choose 21 = .ok (.aload_n 0, 1) := by decide +kernel
theorem dX9_choose_22 : decode cX9_choose 22 = .ok (.iload_n 2, 1) := by decide +kernel
theorem dX9_choose_23 : decode cX9_choose 23 = .ok (.invokevirtual 129, 3) := by decide +kernel
theorem dX9_choose_26 : decode cX9_choose 26 = .ok (.istore 4, 2) := by decide +kernel
theorem dX9_choose_28 : decode cX9_choose 28 = .ok (.iload 4, 2) := by decide +kernel
theorem dX9_choose_30 : decode cX9_choose 30 = .ok (.iconst (-1), 1) := by decide +kernel
theorem dX9_choose_31 : decode cX9_choose 31 = .ok (.if_icmp .eq 21, 3) := by decide +kernel
theorem dX9_choose_52 : decode cX9_choose 52 = .ok (.iinc 3 1, 3) := by decide +kernel
theorem dX9_choose_55 : decode cX9_choose 55 = .ok (.goto (-45), 3) := by decide +kernel
theorem dX9_choose_58 : decode cX9_choose 58 = .ok (.iconst 0, 1) := by decide +kernel
theorem dX9_choose_59 : decode cX9_choose 59 = .ok (.istore_n 3, 1) := by decide +kernel
theorem dX9_choose_60 : decode cX9_choose 60 = .ok (.iload_n 3, 1) := by decide +kernel
theorem dX9_choose_61 : decode cX9_choose 61 = .ok (.aload_n 0, 1) := by decide +kernel
theorem dX9_choose_62 : decode cX9_choose 62 = .ok (.getfield 33, 3) := by decide +kernel
theorem dX9_choose_65 : decode cX9_choose 65 = .ok (.getfield 41, 3) := by decide +kernel
theorem dX9_choose_68 : decode cX9_choose 68 = .ok (.if_icmp .ge 43, 3) := by decide +kernel
theorem dX9_choose_111 : decode cX9_choose 111 = .ok (.iload_n 1, 1) := by decide +kernel
theorem dX9_choose_112 : decode cX9_choose 112 = .ok (.ireturn, 1) := by decide +kernel
theorem dX10_pick_0 : decode cX10_pick 0 = .ok (.iload_n 0, 1) := by decide +kernel
theorem dX10_pick_1 : decode cX10_pick 1 = .ok (.iconst 4, 1) := by decide +kernel
theorem dX10_pick_2 : decode cX10_pick 2 = .ok (.iload_n 1, 1) := by decide +kernel
theorem dX10_pick_3 : decode cX10_pick 3 = .ok (.imul, 1) := by decide +kernel
theorem dX10_pick_4 : decode cX10_pick 4 = .ok (.ishr, 1) := by decide +kernel
theorem dX10_pick_5 : decode cX10_pick 5 = .ok (.bipush 15, 2) := by decide +kernel
theorem dX10_pick_7 : decode cX10_pick 7 = .ok (.iand, 1) := by decide +kernel
theorem dX10_pick_8 : decode cX10_pick 8 = .ok (.iconst 1, 1) := by decide +kernel
theorem dX10_pick_9 : decode cX10_pick 9 = .ok (.isub, 1) := by decide +kernel
theorem dX10_pick_10 : decode cX10_pick 10 = .ok (.ireturn, 1) := by decide +kernel
set_option maxRecDepth 20000 in
theorem ggX9_pay_X10_pick : GoodIn wsX9_pay wsX10_pick := goodIn_r _ [5] (by decide +kernel) (by decide +kernel)
set_option maxRecDepth 20000 in
theorem gX9_pay_X10_pick_n90 : GoodIn wsX9_pay (wsX10_pick) := ggX9_pay_X10_pick
theorem dX9_pay_0 : decode cX9_pay 0 = .ok (.iconst 0, 1) := by decide +kernel
theorem dX9_pay_1 : decode cX9_pay 1 = .ok (.istore_n 2, 1) := by decide +kernel
theorem dX9_pay_2 : decode cX9_pay 2 = .ok (.iload_n 2, 1) := by decide +kernel
theorem dX9_pay_3 : decode cX9_pay 3 = .ok (.aload_n 0, 1) := by decide +kernel
theorem dX9_pay_4 : decode cX9_pay 4 = .ok (.getfield 33, 3) := by decide +kernel
theorem dX9_pay_7 : decode cX9_pay 7 = .ok (.getfield 87, 3) := by decide +kernel
theorem dX9_pay_10 : decode cX9_pay 10 = .ok (.if_icmp .ge 30, 3) := by decide +kernel
theorem dX9_pay_13 : decode cX9_pay 13 = .ok (.iload_n 1, 1) := by decide +kernel
theorem dX9_pay_14 : decode cX9_pay 14 = .ok (.iload_n 2, 1) := by decide +kernel
theorem dX9_pay_15 : decode cX9_pay 15 = .ok (.invokestatic 90, 3) := by decide +kernel
theorem dX9_pay_18 : decode cX9_pay 18 = .ok (.istore_n 3, 1) := by decide +kernel
theorem dX9_pay_19 : decode cX9_pay 19 = .ok (.iload_n 3, 1) := by decide +kernel
theorem dX9_pay_20 : decode cX9_pay 20 = .ok (.iconst (-1), 1) := by decide +kernel
theorem dX9_pay_21 : decode cX9_pay 21 = .ok (.if_icmp .eq 13, 3) := by decide +kernel
theorem dX9_pay_34 : decode cX9_pay 34 = .ok (.iinc 2 1, 3) := by decide +kernel
theorem dX9_pay_37 : decode cX9_pay 37 = .ok (.goto (-35), 3) := by decide +kernel
theorem dX9_pay_40 : decode cX9_pay 40 = .ok (.return_, 1) := by decide +kernel
set_option maxRecDepth 20000 in
theorem ggX9_tick_X10_pick : GoodIn wsX9_tick wsX10_pick := goodIn_r _ [122] (by decide +kernel) (by decide +kernel)
set_option maxRecDepth 20000 in
theorem gX9_tick_X10_pick_n90 : GoodIn wsX9_tick (wsX10_pick) := ggX9_tick_X10_pick
set_option maxRecDepth 20000 in
theorem ggX9_tick_X9_awake : GoodIn wsX9_tick wsX9_awake := goodIn_r _ [37, 1, 9, 10, 12, 38, 3, 39, 40, 41, 7, 42, 43, 44, 45, 46, 47, 48, 49, 50, 51, 52, 53, 54, 55, 56, 57, 58, 59, 20, 60, 61, 62, 63, 64, 65, 66, 67, 68, 69, 70, 71, 72, 73, 74, 75, 76, 77, 78, 79, 80, 81, 82, 83, 84, 30, 85, 86, 87, 88, 89, 90, 91, 92, 93, 94, 95, 96, 97, 98, 99, 100, 163, 164, 165, 166, 167, 168, 169, 170, 171, 172, 173, 174, 175, 176, 177, 178, 179, 180, 181, 182, 183, 184, 185, 186, 187, 188, 189, 190, 191, 192, 193, 194, 195, 196, 197, 198, 199] (by decide +kernel) (by decide +kernel)
set_option maxRecDepth 20000 in
theorem gX9_tick_X9_awake : GoodIn wsX9_tick (wsV RX9 80 RX9 yX9_awake wsX9_awake) := goodIn_app (goodIn_of _ (by decide +kernel)) ggX9_tick_X9_awake
set_option maxRecDepth 20000 in
theorem ggX9_tick_X9_choose : GoodIn wsX9_tick wsX9_choose := goodIn_r _ [104, 1, 2, 9, 10, 12, 80, 81, 82, 7, 83, 84, 30, 85, 86, 87, 88, 89, 90, 91, 92, 38, 79, 105, 106, 107, 108, 109, 110, 111, 112, 53, 113, 114, 115, 116, 117, 118, 119, 163, 164, 165, 166, 167, 168, 169, 170, 171, 172, 173, 174, 175, 176, 177, 178, 179, 180, 181, 182, 183, 184, 185, 186, 187, 188, 189, 190, 191, 192, 193, 194, 195, 196, 197, 198, 199] (by decide +kernel) (by decide +kernel)
set_option maxRecDepth 20000 in
theorem gX9_tick_X9_choose : GoodIn wsX9_tick (wsV RX9 83 RX9 yX9_choose wsX9_choose) := goodIn_app (goodIn_of _ (by decide +kernel)) ggX9_tick_X9_choose
set_option maxRecDepth 20000 in
theorem ggX9_tick_X9_pay : GoodIn wsX9_tick wsX9_pay := goodIn_r _ [156, 1, 2, 120, 121, 122, 157, 158, 159, 7, 160, 10, 13, 27, 161, 162, 29, 23, 24, 25, 26, 28, 16, 30, 31, 32, 33, 163, 164, 165, 166, 167, 168, 169, 170, 171, 172, 173, 174, 175, 176, 177, 178, 179, 180, 181, 182, 183, 184, 185, 186, 187, 188, 189, 190, 191, 192, 193, 194, 195, 196, 197, 198, 199] (by decide +kernel) (by decide +kernel)
set_option maxRecDepth 20000 in
theorem gX9_tick_X9_pay : GoodIn wsX9_tick (wsV RX9 96 RX9 yX9_pay wsX9_pay) := goodIn_app (goodIn_of _ (by decide +kernel)) ggX9_tick_X9_pay
set_option maxRecDepth 20000 in
theorem ggX9_tick_X9_refill : GoodIn wsX9_tick wsX9_refill := goodIn_r _ [8, 1, 9, 10, 11, 12, 3, 13, 14, 15, 16, 17, 18, 19, 20, 21, 22, 23, 24, 25, 7, 26, 27, 28, 29, 30, 31, 32, 33, 163, 164, 165, 166, 167, 168, 169, 170, 171, 172, 173, 174, 175, 176, 177, 178, 179, 180, 181, 182, 183, 184, 185, 186, 187, 188, 189, 190, 191, 192, 193, 194, 195, 196, 197, 198, 199] (by decide +kernel) (by decide +kernel)
set_option maxRecDepth 20000 in
theorem gX9_tick_X9_refill : GoodIn wsX9_tick (wsV RX9 77 RX9 yX9_refill wsX9_refill) := goodIn_app (goodIn_of _ (by decide +kernel)) ggX9_tick_X9_refill
theorem dX9_tick_0 : decode cX9_tick 0 = .ok (.aload_n 0, 1) := by decide +kernel
theorem dX9_tick_1 : decode cX9_tick 1 = .ok (.invokevirtual 77, 3) := by decide +kernel
theorem dX9_tick_4 : decode cX9_tick 4 = .ok (.aload_n 0, 1) := by decide +kernel
theorem dX9_tick_5 : decode cX9_tick 5 = .ok (.invokevirtual 80, 3) := by decide +kernel
theorem dX9_tick_8 : decode cX9_tick 8 = .ok (.aload_n 0, 1) := by decide +kernel
theorem dX9_tick_9 : decode cX9_tick 9 = .ok (.invokevirtual 83, 3) := by decide +kernel
theorem dX9_tick_12 : decode cX9_tick 12 = .ok (.istore_n 1, 1) := by decide +kernel
theorem dX9_tick_13 : decode cX9_tick 13 = .ok (.iconst 0, 1) := by decide +kernel
theorem dX9_tick_14 : decode cX9_tick 14 = .ok (.istore_n 2, 1) := by decide +kernel
theorem dX9_tick_15 : decode cX9_tick 15 = .ok (.iload_n 2, 1) := by decide +kernel
theorem dX9_tick_16 : decode cX9_tick 16 = .ok (.aload_n 0, 1) := by decide +kernel
theorem dX9_tick_17 : decode cX9_tick 17 = .ok (.getfield 33, 3) := by decide +kernel
theorem dX9_tick_20 : decode cX9_tick 20 = .ok (.getfield 87, 3) := by decide +kernel
theorem dX9_tick_23 : decode cX9_tick 23 = .ok (.if_icmp .ge 25, 3) := by decide +kernel
theorem dX9_tick_26 : decode cX9_tick 26 = .ok (.iload_n 1, 1) := by decide +kernel
theorem dX9_tick_27 : decode cX9_tick 27 = .ok (.iload_n 2, 1) := by decide +kernel
theorem dX9_tick_28 : decode cX9_tick 28 = .ok (.invokestatic 90, 3) := by decide +kernel
theorem dX9_tick_31 : decode cX9_tick 31 = .ok (.istore_n 3, 1) := by decide +kernel
theorem dX9_tick_32 : decode cX9_tick 32 = .ok (.iload_n 3, 1) := by decide +kernel
theorem dX9_tick_33 : decode cX9_tick 33 = .ok (.iconst (-1), 1) := by decide +kernel
theorem dX9_tick_34 : decode cX9_tick 34 = .ok (.if_icmp .eq 8, 3) := by decide +kernel
theorem dX9_tick_42 : decode cX9_tick 42 = .ok (.iinc 2 1, 3) := by decide +kernel
theorem dX9_tick_45 : decode cX9_tick 45 = .ok (.goto (-30), 3) := by decide +kernel
theorem dX9_tick_48 : decode cX9_tick 48 = .ok (.aload_n 0, 1) := by decide +kernel
theorem dX9_tick_49 : decode cX9_tick 49 = .ok (.iload_n 1, 1) := by decide +kernel
theorem dX9_tick_50 : decode cX9_tick 50 = .ok (.invokevirtual 96, 3) := by decide +kernel
theorem dX9_tick_53 : decode cX9_tick 53 = .ok (.aload_n 0, 1) := by decide +kernel
theorem dX9_tick_54 : decode cX9_tick 54 = .ok (.dup, 1) := by decide +kernel
theorem dX9_tick_55 : decode cX9_tick 55 = .ok (.getfield 37, 3) := by decide +kernel
theorem dX9_tick_58 : decode cX9_tick 58 = .ok (.iconst 1, 1) := by decide +kernel
theorem dX9_tick_59 : decode cX9_tick 59 = .ok (.iadd, 1) := by decide +kernel
theorem dX9_tick_60 : decode cX9_tick 60 = .ok (.putfield 37, 3) := by decide +kernel
theorem dX9_tick_63 : decode cX9_tick 63 = .ok (.iload_n 1, 1) := by decide +kernel
theorem dX9_tick_64 : decode cX9_tick 64 = .ok (.ireturn, 1) := by decide +kernel
set_option maxRecDepth 20000 in
theorem ggX10_run_X9_tick : GoodIn wsX10_run wsX9_tick := goodIn_r _ [8, 9, 10, 11, 12, 13, 14, 7, 15, 16, 17, 18, 19, 20, 21, 22, 23, 24, 25, 26, 27, 28, 29, 30, 31, 32, 33, 34, 35, 36, 37, 38, 39, 40, 41, 42, 43, 44, 45, 46, 47, 48, 49, 50, 51, 52, 53, 54, 55, 56, 57, 58, 59, 60, 61, 62, 63, 64, 65, 66, 67, 68, 69, 70, 71, 72, 73, 74, 75, 76, 77, 78, 79, 80, 81, 82, 83, 84, 85, 86, 87, 88, 89, 90, 91, 92, 93, 94, 95, 96, 97, 98, 99, 100, 101, 102, 103, 104, 105, 106, 107, 108, 109, 110, 111, 112, 113, 114, 115, 116, 117, 118, 119, 120, 121, 122, 123, 124, 125, 126, 127, 128, 129, 130, 131, 132, 133, 134, 135, 136, 137, 138, 139, 140, 141, 142, 143, 144, 145, 146, 147, 148, 149, 150, 151, 152, 153, 154, 155, 156, 157, 158, 159, 160, 161, 162, 163, 164, 165, 166, 167, 168, 169, 182, 183, 184, 185, 186, 187, 188, 189, 190, 191, 192, 193, 194, 195, 196, 197, 198, 199, 200, 201, 202, 203, 204, 205, 206, 207, 208, 209, 210, 211, 212, 213, 214, 215, 216, 217, 218] (by decide +kernel) (by decide +kernel)
set_option maxRecDepth 20000 in
theorem gX10_run_X9_tick : GoodIn wsX10_run (wsV RX10 115 RX9 yX9_tick wsX9_tick) := goodIn_app (goodIn_of _ (by decide +kernel)) ggX10_run_X9_tick
theorem dX10_run_0 : decode cX10_run 0 = .ok (.iload_n 1, 1) := by decide +kernel
theorem dX10_run_1 : decode cX10_run 1 = .ok (.ifCond .lt 25, 3) := by decide +kernel
theorem dX10_run_4 : decode cX10_run 4 = .ok (.iload_n 1, 1) := by decide +kernel
theorem dX10_run_5 : decode cX10_run 5 = .ok (.sipush 200, 3) := by decide +kernel
theorem dX10_run_8 : decode cX10_run 8 = .ok (.if_icmp .gt 18, 3) := by decide +kernel
theorem dX10_run_11 : decode cX10_run 11 = .ok (.aload_n 0, 1) := by decide +kernel
theorem dX10_run_12 : decode cX10_run 12 = .ok (.getfield 40, 3) := by decide +kernel
theorem dX10_run_15 : decode cX10_run 15 = .ok (.getfield 112, 3) := by decide +kernel
theorem dX10_run_18 : decode cX10_run 18 = .ok (.iload_n 1, 1) := by decide +kernel
theorem dX10_run_19 : decode cX10_run 19 = .ok (.iadd, 1) := by decide +kernel
theorem dX10_run_20 : decode cX10_run 20 = .ok (.sipush 2000, 3) := by decide +kernel
theorem dX10_run_23 : decode cX10_run 23 = .ok (.if_icmp .le 5, 3) := by decide +kernel
theorem dX10_run_26 : decode cX10_run 26 = .ok (.iconst (-1), 1) := by decide +kernel
theorem dX10_run_27 : decode cX10_run 27 = .ok (.ireturn, 1) := by decide +kernel
theorem dX10_run_28 : decode cX10_run 28 = .ok (.iconst 0, 1) := by decide +kernel
theorem dX10_run_29 : decode cX10_run 29 = .ok (.istore_n 2, 1) := by decide +kernel
theorem dX10_run_30 : decode cX10_run 30 = .ok (.iload_n 2, 1) := by decide +kernel
theorem dX10_run_31 : decode cX10_run 31 = .ok (.iload_n 1, 1) := by decide +kernel
theorem dX10_run_32 : decode cX10_run 32 = .ok (.if_icmp .ge 47, 3) := by decide +kernel
theorem dX10_run_35 : decode cX10_run 35 = .ok (.aload_n 0, 1) := by decide +kernel
theorem dX10_run_36 : decode cX10_run 36 = .ok (.getfield 40, 3) := by decide +kernel
theorem dX10_run_39 : decode cX10_run 39 = .ok (.getfield 112, 3) := by decide +kernel
theorem dX10_run_42 : decode cX10_run 42 = .ok (.istore_n 3, 1) := by decide +kernel
theorem dX10_run_43 : decode cX10_run 43 = .ok (.aload_n 0, 1) := by decide +kernel
theorem dX10_run_44 : decode cX10_run 44 = .ok (.getfield 40, 3) := by decide +kernel
theorem dX10_run_47 : decode cX10_run 47 = .ok (.invokevirtual 115, 3) := by decide +kernel
theorem dX10_run_50 : decode cX10_run 50 = .ok (.istore 4, 2) := by decide +kernel
theorem dX10_run_52 : decode cX10_run 52 = .ok (.iload_n 3, 1) := by decide +kernel
theorem dX10_run_53 : decode cX10_run 53 = .ok (.ifCond .lt 20, 3) := by decide +kernel
theorem dX10_run_56 : decode cX10_run 56 = .ok (.iload_n 3, 1) := by decide +kernel
theorem dX10_run_57 : decode cX10_run 57 = .ok (.aload_n 0, 1) := by decide +kernel
theorem dX10_run_58 : decode cX10_run 58 = .ok (.getfield 47, 3) := by decide +kernel
theorem dX10_run_61 : decode cX10_run 61 = .ok (.arraylength, 1) := by decide +kernel
theorem dX10_run_62 : decode cX10_run 62 = .ok (.if_icmp .ge 11, 3) := by decide +kernel
theorem dX10_run_65 : decode cX10_run 65 = .ok (.aload_n 0, 1) := by decide +kernel
theorem dX10_run_66 : decode cX10_run 66 = .ok (.getfield 47, 3) := by decide +kernel
theorem dX10_run_69 : decode cX10_run 69 = .ok (.iload_n 3, 1) := by decide +kernel
theorem dX10_run_70 : decode cX10_run 70 = .ok (.iload 4, 2) := by decide +kernel
theorem dX10_run_72 : decode cX10_run 72 = .ok (.iastore, 1) := by decide +kernel
theorem dX10_run_73 : decode cX10_run 73 = .ok (.iinc 2 1, 3) := by decide +kernel
theorem dX10_run_76 : decode cX10_run 76 = .ok (.goto (-46), 3) := by decide +kernel
theorem dX10_run_79 : decode cX10_run 79 = .ok (.aload_n 0, 1) := by decide +kernel
theorem dX10_run_80 : decode cX10_run 80 = .ok (.getfield 40, 3) := by decide +kernel
theorem dX10_run_83 : decode cX10_run 83 = .ok (.getfield 112, 3) := by decide +kernel
theorem dX10_run_86 : decode cX10_run 86 = .ok (.ireturn, 1) := by decide +kernel
theorem dX10_countAlive_0 : decode cX10_countAlive 0 = .ok (.iconst 0, 1) := by decide +kernel
theorem dX10_countAlive_1 : decode cX10_countAlive 1 = .ok (.istore_n 1, 1) := by decide +kernel
theorem dX10_countAlive_2 : decode cX10_countAlive 2 = .ok (.iconst 0, 1) := by decide +kernel
theorem dX10_countAlive_3 : decode cX10_countAlive 3 = .ok (.istore_n 2, 1) := by decide +kernel
theorem dX10_countAlive_4 : decode cX10_countAlive 4 = .ok (.iload_n 2, 1) := by decide +kernel
theorem dX10_countAlive_5 : decode cX10_countAlive 5 = .ok (.aload_n 0, 1) := by decide +kernel
theorem dX10_countAlive_6 : decode cX10_countAlive 6 = .ok (.getfield 19, 3) := by decide +kernel
theorem dX10_countAlive_9 : decode cX10_countAlive 9 = .ok (.getfield 105, 3) := by decide +kernel
theorem dX10_countAlive_12 : decode cX10_countAlive 12 = .ok (.if_icmp .ge 28, 3) := by decide +kernel
theorem dX10_countAlive_40 : decode cX10_countAlive 40 = .ok (.iload_n 1, 1) := by decide +kernel
theorem dX10_countAlive_41 : decode cX10_countAlive 41 = .ok (.ireturn, 1) := by decide +kernel
set_option maxRecDepth 20000 in
theorem ggX10_about_X10_countAlive : GoodIn wsX10_about wsX10_countAlive := goodIn_r _ [20, 1, 2, 6, 21, 22, 23, 24, 25, 26, 27, 28, 29, 30, 31, 32, 33, 34, 35, 36, 37, 38, 39, 40, 41, 42, 43, 44, 45, 46, 47, 48, 49, 50, 51, 52, 53, 54, 67, 68, 69, 70, 71, 72, 73, 74, 75, 76, 77, 78, 79, 80, 81, 82, 83] (by decide +kernel) (by decide +kernel)
set_option maxRecDepth 20000 in
theorem gX10_about_X10_countAlive : GoodIn wsX10_about (wsV RX10 277 RX10 yX10_countAlive wsX10_countAlive) := goodIn_app (goodIn_of _ (by decide +kernel)) ggX10_about_X10_countAlive
theorem dX10_about_0 : decode cX10_about 0 = .ok (.iload_n 1, 1) := by decide +kernel
theorem dX10_about_1 : decode cX10_about 1 = .ok (.tableswitch 141 0 10 #[59, 67, 75, 83, 91, 99, 104, 112, 120, 125, 133], 59) := by decide +kernel
theorem dX10_about_60 : decode cX10_about 60 = .ok (.aload_n 0, 1) := by decide +kernel
theorem dX10_about_61 : decode cX10_about 61 = .ok (.getfield 19, 3) := by decide +kernel
theorem dX10_about_64 : decode cX10_about 64 = .ok (.getfield 105, 3) := by decide +kernel
theorem dX10_about_67 : decode cX10_about 67 = .ok (.ireturn, 1) := by decide +kernel
theorem dX10_about_68 : decode cX10_about 68 = .ok (.aload_n 0, 1) := by decide +kernel
theorem dX10_about_69 : decode cX10_about 69 = .ok (.getfield 19, 3) := by decide +kernel
theorem dX10_about_72 : decode cX10_about 72 = .ok (.getfield 271, 3) := by decide +kernel
theorem dX10_about_75 : decode cX10_about 75 = .ok (.ireturn, 1) := by decide +kernel
theorem dX10_about_76 : decode cX10_about 76 = .ok (.aload_n 0, 1) := by decide +kernel
theorem dX10_about_77 : decode cX10_about 77 = .ok (.getfield 19, 3) := by decide +kernel
theorem dX10_about_80 : decode cX10_about 80 = .ok (.getfield 181, 3) := by decide +kernel
theorem dX10_about_83 : decode cX10_about 83 = .ok (.ireturn, 1) := by decide +kernel
theorem dX10_about_84 : decode cX10_about 84 = .ok (.aload_n 0, 1) := by decide +kernel
theorem dX10_about_85 : decode cX10_about 85 = .ok (.getfield 19, 3) := by decide +kernel
theorem dX10_about_88 : decode cX10_about 88 = .ok (.getfield 274, 3) := by decide +kernel
theorem dX10_about_91 : decode cX10_about 91 = .ok (.ireturn, 1) := by decide +kernel
theorem dX10_about_92 : decode cX10_about 92 = .ok (.aload_n 0, 1) := by decide +kernel
theorem dX10_about_93 : decode cX10_about 93 = .ok (.getfield 40, 3) := by decide +kernel
theorem dX10_about_96 : decode cX10_about 96 = .ok (.getfield 112, 3) := by decide +kernel
theorem dX10_about_99 : decode cX10_about 99 = .ok (.ireturn, 1) := by decide +kernel
theorem dX10_about_100 : decode cX10_about 100 = .ok (.aload_n 0, 1) := by decide +kernel
theorem dX10_about_101 : decode cX10_about 101 = .ok (.invokevirtual 277, 3) := by decide +kernel
theorem dX10_about_104 : decode cX10_about 104 = .ok (.ireturn, 1) := by decide +kernel
theorem dX10_about_105 : decode cX10_about 105 = .ok (.aload_n 0, 1) := by decide +kernel
theorem dX10_about_106 : decode cX10_about 106 = .ok (.getfield 61, 3) := by decide +kernel
theorem dX10_about_109 : decode cX10_about 109 = .ok (.getfield 97, 3) := by decide +kernel
theorem dX10_about_112 : decode cX10_about 112 = .ok (.ireturn, 1) := by decide +kernel
theorem dX10_about_113 : decode cX10_about 113 = .ok (.aload_n 0, 1) := by decide +kernel
theorem dX10_about_114 : decode cX10_about 114 = .ok (.getfield 68, 3) := by decide +kernel
theorem dX10_about_117 : decode cX10_about 117 = .ok (.getfield 100, 3) := by decide +kernel
theorem dX10_about_120 : decode cX10_about 120 = .ok (.ireturn, 1) := by decide +kernel
theorem dX10_about_121 : decode cX10_about 121 = .ok (.aload_n 0, 1) := by decide +kernel
theorem dX10_about_122 : decode cX10_about 122 = .ok (.getfield 79, 3) := by decide +kernel
theorem dX10_about_125 : decode cX10_about 125 = .ok (.ireturn, 1) := by decide +kernel
theorem dX10_about_126 : decode cX10_about 126 = .ok (.aload_n 0, 1) := by decide +kernel
theorem dX10_about_127 : decode cX10_about 127 = .ok (.getfield 12, 3) := by decide +kernel
theorem dX10_about_130 : decode cX10_about 130 = .ok (.getfield 83, 3) := by decide +kernel
theorem dX10_about_133 : decode cX10_about 133 = .ok (.ireturn, 1) := by decide +kernel
theorem dX10_about_134 : decode cX10_about 134 = .ok (.aload_n 0, 1) := by decide +kernel
theorem dX10_about_135 : decode cX10_about 135 = .ok (.getfield 19, 3) := by decide +kernel
theorem dX10_about_138 : decode cX10_about 138 = .ok (.getfield 280, 3) := by decide +kernel
theorem dX10_about_141 : decode cX10_about 141 = .ok (.ireturn, 1) := by decide +kernel
theorem dX10_about_142 : decode cX10_about 142 = .ok (.iconst (-1), 1) := by decide +kernel
theorem dX10_about_143 : decode cX10_about 143 = .ok (.ireturn, 1) := by decide +kernel
theorem iw_X2_clear_2 : ∀ w ∈ u_ws RX2 TX2 14, w ∈ wsX2_clear := by decide +kernel
set_option maxHeartbeats 4000000 in
set_option maxRecDepth 100000 in
theorem k_X2_clear (l : Launch) (D : va_G) (ca : Nat → ClassId) (sz : Nat) (pl : Nat) (pl5 : Nat) (pl6 : Nat) (pl7 : Nat) (pl8 : Nat) (pl9 : Nat) (pl10 : Nat) (pl11 : Nat) (pl12 : Nat) (pl13 : Nat) : Met l yX2_clear wsX2_clear ({ frames := 0, cells := 0, slots := 0, locals := 0 }) (PC [.ref pl] sz D ca [(pl, .inr (2, [.int 1, .int 0, .int 0, .int 0, .int 0, .ref pl5, .ref pl6, .ref pl7, .ref pl8, .ref pl9, .ref pl10, .ref pl11, .ref pl12, .ref pl13]))]) (QV (fun (u : Unit) => True) (fun (_ : Unit) => [(pl, .inr (2, [.int 1, .int 0, .int 0, .int 0, .int 0, .ref pl5, .ref pl6, .ref pl7, .ref pl8, .ref pl9, .ref pl10, .ref pl11, .ref pl12, .ref pl13]))]) [(pl, .inr (2, [.int 1, .int 0, .int 0, .int 0, .int 0, .ref pl5, .ref pl6, .ref pl7, .ref pl8, .ref pl9, .ref pl10, .ref pl11, .ref pl12, .ref pl13]))] sz D) 0 0 (va_A [(pl, .inr (2, [.int 1, .int 0, .int 0, .int 0, .int 0, .ref pl5, .ref pl6, .ref pl7, .ref pl8, .ref pl9, .ref pl10, .ref pl11, .ref pl12, .ref pl13]))] sz) := by
  refine Met.ofW (cc := cX2_clear) (maxL := 1) (ret := none) (by decide +kernel) rfl ?_
  intro p e s m args below meth c s₁ B hml hv
  obtain ⟨rfl, hsz, hP, hC, hD0⟩ := hv
  have hx := B.exec
  have hb := B.bytes
  have hr := B.returns
  have hts := atoms_spec (ws := wsX2_clear) B.pre
  have hown : s.vm.findClass RX2 = some m.cls := findClass_of_methodNamed B.named
  have hlocks := B.notSynchronized
  subst hsz
  have hD := hD0.self (sz := s.heap.size)
  dsimp only [QV, QI, QL, BQ]
  generalize hAe : va_A [(pl, .inr (2, [.int 1, .int 0, .int 0, .int 0, .int 0, .ref pl5, .ref pl6, .ref pl7, .ref pl8, .ref pl9, .ref pl10, .ref pl11, .ref pl12, .ref pl13]))] s.heap.size = A at hD ⊢
  have hA : ∀ q : Nat, s.heap.size ≤ q → A q := fun q h => by rw [← hAe]; exact Or.inr h
  have hDA : ∀ {w : va_W}, va_D A w → va_D (va_A [(pl, .inr (2, [.int 1, .int 0, .int 0, .int 0, .int 0, .ref pl5, .ref pl6, .ref pl7, .ref pl8, .ref pl9, .ref pl10, .ref pl11, .ref pl12, .ref pl13]))] s.heap.size) w := fun h => by rw [hAe]; exact h
  have hS : va_S A s.heap s.heap [] := va_S.rf
  have hP : va_P D vwCl [(pl, .inr (2, [.int 1, .int 0, .int 0, .int 0, .int 0, .ref pl5, .ref pl6, .ref pl7, .ref pl8, .ref pl9, .ref pl10, .ref pl11, .ref pl12, .ref pl13]))] s.heap := hP
  have hl := lv_entry ([.ref pl]) (n := 1) (Nat.le_of_ble_eq_true rfl)
  rw [lg_entry_eq]
  generalize (lg_sl ([.ref pl]) ++ List.replicate (1 - (lg_sl ([.ref pl])).length) Slot.unset).toArray = ls at hl ⊢
  have hl : lv_has ls 1 [(0, .ref pl)] := hl
  refine lv_aload_n hx hb dX2_clear_0 rfl (lv_at hl 0 rfl) ?_
  refine lv_iconst (v := 1) hx hb dX2_clear_1 (by decide +kernel) ?_
  refine va_put (D := D) (ci := 2) (v := .int 1) (ty := .int) (C := RX2) (T := TX2) (N := 14) hx hb hts iw_X2_clear_2 tyX2 tyX2_ok nmX2 hown hC.1 hP hD hS 0 rfl rfl 0 (by decide +kernel) (hts (.fieldLink RX2 9 "FairWheel$Plan" "cores" "I") (by decide +kernel)) (fun _ h9 => h9) rfl (by decide +kernel) rfl rfl (Nat.le_of_ble_eq_true rfl) dX2_clear_2 (fun H locs hP hD hS => ?_)
  have hP : va_P D vwCl [(pl, .inr (2, [.int 1, .int 0, .int 0, .int 0, .int 0, .ref pl5, .ref pl6, .ref pl7, .ref pl8, .ref pl9, .ref pl10, .ref pl11, .ref pl12, .ref pl13]))] H := hP
  have hD : va_D A [(pl, .inr (2, [.int 1, .int 0, .int 0, .int 0, .int 0, .ref pl5, .ref pl6, .ref pl7, .ref pl8, .ref pl9, .ref pl10, .ref pl11, .ref pl12, .ref pl13]))] := hD
  refine lv_aload_n hx hb dX2_clear_5 rfl (lv_at hl 0 rfl) ?_
  refine lv_iconst (v := 0) hx hb dX2_clear_6 (by decide +kernel) ?_
  refine va_put (D := D) (ci := 2) (v := .int 0) (ty := .int) (C := RX2) (T := TX2) (N := 14) hx hb hts iw_X2_clear_2 tyX2 tyX2_ok nmX2 hown hC.1 hP hD hS 0 rfl rfl 1 (by decide +kernel) (hts (.fieldLink RX2 15 "FairWheel$Plan" "locks" "I") (by decide +kernel)) (fun _ h9 => h9) rfl (by decide +kernel) rfl rfl (Nat.le_of_ble_eq_true rfl) dX2_clear_7 (fun H locs hP hD hS => ?_)
  have hP : va_P D vwCl [(pl, .inr (2, [.int 1, .int 0, .int 0, .int 0, .int 0, .ref pl5, .ref pl6, .ref pl7, .ref pl8, .ref pl9, .ref pl10, .ref pl11, .ref pl12, .ref pl13]))] H := hP
  have hD : va_D A [(pl, .inr (2, [.int 1, .int 0, .int 0, .int 0, .int 0, .ref pl5, .ref pl6, .ref pl7, .ref pl8, .ref pl9, .ref pl10, .ref pl11, .ref pl12, .ref pl13]))] := hD
  refine lv_aload_n hx hb dX2_clear_10 rfl (lv_at hl 0 rfl) ?_
  refine lv_iconst (v := 0) hx hb dX2_clear_11 (by decide +kernel) ?_
  refine va_put (D := D) (ci := 2) (v := .int 0) (ty := .int) (C := RX2) (T := TX2) (N := 14) hx hb hts iw_X2_clear_2 tyX2 tyX2_ok nmX2 hown hC.1 hP hD hS 0 rfl rfl 2 (by decide +kernel) (hts (.fieldLink RX2 18 "FairWheel$Plan" "bells" "I") (by decide +kernel)) (fun _ h9 => h9) rfl (by decide +kernel) rfl rfl (Nat.le_of_ble_eq_true rfl) dX2_clear_12 (fun H locs hP hD hS => ?_)
  have hP : va_P D vwCl [(pl, .inr (2, [.int 1, .int 0, .int 0, .int 0, .int 0, .ref pl5, .ref pl6, .ref pl7, .ref pl8, .ref pl9, .ref pl10, .ref pl11, .ref pl12, .ref pl13]))] H := hP
  have hD : va_D A [(pl, .inr (2, [.int 1, .int 0, .int 0, .int 0, .int 0, .ref pl5, .ref pl6, .ref pl7, .ref pl8, .ref pl9, .ref pl10, .ref pl11, .ref pl12, .ref pl13]))] := hD
  refine lv_aload_n hx hb dX2_clear_15 rfl (lv_at hl 0 rfl) ?_
  refine lv_iconst (v := 0) hx hb dX2_clear_16 (by decide +kernel) ?_
  refine va_put (D := D) (ci := 2) (v := .int 0) (ty := .int) (C := RX2) (T := TX2) (N := 14) hx hb hts iw_X2_clear_2 tyX2 tyX2_ok nmX2 hown hC.1 hP hD hS 0 rfl rfl 3 (by decide +kernel) (hts (.fieldLink RX2 21 "FairWheel$Plan" "count" "I") (by decide +kernel)) (fun _ h9 => h9) rfl (by decide +kernel) rfl rfl (Nat.le_of_ble_eq_true rfl) dX2_clear_17 (fun H locs hP hD hS => ?_)
  have hP : va_P D vwCl [(pl, .inr (2, [.int 1, .int 0, .int 0, .int 0, .int 0, .ref pl5, .ref pl6, .ref pl7, .ref pl8, .ref pl9, .ref pl10, .ref pl11, .ref pl12, .ref pl13]))] H := hP
  have hD : va_D A [(pl, .inr (2, [.int 1, .int 0, .int 0, .int 0, .int 0, .ref pl5, .ref pl6, .ref pl7, .ref pl8, .ref pl9, .ref pl10, .ref pl11, .ref pl12, .ref pl13]))] := hD
  refine lv_aload_n hx hb dX2_clear_20 rfl (lv_at hl 0 rfl) ?_
  refine lv_iconst (v := 0) hx hb dX2_clear_21 (by decide +kernel) ?_
  refine va_put (D := D) (ci := 2) (v := .int 0) (ty := .int) (C := RX2) (T := TX2) (N := 14) hx hb hts iw_X2_clear_2 tyX2 tyX2_ok nmX2 hown hC.1 hP hD hS 0 rfl rfl 4 (by decide +kernel) (hts (.fieldLink RX2 24 "FairWheel$Plan" "ops" "I") (by decide +kernel)) (fun _ h9 => h9) rfl (by decide +kernel) rfl rfl (Nat.le_of_ble_eq_true rfl) dX2_clear_22 (fun H locs hP hD hS => ?_)
  have hP : va_P D vwCl [(pl, .inr (2, [.int 1, .int 0, .int 0, .int 0, .int 0, .ref pl5, .ref pl6, .ref pl7, .ref pl8, .ref pl9, .ref pl10, .ref pl11, .ref pl12, .ref pl13]))] H := hP
  have hD : va_D A [(pl, .inr (2, [.int 1, .int 0, .int 0, .int 0, .int 0, .ref pl5, .ref pl6, .ref pl7, .ref pl8, .ref pl9, .ref pl10, .ref pl11, .ref pl12, .ref pl13]))] := hD
  exact W.vret hx hb hr (fun t ht hW => ⟨⟨(), rfl, trivial, by rw [ht]; exact hP.sub [0] rfl, hDA (hD.sub [0] (by decide +kernel) rfl)⟩, hS.F ht⟩) hS.2.2 dX2_clear_25
theorem iw_X5_begin_5 : ∀ w ∈ u_ws RX5 TX5 6, w ∈ wsX5_begin := by decide +kernel
set_option maxHeartbeats 4000000 in
set_option maxRecDepth 100000 in
theorem k_X5_begin (l : Launch) (D : va_G) (ca : Nat → ClassId) (sz : Nat) (h0 : Nat) (tp : Nat) : Met l yX5_begin wsX5_begin ({ frames := 0, cells := 0, slots := 0, locals := 0 }) (PC [.ref h0] sz D ca [(h0, .inr (5, [.ref tp, .int 0, .int 0, .int 0, .long 0, .int 0]))]) (QV (fun (u : Unit) => True) (fun (_ : Unit) => [(h0, .inr (5, [.ref tp, .int 0, .int 0, .int 0, .long 0, .int 0]))]) [(h0, .inr (5, [.ref tp, .int 0, .int 0, .int 0, .long 0, .int 0]))] sz D) 0 0 (va_A [(h0, .inr (5, [.ref tp, .int 0, .int 0, .int 0, .long 0, .int 0]))] sz) := by
  refine Met.ofW (cc := cX5_begin) (maxL := 1) (ret := none) (by decide +kernel) rfl ?_
  intro p e s m args below meth c s₁ B hml hv
  obtain ⟨rfl, hsz, hP, hC, hD0⟩ := hv
  have hx := B.exec
  have hb := B.bytes
  have hr := B.returns
  have hts := atoms_spec (ws := wsX5_begin) B.pre
  have hown : s.vm.findClass RX5 = some m.cls := findClass_of_methodNamed B.named
  have hlocks := B.notSynchronized
  subst hsz
  have hD := hD0.self (sz := s.heap.size)
  dsimp only [QV, QI, QL, BQ]
  generalize hAe : va_A [(h0, .inr (5, [.ref tp, .int 0, .int 0, .int 0, .long 0, .int 0]))] s.heap.size = A at hD ⊢
  have hA : ∀ q : Nat, s.heap.size ≤ q → A q := fun q h => by rw [← hAe]; exact Or.inr h
  have hDA : ∀ {w : va_W}, va_D A w → va_D (va_A [(h0, .inr (5, [.ref tp, .int 0, .int 0, .int 0, .long 0, .int 0]))] s.heap.size) w := fun h => by rw [hAe]; exact h
  have hS : va_S A s.heap s.heap [] := va_S.rf
  have hP : va_P D vwCl [(h0, .inr (5, [.ref tp, .int 0, .int 0, .int 0, .long 0, .int 0]))] s.heap := hP
  have hl := lv_entry ([.ref h0]) (n := 1) (Nat.le_of_ble_eq_true rfl)
  rw [lg_entry_eq]
  generalize (lg_sl ([.ref h0]) ++ List.replicate (1 - (lg_sl ([.ref h0])).length) Slot.unset).toArray = ls at hl ⊢
  have hl : lv_has ls 1 [(0, .ref h0)] := hl
  refine lv_aload_n hx hb dX5_begin_0 rfl (lv_at hl 0 rfl) ?_
  refine lv_iconst (v := 0) hx hb dX5_begin_1 (by decide +kernel) ?_
  refine va_put (D := D) (ci := 5) (v := .int 0) (ty := .int) (C := RX5) (T := TX5) (N := 6) hx hb hts iw_X5_begin_5 tyX5 tyX5_ok nmX5 hown hC.1 hP hD hS 0 rfl rfl 1 (by decide +kernel) (hts (.fieldLink RX5 15 "FairWheel$Scanner" "at" "I") (by decide +kernel)) (fun _ h9 => h9) rfl (by decide +kernel) rfl rfl (Nat.le_of_ble_eq_true rfl) dX5_begin_2 (fun H locs hP hD hS => ?_)
  have hP : va_P D vwCl [(h0, .inr (5, [.ref tp, .int 0, .int 0, .int 0, .long 0, .int 0]))] H := hP
  have hD : va_D A [(h0, .inr (5, [.ref tp, .int 0, .int 0, .int 0, .long 0, .int 0]))] := hD
  exact W.vret hx hb hr (fun t ht hW => ⟨⟨(), rfl, trivial, by rw [ht]; exact hP.sub [0] rfl, hDA (hD.sub [0] (by decide +kernel) rfl)⟩, hS.F ht⟩) hS.2.2 dX5_begin_5
theorem iw_X7_at_7 : ∀ w ∈ u_ws RX7 TX7 2, w ∈ wsX7_at := by decide +kernel
set_option maxHeartbeats 4000000 in
set_option maxRecDepth 100000 in
theorem k_X7_at (l : Launch) (D : va_G) (ca : Nat → ClassId) (sz : Nat) (h0 : Nat) (tb : Nat) : Met l yX7_at wsX7_at ({ frames := 0, cells := 0, slots := 0, locals := 0 }) (PC [.ref h0, .int 0] sz D ca [(h0, .inr (7, [.ref tb, .int 0]))]) (QI (fun (r : Int32) (u : Unit) => r = 0) (fun (_ : Unit) => [(h0, .inr (7, [.ref tb, .int 0]))]) [(h0, .inr (7, [.ref tb, .int 0]))] sz D) 0 0 (va_A [(h0, .inr (7, [.ref tb, .int 0]))] sz) := by
  refine Met.ofW (cc := cX7_at) (maxL := 2) (ret := (some .int)) (by decide +kernel) rfl ?_
  intro p e s m args below meth c s₁ B hml hv
  obtain ⟨rfl, hsz, hP, hC, hD0⟩ := hv
  have hx := B.exec
  have hb := B.bytes
  have hr := B.returns
  have hts := atoms_spec (ws := wsX7_at) B.pre
  have hown : s.vm.findClass RX7 = some m.cls := findClass_of_methodNamed B.named
  have hlocks := B.notSynchronized
  subst hsz
  have hD := hD0.self (sz := s.heap.size)
  dsimp only [QV, QI, QL, BQ]
  generalize hAe : va_A [(h0, .inr (7, [.ref tb, .int 0]))] s.heap.size = A at hD ⊢
  have hA : ∀ q : Nat, s.heap.size ≤ q → A q := fun q h => by rw [← hAe]; exact Or.inr h
  have hDA : ∀ {w : va_W}, va_D A w → va_D (va_A [(h0, .inr (7, [.ref tb, .int 0]))] s.heap.size) w := fun h => by rw [hAe]; exact h
  have hS : va_S A s.heap s.heap [] := va_S.rf
  have hP : va_P D vwCl [(h0, .inr (7, [.ref tb, .int 0]))] s.heap := hP
  have hl := lv_entry ([.ref h0, .int 0]) (n := 2) (Nat.le_of_ble_eq_true rfl)
  rw [lg_entry_eq]
  generalize (lg_sl ([.ref h0, .int 0]) ++ List.replicate (2 - (lg_sl ([.ref h0, .int 0])).length) Slot.unset).toArray = ls at hl ⊢
  have hl : lv_has ls 2 [(0, .ref h0), (1, .int 0)] := hl
  refine lv_iload_n hx hb dX7_at_0 rfl (lv_at hl 1 rfl) ?_
  refine lv_if_lt (tgt := 21) hx hb dX7_at_1 (by decide +kernel) (fun c_1 => absurd c_1 (by decide +kernel)) (fun c_1 => ?_)
  refine lv_iload_n hx hb dX7_at_4 rfl (lv_at hl 1 rfl) ?_
  refine lv_aload_n hx hb dX7_at_5 rfl (lv_at hl 0 rfl) ?_
  refine va_get (D := D) (ci := 7) (v := .int 0) (C := RX7) (T := TX7) (N := 2) hx hb hts iw_X7_at_7 hown hC.1 hP 0 rfl rfl 1 (by decide +kernel) (hts (.fieldLink RX7 15 "FairWheel$Tape" "size" "I") (by decide +kernel)) (fun _ h9 => h9) rfl dX7_at_6 ?_
  refine lv_icmp_ge (tgt := 21) hx hb dX7_at_9 (by decide +kernel) (fun c_2 => ?_) (fun c_2 => absurd (by decide +kernel) c_2)
  refine lv_iconst (v := 0) hx hb dX7_at_21 (by decide +kernel) ?_
  refine lv_goto (tgt := 35) hx hb dX7_at_22 (by decide +kernel) ?_
  exact W.iret (v := 0) hx hb hr (fun t ht hW => ⟨⟨0, (), rfl, rfl, by rw [ht]; exact hP.sub [0] rfl, hDA (hD.sub [0] (by decide +kernel) rfl)⟩, hS.F ht⟩) hS.2.2 dX7_at_35
theorem iw_X5_next_5 : ∀ w ∈ u_ws RX5 TX5 6, w ∈ wsX5_next := by decide +kernel
theorem iw_X5_next_7 : ∀ w ∈ u_ws RX7 TX7 2, w ∈ wsX5_next := by decide +kernel
set_option maxHeartbeats 4000000 in
set_option maxRecDepth 100000 in
theorem k_X5_next (l : Launch) (D : va_G) (ca : Nat → ClassId) (sz : Nat) (h0 : Nat) (tp : Nat) (tb : Nat) : Met l yX5_next wsX5_next ({ frames := 1, cells := 0, slots := 0, locals := 21 }) (PC [.ref h0] sz D ca [(h0, .inr (5, [.ref tp, .int 0, .int 0, .int 0, .long 0, .int 0])), (tp, .inr (7, [.ref tb, .int 0]))]) (QV (fun (u : Unit) => True) (fun (_ : Unit) => [(h0, .inr (5, [.ref tp, .int 0, .int 0, .int 21, .long 0, .int 0])), (tp, .inr (7, [.ref tb, .int 0]))]) [(h0, .inr (5, [.ref tp, .int 0, .int 0, .int 0, .long 0, .int 0])), (tp, .inr (7, [.ref tb, .int 0]))] sz D) 0 0 (va_A [(h0, .inr (5, [.ref tp, .int 0, .int 0, .int 0, .long 0, .int 0])), (tp, .inr (7, [.ref tb, .int 0]))] sz) := by
  refine Met.ofW (cc := cX5_next) (maxL := 2) (ret := none) (by decide +kernel) rfl ?_
  intro p e s m args below meth c s₁ B hml hv
  obtain ⟨rfl, hsz, hP, hC, hD0⟩ := hv
  have hx := B.exec
  have hb := B.bytes
  have hr := B.returns
  have hts := atoms_spec (ws := wsX5_next) B.pre
  have hown : s.vm.findClass RX5 = some m.cls := findClass_of_methodNamed B.named
  have hlocks := B.notSynchronized
  subst hsz
  have hD := hD0.self (sz := s.heap.size)
  dsimp only [QV, QI, QL, BQ]
  generalize hAe : va_A [(h0, .inr (5, [.ref tp, .int 0, .int 0, .int 0, .long 0, .int 0])), (tp, .inr (7, [.ref tb, .int 0]))] s.heap.size = A at hD ⊢
  have hA : ∀ q : Nat, s.heap.size ≤ q → A q := fun q h => by rw [← hAe]; exact Or.inr h
  have hDA : ∀ {w : va_W}, va_D A w → va_D (va_A [(h0, .inr (5, [.ref tp, .int 0, .int 0, .int 0, .long 0, .int 0])), (tp, .inr (7, [.ref tb, .int 0]))] s.heap.size) w := fun h => by rw [hAe]; exact h
  have hS : va_S A s.heap s.heap [] := va_S.rf
  have hP : va_P D vwCl [(h0, .inr (5, [.ref tp, .int 0, .int 0, .int 0, .long 0, .int 0])), (tp, .inr (7, [.ref tb, .int 0]))] s.heap := hP
  have hl := lv_entry ([.ref h0]) (n := 2) (Nat.le_of_ble_eq_true rfl)
  rw [lg_entry_eq]
  generalize (lg_sl ([.ref h0]) ++ List.replicate (2 - (lg_sl ([.ref h0])).length) Slot.unset).toArray = ls at hl ⊢
  have hl : lv_has ls 2 [(0, .ref h0)] := hl
  refine lv_aload_n hx hb dX5_next_0 rfl (lv_at hl 0 rfl) ?_
  refine va_get (D := D) (ci := 5) (v := .int 0) (C := RX5) (T := TX5) (N := 6) hx hb hts iw_X5_next_5 hown hC.1 hP 0 rfl rfl 1 (by decide +kernel) (hts (.fieldLink RX5 15 "FairWheel$Scanner" "at" "I") (by decide +kernel)) (fun _ h9 => h9) rfl dX5_next_1 ?_
  refine lv_aload_n hx hb dX5_next_4 rfl (lv_at hl 0 rfl) ?_
  refine va_get (D := D) (ci := 5) (v := .ref tp) (C := RX5) (T := TX5) (N := 6) hx hb hts iw_X5_next_5 hown hC.1 hP 0 rfl rfl 0 (by decide +kernel) (hts (.fieldLink RX5 9 "FairWheel$Scanner" "tape" "LFairWheel$Tape;") (by decide +kernel)) (fun _ h9 => h9) rfl dX5_next_5 ?_
  refine va_get (D := D) (ci := 7) (v := .int 0) (C := RX7) (T := TX7) (N := 2) hx hb hts iw_X5_next_7 hown hC.1 hP 1 rfl rfl 1 (by decide +kernel) (hts (.fieldLink RX5 19 "FairWheel$Tape" "size" "I") (by decide +kernel)) (fun _ h9 => h9) rfl dX5_next_8 ?_
  refine lv_icmp_ge (tgt := 44) hx hb dX5_next_11 (by decide +kernel) (fun c_1 => ?_) (fun c_1 => absurd (by decide +kernel) c_1)
  refine lv_aload_n hx hb dX5_next_44 rfl (lv_at hl 0 rfl) ?_
  refine lv_aload_n hx hb dX5_next_45 rfl (lv_at hl 0 rfl) ?_
  refine va_get (D := D) (ci := 5) (v := .int 0) (C := RX5) (T := TX5) (N := 6) hx hb hts iw_X5_next_5 hown hC.1 hP 0 rfl rfl 1 (by decide +kernel) (hts (.fieldLink RX5 15 "FairWheel$Scanner" "at" "I") (by decide +kernel)) (fun _ h9 => h9) rfl dX5_next_46 ?_
  refine va_put (D := D) (ci := 5) (v := .int 0) (ty := .int) (C := RX5) (T := TX5) (N := 6) hx hb hts iw_X5_next_5 tyX5 tyX5_ok nmX5 hown hC.1 hP hD hS 0 rfl rfl 2 (by decide +kernel) (hts (.fieldLink RX5 31 "FairWheel$Scanner" "start" "I") (by decide +kernel)) (fun _ h9 => h9) rfl (by decide +kernel) rfl rfl (Nat.le_of_ble_eq_true rfl) dX5_next_49 (fun H locs hP hD hS => ?_)
  have hP : va_P D vwCl [(h0, .inr (5, [.ref tp, .int 0, .int 0, .int 0, .long 0, .int 0])), (tp, .inr (7, [.ref tb, .int 0]))] H := hP
  have hD : va_D A [(h0, .inr (5, [.ref tp, .int 0, .int 0, .int 0, .long 0, .int 0])), (tp, .inr (7, [.ref tb, .int 0]))] := hD
  refine lv_aload_n hx hb dX5_next_52 rfl (lv_at hl 0 rfl) ?_
  refine va_get (D := D) (ci := 5) (v := .ref tp) (C := RX5) (T := TX5) (N := 6) hx hb hts iw_X5_next_5 hown hC.1 hP 0 rfl rfl 0 (by decide +kernel) (hts (.fieldLink RX5 9 "FairWheel$Scanner" "tape" "LFairWheel$Tape;") (by decide +kernel)) (fun _ h9 => h9) rfl dX5_next_53 ?_
  refine lv_aload_n hx hb dX5_next_56 rfl (lv_at hl 0 rfl) ?_
  refine va_get (D := D) (ci := 5) (v := .int 0) (C := RX5) (T := TX5) (N := 6) hx hb hts iw_X5_next_5 hown hC.1 hP 0 rfl rfl 1 (by decide +kernel) (hts (.fieldLink RX5 15 "FairWheel$Scanner" "at" "I") (by decide +kernel)) (fun _ h9 => h9) rfl dX5_next_57 ?_
  refine kc_i (wr := [(h0, .inr (5, [.ref tp, .int 0, .int 0, .int 0, .long 0, .int 0]))]) (va_runV (As := [.int 0]) (rest := []) ⟨hx, hb, hml, hown, hts⟩ (k_X7_at l D ca H.size tp tb) (cwV 1 hts gX5_next_X7_at rfl rfl rfl (by decide +kernel) ⟨(Nat.le_of_ble_eq_true rfl), (Nat.le_of_ble_eq_true rfl)⟩) (PC.preV (ci := 7) hC hP hD [1] rfl (by decide +kernel) rfl rfl) rfl rfl hl.1 rfl (lv_room (Nat.le_of_ble_eq_true rfl)) dX5_next_60 ⟨(Nat.le_of_ble_eq_true rfl), (Nat.le_of_ble_eq_true rfl)⟩) hP hD hS hA [1] [0] rfl rfl (by decide +kernel) (by decide +kernel) (fun r_2 u_4 H locs hw_3 hP hD hS => ?_)
  subst hw_3
  have hP : va_P D vwCl [(h0, .inr (5, [.ref tp, .int 0, .int 0, .int 0, .long 0, .int 0])), (tp, .inr (7, [.ref tb, .int 0]))] H := hP
  have hD : va_D A [(h0, .inr (5, [.ref tp, .int 0, .int 0, .int 0, .long 0, .int 0])), (tp, .inr (7, [.ref tb, .int 0]))] := hD
  refine lv_istore_n (lv' := [(1, .int 0), (0, .ref h0)]) hx hb dX5_next_63 rfl hl (by decide +kernel) rfl (fun ls hl => ?_)
  refine lv_aload_n hx hb dX5_next_64 rfl (lv_at hl 1 rfl) ?_
  refine va_get (D := D) (ci := 5) (v := .int 0) (C := RX5) (T := TX5) (N := 6) hx hb hts iw_X5_next_5 hown hC.1 hP 0 rfl rfl 1 (by decide +kernel) (hts (.fieldLink RX5 15 "FairWheel$Scanner" "at" "I") (by decide +kernel)) (fun _ h9 => h9) rfl dX5_next_65 ?_
  refine lv_aload_n hx hb dX5_next_68 rfl (lv_at hl 1 rfl) ?_
  refine va_get (D := D) (ci := 5) (v := .ref tp) (C := RX5) (T := TX5) (N := 6) hx hb hts iw_X5_next_5 hown hC.1 hP 0 rfl rfl 0 (by decide +kernel) (hts (.fieldLink RX5 9 "FairWheel$Scanner" "tape" "LFairWheel$Tape;") (by decide +kernel)) (fun _ h9 => h9) rfl dX5_next_69 ?_
  refine va_get (D := D) (ci := 7) (v := .int 0) (C := RX7) (T := TX7) (N := 2) hx hb hts iw_X5_next_7 hown hC.1 hP 1 rfl rfl 1 (by decide +kernel) (hts (.fieldLink RX5 19 "FairWheel$Tape" "size" "I") (by decide +kernel)) (fun _ h9 => h9) rfl dX5_next_72 ?_
  refine lv_icmp_lt (tgt := 87) hx hb dX5_next_75 (by decide +kernel) (fun c_5 => absurd c_5 (by decide +kernel)) (fun c_5 => ?_)
  refine lv_aload_n hx hb dX5_next_78 rfl (lv_at hl 1 rfl) ?_
  refine lv_bipush (v := 21) hx hb dX5_next_79 (by decide +kernel) ?_
  refine va_put (D := D) (ci := 5) (v := .int 21) (ty := .int) (C := RX5) (T := TX5) (N := 6) hx hb hts iw_X5_next_5 tyX5 tyX5_ok nmX5 hown hC.1 hP hD hS 0 rfl rfl 3 (by decide +kernel) (hts (.fieldLink RX5 34 "FairWheel$Scanner" "code" "I") (by decide +kernel)) (fun _ h9 => h9) rfl (by decide +kernel) rfl rfl (Nat.le_of_ble_eq_true rfl) dX5_next_81 (fun H locs hP hD hS => ?_)
  have hP : va_P D vwCl [(h0, .inr (5, [.ref tp, .int 0, .int 0, .int 21, .long 0, .int 0])), (tp, .inr (7, [.ref tb, .int 0]))] H := hP
  have hD : va_D A [(h0, .inr (5, [.ref tp, .int 0, .int 0, .int 21, .long 0, .int 0])), (tp, .inr (7, [.ref tb, .int 0]))] := hD
  refine lv_goto (tgt := 178) hx hb dX5_next_84 (by decide +kernel) ?_
  exact W.vret hx hb hr (fun t ht hW => ⟨⟨(), rfl, trivial, by rw [ht]; exact hP.sub [0, 1] rfl, hDA (hD.sub [0, 1] (by decide +kernel) rfl)⟩, hS.F ht⟩) hS.2.2 dX5_next_178
theorem iw_X3_read_3 : ∀ w ∈ u_ws RX3 TX3 6, w ∈ wsX3_read := by decide +kernel
theorem iw_X3_read_5 : ∀ w ∈ u_ws RX5 TX5 6, w ∈ wsX3_read := by decide +kernel
set_option maxHeartbeats 4000000 in
set_option maxRecDepth 100000 in
theorem k_X3_read (l : Launch) (D : va_G) (ca : Nat → ClassId) (sz : Nat) (rd : Nat) (sc : Nat) (tp : Nat) (tb : Nat) (dr : Nat) (dr5 : Nat) (dr6 : Nat) (dr7 : Nat) (dr8 : Nat) (dr9 : Nat) (dr10 : Nat) (dr11 : Nat) (dr12 : Nat) (dr13 : Nat) : Met l yX3_read wsX3_read ({ frames := 2, cells := 0, slots := 0, locals := 42 }) (PC [.ref rd, .ref dr] sz D ca [(rd, .inr (3, [.ref sc, .ref dr, .int 0, .int 0, .int 0, .int (-1)])), (dr, .inr (2, [.int 1, .int 0, .int 0, .int 0, .int 0, .ref dr5, .ref dr6, .ref dr7, .ref dr8, .ref dr9, .ref dr10, .ref dr11, .ref dr12, .ref dr13])), (sc, .inr (5, [.ref tp, .int 0, .int 0, .int 0, .long 0, .int 0])), (tp, .inr (7, [.ref tb, .int 0]))]) (QI (fun (r : Int32) (u : Unit) => r = 1) (fun (_ : Unit) => [(rd, .inr (3, [.ref sc, .ref dr, .int 0, .int 0, .int 0, .int (-1)])), (dr, .inr (2, [.int 1, .int 0, .int 0, .int 0, .int 0, .ref dr5, .ref dr6, .ref dr7, .ref dr8, .ref dr9, .ref dr10, .ref dr11, .ref dr12, .ref dr13])), (sc, .inr (5, [.ref tp, .int 0, .int 0, .int 21, .long 0, .int 0])), (tp, .inr (7, [.ref tb, .int 0]))]) [(rd, .inr (3, [.ref sc, .ref dr, .int 0, .int 0, .int 0, .int (-1)])), (dr, .inr (2, [.int 1, .int 0, .int 0, .int 0, .int 0, .ref dr5, .ref dr6, .ref dr7, .ref dr8, .ref dr9, .ref dr10, .ref dr11, .ref dr12, .ref dr13])), (sc, .inr (5, [.ref tp, .int 0, .int 0, .int 0, .long 0, .int 0])), (tp, .inr (7, [.ref tb, .int 0]))] sz D) 0 0 (va_A [(rd, .inr (3, [.ref sc, .ref dr, .int 0, .int 0, .int 0, .int (-1)])), (dr, .inr (2, [.int 1, .int 0, .int 0, .int 0, .int 0, .ref dr5, .ref dr6, .ref dr7, .ref dr8, .ref dr9, .ref dr10, .ref dr11, .ref dr12, .ref dr13])), (sc, .inr (5, [.ref tp, .int 0, .int 0, .int 0, .long 0, .int 0])), (tp, .inr (7, [.ref tb, .int 0]))] sz) := by
  refine Met.ofW (cc := cX3_read) (maxL := 4) (ret := (some .boolean)) (by decide +kernel) rfl ?_
  intro p e s m args below meth c s₁ B hml hv
  obtain ⟨rfl, hsz, hP, hC, hD0⟩ := hv
  have hx := B.exec
  have hb := B.bytes
  have hr := B.returns
  have hts := atoms_spec (ws := wsX3_read) B.pre
  have hown : s.vm.findClass RX3 = some m.cls := findClass_of_methodNamed B.named
  have hlocks := B.notSynchronized
  subst hsz
  have hD := hD0.self (sz := s.heap.size)
  dsimp only [QV, QI, QL, BQ]
  generalize hAe : va_A [(rd, .inr (3, [.ref sc, .ref dr, .int 0, .int 0, .int 0, .int (-1)])), (dr, .inr (2, [.int 1, .int 0, .int 0, .int 0, .int 0, .ref dr5, .ref dr6, .ref dr7, .ref dr8, .ref dr9, .ref dr10, .ref dr11, .ref dr12, .ref dr13])), (sc, .inr (5, [.ref tp, .int 0, .int 0, .int 0, .long 0, .int 0])), (tp, .inr (7, [.ref tb, .int 0]))] s.heap.size = A at hD ⊢
  have hA : ∀ q : Nat, s.heap.size ≤ q → A q := fun q h => by rw [← hAe]; exact Or.inr h
  have hDA : ∀ {w : va_W}, va_D A w → va_D (va_A [(rd, .inr (3, [.ref sc, .ref dr, .int 0, .int 0, .int 0, .int (-1)])), (dr, .inr (2, [.int 1, .int 0, .int 0, .int 0, .int 0, .ref dr5, .ref dr6, .ref dr7, .ref dr8, .ref dr9, .ref dr10, .ref dr11, .ref dr12, .ref dr13])), (sc, .inr (5, [.ref tp, .int 0, .int 0, .int 0, .long 0, .int 0])), (tp, .inr (7, [.ref tb, .int 0]))] s.heap.size) w := fun h => by rw [hAe]; exact h
  have hS : va_S A s.heap s.heap [] := va_S.rf
  have hP : va_P D vwCl [(rd, .inr (3, [.ref sc, .ref dr, .int 0, .int 0, .int 0, .int (-1)])), (dr, .inr (2, [.int 1, .int 0, .int 0, .int 0, .int 0, .ref dr5, .ref dr6, .ref dr7, .ref dr8, .ref dr9, .ref dr10, .ref dr11, .ref dr12, .ref dr13])), (sc, .inr (5, [.ref tp, .int 0, .int 0, .int 0, .long 0, .int 0])), (tp, .inr (7, [.ref tb, .int 0]))] s.heap := hP
  have hl := lv_entry ([.ref rd, .ref dr]) (n := 4) (Nat.le_of_ble_eq_true rfl)
  rw [lg_entry_eq]
  generalize (lg_sl ([.ref rd, .ref dr]) ++ List.replicate (4 - (lg_sl ([.ref rd, .ref dr])).length) Slot.unset).toArray = ls at hl ⊢
  have hl : lv_has ls 4 [(0, .ref rd), (1, .ref dr)] := hl
  refine lv_aload_n hx hb dX3_read_0 rfl (lv_at hl 0 rfl) ?_
  refine lv_aload_n hx hb dX3_read_1 rfl (lv_at hl 1 rfl) ?_
  refine va_put (D := D) (ci := 3) (v := .ref dr) (ty := .object "FairWheel$Plan") (C := RX3) (T := TX3) (N := 6) hx hb hts iw_X3_read_3 tyX3 tyX3_ok nmX3 hown hC.1 hP hD hS 0 rfl rfl 1 (by decide +kernel) (hts (.fieldLink RX3 27 "FairWheel$Reader" "into" "LFairWheel$Plan;") (by decide +kernel)) (fun _ h9 => h9) rfl (by decide +kernel) rfl rfl (Nat.le_of_ble_eq_true rfl) dX3_read_2 (fun H locs hP hD hS => ?_)
  have hP : va_P D vwCl [(rd, .inr (3, [.ref sc, .ref dr, .int 0, .int 0, .int 0, .int (-1)])), (dr, .inr (2, [.int 1, .int 0, .int 0, .int 0, .int 0, .ref dr5, .ref dr6, .ref dr7, .ref dr8, .ref dr9, .ref dr10, .ref dr11, .ref dr12, .ref dr13])), (sc, .inr (5, [.ref tp, .int 0, .int 0, .int 0, .long 0, .int 0])), (tp, .inr (7, [.ref tb, .int 0]))] H := hP
  have hD : va_D A [(rd, .inr (3, [.ref sc, .ref dr, .int 0, .int 0, .int 0, .int (-1)])), (dr, .inr (2, [.int 1, .int 0, .int 0, .int 0, .int 0, .ref dr5, .ref dr6, .ref dr7, .ref dr8, .ref dr9, .ref dr10, .ref dr11, .ref dr12, .ref dr13])), (sc, .inr (5, [.ref tp, .int 0, .int 0, .int 0, .long 0, .int 0])), (tp, .inr (7, [.ref tb, .int 0]))] := hD
  refine lv_aload_n hx hb dX3_read_5 rfl (lv_at hl 0 rfl) ?_
  refine va_get (D := D) (ci := 3) (v := .ref dr) (C := RX3) (T := TX3) (N := 6) hx hb hts iw_X3_read_3 hown hC.1 hP 0 rfl rfl 1 (by decide +kernel) (hts (.fieldLink RX3 27 "FairWheel$Reader" "into" "LFairWheel$Plan;") (by decide +kernel)) (fun _ h9 => h9) rfl dX3_read_6 ?_
  refine kc_v (wr := [(rd, .inr (3, [.ref sc, .ref dr, .int 0, .int 0, .int 0, .int (-1)])), (sc, .inr (5, [.ref tp, .int 0, .int 0, .int 0, .long 0, .int 0])), (tp, .inr (7, [.ref tb, .int 0]))]) (va_runV (As := []) (rest := []) ⟨hx, hb, hml, hown, hts⟩ (k_X2_clear l D ca H.size dr dr5 dr6 dr7 dr8 dr9 dr10 dr11 dr12 dr13) (cwV 0 hts gX3_read_X2_clear rfl rfl rfl (by decide +kernel) ⟨(Nat.le_of_ble_eq_true rfl), (Nat.le_of_ble_eq_true rfl)⟩) (PC.preV (ci := 2) hC hP hD [1] rfl (by decide +kernel) rfl rfl) rfl rfl hl.1 rfl (lv_room (Nat.le_of_ble_eq_true rfl)) dX3_read_9 ⟨(Nat.le_of_ble_eq_true rfl), (Nat.le_of_ble_eq_true rfl)⟩) hP hD hS hA [1] [0, 2, 3] rfl rfl (by decide +kernel) (by decide +kernel) (fun u_2 H locs hw_1 hP hD hS => ?_)
  have hP : va_P D vwCl [(rd, .inr (3, [.ref sc, .ref dr, .int 0, .int 0, .int 0, .int (-1)])), (sc, .inr (5, [.ref tp, .int 0, .int 0, .int 0, .long 0, .int 0])), (tp, .inr (7, [.ref tb, .int 0])), (dr, .inr (2, [.int 1, .int 0, .int 0, .int 0, .int 0, .ref dr5, .ref dr6, .ref dr7, .ref dr8, .ref dr9, .ref dr10, .ref dr11, .ref dr12, .ref dr13]))] H := hP
  have hD : va_D A [(rd, .inr (3, [.ref sc, .ref dr, .int 0, .int 0, .int 0, .int (-1)])), (sc, .inr (5, [.ref tp, .int 0, .int 0, .int 0, .long 0, .int 0])), (tp, .inr (7, [.ref tb, .int 0])), (dr, .inr (2, [.int 1, .int 0, .int 0, .int 0, .int 0, .ref dr5, .ref dr6, .ref dr7, .ref dr8, .ref dr9, .ref dr10, .ref dr11, .ref dr12, .ref dr13]))] := hD
  refine lv_aload_n hx hb dX3_read_12 rfl (lv_at hl 0 rfl) ?_
  refine lv_iconst (v := 0) hx hb dX3_read_13 (by decide +kernel) ?_
  refine va_put (D := D) (ci := 3) (v := .int 0) (ty := .int) (C := RX3) (T := TX3) (N := 6) hx hb hts iw_X3_read_3 tyX3 tyX3_ok nmX3 hown hC.1 hP hD hS 0 rfl rfl 2 (by decide +kernel) (hts (.fieldLink RX3 36 "FairWheel$Reader" "told" "I") (by decide +kernel)) (fun _ h9 => h9) rfl (by decide +kernel) rfl rfl (Nat.le_of_ble_eq_true rfl) dX3_read_14 (fun H locs hP hD hS => ?_)
  have hP : va_P D vwCl [(rd, .inr (3, [.ref sc, .ref dr, .int 0, .int 0, .int 0, .int (-1)])), (sc, .inr (5, [.ref tp, .int 0, .int 0, .int 0, .long 0, .int 0])), (tp, .inr (7, [.ref tb, .int 0])), (dr, .inr (2, [.int 1, .int 0, .int 0, .int 0, .int 0, .ref dr5, .ref dr6, .ref dr7, .ref dr8, .ref dr9, .ref dr10, .ref dr11, .ref dr12, .ref dr13]))] H := hP
  have hD : va_D A [(rd, .inr (3, [.ref sc, .ref dr, .int 0, .int 0, .int 0, .int (-1)])), (sc, .inr (5, [.ref tp, .int 0, .int 0, .int 0, .long 0, .int 0])), (tp, .inr (7, [.ref tb, .int 0])), (dr, .inr (2, [.int 1, .int 0, .int 0, .int 0, .int 0, .ref dr5, .ref dr6, .ref dr7, .ref dr8, .ref dr9, .ref dr10, .ref dr11, .ref dr12, .ref dr13]))] := hD
  refine lv_aload_n hx hb dX3_read_17 rfl (lv_at hl 0 rfl) ?_
  refine lv_iconst (v := 0) hx hb dX3_read_18 (by decide +kernel) ?_
  refine va_put (D := D) (ci := 3) (v := .int 0) (ty := .int) (C := RX3) (T := TX3) (N := 6) hx hb hts iw_X3_read_3 tyX3 tyX3_ok nmX3 hown hC.1 hP hD hS 0 rfl rfl 4 (by decide +kernel) (hts (.fieldLink RX3 9 "FairWheel$Reader" "found" "I") (by decide +kernel)) (fun _ h9 => h9) rfl (by decide +kernel) rfl rfl (Nat.le_of_ble_eq_true rfl) dX3_read_19 (fun H locs hP hD hS => ?_)
  have hP : va_P D vwCl [(rd, .inr (3, [.ref sc, .ref dr, .int 0, .int 0, .int 0, .int (-1)])), (sc, .inr (5, [.ref tp, .int 0, .int 0, .int 0, .long 0, .int 0])), (tp, .inr (7, [.ref tb, .int 0])), (dr, .inr (2, [.int 1, .int 0, .int 0, .int 0, .int 0, .ref dr5, .ref dr6, .ref dr7, .ref dr8, .ref dr9, .ref dr10, .ref dr11, .ref dr12, .ref dr13]))] H := hP
  have hD : va_D A [(rd, .inr (3, [.ref sc, .ref dr, .int 0, .int 0, .int 0, .int (-1)])), (sc, .inr (5, [.ref tp, .int 0, .int 0, .int 0, .long 0, .int 0])), (tp, .inr (7, [.ref tb, .int 0])), (dr, .inr (2, [.int 1, .int 0, .int 0, .int 0, .int 0, .ref dr5, .ref dr6, .ref dr7, .ref dr8, .ref dr9, .ref dr10, .ref dr11, .ref dr12, .ref dr13]))] := hD
  refine lv_aload_n hx hb dX3_read_22 rfl (lv_at hl 0 rfl) ?_
  refine lv_iconst (v := (-1)) hx hb dX3_read_23 (by decide +kernel) ?_
  refine va_put (D := D) (ci := 3) (v := .int (-1)) (ty := .int) (C := RX3) (T := TX3) (N := 6) hx hb hts iw_X3_read_3 tyX3 tyX3_ok nmX3 hown hC.1 hP hD hS 0 rfl rfl 5 (by decide +kernel) (hts (.fieldLink RX3 15 "FairWheel$Reader" "foundAt" "I") (by decide +kernel)) (fun _ h9 => h9) rfl (by decide +kernel) rfl rfl (Nat.le_of_ble_eq_true rfl) dX3_read_24 (fun H locs hP hD hS => ?_)
  have hP : va_P D vwCl [(rd, .inr (3, [.ref sc, .ref dr, .int 0, .int 0, .int 0, .int (-1)])), (sc, .inr (5, [.ref tp, .int 0, .int 0, .int 0, .long 0, .int 0])), (tp, .inr (7, [.ref tb, .int 0])), (dr, .inr (2, [.int 1, .int 0, .int 0, .int 0, .int 0, .ref dr5, .ref dr6, .ref dr7, .ref dr8, .ref dr9, .ref dr10, .ref dr11, .ref dr12, .ref dr13]))] H := hP
  have hD : va_D A [(rd, .inr (3, [.ref sc, .ref dr, .int 0, .int 0, .int 0, .int (-1)])), (sc, .inr (5, [.ref tp, .int 0, .int 0, .int 0, .long 0, .int 0])), (tp, .inr (7, [.ref tb, .int 0])), (dr, .inr (2, [.int 1, .int 0, .int 0, .int 0, .int 0, .ref dr5, .ref dr6, .ref dr7, .ref dr8, .ref dr9, .ref dr10, .ref dr11, .ref dr12, .ref dr13]))] := hD
  refine lv_aload_n hx hb dX3_read_27 rfl (lv_at hl 0 rfl) ?_
  refine va_get (D := D) (ci := 3) (v := .ref sc) (C := RX3) (T := TX3) (N := 6) hx hb hts iw_X3_read_3 hown hC.1 hP 0 rfl rfl 0 (by decide +kernel) (hts (.fieldLink RX3 23 "FairWheel$Reader" "scanner" "LFairWheel$Scanner;") (by decide +kernel)) (fun _ h9 => h9) rfl dX3_read_28 ?_
  refine kc_v (wr := [(rd, .inr (3, [.ref sc, .ref dr, .int 0, .int 0, .int 0, .int (-1)])), (tp, .inr (7, [.ref tb, .int 0])), (dr, .inr (2, [.int 1, .int 0, .int 0, .int 0, .int 0, .ref dr5, .ref dr6, .ref dr7, .ref dr8, .ref dr9, .ref dr10, .ref dr11, .ref dr12, .ref dr13]))]) (va_runV (As := []) (rest := []) ⟨hx, hb, hml, hown, hts⟩ (k_X5_begin l D ca H.size sc tp) (cwV 0 hts gX3_read_X5_begin rfl rfl rfl (by decide +kernel) ⟨(Nat.le_of_ble_eq_true rfl), (Nat.le_of_ble_eq_true rfl)⟩) (PC.preV (ci := 5) hC hP hD [1] rfl (by decide +kernel) rfl rfl) rfl rfl hl.1 rfl (lv_room (Nat.le_of_ble_eq_true rfl)) dX3_read_31 ⟨(Nat.le_of_ble_eq_true rfl), (Nat.le_of_ble_eq_true rfl)⟩) hP hD hS hA [1] [0, 2, 3] rfl rfl (by decide +kernel) (by decide +kernel) (fun u_4 H locs hw_3 hP hD hS => ?_)
  have hP : va_P D vwCl [(rd, .inr (3, [.ref sc, .ref dr, .int 0, .int 0, .int 0, .int (-1)])), (tp, .inr (7, [.ref tb, .int 0])), (dr, .inr (2, [.int 1, .int 0, .int 0, .int 0, .int 0, .ref dr5, .ref dr6, .ref dr7, .ref dr8, .ref dr9, .ref dr10, .ref dr11, .ref dr12, .ref dr13])), (sc, .inr (5, [.ref tp, .int 0, .int 0, .int 0, .long 0, .int 0]))] H := hP
  have hD : va_D A [(rd, .inr (3, [.ref sc, .ref dr, .int 0, .int 0, .int 0, .int (-1)])), (tp, .inr (7, [.ref tb, .int 0])), (dr, .inr (2, [.int 1, .int 0, .int 0, .int 0, .int 0, .ref dr5, .ref dr6, .ref dr7, .ref dr8, .ref dr9, .ref dr10, .ref dr11, .ref dr12, .ref dr13])), (sc, .inr (5, [.ref tp, .int 0, .int 0, .int 0, .long 0, .int 0]))] := hD
  refine lv_aload_n hx hb dX3_read_34 rfl (lv_at hl 0 rfl) ?_
  refine va_get (D := D) (ci := 3) (v := .ref sc) (C := RX3) (T := TX3) (N := 6) hx hb hts iw_X3_read_3 hown hC.1 hP 0 rfl rfl 0 (by decide +kernel) (hts (.fieldLink RX3 23 "FairWheel$Reader" "scanner" "LFairWheel$Scanner;") (by decide +kernel)) (fun _ h9 => h9) rfl dX3_read_35 ?_
  refine kc_v (wr := [(rd, .inr (3, [.ref sc, .ref dr, .int 0, .int 0, .int 0, .int (-1)])), (dr, .inr (2, [.int 1, .int 0, .int 0, .int 0, .int 0, .ref dr5, .ref dr6, .ref dr7, .ref dr8, .ref dr9, .ref dr10, .ref dr11, .ref dr12, .ref dr13]))]) (va_runV (As := []) (rest := []) ⟨hx, hb, hml, hown, hts⟩ (k_X5_next l D ca H.size sc tp tb) (cwV 0 hts gX3_read_X5_next rfl rfl rfl (by decide +kernel) ⟨(Nat.le_of_ble_eq_true rfl), (Nat.le_of_ble_eq_true rfl)⟩) (PC.preV (ci := 5) hC hP hD [3, 1] rfl (by decide +kernel) rfl rfl) rfl rfl hl.1 rfl (lv_room (Nat.le_of_ble_eq_true rfl)) dX3_read_38 ⟨(Nat.le_of_ble_eq_true rfl), (Nat.le_of_ble_eq_true rfl)⟩) hP hD hS hA [3, 1] [0, 2] rfl rfl (by decide +kernel) (by decide +kernel) (fun u_6 H locs hw_5 hP hD hS => ?_)
  have hP : va_P D vwCl [(rd, .inr (3, [.ref sc, .ref dr, .int 0, .int 0, .int 0, .int (-1)])), (dr, .inr (2, [.int 1, .int 0, .int 0, .int 0, .int 0, .ref dr5, .ref dr6, .ref dr7, .ref dr8, .ref dr9, .ref dr10, .ref dr11, .ref dr12, .ref dr13])), (sc, .inr (5, [.ref tp, .int 0, .int 0, .int 21, .long 0, .int 0])), (tp, .inr (7, [.ref tb, .int 0]))] H := hP
  have hD : va_D A [(rd, .inr (3, [.ref sc, .ref dr, .int 0, .int 0, .int 0, .int (-1)])), (dr, .inr (2, [.int 1, .int 0, .int 0, .int 0, .int 0, .ref dr5, .ref dr6, .ref dr7, .ref dr8, .ref dr9, .ref dr10, .ref dr11, .ref dr12, .ref dr13])), (sc, .inr (5, [.ref tp, .int 0, .int 0, .int 21, .long 0, .int 0])), (tp, .inr (7, [.ref tb, .int 0]))] := hD
  refine lv_iconst (v := 0) hx hb dX3_read_41 (by decide +kernel) ?_
  refine lv_istore_n (lv' := [(2, .int 0), (0, .ref rd), (1, .ref dr)]) hx hb dX3_read_42 rfl hl (by decide +kernel) rfl (fun ls hl => ?_)
  refine lv_iload_n hx hb dX3_read_43 rfl (lv_at hl 0 rfl) ?_
  refine lv_sipush (v := 1700) hx hb dX3_read_44 (by decide +kernel) ?_
  refine lv_icmp_gt (tgt := 97) hx hb dX3_read_47 (by decide +kernel) (fun c_7 => absurd c_7 (by decide +kernel)) (fun c_7 => ?_)
  refine lv_aload_n hx hb dX3_read_50 rfl (lv_at hl 1 rfl) ?_
  refine va_get (D := D) (ci := 3) (v := .ref sc) (C := RX3) (T := TX3) (N := 6) hx hb hts iw_X3_read_3 hown hC.1 hP 0 rfl rfl 0 (by decide +kernel) (hts (.fieldLink RX3 23 "FairWheel$Reader" "scanner" "LFairWheel$Scanner;") (by decide +kernel)) (fun _ h9 => h9) rfl dX3_read_51 ?_
  refine va_get (D := D) (ci := 5) (v := .int 21) (C := RX5) (T := TX5) (N := 6) hx hb hts iw_X3_read_5 hown hC.1 hP 2 rfl rfl 3 (by decide +kernel) (hts (.fieldLink RX3 45 "FairWheel$Scanner" "code" "I") (by decide +kernel)) (fun _ h9 => h9) rfl dX3_read_54 ?_
  refine lv_bipush (v := 21) hx hb dX3_read_57 (by decide +kernel) ?_
  refine lv_icmp_eq (tgt := 97) hx hb dX3_read_59 (by decide +kernel) (fun c_8 => ?_) (fun c_8 => absurd (by decide +kernel) c_8)
  refine lv_iconst (v := 1) hx hb dX3_read_97 (by decide +kernel) ?_
  exact W.zret (v := 1) hx hb hr (rfl) (fun t ht hW => ⟨⟨1, (), rfl, rfl, by rw [ht]; exact hP.sub [0, 1, 2, 3] rfl, hDA (hD.sub [0, 1, 2, 3] (by decide +kernel) rfl)⟩, hS.F ht⟩) hS.2.2 dX3_read_98
set_option maxHeartbeats 4000000 in
set_option maxRecDepth 100000 in
theorem k_X9_begin_r (l : Launch) (D : va_G) (ca : Nat → ClassId) (sz : Nat) (h0 : Nat) (w2 : Nat) (w3 : Nat) (w4 : Nat) (w5 : Nat) (op : Nat) (pl : Nat) (pl5 : Nat) (pl6 : Nat) (pl7 : Nat) (pl8 : Nat) (pl9 : Nat) (pl10 : Nat) (pl11 : Nat) (pl12 : Nat) (pl13 : Nat) (fh : Nat → Int32) : Met l yX9_begin wsX9_begin ({ frames := 0, cells := 0, slots := 0, locals := 0 }) (PC [.ref h0, .ref pl] sz D ca [(h0, .inr (9, [.ref op, .int 0, .ref w2, .ref w3, .ref w4, .ref w5])), (pl, .inr (2, [.int 1, .int 0, .int 0, .int 0, .int 0, .ref pl5, .ref pl6, .ref pl7, .ref pl8, .ref pl9, .ref pl10, .ref pl11, .ref pl12, .ref pl13])), (w3, .inl (ca 1, 6, .inl fh))]) (QV (fun (u : (Nat → Int32)) => True) (fun (u : (Nat → Int32)) => [(h0, .inr (9, [.ref pl, .int 0, .ref w2, .ref w3, .ref w4, .ref w5])), (pl, .inr (2, [.int 1, .int 0, .int 0, .int 0, .int 0, .ref pl5, .ref pl6, .ref pl7, .ref pl8, .ref pl9, .ref pl10, .ref pl11, .ref pl12, .ref pl13])), (w3, .inl (ca 1, 6, .inl u))]) [(h0, .inr (9, [.ref op, .int 0, .ref w2, .ref w3, .ref w4, .ref w5])), (pl, .inr (2, [.int 1, .int 0, .int 0, .int 0, .int 0, .ref pl5, .ref pl6, .ref pl7, .ref pl8, .ref pl9, .ref pl10, .ref pl11, .ref pl12, .ref pl13])), (w3, .inl (ca 1, 6, .inl fh))] sz D) 0 0 (va_A [(h0, .inr (9, [.ref op, .int 0, .ref w2, .ref w3, .ref w4, .ref w5])), (pl, .inr (2, [.int 1, .int 0, .int 0, .int 0, .int 0, .ref pl5, .ref pl6, .ref pl7, .ref pl8, .ref pl9, .ref pl10, .ref pl11, .ref pl12, .ref pl13])), (w3, .inl (ca 1, 6, .inl fh))] sz) := by
  refine Met.ofW (cc := cX9_begin) (maxL := 3) (ret := none) (by decide +kernel) rfl ?_
  intro p e s m args below meth c s₁ B hml hv
  obtain ⟨rfl, hsz, hP, hC, hD0⟩ := hv
  have hx := B.exec
  have hb := B.bytes
  have hr := B.returns
  have hts := atoms_spec (ws := wsX9_begin) B.pre
  have hown : s.vm.findClass RX9 = some m.cls := findClass_of_methodNamed B.named
  have hlocks := B.notSynchronized
  subst hsz
  have hD := hD0.self (sz := s.heap.size)
  dsimp only [QV, QI, QL, BQ]
  generalize hAe : va_A [(h0, .inr (9, [.ref op, .int 0, .ref w2, .ref w3, .ref w4, .ref w5])), (pl, .inr (2, [.int 1, .int 0, .int 0, .int 0, .int 0, .ref pl5, .ref pl6, .ref pl7, .ref pl8, .ref pl9, .ref pl10, .ref pl11, .ref pl12, .ref pl13])), (w3, .inl (ca 1, 6, .inl fh))] s.heap.size = A at hD ⊢
  have hA : ∀ q : Nat, s.heap.size ≤ q → A q := fun q h => by rw [← hAe]; exact Or.inr h
  have hDA : ∀ {w : va_W}, va_D A w → va_D (va_A [(h0, .inr (9, [.ref op, .int 0, .ref w2, .ref w3, .ref w4, .ref w5])), (pl, .inr (2, [.int 1, .int 0, .int 0, .int 0, .int 0, .ref pl5, .ref pl6, .ref pl7, .ref pl8, .ref pl9, .ref pl10, .ref pl11, .ref pl12, .ref pl13])), (w3, .inl (ca 1, 6, .inl fh))] s.heap.size) w := fun h => by rw [hAe]; exact h
  have hS : va_S A s.heap s.heap [] := va_S.rf
  have hP : va_P D vwCl [(h0, .inr (9, [.ref op, .int 0, .ref w2, .ref w3, .ref w4, .ref w5])), (pl, .inr (2, [.int 1, .int 0, .int 0, .int 0, .int 0, .ref pl5, .ref pl6, .ref pl7, .ref pl8, .ref pl9, .ref pl10, .ref pl11, .ref pl12, .ref pl13])), (w3, .inl (ca 1, 6, .inl fh))] s.heap := hP
  have hl := lv_entry ([.ref h0, .ref pl]) (n := 3) (Nat.le_of_ble_eq_true rfl)
  rw [lg_entry_eq]
  generalize (lg_sl ([.ref h0, .ref pl]) ++ List.replicate (3 - (lg_sl ([.ref h0, .ref pl])).length) Slot.unset).toArray = ls at hl ⊢
  have hl : lv_has ls 3 [(0, .ref h0), (1, .ref pl)] := hl
  refine lv_aload_n hx hb dX9_begin_0 rfl (lv_at hl 0 rfl) ?_
  refine lv_aload_n hx hb dX9_begin_1 rfl (lv_at hl 1 rfl) ?_
  refine va_put (D := D) (ci := 9) (v := .ref pl) (ty := .object "FairWheel$Plan") (C := RX9) (T := TX9) (N := 6) hx hb hts iw_X9_begin_9 tyX9 tyX9_ok nmX9 hown hC.1 hP hD hS 0 rfl rfl 0 (by decide +kernel) (hts (.fieldLink RX9 33 "FairWheel$Wheel" "plan" "LFairWheel$Plan;") (by decide +kernel)) (fun _ h9 => h9) rfl (by decide +kernel) rfl rfl (Nat.le_of_ble_eq_true rfl) dX9_begin_2 (fun H locs hP hD hS => ?_)
  have hP : va_P D vwCl [(h0, .inr (9, [.ref pl, .int 0, .ref w2, .ref w3, .ref w4, .ref w5])), (pl, .inr (2, [.int 1, .int 0, .int 0, .int 0, .int 0, .ref pl5, .ref pl6, .ref pl7, .ref pl8, .ref pl9, .ref pl10, .ref pl11, .ref pl12, .ref pl13])), (w3, .inl (ca 1, 6, .inl fh))] H := hP
  have hD : va_D A [(h0, .inr (9, [.ref pl, .int 0, .ref w2, .ref w3, .ref w4, .ref w5])), (pl, .inr (2, [.int 1, .int 0, .int 0, .int 0, .int 0, .ref pl5, .ref pl6, .ref pl7, .ref pl8, .ref pl9, .ref pl10, .ref pl11, .ref pl12, .ref pl13])), (w3, .inl (ca 1, 6, .inl fh))] := hD
  refine lv_aload_n hx hb dX9_begin_5 rfl (lv_at hl 0 rfl) ?_
  refine lv_iconst (v := 0) hx hb dX9_begin_6 (by decide +kernel) ?_
  refine va_put (D := D) (ci := 9) (v := .int 0) (ty := .int) (C := RX9) (T := TX9) (N := 6) hx hb hts iw_X9_begin_9 tyX9 tyX9_ok nmX9 hown hC.1 hP hD hS 0 rfl rfl 1 (by decide +kernel) (hts (.fieldLink RX9 37 "FairWheel$Wheel" "now" "I") (by decide +kernel)) (fun _ h9 => h9) rfl (by decide +kernel) rfl rfl (Nat.le_of_ble_eq_true rfl) dX9_begin_7 (fun H locs hP hD hS => ?_)
  have hP : va_P D vwCl [(h0, .inr (9, [.ref pl, .int 0, .ref w2, .ref w3, .ref w4, .ref w5])), (pl, .inr (2, [.int 1, .int 0, .int 0, .int 0, .int 0, .ref pl5, .ref pl6, .ref pl7, .ref pl8, .ref pl9, .ref pl10, .ref pl11, .ref pl12, .ref pl13])), (w3, .inl (ca 1, 6, .inl fh))] H := hP
  have hD : va_D A [(h0, .inr (9, [.ref pl, .int 0, .ref w2, .ref w3, .ref w4, .ref w5])), (pl, .inr (2, [.int 1, .int 0, .int 0, .int 0, .int 0, .ref pl5, .ref pl6, .ref pl7, .ref pl8, .ref pl9, .ref pl10, .ref pl11, .ref pl12, .ref pl13])), (w3, .inl (ca 1, 6, .inl fh))] := hD
  refine lv_iconst (v := 0) hx hb dX9_begin_10 (by decide +kernel) ?_
  refine lv_istore_n (lv' := [(2, .int 0), (0, .ref h0), (1, .ref pl)]) hx hb dX9_begin_11 rfl hl (by decide +kernel) rfl (fun ls hl => ?_)
  refine lv_iload_n hx hb dX9_begin_12 rfl (lv_at hl 0 rfl) ?_
  refine lv_aload_n hx hb dX9_begin_13 rfl (lv_at hl 1 rfl) ?_
  refine va_get (D := D) (ci := 9) (v := .ref pl) (C := RX9) (T := TX9) (N := 6) hx hb hts iw_X9_begin_9 hown hC.1 hP 0 rfl rfl 0 (by decide +kernel) (hts (.fieldLink RX9 33 "FairWheel$Wheel" "plan" "LFairWheel$Plan;") (by decide +kernel)) (fun _ h9 => h9) rfl dX9_begin_14 ?_
  refine va_get (D := D) (ci := 2) (v := .int 0) (C := RX2) (T := TX2) (N := 14) hx hb hts iw_X9_begin_2 hown hC.1 hP 1 rfl rfl 3 (by decide +kernel) (hts (.fieldLink RX9 41 "FairWheel$Plan" "count" "I") (by decide +kernel)) (fun _ h9 => h9) rfl dX9_begin_17 ?_
  refine lv_icmp_ge (tgt := 77) hx hb dX9_begin_20 (by decide +kernel) (fun c_1 => ?_) (fun c_1 => absurd (by decide +kernel) c_1)
  refine lv_iconst (v := 0) hx hb dX9_begin_77 (by decide +kernel) ?_
  refine lv_istore_n (lv' := [(2, .int 0), (0, .ref h0), (1, .ref pl)]) hx hb dX9_begin_78 rfl hl (by decide +kernel) rfl (fun ls hl => ?_)
  refine lv_iload_n hx hb dX9_begin_79 rfl (lv_at hl 0 rfl) ?_
  refine lv_bipush (v := 6) hx hb dX9_begin_80 (by decide +kernel) ?_
  refine lv_icmp_ge (tgt := 98) hx hb dX9_begin_82 (by decide +kernel) (fun c_2 => absurd c_2 (by decide +kernel)) (fun c_2 => ?_)
  refine lv_aload_n hx hb dX9_begin_85 rfl (lv_at hl 1 rfl) ?_
  refine va_get (D := D) (ci := 9) (v := .ref w3) (C := RX9) (T := TX9) (N := 6) hx hb hts iw_X9_begin_9 hown hC.1 hP 0 rfl rfl 3 (by decide +kernel) (hts (.fieldLink RX9 17 "FairWheel$Wheel" "holders" "[I") (by decide +kernel)) (fun _ h9 => h9) rfl dX9_begin_86 ?_
  refine lv_iload_n hx hb dX9_begin_89 rfl (lv_at hl 0 rfl) ?_
  refine lv_iconst (v := (-1)) hx hb dX9_begin_90 (by decide +kernel) ?_
  refine ka_iast hx hb hC.1 hP hD hS 2 1 rfl rfl 0 rfl (by decide +kernel) (by decide +kernel) dX9_begin_91 (fun H locs hP hD hS => ?_)
  have hP : va_P D vwCl [(h0, .inr (9, [.ref pl, .int 0, .ref w2, .ref w3, .ref w4, .ref w5])), (pl, .inr (2, [.int 1, .int 0, .int 0, .int 0, .int 0, .ref pl5, .ref pl6, .ref pl7, .ref pl8, .ref pl9, .ref pl10, .ref pl11, .ref pl12, .ref pl13])), (w3, .inl (ca 1, 6, .inl (upd fh 0 (-1))))] H := hP
  have hD : va_D A [(h0, .inr (9, [.ref pl, .int 0, .ref w2, .ref w3, .ref w4, .ref w5])), (pl, .inr (2, [.int 1, .int 0, .int 0, .int 0, .int 0, .ref pl5, .ref pl6, .ref pl7, .ref pl8, .ref pl9, .ref pl10, .ref pl11, .ref pl12, .ref pl13])), (w3, .inl (ca 1, 6, .inl (upd fh 0 (-1))))] := hD
  refine lv_iinc (v := 1) (lv' := [(2, .int 1), (0, .ref h0), (1, .ref pl)]) hx hb dX9_begin_92 hl (k := 0) rfl (by decide +kernel) (by decide +kernel) rfl (fun ls hl => ?_)
  refine lv_goto (tgt := 79) hx hb dX9_begin_95 (by decide +kernel) ?_
  refine lv_iload_n hx hb dX9_begin_79 rfl (lv_at hl 0 rfl) ?_
  refine lv_bipush (v := 6) hx hb dX9_begin_80 (by decide +kernel) ?_
  refine lv_icmp_ge (tgt := 98) hx hb dX9_begin_82 (by decide +kernel) (fun c_3 => absurd c_3 (by decide +kernel)) (fun c_3 => ?_)
  refine lv_aload_n hx hb dX9_begin_85 rfl (lv_at hl 1 rfl) ?_
  refine va_get (D := D) (ci := 9) (v := .ref w3) (C := RX9) (T := TX9) (N := 6) hx hb hts iw_X9_begin_9 hown hC.1 hP 0 rfl rfl 3 (by decide +kernel) (hts (.fieldLink RX9 17 "FairWheel$Wheel" "holders" "[I") (by decide +kernel)) (fun _ h9 => h9) rfl dX9_begin_86 ?_
  refine lv_iload_n hx hb dX9_begin_89 rfl (lv_at hl 0 rfl) ?_
  refine lv_iconst (v := (-1)) hx hb dX9_begin_90 (by decide +kernel) ?_
  refine ka_iast hx hb hC.1 hP hD hS 2 1 rfl rfl 1 rfl (by decide +kernel) (by decide +kernel) dX9_begin_91 (fun H locs hP hD hS => ?_)
  have hP : va_P D vwCl [(h0, .inr (9, [.ref pl, .int 0, .ref w2, .ref w3, .ref w4, .ref w5])), (pl, .inr (2, [.int 1, .int 0, .int 0, .int 0, .int 0, .ref pl5, .ref pl6, .ref pl7, .ref pl8, .ref pl9, .ref pl10, .ref pl11, .ref pl12, .ref pl13])), (w3, .inl (ca 1, 6, .inl (upd (upd fh 0 (-1)) 1 (-1))))] H := hP
  have hD : va_D A [(h0, .inr (9, [.ref pl, .int 0, .ref w2, .ref w3, .ref w4, .ref w5])), (pl, .inr (2, [.int 1, .int 0, .int 0, .int 0, .int 0, .ref pl5, .ref pl6, .ref pl7, .ref pl8, .ref pl9, .ref pl10, .ref pl11, .ref pl12, .ref pl13])), (w3, .inl (ca 1, 6, .inl (upd (upd fh 0 (-1)) 1 (-1))))] := hD
  refine lv_iinc (v := 2) (lv' := [(2, .int 2), (0, .ref h0), (1, .ref pl)]) hx hb dX9_begin_92 hl (k := 0) rfl (by decide +kernel) (by decide +kernel) rfl (fun ls hl => ?_)
  refine lv_goto (tgt := 79) hx hb dX9_begin_95 (by decide +kernel) ?_
  refine lv_iload_n hx hb dX9_begin_79 rfl (lv_at hl 0 rfl) ?_
  refine lv_bipush (v := 6) hx hb dX9_begin_80 (by decide +kernel) ?_
  refine lv_icmp_ge (tgt := 98) hx hb dX9_begin_82 (by decide +kernel) (fun c_4 => absurd c_4 (by decide +kernel)) (fun c_4 => ?_)
  refine lv_aload_n hx hb dX9_begin_85 rfl (lv_at hl 1 rfl) ?_
  refine va_get (D := D) (ci := 9) (v := .ref w3) (C := RX9) (T := TX9) (N := 6) hx hb hts iw_X9_begin_9 hown hC.1 hP 0 rfl rfl 3 (by decide +kernel) (hts (.fieldLink RX9 17 "FairWheel$Wheel" "holders" "[I") (by decide +kernel)) (fun _ h9 => h9) rfl dX9_begin_86 ?_
  refine lv_iload_n hx hb dX9_begin_89 rfl (lv_at hl 0 rfl) ?_
  refine lv_iconst (v := (-1)) hx hb dX9_begin_90 (by decide +kernel) ?_
  refine ka_iast hx hb hC.1 hP hD hS 2 1 rfl rfl 2 rfl (by decide +kernel) (by decide +kernel) dX9_begin_91 (fun H locs hP hD hS => ?_)
  have hP : va_P D vwCl [(h0, .inr (9, [.ref pl, .int 0, .ref w2, .ref w3, .ref w4, .ref w5])), (pl, .inr (2, [.int 1, .int 0, .int 0, .int 0, .int 0, .ref pl5, .ref pl6, .ref pl7, .ref pl8, .ref pl9, .ref pl10, .ref pl11, .ref pl12, .ref pl13])), (w3, .inl (ca 1, 6, .inl (upd (upd (upd fh 0 (-1)) 1 (-1)) 2 (-1))))] H := hP
  have hD : va_D A [(h0, .inr (9, [.ref pl, .int 0, .ref w2, .ref w3, .ref w4, .ref w5])), (pl, .inr (2, [.int 1, .int 0, .int 0, .int 0, .int 0, .ref pl5, .ref pl6, .ref pl7, .ref pl8, .ref pl9, .ref pl10, .ref pl11, .ref pl12, .ref pl13])), (w3, .inl (ca 1, 6, .inl (upd (upd (upd fh 0 (-1)) 1 (-1)) 2 (-1))))] := hD
  refine lv_iinc (v := 3) (lv' := [(2, .int 3), (0, .ref h0), (1, .ref pl)]) hx hb dX9_begin_92 hl (k := 0) rfl (by decide +kernel) (by decide +kernel) rfl (fun ls hl => ?_)
  refine lv_goto (tgt := 79) hx hb dX9_begin_95 (by decide +kernel) ?_
  refine lv_iload_n hx hb dX9_begin_79 rfl (lv_at hl 0 rfl) ?_
  refine lv_bipush (v := 6) hx hb dX9_begin_80 (by decide +kernel) ?_
  refine lv_icmp_ge (tgt := 98) hx hb dX9_begin_82 (by decide +kernel) (fun c_5 => absurd c_5 (by decide +kernel)) (fun c_5 => ?_)
  refine lv_aload_n hx hb dX9_begin_85 rfl (lv_at hl 1 rfl) ?_
  refine va_get (D := D) (ci := 9) (v := .ref w3) (C := RX9) (T := TX9) (N := 6) hx hb hts iw_X9_begin_9 hown hC.1 hP 0 rfl rfl 3 (by decide +kernel) (hts (.fieldLink RX9 17 "FairWheel$Wheel" "holders" "[I") (by decide +kernel)) (fun _ h9 => h9) rfl dX9_begin_86 ?_
  refine lv_iload_n hx hb dX9_begin_89 rfl (lv_at hl 0 rfl) ?_
  refine lv_iconst (v := (-1)) hx hb dX9_begin_90 (by decide +kernel) ?_
  refine ka_iast hx hb hC.1 hP hD hS 2 1 rfl rfl 3 rfl (by decide +kernel) (by decide +kernel) dX9_begin_91 (fun H locs hP hD hS => ?_)
  have hP : va_P D vwCl [(h0, .inr (9, [.ref pl, .int 0, .ref w2, .ref w3, .ref w4, .ref w5])), (pl, .inr (2, [.int 1, .int 0, .int 0, .int 0, .int 0, .ref pl5, .ref pl6, .ref pl7, .ref pl8, .ref pl9, .ref pl10, .ref pl11, .ref pl12, .ref pl13])), (w3, .inl (ca 1, 6, .inl (upd (upd (upd (upd fh 0 (-1)) 1 (-1)) 2 (-1)) 3 (-1))))] H := hP
  have hD : va_D A [(h0, .inr (9, [.ref pl, .int 0, .ref w2, .ref w3, .ref w4, .ref w5])), (pl, .inr (2, [.int 1, .int 0, .int 0, .int 0, .int 0, .ref pl5, .ref pl6, .ref pl7, .ref pl8, .ref pl9, .ref pl10, .ref pl11, .ref pl12, .ref pl13])), (w3, .inl (ca 1, 6, .inl (upd (upd (upd (upd fh 0 (-1)) 1 (-1)) 2 (-1)) 3 (-1))))] := hD
  refine lv_iinc (v := 4) (lv' := [(2, .int 4), (0, .ref h0), (1, .ref pl)]) hx hb dX9_begin_92 hl (k := 0) rfl (by decide +kernel) (by decide +kernel) rfl (fun ls hl => ?_)
  refine lv_goto (tgt := 79) hx hb dX9_begin_95 (by decide +kernel) ?_
  refine lv_iload_n hx hb dX9_begin_79 rfl (lv_at hl 0 rfl) ?_
  refine lv_bipush (v := 6) hx hb dX9_begin_80 (by decide +kernel) ?_
  refine lv_icmp_ge (tgt := 98) hx hb dX9_begin_82 (by decide +kernel) (fun c_6 => absurd c_6 (by decide +kernel)) (fun c_6 => ?_)
  refine lv_aload_n hx hb dX9_begin_85 rfl (lv_at hl 1 rfl) ?_
  refine va_get (D := D) (ci := 9) (v := .ref w3) (C := RX9) (T := TX9) (N := 6) hx hb hts iw_X9_begin_9 hown hC.1 hP 0 rfl rfl 3 (by decide +kernel) (hts (.fieldLink RX9 17 "FairWheel$Wheel" "holders" "[I") (by decide +kernel)) (fun _ h9 => h9) rfl dX9_begin_86 ?_
  refine lv_iload_n hx hb dX9_begin_89 rfl (lv_at hl 0 rfl) ?_
  refine lv_iconst (v := (-1)) hx hb dX9_begin_90 (by decide +kernel) ?_
  refine ka_iast hx hb hC.1 hP hD hS 2 1 rfl rfl 4 rfl (by decide +kernel) (by decide +kernel) dX9_begin_91 (fun H locs hP hD hS => ?_)
  have hP : va_P D vwCl [(h0, .inr (9, [.ref pl, .int 0, .ref w2, .ref w3, .ref w4, .ref w5])), (pl, .inr (2, [.int 1, .int 0, .int 0, .int 0, .int 0, .ref pl5, .ref pl6, .ref pl7, .ref pl8, .ref pl9, .ref pl10, .ref pl11, .ref pl12, .ref pl13])), (w3, .inl (ca 1, 6, .inl (upd (upd (upd (upd (upd fh 0 (-1)) 1 (-1)) 2 (-1)) 3 (-1)) 4 (-1))))] H := hP
  have hD : va_D A [(h0, .inr (9, [.ref pl, .int 0, .ref w2, .ref w3, .ref w4, .ref w5])), (pl, .inr (2, [.int 1, .int 0, .int 0, .int 0, .int 0, .ref pl5, .ref pl6, .ref pl7, .ref pl8, .ref pl9, .ref pl10, .ref pl11, .ref pl12, .ref pl13])), (w3, .inl (ca 1, 6, .inl (upd (upd (upd (upd (upd fh 0 (-1)) 1 (-1)) 2 (-1)) 3 (-1)) 4 (-1))))] := hD
  refine lv_iinc (v := 5) (lv' := [(2, .int 5), (0, .ref h0), (1, .ref pl)]) hx hb dX9_begin_92 hl (k := 0) rfl (by decide +kernel) (by decide +kernel) rfl (fun ls hl => ?_)
  refine lv_goto (tgt := 79) hx hb dX9_begin_95 (by decide +kernel) ?_
  refine lv_iload_n hx hb dX9_begin_79 rfl (lv_at hl 0 rfl) ?_
  refine lv_bipush (v := 6) hx hb dX9_begin_80 (by decide +kernel) ?_
  refine lv_icmp_ge (tgt := 98) hx hb dX9_begin_82 (by decide +kernel) (fun c_7 => absurd c_7 (by decide +kernel)) (fun c_7 => ?_)
  refine lv_aload_n hx hb dX9_begin_85 rfl (lv_at hl 1 rfl) ?_
  refine va_get (D := D) (ci := 9) (v := .ref w3) (C := RX9) (T := TX9) (N := 6) hx hb hts iw_X9_begin_9 hown hC.1 hP 0 rfl rfl 3 (by decide +kernel) (hts (.fieldLink RX9 17 "FairWheel$Wheel" "holders" "[I") (by decide +kernel)) (fun _ h9 => h9) rfl dX9_begin_86 ?_
  refine lv_iload_n hx hb dX9_begin_89 rfl (lv_at hl 0 rfl) ?_
  refine lv_iconst (v := (-1)) hx hb dX9_begin_90 (by decide +kernel) ?_
  refine ka_iast hx hb hC.1 hP hD hS 2 1 rfl rfl 5 rfl (by decide +kernel) (by decide +kernel) dX9_begin_91 (fun H locs hP hD hS => ?_)
  have hP : va_P D vwCl [(h0, .inr (9, [.ref pl, .int 0, .ref w2, .ref w3, .ref w4, .ref w5])), (pl, .inr (2, [.int 1, .int 0, .int 0, .int 0, .int 0, .ref pl5, .ref pl6, .ref pl7, .ref pl8, .ref pl9, .ref pl10, .ref pl11, .ref pl12, .ref pl13])), (w3, .inl (ca 1, 6, .inl (upd (upd (upd (upd (upd (upd fh 0 (-1)) 1 (-1)) 2 (-1)) 3 (-1)) 4 (-1)) 5 (-1))))] H := hP
  have hD : va_D A [(h0, .inr (9, [.ref pl, .int 0, .ref w2, .ref w3, .ref w4, .ref w5])), (pl, .inr (2, [.int 1, .int 0, .int 0, .int 0, .int 0, .ref pl5, .ref pl6, .ref pl7, .ref pl8, .ref pl9, .ref pl10, .ref pl11, .ref pl12, .ref pl13])), (w3, .inl (ca 1, 6, .inl (upd (upd (upd (upd (upd (upd fh 0 (-1)) 1 (-1)) 2 (-1)) 3 (-1)) 4 (-1)) 5 (-1))))] := hD
  refine lv_iinc (v := 6) (lv' := [(2, .int 6), (0, .ref h0), (1, .ref pl)]) hx hb dX9_begin_92 hl (k := 0) rfl (by decide +kernel) (by decide +kernel) rfl (fun ls hl => ?_)
  refine lv_goto (tgt := 79) hx hb dX9_begin_95 (by decide +kernel) ?_
  refine lv_iload_n hx hb dX9_begin_79 rfl (lv_at hl 0 rfl) ?_
  refine lv_bipush (v := 6) hx hb dX9_begin_80 (by decide +kernel) ?_
  refine lv_icmp_ge (tgt := 98) hx hb dX9_begin_82 (by decide +kernel) (fun c_8 => ?_) (fun c_8 => absurd (by decide +kernel) c_8)
  exact W.vret hx hb hr (fun t ht hW => ⟨⟨(upd (upd (upd (upd (upd (upd fh 0 (-1)) 1 (-1)) 2 (-1)) 3 (-1)) 4 (-1)) 5 (-1)), rfl, trivial, by rw [ht]; exact hP.sub [0, 1, 2] rfl, hDA (hD.sub [0, 1, 2] (by decide +kernel) rfl)⟩, hS.F ht⟩) hS.2.2 dX9_begin_98
theorem iw_X10_kernel_0 : ∀ w ∈ u_ws RX0 TX0 3, w ∈ wsX10_kernel := by decide +kernel
theorem iw_X10_kernel_1 : ∀ w ∈ u_ws RX1 TX1 4, w ∈ wsX10_kernel := by decide +kernel
theorem iw_X10_kernel_2 : ∀ w ∈ u_ws RX2 TX2 14, w ∈ wsX10_kernel := by decide +kernel
theorem iw_X10_kernel_6 : ∀ w ∈ u_ws RX6 TX6 6, w ∈ wsX10_kernel := by decide +kernel
theorem iw_X10_kernel_7 : ∀ w ∈ u_ws RX7 TX7 2, w ∈ wsX10_kernel := by decide +kernel
theorem iw_X10_kernel_10 : ∀ w ∈ u_ws RX10 TX10 12, w ∈ wsX10_kernel := by decide +kernel
set_option maxHeartbeats 4000000 in
set_option maxRecDepth 100000 in
theorem k_X10_kernel (l : Launch) (D : va_G) (ca : Nat → ClassId) (sz : Nat) (h0 : Nat) (tp : Nat) (rd : Nat) (lv : Nat) (tr : Nat) (rw : Nat) (bx : Nat) (ch : Nat) (sg : Nat) (dg : Nat) (pl : Nat) (dr : Nat) (sc : Nat) (tb : Nat) (dr5 : Nat) (dr6 : Nat) (dr7 : Nat) (dr8 : Nat) (dr9 : Nat) (dr10 : Nat) (dr11 : Nat) (dr12 : Nat) (dr13 : Nat) (w2 : Nat) (w3 : Nat) (w4 : Nat) (w5 : Nat) (fh : Nat → Int32) (b0 : Nat) (b1 : Nat) (b2 : Nat) (b0w : Nat) (b0r : Nat) (b1w : Nat) (b1r : Nat) (b2w : Nat) (b2r : Nat) (c1 : Nat) (c2 : Nat) (c3 : Nat) (g1 : Nat) (g2 : Nat) (g3 : Nat) (g4 : Nat) (g5 : Nat) : Met l yX10_kernel wsX10_kernel ({ frames := 3, cells := 0, slots := 0, locals := 65 }) (PC [.ref h0] sz D ca [(h0, .inr (10, [.ref tp, .ref rd, .ref lv, .ref tr, .ref rw, .ref bx, .ref ch, .ref sg, .ref dg, .ref pl, .ref dr, .int 0])), (rd, .inr (3, [.ref sc, .ref dr, .int 0, .int 0, .int 0, .int (-1)])), (sc, .inr (5, [.ref tp, .int 0, .int 0, .int 0, .long 0, .int 0])), (tp, .inr (7, [.ref tb, .int 0])), (dr, .inr (2, [.int 1, .int 0, .int 0, .int 0, .int 0, .ref dr5, .ref dr6, .ref dr7, .ref dr8, .ref dr9, .ref dr10, .ref dr11, .ref dr12, .ref dr13])), (lv, .inr (9, [.ref pl, .int 0, .ref w2, .ref w3, .ref w4, .ref w5])), (w3, .inl (ca 1, 6, .inl fh)), (bx, .inl (ca 4, 3, .inr (.inr (.inr (.inr (va_up (va_up (va_up (fun _ => none) 0 (some b0)) 1 (some b1)) 2 (some b2))))))), (b0, .inr (0, [.ref b0w, .ref b0r, .int 0])), (b1, .inr (0, [.ref b1w, .ref b1r, .int 0])), (b2, .inr (0, [.ref b2w, .ref b2r, .int 0])), (ch, .inr (1, [.int 0, .ref c1, .ref c2, .ref c3])), (sg, .inr (6, [.int 0, .ref g1, .ref g2, .ref g3, .ref g4, .ref g5]))]) (QI (fun (r : Int32) (u : Unit) => r = 0) (fun (_ : Unit) => []) [(h0, .inr (10, [.ref tp, .ref rd, .ref lv, .ref tr, .ref rw, .ref bx, .ref ch, .ref sg, .ref dg, .ref pl, .ref dr, .int 0])), (rd, .inr (3, [.ref sc, .ref dr, .int 0, .int 0, .int 0, .int (-1)])), (sc, .inr (5, [.ref tp, .int 0, .int 0, .int 0, .long 0, .int 0])), (tp, .inr (7, [.ref tb, .int 0])), (dr, .inr (2, [.int 1, .int 0, .int 0, .int 0, .int 0, .ref dr5, .ref dr6, .ref dr7, .ref dr8, .ref dr9, .ref dr10, .ref dr11, .ref dr12, .ref dr13])), (lv, .inr (9, [.ref pl, .int 0, .ref w2, .ref w3, .ref w4, .ref w5])), (w3, .inl (ca 1, 6, .inl fh)), (bx, .inl (ca 4, 3, .inr (.inr (.inr (.inr (va_up (va_up (va_up (fun _ => none) 0 (some b0)) 1 (some b1)) 2 (some b2))))))), (b0, .inr (0, [.ref b0w, .ref b0r, .int 0])), (b1, .inr (0, [.ref b1w, .ref b1r, .int 0])), (b2, .inr (0, [.ref b2w, .ref b2r, .int 0])), (ch, .inr (1, [.int 0, .ref c1, .ref c2, .ref c3])), (sg, .inr (6, [.int 0, .ref g1, .ref g2, .ref g3, .ref g4, .ref g5]))] sz D) 0 0 (va_A [(h0, .inr (10, [.ref tp, .ref rd, .ref lv, .ref tr, .ref rw, .ref bx, .ref ch, .ref sg, .ref dg, .ref pl, .ref dr, .int 0])), (rd, .inr (3, [.ref sc, .ref dr, .int 0, .int 0, .int 0, .int (-1)])), (sc, .inr (5, [.ref tp, .int 0, .int 0, .int 0, .long 0, .int 0])), (tp, .inr (7, [.ref tb, .int 0])), (dr, .inr (2, [.int 1, .int 0, .int 0, .int 0, .int 0, .ref dr5, .ref dr6, .ref dr7, .ref dr8, .ref dr9, .ref dr10, .ref dr11, .ref dr12, .ref dr13])), (lv, .inr (9, [.ref pl, .int 0, .ref w2, .ref w3, .ref w4, .ref w5])), (w3, .inl (ca 1, 6, .inl fh)), (bx, .inl (ca 4, 3, .inr (.inr (.inr (.inr (va_up (va_up (va_up (fun _ => none) 0 (some b0)) 1 (some b1)) 2 (some b2))))))), (b0, .inr (0, [.ref b0w, .ref b0r, .int 0])), (b1, .inr (0, [.ref b1w, .ref b1r, .int 0])), (b2, .inr (0, [.ref b2w, .ref b2r, .int 0])), (ch, .inr (1, [.int 0, .ref c1, .ref c2, .ref c3])), (sg, .inr (6, [.int 0, .ref g1, .ref g2, .ref g3, .ref g4, .ref g5]))] sz) := by
  refine Met.ofW (cc := cX10_kernel) (maxL := 3) (ret := (some .int)) (by decide +kernel) rfl ?_
  intro p e s m args below meth c s₁ B hml hv
  obtain ⟨rfl, hsz, hP, hC, hD0⟩ := hv
  have hx := B.exec
  have hb := B.bytes
  have hr := B.returns
  have hts := atoms_spec (ws := wsX10_kernel) B.pre
  have hown : s.vm.findClass RX10 = some m.cls := findClass_of_methodNamed B.named
  have hlocks := B.notSynchronized
  subst hsz
  have hD := hD0.self (sz := s.heap.size)
  dsimp only [QV, QI, QL, BQ]
  generalize hAe : va_A [(h0, .inr (10, [.ref tp, .ref rd, .ref lv, .ref tr, .ref rw, .ref bx, .ref ch, .ref sg, .ref dg, .ref pl, .ref dr, .int 0])), (rd, .inr (3, [.ref sc, .ref dr, .int 0, .int 0, .int 0, .int (-1)])), (sc, .inr (5, [.ref tp, .int 0, .int 0, .int 0, .long 0, .int 0])), (tp, .inr (7, [.ref tb, .int 0])), (dr, .inr (2, [.int 1, .int 0, .int 0, .int 0, .int 0, .ref dr5, .ref dr6, .ref dr7, .ref dr8, .ref dr9, .ref dr10, .ref dr11, .ref dr12, .ref dr13])), (lv, .inr (9, [.ref pl, .int 0, .ref w2, .ref w3, .ref w4, .ref w5])), (w3, .inl (ca 1, 6, .inl fh)), (bx, .inl (ca 4, 3, .inr (.inr (.inr (.inr (va_up (va_up (va_up (fun _ => none) 0 (some b0)) 1 (some b1)) 2 (some b2))))))), (b0, .inr (0, [.ref b0w, .ref b0r, .int 0])), (b1, .inr (0, [.ref b1w, .ref b1r, .int 0])), (b2, .inr (0, [.ref b2w, .ref b2r, .int 0])), (ch, .inr (1, [.int 0, .ref c1, .ref c2, .ref c3])), (sg, .inr (6, [.int 0, .ref g1, .ref g2, .ref g3, .ref g4, .ref g5]))] s.heap.size = A at hD ⊢
  have hA : ∀ q : Nat, s.heap.size ≤ q → A q := fun q h => by rw [← hAe]; exact Or.inr h
  have hDA : ∀ {w : va_W}, va_D A w → va_D (va_A [(h0, .inr (10, [.ref tp, .ref rd, .ref lv, .ref tr, .ref rw, .ref bx, .ref ch, .ref sg, .ref dg, .ref pl, .ref dr, .int 0])), (rd, .inr (3, [.ref sc, .ref dr, .int 0, .int 0, .int 0, .int (-1)])), (sc, .inr (5, [.ref tp, .int 0, .int 0, .int 0, .long 0, .int 0])), (tp, .inr (7, [.ref tb, .int 0])), (dr, .inr (2, [.int 1, .int 0, .int 0, .int 0, .int 0, .ref dr5, .ref dr6, .ref dr7, .ref dr8, .ref dr9, .ref dr10, .ref dr11, .ref dr12, .ref dr13])), (lv, .inr (9, [.ref pl, .int 0, .ref w2, .ref w3, .ref w4, .ref w5])), (w3, .inl (ca 1, 6, .inl fh)), (bx, .inl (ca 4, 3, .inr (.inr (.inr (.inr (va_up (va_up (va_up (fun _ => none) 0 (some b0)) 1 (some b1)) 2 (some b2))))))), (b0, .inr (0, [.ref b0w, .ref b0r, .int 0])), (b1, .inr (0, [.ref b1w, .ref b1r, .int 0])), (b2, .inr (0, [.ref b2w, .ref b2r, .int 0])), (ch, .inr (1, [.int 0, .ref c1, .ref c2, .ref c3])), (sg, .inr (6, [.int 0, .ref g1, .ref g2, .ref g3, .ref g4, .ref g5]))] s.heap.size) w := fun h => by rw [hAe]; exact h
  have hS : va_S A s.heap s.heap [] := va_S.rf
  have hP : va_P D vwCl [(h0, .inr (10, [.ref tp, .ref rd, .ref lv, .ref tr, .ref rw, .ref bx, .ref ch, .ref sg, .ref dg, .ref pl, .ref dr, .int 0])), (rd, .inr (3, [.ref sc, .ref dr, .int 0, .int 0, .int 0, .int (-1)])), (sc, .inr (5, [.ref tp, .int 0, .int 0, .int 0, .long 0, .int 0])), (tp, .inr (7, [.ref tb, .int 0])), (dr, .inr (2, [.int 1, .int 0, .int 0, .int 0, .int 0, .ref dr5, .ref dr6, .ref dr7, .ref dr8, .ref dr9, .ref dr10, .ref dr11, .ref dr12, .ref dr13])), (lv, .inr (9, [.ref pl, .int 0, .ref w2, .ref w3, .ref w4, .ref w5])), (w3, .inl (ca 1, 6, .inl fh)), (bx, .inl (ca 4, 3, .inr (.inr (.inr (.inr (va_up (va_up (va_up (fun _ => none) 0 (some b0)) 1 (some b1)) 2 (some b2))))))), (b0, .inr (0, [.ref b0w, .ref b0r, .int 0])), (b1, .inr (0, [.ref b1w, .ref b1r, .int 0])), (b2, .inr (0, [.ref b2w, .ref b2r, .int 0])), (ch, .inr (1, [.int 0, .ref c1, .ref c2, .ref c3])), (sg, .inr (6, [.int 0, .ref g1, .ref g2, .ref g3, .ref g4, .ref g5]))] s.heap := hP
  have hl := lv_entry ([.ref h0]) (n := 3) (Nat.le_of_ble_eq_true rfl)
  rw [lg_entry_eq]
  generalize (lg_sl ([.ref h0]) ++ List.replicate (3 - (lg_sl ([.ref h0])).length) Slot.unset).toArray = ls at hl ⊢
  have hl : lv_has ls 3 [(0, .ref h0)] := hl
  refine lv_aload_n hx hb dX10_kernel_0 rfl (lv_at hl 0 rfl) ?_
  refine va_get (D := D) (ci := 10) (v := .ref rd) (C := RX10) (T := TX10) (N := 12) hx hb hts iw_X10_kernel_10 hown hC.1 hP 0 rfl rfl 1 (by decide +kernel) (hts (.fieldLink RX10 31 "FairWheel" "reader" "LFairWheel$Reader;") (by decide +kernel)) (fun _ h9 => h9) rfl dX10_kernel_1 ?_
  refine lv_aload_n hx hb dX10_kernel_4 rfl (lv_at hl 0 rfl) ?_
  refine va_get (D := D) (ci := 10) (v := .ref dr) (C := RX10) (T := TX10) (N := 12) hx hb hts iw_X10_kernel_10 hown hC.1 hP 0 rfl rfl 10 (by decide +kernel) (hts (.fieldLink RX10 23 "FairWheel" "draft" "LFairWheel$Plan;") (by decide +kernel)) (fun _ h9 => h9) rfl dX10_kernel_5 ?_
  refine kc_i (wr := [(h0, .inr (10, [.ref tp, .ref rd, .ref lv, .ref tr, .ref rw, .ref bx, .ref ch, .ref sg, .ref dg, .ref pl, .ref dr, .int 0])), (lv, .inr (9, [.ref pl, .int 0, .ref w2, .ref w3, .ref w4, .ref w5])), (w3, .inl (ca 1, 6, .inl fh)), (bx, .inl (ca 4, 3, .inr (.inr (.inr (.inr (va_up (va_up (va_up (fun _ => none) 0 (some b0)) 1 (some b1)) 2 (some b2))))))), (b0, .inr (0, [.ref b0w, .ref b0r, .int 0])), (b1, .inr (0, [.ref b1w, .ref b1r, .int 0])), (b2, .inr (0, [.ref b2w, .ref b2r, .int 0])), (ch, .inr (1, [.int 0, .ref c1, .ref c2, .ref c3])), (sg, .inr (6, [.int 0, .ref g1, .ref g2, .ref g3, .ref g4, .ref g5]))]) (va_runV (As := [.ref dr]) (rest := []) ⟨hx, hb, hml, hown, hts⟩ (k_X3_read l D ca s.heap.size rd sc tp tb dr dr5 dr6 dr7 dr8 dr9 dr10 dr11 dr12 dr13) (cwV 1 hts gX10_kernel_X3_read rfl rfl rfl (by decide +kernel) ⟨(Nat.le_of_ble_eq_true rfl), (Nat.le_of_ble_eq_true rfl)⟩) (PC.preV (ci := 3) hC hP hD [1, 4, 2, 3] rfl (by decide +kernel) rfl rfl) rfl rfl hl.1 rfl (lv_room (Nat.le_of_ble_eq_true rfl)) dX10_kernel_8 ⟨(Nat.le_of_ble_eq_true rfl), (Nat.le_of_ble_eq_true rfl)⟩) hP hD hS hA [1, 4, 2, 3] [0, 5, 6, 7, 8, 9, 10, 11, 12] rfl rfl (by decide +kernel) (by decide +kernel) (fun r_1 u_3 H locs hw_2 hP hD hS => ?_)
  subst hw_2
  have hP : va_P D vwCl [(h0, .inr (10, [.ref tp, .ref rd, .ref lv, .ref tr, .ref rw, .ref bx, .ref ch, .ref sg, .ref dg, .ref pl, .ref dr, .int 0])), (lv, .inr (9, [.ref pl, .int 0, .ref w2, .ref w3, .ref w4, .ref w5])), (w3, .inl (ca 1, 6, .inl fh)), (bx, .inl (ca 4, 3, .inr (.inr (.inr (.inr (va_up (va_up (va_up (fun _ => none) 0 (some b0)) 1 (some b1)) 2 (some b2))))))), (b0, .inr (0, [.ref b0w, .ref b0r, .int 0])), (b1, .inr (0, [.ref b1w, .ref b1r, .int 0])), (b2, .inr (0, [.ref b2w, .ref b2r, .int 0])), (ch, .inr (1, [.int 0, .ref c1, .ref c2, .ref c3])), (sg, .inr (6, [.int 0, .ref g1, .ref g2, .ref g3, .ref g4, .ref g5])), (rd, .inr (3, [.ref sc, .ref dr, .int 0, .int 0, .int 0, .int (-1)])), (dr, .inr (2, [.int 1, .int 0, .int 0, .int 0, .int 0, .ref dr5, .ref dr6, .ref dr7, .ref dr8, .ref dr9, .ref dr10, .ref dr11, .ref dr12, .ref dr13])), (sc, .inr (5, [.ref tp, .int 0, .int 0, .int 21, .long 0, .int 0])), (tp, .inr (7, [.ref tb, .int 0]))] H := hP
  have hD : va_D A [(h0, .inr (10, [.ref tp, .ref rd, .ref lv, .ref tr, .ref rw, .ref bx, .ref ch, .ref sg, .ref dg, .ref pl, .ref dr, .int 0])), (lv, .inr (9, [.ref pl, .int 0, .ref w2, .ref w3, .ref w4, .ref w5])), (w3, .inl (ca 1, 6, .inl fh)), (bx, .inl (ca 4, 3, .inr (.inr (.inr (.inr (va_up (va_up (va_up (fun _ => none) 0 (some b0)) 1 (some b1)) 2 (some b2))))))), (b0, .inr (0, [.ref b0w, .ref b0r, .int 0])), (b1, .inr (0, [.ref b1w, .ref b1r, .int 0])), (b2, .inr (0, [.ref b2w, .ref b2r, .int 0])), (ch, .inr (1, [.int 0, .ref c1, .ref c2, .ref c3])), (sg, .inr (6, [.int 0, .ref g1, .ref g2, .ref g3, .ref g4, .ref g5])), (rd, .inr (3, [.ref sc, .ref dr, .int 0, .int 0, .int 0, .int (-1)])), (dr, .inr (2, [.int 1, .int 0, .int 0, .int 0, .int 0, .ref dr5, .ref dr6, .ref dr7, .ref dr8, .ref dr9, .ref dr10, .ref dr11, .ref dr12, .ref dr13])), (sc, .inr (5, [.ref tp, .int 0, .int 0, .int 21, .long 0, .int 0])), (tp, .inr (7, [.ref tb, .int 0]))] := hD
  refine lv_if_ne (tgt := 16) hx hb dX10_kernel_11 (by decide +kernel) (fun c_4 => ?_) (fun c_4 => absurd c_4 (by decide +kernel))
  refine lv_aload_n hx hb dX10_kernel_16 rfl (lv_at hl 0 rfl) ?_
  refine va_get (D := D) (ci := 10) (v := .ref dr) (C := RX10) (T := TX10) (N := 12) hx hb hts iw_X10_kernel_10 hown hC.1 hP 0 rfl rfl 10 (by decide +kernel) (hts (.fieldLink RX10 23 "FairWheel" "draft" "LFairWheel$Plan;") (by decide +kernel)) (fun _ h9 => h9) rfl dX10_kernel_17 ?_
  refine lv_astore_n (lv' := [(1, .ref dr), (0, .ref h0)]) hx hb dX10_kernel_20 rfl hl (by decide +kernel) rfl (fun ls hl => ?_)
  refine lv_aload_n hx hb dX10_kernel_21 rfl (lv_at hl 1 rfl) ?_
  refine lv_aload_n hx hb dX10_kernel_22 rfl (lv_at hl 1 rfl) ?_
  refine va_get (D := D) (ci := 10) (v := .ref pl) (C := RX10) (T := TX10) (N := 12) hx hb hts iw_X10_kernel_10 hown hC.1 hP 0 rfl rfl 9 (by decide +kernel) (hts (.fieldLink RX10 19 "FairWheel" "plan" "LFairWheel$Plan;") (by decide +kernel)) (fun _ h9 => h9) rfl dX10_kernel_23 ?_
  refine va_put (D := D) (ci := 10) (v := .ref pl) (ty := .object "FairWheel$Plan") (C := RX10) (T := TX10) (N := 12) hx hb hts iw_X10_kernel_10 tyX10 tyX10_ok nmX10 hown hC.1 hP hD hS 0 rfl rfl 10 (by decide +kernel) (hts (.fieldLink RX10 23 "FairWheel" "draft" "LFairWheel$Plan;") (by decide +kernel)) (fun _ h9 => h9) rfl (by decide +kernel) rfl rfl (Nat.le_of_ble_eq_true rfl) dX10_kernel_26 (fun H locs hP hD hS => ?_)
  have hP : va_P D vwCl [(h0, .inr (10, [.ref tp, .ref rd, .ref lv, .ref tr, .ref rw, .ref bx, .ref ch, .ref sg, .ref dg, .ref pl, .ref pl, .int 0])), (lv, .inr (9, [.ref pl, .int 0, .ref w2, .ref w3, .ref w4, .ref w5])), (w3, .inl (ca 1, 6, .inl fh)), (bx, .inl (ca 4, 3, .inr (.inr (.inr (.inr (va_up (va_up (va_up (fun _ => none) 0 (some b0)) 1 (some b1)) 2 (some b2))))))), (b0, .inr (0, [.ref b0w, .ref b0r, .int 0])), (b1, .inr (0, [.ref b1w, .ref b1r, .int 0])), (b2, .inr (0, [.ref b2w, .ref b2r, .int 0])), (ch, .inr (1, [.int 0, .ref c1, .ref c2, .ref c3])), (sg, .inr (6, [.int 0, .ref g1, .ref g2, .ref g3, .ref g4, .ref g5])), (rd, .inr (3, [.ref sc, .ref dr, .int 0, .int 0, .int 0, .int (-1)])), (dr, .inr (2, [.int 1, .int 0, .int 0, .int 0, .int 0, .ref dr5, .ref dr6, .ref dr7, .ref dr8, .ref dr9, .ref dr10, .ref dr11, .ref dr12, .ref dr13])), (sc, .inr (5, [.ref tp, .int 0, .int 0, .int 21, .long 0, .int 0])), (tp, .inr (7, [.ref tb, .int 0]))] H := hP
  have hD : va_D A [(h0, .inr (10, [.ref tp, .ref rd, .ref lv, .ref tr, .ref rw, .ref bx, .ref ch, .ref sg, .ref dg, .ref pl, .ref pl, .int 0])), (lv, .inr (9, [.ref pl, .int 0, .ref w2, .ref w3, .ref w4, .ref w5])), (w3, .inl (ca 1, 6, .inl fh)), (bx, .inl (ca 4, 3, .inr (.inr (.inr (.inr (va_up (va_up (va_up (fun _ => none) 0 (some b0)) 1 (some b1)) 2 (some b2))))))), (b0, .inr (0, [.ref b0w, .ref b0r, .int 0])), (b1, .inr (0, [.ref b1w, .ref b1r, .int 0])), (b2, .inr (0, [.ref b2w, .ref b2r, .int 0])), (ch, .inr (1, [.int 0, .ref c1, .ref c2, .ref c3])), (sg, .inr (6, [.int 0, .ref g1, .ref g2, .ref g3, .ref g4, .ref g5])), (rd, .inr (3, [.ref sc, .ref dr, .int 0, .int 0, .int 0, .int (-1)])), (dr, .inr (2, [.int 1, .int 0, .int 0, .int 0, .int 0, .ref dr5, .ref dr6, .ref dr7, .ref dr8, .ref dr9, .ref dr10, .ref dr11, .ref dr12, .ref dr13])), (sc, .inr (5, [.ref tp, .int 0, .int 0, .int 21, .long 0, .int 0])), (tp, .inr (7, [.ref tb, .int 0]))] := hD
  refine lv_aload_n hx hb dX10_kernel_29 rfl (lv_at hl 1 rfl) ?_
  refine lv_aload_n hx hb dX10_kernel_30 rfl (lv_at hl 0 rfl) ?_
  refine va_put (D := D) (ci := 10) (v := .ref dr) (ty := .object "FairWheel$Plan") (C := RX10) (T := TX10) (N := 12) hx hb hts iw_X10_kernel_10 tyX10 tyX10_ok nmX10 hown hC.1 hP hD hS 0 rfl rfl 9 (by decide +kernel) (hts (.fieldLink RX10 19 "FairWheel" "plan" "LFairWheel$Plan;") (by decide +kernel)) (fun _ h9 => h9) rfl (by decide +kernel) rfl rfl (Nat.le_of_ble_eq_true rfl) dX10_kernel_31 (fun H locs hP hD hS => ?_)
  have hP : va_P D vwCl [(h0, .inr (10, [.ref tp, .ref rd, .ref lv, .ref tr, .ref rw, .ref bx, .ref ch, .ref sg, .ref dg, .ref dr, .ref pl, .int 0])), (lv, .inr (9, [.ref pl, .int 0, .ref w2, .ref w3, .ref w4, .ref w5])), (w3, .inl (ca 1, 6, .inl fh)), (bx, .inl (ca 4, 3, .inr (.inr (.inr (.inr (va_up (va_up (va_up (fun _ => none) 0 (some b0)) 1 (some b1)) 2 (some b2))))))), (b0, .inr (0, [.ref b0w, .ref b0r, .int 0])), (b1, .inr (0, [.ref b1w, .ref b1r, .int 0])), (b2, .inr (0, [.ref b2w, .ref b2r, .int 0])), (ch, .inr (1, [.int 0, .ref c1, .ref c2, .ref c3])), (sg, .inr (6, [.int 0, .ref g1, .ref g2, .ref g3, .ref g4, .ref g5])), (rd, .inr (3, [.ref sc, .ref dr, .int 0, .int 0, .int 0, .int (-1)])), (dr, .inr (2, [.int 1, .int 0, .int 0, .int 0, .int 0, .ref dr5, .ref dr6, .ref dr7, .ref dr8, .ref dr9, .ref dr10, .ref dr11, .ref dr12, .ref dr13])), (sc, .inr (5, [.ref tp, .int 0, .int 0, .int 21, .long 0, .int 0])), (tp, .inr (7, [.ref tb, .int 0]))] H := hP
  have hD : va_D A [(h0, .inr (10, [.ref tp, .ref rd, .ref lv, .ref tr, .ref rw, .ref bx, .ref ch, .ref sg, .ref dg, .ref dr, .ref pl, .int 0])), (lv, .inr (9, [.ref pl, .int 0, .ref w2, .ref w3, .ref w4, .ref w5])), (w3, .inl (ca 1, 6, .inl fh)), (bx, .inl (ca 4, 3, .inr (.inr (.inr (.inr (va_up (va_up (va_up (fun _ => none) 0 (some b0)) 1 (some b1)) 2 (some b2))))))), (b0, .inr (0, [.ref b0w, .ref b0r, .int 0])), (b1, .inr (0, [.ref b1w, .ref b1r, .int 0])), (b2, .inr (0, [.ref b2w, .ref b2r, .int 0])), (ch, .inr (1, [.int 0, .ref c1, .ref c2, .ref c3])), (sg, .inr (6, [.int 0, .ref g1, .ref g2, .ref g3, .ref g4, .ref g5])), (rd, .inr (3, [.ref sc, .ref dr, .int 0, .int 0, .int 0, .int (-1)])), (dr, .inr (2, [.int 1, .int 0, .int 0, .int 0, .int 0, .ref dr5, .ref dr6, .ref dr7, .ref dr8, .ref dr9, .ref dr10, .ref dr11, .ref dr12, .ref dr13])), (sc, .inr (5, [.ref tp, .int 0, .int 0, .int 21, .long 0, .int 0])), (tp, .inr (7, [.ref tb, .int 0]))] := hD
  refine lv_aload_n hx hb dX10_kernel_34 rfl (lv_at hl 1 rfl) ?_
  refine va_get (D := D) (ci := 10) (v := .ref tp) (C := RX10) (T := TX10) (N := 12) hx hb hts iw_X10_kernel_10 hown hC.1 hP 0 rfl rfl 0 (by decide +kernel) (hts (.fieldLink RX10 12 "FairWheel" "tape" "LFairWheel$Tape;") (by decide +kernel)) (fun _ h9 => h9) rfl dX10_kernel_35 ?_
  refine lv_iconst (v := 0) hx hb dX10_kernel_38 (by decide +kernel) ?_
  refine va_put (D := D) (ci := 7) (v := .int 0) (ty := .int) (C := RX7) (T := TX7) (N := 2) hx hb hts iw_X10_kernel_7 tyX7 tyX7_ok nmX7 hown hC.1 hP hD hS 12 rfl rfl 1 (by decide +kernel) (hts (.fieldLink RX10 83 "FairWheel$Tape" "size" "I") (by decide +kernel)) (fun _ h9 => h9) rfl (by decide +kernel) rfl rfl (Nat.le_of_ble_eq_true rfl) dX10_kernel_39 (fun H locs hP hD hS => ?_)
  have hP : va_P D vwCl [(h0, .inr (10, [.ref tp, .ref rd, .ref lv, .ref tr, .ref rw, .ref bx, .ref ch, .ref sg, .ref dg, .ref dr, .ref pl, .int 0])), (lv, .inr (9, [.ref pl, .int 0, .ref w2, .ref w3, .ref w4, .ref w5])), (w3, .inl (ca 1, 6, .inl fh)), (bx, .inl (ca 4, 3, .inr (.inr (.inr (.inr (va_up (va_up (va_up (fun _ => none) 0 (some b0)) 1 (some b1)) 2 (some b2))))))), (b0, .inr (0, [.ref b0w, .ref b0r, .int 0])), (b1, .inr (0, [.ref b1w, .ref b1r, .int 0])), (b2, .inr (0, [.ref b2w, .ref b2r, .int 0])), (ch, .inr (1, [.int 0, .ref c1, .ref c2, .ref c3])), (sg, .inr (6, [.int 0, .ref g1, .ref g2, .ref g3, .ref g4, .ref g5])), (rd, .inr (3, [.ref sc, .ref dr, .int 0, .int 0, .int 0, .int (-1)])), (dr, .inr (2, [.int 1, .int 0, .int 0, .int 0, .int 0, .ref dr5, .ref dr6, .ref dr7, .ref dr8, .ref dr9, .ref dr10, .ref dr11, .ref dr12, .ref dr13])), (sc, .inr (5, [.ref tp, .int 0, .int 0, .int 21, .long 0, .int 0])), (tp, .inr (7, [.ref tb, .int 0]))] H := hP
  have hD : va_D A [(h0, .inr (10, [.ref tp, .ref rd, .ref lv, .ref tr, .ref rw, .ref bx, .ref ch, .ref sg, .ref dg, .ref dr, .ref pl, .int 0])), (lv, .inr (9, [.ref pl, .int 0, .ref w2, .ref w3, .ref w4, .ref w5])), (w3, .inl (ca 1, 6, .inl fh)), (bx, .inl (ca 4, 3, .inr (.inr (.inr (.inr (va_up (va_up (va_up (fun _ => none) 0 (some b0)) 1 (some b1)) 2 (some b2))))))), (b0, .inr (0, [.ref b0w, .ref b0r, .int 0])), (b1, .inr (0, [.ref b1w, .ref b1r, .int 0])), (b2, .inr (0, [.ref b2w, .ref b2r, .int 0])), (ch, .inr (1, [.int 0, .ref c1, .ref c2, .ref c3])), (sg, .inr (6, [.int 0, .ref g1, .ref g2, .ref g3, .ref g4, .ref g5])), (rd, .inr (3, [.ref sc, .ref dr, .int 0, .int 0, .int 0, .int (-1)])), (dr, .inr (2, [.int 1, .int 0, .int 0, .int 0, .int 0, .ref dr5, .ref dr6, .ref dr7, .ref dr8, .ref dr9, .ref dr10, .ref dr11, .ref dr12, .ref dr13])), (sc, .inr (5, [.ref tp, .int 0, .int 0, .int 21, .long 0, .int 0])), (tp, .inr (7, [.ref tb, .int 0]))] := hD
  refine lv_aload_n hx hb dX10_kernel_42 rfl (lv_at hl 1 rfl) ?_
  refine va_get (D := D) (ci := 10) (v := .ref lv) (C := RX10) (T := TX10) (N := 12) hx hb hts iw_X10_kernel_10 hown hC.1 hP 0 rfl rfl 2 (by decide +kernel) (hts (.fieldLink RX10 40 "FairWheel" "live" "LFairWheel$Wheel;") (by decide +kernel)) (fun _ h9 => h9) rfl dX10_kernel_43 ?_
  refine lv_aload_n hx hb dX10_kernel_46 rfl (lv_at hl 1 rfl) ?_
  refine va_get (D := D) (ci := 10) (v := .ref dr) (C := RX10) (T := TX10) (N := 12) hx hb hts iw_X10_kernel_10 hown hC.1 hP 0 rfl rfl 9 (by decide +kernel) (hts (.fieldLink RX10 19 "FairWheel" "plan" "LFairWheel$Plan;") (by decide +kernel)) (fun _ h9 => h9) rfl dX10_kernel_47 ?_
  refine kc_v (wr := [(h0, .inr (10, [.ref tp, .ref rd, .ref lv, .ref tr, .ref rw, .ref bx, .ref ch, .ref sg, .ref dg, .ref dr, .ref pl, .int 0])), (bx, .inl (ca 4, 3, .inr (.inr (.inr (.inr (va_up (va_up (va_up (fun _ => none) 0 (some b0)) 1 (some b1)) 2 (some b2))))))), (b0, .inr (0, [.ref b0w, .ref b0r, .int 0])), (b1, .inr (0, [.ref b1w, .ref b1r, .int 0])), (b2, .inr (0, [.ref b2w, .ref b2r, .int 0])), (ch, .inr (1, [.int 0, .ref c1, .ref c2, .ref c3])), (sg, .inr (6, [.int 0, .ref g1, .ref g2, .ref g3, .ref g4, .ref g5])), (rd, .inr (3, [.ref sc, .ref dr, .int 0, .int 0, .int 0, .int (-1)])), (sc, .inr (5, [.ref tp, .int 0, .int 0, .int 21, .long 0, .int 0])), (tp, .inr (7, [.ref tb, .int 0]))]) (va_runV (As := [.ref dr]) (rest := []) ⟨hx, hb, hml, hown, hts⟩ (k_X9_begin_r l D ca H.size lv w2 w3 w4 w5 pl dr dr5 dr6 dr7 dr8 dr9 dr10 dr11 dr12 dr13 fh) (cwV 1 hts gX10_kernel_X9_begin rfl rfl rfl (by decide +kernel) ⟨(Nat.le_of_ble_eq_true rfl), (Nat.le_of_ble_eq_true rfl)⟩) (PC.preV (ci := 9) hC hP hD [1, 10, 2] rfl (by decide +kernel) rfl rfl) rfl rfl hl.1 rfl (lv_room (Nat.le_of_ble_eq_true rfl)) dX10_kernel_50 ⟨(Nat.le_of_ble_eq_true rfl), (Nat.le_of_ble_eq_true rfl)⟩) hP hD hS hA [1, 10, 2] [0, 3, 4, 5, 6, 7, 8, 9, 11, 12] rfl rfl (by decide +kernel) (by decide +kernel) (fun u_6 H locs hw_5 hP hD hS => ?_)
  obtain ⟨f_7, rfl⟩ : ∃ z, z = u_6 := ⟨_, rfl⟩
  have hP : va_P D vwCl [(h0, .inr (10, [.ref tp, .ref rd, .ref lv, .ref tr, .ref rw, .ref bx, .ref ch, .ref sg, .ref dg, .ref dr, .ref pl, .int 0])), (bx, .inl (ca 4, 3, .inr (.inr (.inr (.inr (va_up (va_up (va_up (fun _ => none) 0 (some b0)) 1 (some b1)) 2 (some b2))))))), (b0, .inr (0, [.ref b0w, .ref b0r, .int 0])), (b1, .inr (0, [.ref b1w, .ref b1r, .int 0])), (b2, .inr (0, [.ref b2w, .ref b2r, .int 0])), (ch, .inr (1, [.int 0, .ref c1, .ref c2, .ref c3])), (sg, .inr (6, [.int 0, .ref g1, .ref g2, .ref g3, .ref g4, .ref g5])), (rd, .inr (3, [.ref sc, .ref dr, .int 0, .int 0, .int 0, .int (-1)])), (sc, .inr (5, [.ref tp, .int 0, .int 0, .int 21, .long 0, .int 0])), (tp, .inr (7, [.ref tb, .int 0])), (lv, .inr (9, [.ref dr, .int 0, .ref w2, .ref w3, .ref w4, .ref w5])), (dr, .inr (2, [.int 1, .int 0, .int 0, .int 0, .int 0, .ref dr5, .ref dr6, .ref dr7, .ref dr8, .ref dr9, .ref dr10, .ref dr11, .ref dr12, .ref dr13])), (w3, .inl (ca 1, 6, .inl f_7))] H := hP
  have hD : va_D A [(h0, .inr (10, [.ref tp, .ref rd, .ref lv, .ref tr, .ref rw, .ref bx, .ref ch, .ref sg, .ref dg, .ref dr, .ref pl, .int 0])), (bx, .inl (ca 4, 3, .inr (.inr (.inr (.inr (va_up (va_up (va_up (fun _ => none) 0 (some b0)) 1 (some b1)) 2 (some b2))))))), (b0, .inr (0, [.ref b0w, .ref b0r, .int 0])), (b1, .inr (0, [.ref b1w, .ref b1r, .int 0])), (b2, .inr (0, [.ref b2w, .ref b2r, .int 0])), (ch, .inr (1, [.int 0, .ref c1, .ref c2, .ref c3])), (sg, .inr (6, [.int 0, .ref g1, .ref g2, .ref g3, .ref g4, .ref g5])), (rd, .inr (3, [.ref sc, .ref dr, .int 0, .int 0, .int 0, .int (-1)])), (sc, .inr (5, [.ref tp, .int 0, .int 0, .int 21, .long 0, .int 0])), (tp, .inr (7, [.ref tb, .int 0])), (lv, .inr (9, [.ref dr, .int 0, .ref w2, .ref w3, .ref w4, .ref w5])), (dr, .inr (2, [.int 1, .int 0, .int 0, .int 0, .int 0, .ref dr5, .ref dr6, .ref dr7, .ref dr8, .ref dr9, .ref dr10, .ref dr11, .ref dr12, .ref dr13])), (w3, .inl (ca 1, 6, .inl f_7))] := hD
  refine lv_aload_n hx hb dX10_kernel_53 rfl (lv_at hl 1 rfl) ?_
  refine va_get (D := D) (ci := 10) (v := .ref ch) (C := RX10) (T := TX10) (N := 12) hx hb hts iw_X10_kernel_10 hown hC.1 hP 0 rfl rfl 6 (by decide +kernel) (hts (.fieldLink RX10 61 "FairWheel" "choices" "LFairWheel$Choices;") (by decide +kernel)) (fun _ h9 => h9) rfl dX10_kernel_54 ?_
  refine lv_iconst (v := 0) hx hb dX10_kernel_57 (by decide +kernel) ?_
  refine va_put (D := D) (ci := 1) (v := .int 0) (ty := .int) (C := RX1) (T := TX1) (N := 4) hx hb hts iw_X10_kernel_1 tyX1 tyX1_ok nmX1 hown hC.1 hP hD hS 5 rfl rfl 0 (by decide +kernel) (hts (.fieldLink RX10 97 "FairWheel$Choices" "count" "I") (by decide +kernel)) (fun _ h9 => h9) rfl (by decide +kernel) rfl rfl (Nat.le_of_ble_eq_true rfl) dX10_kernel_58 (fun H locs hP hD hS => ?_)
  have hP : va_P D vwCl [(h0, .inr (10, [.ref tp, .ref rd, .ref lv, .ref tr, .ref rw, .ref bx, .ref ch, .ref sg, .ref dg, .ref dr, .ref pl, .int 0])), (bx, .inl (ca 4, 3, .inr (.inr (.inr (.inr (va_up (va_up (va_up (fun _ => none) 0 (some b0)) 1 (some b1)) 2 (some b2))))))), (b0, .inr (0, [.ref b0w, .ref b0r, .int 0])), (b1, .inr (0, [.ref b1w, .ref b1r, .int 0])), (b2, .inr (0, [.ref b2w, .ref b2r, .int 0])), (ch, .inr (1, [.int 0, .ref c1, .ref c2, .ref c3])), (sg, .inr (6, [.int 0, .ref g1, .ref g2, .ref g3, .ref g4, .ref g5])), (rd, .inr (3, [.ref sc, .ref dr, .int 0, .int 0, .int 0, .int (-1)])), (sc, .inr (5, [.ref tp, .int 0, .int 0, .int 21, .long 0, .int 0])), (tp, .inr (7, [.ref tb, .int 0])), (lv, .inr (9, [.ref dr, .int 0, .ref w2, .ref w3, .ref w4, .ref w5])), (dr, .inr (2, [.int 1, .int 0, .int 0, .int 0, .int 0, .ref dr5, .ref dr6, .ref dr7, .ref dr8, .ref dr9, .ref dr10, .ref dr11, .ref dr12, .ref dr13])), (w3, .inl (ca 1, 6, .inl f_7))] H := hP
  have hD : va_D A [(h0, .inr (10, [.ref tp, .ref rd, .ref lv, .ref tr, .ref rw, .ref bx, .ref ch, .ref sg, .ref dg, .ref dr, .ref pl, .int 0])), (bx, .inl (ca 4, 3, .inr (.inr (.inr (.inr (va_up (va_up (va_up (fun _ => none) 0 (some b0)) 1 (some b1)) 2 (some b2))))))), (b0, .inr (0, [.ref b0w, .ref b0r, .int 0])), (b1, .inr (0, [.ref b1w, .ref b1r, .int 0])), (b2, .inr (0, [.ref b2w, .ref b2r, .int 0])), (ch, .inr (1, [.int 0, .ref c1, .ref c2, .ref c3])), (sg, .inr (6, [.int 0, .ref g1, .ref g2, .ref g3, .ref g4, .ref g5])), (rd, .inr (3, [.ref sc, .ref dr, .int 0, .int 0, .int 0, .int (-1)])), (sc, .inr (5, [.ref tp, .int 0, .int 0, .int 21, .long 0, .int 0])), (tp, .inr (7, [.ref tb, .int 0])), (lv, .inr (9, [.ref dr, .int 0, .ref w2, .ref w3, .ref w4, .ref w5])), (dr, .inr (2, [.int 1, .int 0, .int 0, .int 0, .int 0, .ref dr5, .ref dr6, .ref dr7, .ref dr8, .ref dr9, .ref dr10, .ref dr11, .ref dr12, .ref dr13])), (w3, .inl (ca 1, 6, .inl f_7))] := hD
  refine lv_aload_n hx hb dX10_kernel_61 rfl (lv_at hl 1 rfl) ?_
  refine va_get (D := D) (ci := 10) (v := .ref sg) (C := RX10) (T := TX10) (N := 12) hx hb hts iw_X10_kernel_10 hown hC.1 hP 0 rfl rfl 7 (by decide +kernel) (hts (.fieldLink RX10 68 "FairWheel" "sights" "LFairWheel$Sights;") (by decide +kernel)) (fun _ h9 => h9) rfl dX10_kernel_62 ?_
  refine lv_iconst (v := 0) hx hb dX10_kernel_65 (by decide +kernel) ?_
  refine va_put (D := D) (ci := 6) (v := .int 0) (ty := .int) (C := RX6) (T := TX6) (N := 6) hx hb hts iw_X10_kernel_6 tyX6 tyX6_ok nmX6 hown hC.1 hP hD hS 6 rfl rfl 0 (by decide +kernel) (hts (.fieldLink RX10 100 "FairWheel$Sights" "count" "I") (by decide +kernel)) (fun _ h9 => h9) rfl (by decide +kernel) rfl rfl (Nat.le_of_ble_eq_true rfl) dX10_kernel_66 (fun H locs hP hD hS => ?_)
  have hP : va_P D vwCl [(h0, .inr (10, [.ref tp, .ref rd, .ref lv, .ref tr, .ref rw, .ref bx, .ref ch, .ref sg, .ref dg, .ref dr, .ref pl, .int 0])), (bx, .inl (ca 4, 3, .inr (.inr (.inr (.inr (va_up (va_up (va_up (fun _ => none) 0 (some b0)) 1 (some b1)) 2 (some b2))))))), (b0, .inr (0, [.ref b0w, .ref b0r, .int 0])), (b1, .inr (0, [.ref b1w, .ref b1r, .int 0])), (b2, .inr (0, [.ref b2w, .ref b2r, .int 0])), (ch, .inr (1, [.int 0, .ref c1, .ref c2, .ref c3])), (sg, .inr (6, [.int 0, .ref g1, .ref g2, .ref g3, .ref g4, .ref g5])), (rd, .inr (3, [.ref sc, .ref dr, .int 0, .int 0, .int 0, .int (-1)])), (sc, .inr (5, [.ref tp, .int 0, .int 0, .int 21, .long 0, .int 0])), (tp, .inr (7, [.ref tb, .int 0])), (lv, .inr (9, [.ref dr, .int 0, .ref w2, .ref w3, .ref w4, .ref w5])), (dr, .inr (2, [.int 1, .int 0, .int 0, .int 0, .int 0, .ref dr5, .ref dr6, .ref dr7, .ref dr8, .ref dr9, .ref dr10, .ref dr11, .ref dr12, .ref dr13])), (w3, .inl (ca 1, 6, .inl f_7))] H := hP
  have hD : va_D A [(h0, .inr (10, [.ref tp, .ref rd, .ref lv, .ref tr, .ref rw, .ref bx, .ref ch, .ref sg, .ref dg, .ref dr, .ref pl, .int 0])), (bx, .inl (ca 4, 3, .inr (.inr (.inr (.inr (va_up (va_up (va_up (fun _ => none) 0 (some b0)) 1 (some b1)) 2 (some b2))))))), (b0, .inr (0, [.ref b0w, .ref b0r, .int 0])), (b1, .inr (0, [.ref b1w, .ref b1r, .int 0])), (b2, .inr (0, [.ref b2w, .ref b2r, .int 0])), (ch, .inr (1, [.int 0, .ref c1, .ref c2, .ref c3])), (sg, .inr (6, [.int 0, .ref g1, .ref g2, .ref g3, .ref g4, .ref g5])), (rd, .inr (3, [.ref sc, .ref dr, .int 0, .int 0, .int 0, .int (-1)])), (sc, .inr (5, [.ref tp, .int 0, .int 0, .int 21, .long 0, .int 0])), (tp, .inr (7, [.ref tb, .int 0])), (lv, .inr (9, [.ref dr, .int 0, .ref w2, .ref w3, .ref w4, .ref w5])), (dr, .inr (2, [.int 1, .int 0, .int 0, .int 0, .int 0, .ref dr5, .ref dr6, .ref dr7, .ref dr8, .ref dr9, .ref dr10, .ref dr11, .ref dr12, .ref dr13])), (w3, .inl (ca 1, 6, .inl f_7))] := hD
  refine lv_iconst (v := 0) hx hb dX10_kernel_69 (by decide +kernel) ?_
  refine lv_istore_n (lv' := [(2, .int 0), (1, .ref dr), (0, .ref h0)]) hx hb dX10_kernel_70 rfl hl (by decide +kernel) rfl (fun ls hl => ?_)
  refine lv_iload_n hx hb dX10_kernel_71 rfl (lv_at hl 0 rfl) ?_
  refine lv_aload_n hx hb dX10_kernel_72 rfl (lv_at hl 2 rfl) ?_
  refine va_get (D := D) (ci := 10) (v := .ref bx) (C := RX10) (T := TX10) (N := 12) hx hb hts iw_X10_kernel_10 hown hC.1 hP 0 rfl rfl 5 (by decide +kernel) (hts (.fieldLink RX10 53 "FairWheel" "boxes" "[LFairWheel$Box;") (by decide +kernel)) (fun _ h9 => h9) rfl dX10_kernel_73 ?_
  refine va_alen (v := 3) hx hb hC.1 hP 1 4 rfl rfl rfl dX10_kernel_76 ?_
  refine lv_icmp_ge (tgt := 96) hx hb dX10_kernel_77 (by decide +kernel) (fun c_8 => absurd c_8 (by decide +kernel)) (fun c_8 => ?_)
  refine lv_aload_n hx hb dX10_kernel_80 rfl (lv_at hl 2 rfl) ?_
  refine va_get (D := D) (ci := 10) (v := .ref bx) (C := RX10) (T := TX10) (N := 12) hx hb hts iw_X10_kernel_10 hown hC.1 hP 0 rfl rfl 5 (by decide +kernel) (hts (.fieldLink RX10 53 "FairWheel" "boxes" "[LFairWheel$Box;") (by decide +kernel)) (fun _ h9 => h9) rfl dX10_kernel_81 ?_
  refine lv_iload_n hx hb dX10_kernel_84 rfl (lv_at hl 0 rfl) ?_
  refine ka_aldq hx hb hC.1 hP 1 4 rfl rfl 0 rfl (by decide +kernel) (by decide +kernel) dX10_kernel_85 ?_
  refine nt_v (.ref b0) rfl ?_
  refine lv_iconst (v := 0) hx hb dX10_kernel_86 (by decide +kernel) ?_
  refine va_put (D := D) (ci := 0) (v := .int 0) (ty := .boolean) (C := RX0) (T := TX0) (N := 3) hx hb hts iw_X10_kernel_0 tyX0 tyX0_ok nmX0 hown hC.1 hP hD hS 2 rfl rfl 2 (by decide +kernel) (hts (.fieldLink RX10 101 "FairWheel$Box" "full" "Z") (by decide +kernel)) (fun _ h9 => h9) rfl (by decide +kernel) rfl rfl (Nat.le_of_ble_eq_true rfl) dX10_kernel_87 (fun H locs hP hD hS => ?_)
  have hP : va_P D vwCl [(h0, .inr (10, [.ref tp, .ref rd, .ref lv, .ref tr, .ref rw, .ref bx, .ref ch, .ref sg, .ref dg, .ref dr, .ref pl, .int 0])), (bx, .inl (ca 4, 3, .inr (.inr (.inr (.inr (va_up (va_up (va_up (fun _ => none) 0 (some b0)) 1 (some b1)) 2 (some b2))))))), (b0, .inr (0, [.ref b0w, .ref b0r, .int 0])), (b1, .inr (0, [.ref b1w, .ref b1r, .int 0])), (b2, .inr (0, [.ref b2w, .ref b2r, .int 0])), (ch, .inr (1, [.int 0, .ref c1, .ref c2, .ref c3])), (sg, .inr (6, [.int 0, .ref g1, .ref g2, .ref g3, .ref g4, .ref g5])), (rd, .inr (3, [.ref sc, .ref dr, .int 0, .int 0, .int 0, .int (-1)])), (sc, .inr (5, [.ref tp, .int 0, .int 0, .int 21, .long 0, .int 0])), (tp, .inr (7, [.ref tb, .int 0])), (lv, .inr (9, [.ref dr, .int 0, .ref w2, .ref w3, .ref w4, .ref w5])), (dr, .inr (2, [.int 1, .int 0, .int 0, .int 0, .int 0, .ref dr5, .ref dr6, .ref dr7, .ref dr8, .ref dr9, .ref dr10, .ref dr11, .ref dr12, .ref dr13])), (w3, .inl (ca 1, 6, .inl f_7))] H := hP
  have hD : va_D A [(h0, .inr (10, [.ref tp, .ref rd, .ref lv, .ref tr, .ref rw, .ref bx, .ref ch, .ref sg, .ref dg, .ref dr, .ref pl, .int 0])), (bx, .inl (ca 4, 3, .inr (.inr (.inr (.inr (va_up (va_up (va_up (fun _ => none) 0 (some b0)) 1 (some b1)) 2 (some b2))))))), (b0, .inr (0, [.ref b0w, .ref b0r, .int 0])), (b1, .inr (0, [.ref b1w, .ref b1r, .int 0])), (b2, .inr (0, [.ref b2w, .ref b2r, .int 0])), (ch, .inr (1, [.int 0, .ref c1, .ref c2, .ref c3])), (sg, .inr (6, [.int 0, .ref g1, .ref g2, .ref g3, .ref g4, .ref g5])), (rd, .inr (3, [.ref sc, .ref dr, .int 0, .int 0, .int 0, .int (-1)])), (sc, .inr (5, [.ref tp, .int 0, .int 0, .int 21, .long 0, .int 0])), (tp, .inr (7, [.ref tb, .int 0])), (lv, .inr (9, [.ref dr, .int 0, .ref w2, .ref w3, .ref w4, .ref w5])), (dr, .inr (2, [.int 1, .int 0, .int 0, .int 0, .int 0, .ref dr5, .ref dr6, .ref dr7, .ref dr8, .ref dr9, .ref dr10, .ref dr11, .ref dr12, .ref dr13])), (w3, .inl (ca 1, 6, .inl f_7))] := hD
  refine lv_iinc (v := 1) (lv' := [(2, .int 1), (1, .ref dr), (0, .ref h0)]) hx hb dX10_kernel_90 hl (k := 0) rfl (by decide +kernel) (by decide +kernel) rfl (fun ls hl => ?_)
  refine lv_goto (tgt := 71) hx hb dX10_kernel_93 (by decide +kernel) ?_
  refine lv_iload_n hx hb dX10_kernel_71 rfl (lv_at hl 0 rfl) ?_
  refine lv_aload_n hx hb dX10_kernel_72 rfl (lv_at hl 2 rfl) ?_
  refine va_get (D := D) (ci := 10) (v := .ref bx) (C := RX10) (T := TX10) (N := 12) hx hb hts iw_X10_kernel_10 hown hC.1 hP 0 rfl rfl 5 (by decide +kernel) (hts (.fieldLink RX10 53 "FairWheel" "boxes" "[LFairWheel$Box;") (by decide +kernel)) (fun _ h9 => h9) rfl dX10_kernel_73 ?_
  refine va_alen (v := 3) hx hb hC.1 hP 1 4 rfl rfl rfl dX10_kernel_76 ?_
  refine lv_icmp_ge (tgt := 96) hx hb dX10_kernel_77 (by decide +kernel) (fun c_9 => absurd c_9 (by decide +kernel)) (fun c_9 => ?_)
  refine lv_aload_n hx hb dX10_kernel_80 rfl (lv_at hl 2 rfl) ?_
  refine va_get (D := D) (ci := 10) (v := .ref bx) (C := RX10) (T := TX10) (N := 12) hx hb hts iw_X10_kernel_10 hown hC.1 hP 0 rfl rfl 5 (by decide +kernel) (hts (.fieldLink RX10 53 "FairWheel" "boxes" "[LFairWheel$Box;") (by decide +kernel)) (fun _ h9 => h9) rfl dX10_kernel_81 ?_
  refine lv_iload_n hx hb dX10_kernel_84 rfl (lv_at hl 0 rfl) ?_
  refine ka_aldq hx hb hC.1 hP 1 4 rfl rfl 1 rfl (by decide +kernel) (by decide +kernel) dX10_kernel_85 ?_
  refine nt_v (.ref b1) rfl ?_
  refine lv_iconst (v := 0) hx hb dX10_kernel_86 (by decide +kernel) ?_
  refine va_put (D := D) (ci := 0) (v := .int 0) (ty := .boolean) (C := RX0) (T := TX0) (N := 3) hx hb hts iw_X10_kernel_0 tyX0 tyX0_ok nmX0 hown hC.1 hP hD hS 3 rfl rfl 2 (by decide +kernel) (hts (.fieldLink RX10 101 "FairWheel$Box" "full" "Z") (by decide +kernel)) (fun _ h9 => h9) rfl (by decide +kernel) rfl rfl (Nat.le_of_ble_eq_true rfl) dX10_kernel_87 (fun H locs hP hD hS => ?_)
  have hP : va_P D vwCl [(h0, .inr (10, [.ref tp, .ref rd, .ref lv, .ref tr, .ref rw, .ref bx, .ref ch, .ref sg, .ref dg, .ref dr, .ref pl, .int 0])), (bx, .inl (ca 4, 3, .inr (.inr (.inr (.inr (va_up (va_up (va_up (fun _ => none) 0 (some b0)) 1 (some b1)) 2 (some b2))))))), (b0, .inr (0, [.ref b0w, .ref b0r, .int 0])), (b1, .inr (0, [.ref b1w, .ref b1r, .int 0])), (b2, .inr (0, [.ref b2w, .ref b2r, .int 0])), (ch, .inr (1, [.int 0, .ref c1, .ref c2, .ref c3])), (sg, .inr (6, [.int 0, .ref g1, .ref g2, .ref g3, .ref g4, .ref g5])), (rd, .inr (3, [.ref sc, .ref dr, .int 0, .int 0, .int 0, .int (-1)])), (sc, .inr (5, [.ref tp, .int 0, .int 0, .int 21, .long 0, .int 0])), (tp, .inr (7, [.ref tb, .int 0])), (lv, .inr (9, [.ref dr, .int 0, .ref w2, .ref w3, .ref w4, .ref w5])), (dr, .inr (2, [.int 1, .int 0, .int 0, .int 0, .int 0, .ref dr5, .ref dr6, .ref dr7, .ref dr8, .ref dr9, .ref dr10, .ref dr11, .ref dr12, .ref dr13])), (w3, .inl (ca 1, 6, .inl f_7))] H := hP
  have hD : va_D A [(h0, .inr (10, [.ref tp, .ref rd, .ref lv, .ref tr, .ref rw, .ref bx, .ref ch, .ref sg, .ref dg, .ref dr, .ref pl, .int 0])), (bx, .inl (ca 4, 3, .inr (.inr (.inr (.inr (va_up (va_up (va_up (fun _ => none) 0 (some b0)) 1 (some b1)) 2 (some b2))))))), (b0, .inr (0, [.ref b0w, .ref b0r, .int 0])), (b1, .inr (0, [.ref b1w, .ref b1r, .int 0])), (b2, .inr (0, [.ref b2w, .ref b2r, .int 0])), (ch, .inr (1, [.int 0, .ref c1, .ref c2, .ref c3])), (sg, .inr (6, [.int 0, .ref g1, .ref g2, .ref g3, .ref g4, .ref g5])), (rd, .inr (3, [.ref sc, .ref dr, .int 0, .int 0, .int 0, .int (-1)])), (sc, .inr (5, [.ref tp, .int 0, .int 0, .int 21, .long 0, .int 0])), (tp, .inr (7, [.ref tb, .int 0])), (lv, .inr (9, [.ref dr, .int 0, .ref w2, .ref w3, .ref w4, .ref w5])), (dr, .inr (2, [.int 1, .int 0, .int 0, .int 0, .int 0, .ref dr5, .ref dr6, .ref dr7, .ref dr8, .ref dr9, .ref dr10, .ref dr11, .ref dr12, .ref dr13])), (w3, .inl (ca 1, 6, .inl f_7))] := hD
  refine lv_iinc (v := 2) (lv' := [(2, .int 2), (1, .ref dr), (0, .ref h0)]) hx hb dX10_kernel_90 hl (k := 0) rfl (by decide +kernel) (by decide +kernel) rfl (fun ls hl => ?_)
  refine lv_goto (tgt := 71) hx hb dX10_kernel_93 (by decide +kernel) ?_
  refine lv_iload_n hx hb dX10_kernel_71 rfl (lv_at hl 0 rfl) ?_
  refine lv_aload_n hx hb dX10_kernel_72 rfl (lv_at hl 2 rfl) ?_
  refine va_get (D := D) (ci := 10) (v := .ref bx) (C := RX10) (T := TX10) (N := 12) hx hb hts iw_X10_kernel_10 hown hC.1 hP 0 rfl rfl 5 (by decide +kernel) (hts (.fieldLink RX10 53 "FairWheel" "boxes" "[LFairWheel$Box;") (by decide +kernel)) (fun _ h9 => h9) rfl dX10_kernel_73 ?_
  refine va_alen (v := 3) hx hb hC.1 hP 1 4 rfl rfl rfl dX10_kernel_76 ?_
  refine lv_icmp_ge (tgt := 96) hx hb dX10_kernel_77 (by decide +kernel) (fun c_10 => absurd c_10 (by decide +kernel)) (fun c_10 => ?_)
  refine lv_aload_n hx hb dX10_kernel_80 rfl (lv_at hl 2 rfl) ?_
  refine va_get (D := D) (ci := 10) (v := .ref bx) (C := RX10) (T := TX10) (N := 12) hx hb hts iw_X10_kernel_10 hown hC.1 hP 0 rfl rfl 5 (by decide +kernel) (hts (.fieldLink RX10 53 "FairWheel" "boxes" "[LFairWheel$Box;") (by decide +kernel)) (fun _ h9 => h9) rfl dX10_kernel_81 ?_
  refine lv_iload_n hx hb dX10_kernel_84 rfl (lv_at hl 0 rfl) ?_
  refine ka_aldq hx hb hC.1 hP 1 4 rfl rfl 2 rfl (by decide +kernel) (by decide +kernel) dX10_kernel_85 ?_
  refine nt_v (.ref b2) rfl ?_
  refine lv_iconst (v := 0) hx hb dX10_kernel_86 (by decide +kernel) ?_
  refine va_put (D := D) (ci := 0) (v := .int 0) (ty := .boolean) (C := RX0) (T := TX0) (N := 3) hx hb hts iw_X10_kernel_0 tyX0 tyX0_ok nmX0 hown hC.1 hP hD hS 4 rfl rfl 2 (by decide +kernel) (hts (.fieldLink RX10 101 "FairWheel$Box" "full" "Z") (by decide +kernel)) (fun _ h9 => h9) rfl (by decide +kernel) rfl rfl (Nat.le_of_ble_eq_true rfl) dX10_kernel_87 (fun H locs hP hD hS => ?_)
  have hP : va_P D vwCl [(h0, .inr (10, [.ref tp, .ref rd, .ref lv, .ref tr, .ref rw, .ref bx, .ref ch, .ref sg, .ref dg, .ref dr, .ref pl, .int 0])), (bx, .inl (ca 4, 3, .inr (.inr (.inr (.inr (va_up (va_up (va_up (fun _ => none) 0 (some b0)) 1 (some b1)) 2 (some b2))))))), (b0, .inr (0, [.ref b0w, .ref b0r, .int 0])), (b1, .inr (0, [.ref b1w, .ref b1r, .int 0])), (b2, .inr (0, [.ref b2w, .ref b2r, .int 0])), (ch, .inr (1, [.int 0, .ref c1, .ref c2, .ref c3])), (sg, .inr (6, [.int 0, .ref g1, .ref g2, .ref g3, .ref g4, .ref g5])), (rd, .inr (3, [.ref sc, .ref dr, .int 0, .int 0, .int 0, .int (-1)])), (sc, .inr (5, [.ref tp, .int 0, .int 0, .int 21, .long 0, .int 0])), (tp, .inr (7, [.ref tb, .int 0])), (lv, .inr (9, [.ref dr, .int 0, .ref w2, .ref w3, .ref w4, .ref w5])), (dr, .inr (2, [.int 1, .int 0, .int 0, .int 0, .int 0, .ref dr5, .ref dr6, .ref dr7, .ref dr8, .ref dr9, .ref dr10, .ref dr11, .ref dr12, .ref dr13])), (w3, .inl (ca 1, 6, .inl f_7))] H := hP
  have hD : va_D A [(h0, .inr (10, [.ref tp, .ref rd, .ref lv, .ref tr, .ref rw, .ref bx, .ref ch, .ref sg, .ref dg, .ref dr, .ref pl, .int 0])), (bx, .inl (ca 4, 3, .inr (.inr (.inr (.inr (va_up (va_up (va_up (fun _ => none) 0 (some b0)) 1 (some b1)) 2 (some b2))))))), (b0, .inr (0, [.ref b0w, .ref b0r, .int 0])), (b1, .inr (0, [.ref b1w, .ref b1r, .int 0])), (b2, .inr (0, [.ref b2w, .ref b2r, .int 0])), (ch, .inr (1, [.int 0, .ref c1, .ref c2, .ref c3])), (sg, .inr (6, [.int 0, .ref g1, .ref g2, .ref g3, .ref g4, .ref g5])), (rd, .inr (3, [.ref sc, .ref dr, .int 0, .int 0, .int 0, .int (-1)])), (sc, .inr (5, [.ref tp, .int 0, .int 0, .int 21, .long 0, .int 0])), (tp, .inr (7, [.ref tb, .int 0])), (lv, .inr (9, [.ref dr, .int 0, .ref w2, .ref w3, .ref w4, .ref w5])), (dr, .inr (2, [.int 1, .int 0, .int 0, .int 0, .int 0, .ref dr5, .ref dr6, .ref dr7, .ref dr8, .ref dr9, .ref dr10, .ref dr11, .ref dr12, .ref dr13])), (w3, .inl (ca 1, 6, .inl f_7))] := hD
  refine lv_iinc (v := 3) (lv' := [(2, .int 3), (1, .ref dr), (0, .ref h0)]) hx hb dX10_kernel_90 hl (k := 0) rfl (by decide +kernel) (by decide +kernel) rfl (fun ls hl => ?_)
  refine lv_goto (tgt := 71) hx hb dX10_kernel_93 (by decide +kernel) ?_
  refine lv_iload_n hx hb dX10_kernel_71 rfl (lv_at hl 0 rfl) ?_
  refine lv_aload_n hx hb dX10_kernel_72 rfl (lv_at hl 2 rfl) ?_
  refine va_get (D := D) (ci := 10) (v := .ref bx) (C := RX10) (T := TX10) (N := 12) hx hb hts iw_X10_kernel_10 hown hC.1 hP 0 rfl rfl 5 (by decide +kernel) (hts (.fieldLink RX10 53 "FairWheel" "boxes" "[LFairWheel$Box;") (by decide +kernel)) (fun _ h9 => h9) rfl dX10_kernel_73 ?_
  refine va_alen (v := 3) hx hb hC.1 hP 1 4 rfl rfl rfl dX10_kernel_76 ?_
  refine lv_icmp_ge (tgt := 96) hx hb dX10_kernel_77 (by decide +kernel) (fun c_11 => ?_) (fun c_11 => absurd (by decide +kernel) c_11)
  refine lv_aload_n hx hb dX10_kernel_96 rfl (lv_at hl 2 rfl) ?_
  refine va_get (D := D) (ci := 10) (v := .ref dr) (C := RX10) (T := TX10) (N := 12) hx hb hts iw_X10_kernel_10 hown hC.1 hP 0 rfl rfl 9 (by decide +kernel) (hts (.fieldLink RX10 19 "FairWheel" "plan" "LFairWheel$Plan;") (by decide +kernel)) (fun _ h9 => h9) rfl dX10_kernel_97 ?_
  refine va_get (D := D) (ci := 2) (v := .int 0) (C := RX2) (T := TX2) (N := 14) hx hb hts iw_X10_kernel_2 hown hC.1 hP 11 rfl rfl 3 (by decide +kernel) (hts (.fieldLink RX10 105 "FairWheel$Plan" "count" "I") (by decide +kernel)) (fun _ h9 => h9) rfl dX10_kernel_100 ?_
  exact W.iret (v := 0) hx hb hr (fun t ht hW => ⟨⟨0, (), rfl, rfl, by rw [ht]; exact hP.sub [] rfl, hDA (hD.sub [] (by decide +kernel) rfl)⟩, hS.F ht⟩) hS.2.2 dX10_kernel_103
theorem iw_X9_refill_2 : ∀ w ∈ u_ws RX2 TX2 14, w ∈ wsX9_refill := by decide +kernel
theorem iw_X9_refill_9 : ∀ w ∈ u_ws RX9 TX9 6, w ∈ wsX9_refill := by decide +kernel
set_option maxHeartbeats 4000000 in
set_option maxRecDepth 100000 in
theorem k_X9_refill (l : Launch) (D : va_G) (ca : Nat → ClassId) (sz : Nat) (h0 : Nat) (w2 : Nat) (w3 : Nat) (w4 : Nat) (w5 : Nat) (pl : Nat) (pl5 : Nat) (pl6 : Nat) (pl7 : Nat) (pl8 : Nat) (pl9 : Nat) (pl10 : Nat) (pl11 : Nat) (pl12 : Nat) (pl13 : Nat) (i : Nat) : Met l yX9_refill wsX9_refill ({ frames := 0, cells := 0, slots := 0, locals := 0 }) (PC [.ref h0] sz D ca [(h0, .inr (9, [.ref pl, .int (nI i), .ref w2, .ref w3, .ref w4, .ref w5])), (pl, .inr (2, [.int 1, .int 0, .int 0, .int 0, .int 0, .ref pl5, .ref pl6, .ref pl7, .ref pl8, .ref pl9, .ref pl10, .ref pl11, .ref pl12, .ref pl13]))]) (QV (fun (u : Unit) => True) (fun (_ : Unit) => [(h0, .inr (9, [.ref pl, .int (nI i), .ref w2, .ref w3, .ref w4, .ref w5])), (pl, .inr (2, [.int 1, .int 0, .int 0, .int 0, .int 0, .ref pl5, .ref pl6, .ref pl7, .ref pl8, .ref pl9, .ref pl10, .ref pl11, .ref pl12, .ref pl13]))]) [(h0, .inr (9, [.ref pl, .int (nI i), .ref w2, .ref w3, .ref w4, .ref w5])), (pl, .inr (2, [.int 1, .int 0, .int 0, .int 0, .int 0, .ref pl5, .ref pl6, .ref pl7, .ref pl8, .ref pl9, .ref pl10, .ref pl11, .ref pl12, .ref pl13]))] sz D) 0 0 (va_A [(h0, .inr (9, [.ref pl, .int (nI i), .ref w2, .ref w3, .ref w4, .ref w5])), (pl, .inr (2, [.int 1, .int 0, .int 0, .int 0, .int 0, .ref pl5, .ref pl6, .ref pl7, .ref pl8, .ref pl9, .ref pl10, .ref pl11, .ref pl12, .ref pl13]))] sz) := by
  refine Met.ofW (cc := cX9_refill) (maxL := 4) (ret := none) (by decide +kernel) rfl ?_
  intro p e s m args below meth c s₁ B hml hv
  obtain ⟨rfl, hsz, hP, hC, hD0⟩ := hv
  have hx := B.exec
  have hb := B.bytes
  have hr := B.returns
  have hts := atoms_spec (ws := wsX9_refill) B.pre
  have hown : s.vm.findClass RX9 = some m.cls := findClass_of_methodNamed B.named
  have hlocks := B.notSynchronized
  subst hsz
  have hD := hD0.self (sz := s.heap.size)
  dsimp only [QV, QI, QL, BQ]
  generalize hAe : va_A [(h0, .inr (9, [.ref pl, .int (nI i), .ref w2, .ref w3, .ref w4, .ref w5])), (pl, .inr (2, [.int 1, .int 0, .int 0, .int 0, .int 0, .ref pl5, .ref pl6, .ref pl7, .ref pl8, .ref pl9, .ref pl10, .ref pl11, .ref pl12, .ref pl13]))] s.heap.size = A at hD ⊢
  have hA : ∀ q : Nat, s.heap.size ≤ q → A q := fun q h => by rw [← hAe]; exact Or.inr h
  have hDA : ∀ {w : va_W}, va_D A w → va_D (va_A [(h0, .inr (9, [.ref pl, .int (nI i), .ref w2, .ref w3, .ref w4, .ref w5])), (pl, .inr (2, [.int 1, .int 0, .int 0, .int 0, .int 0, .ref pl5, .ref pl6, .ref pl7, .ref pl8, .ref pl9, .ref pl10, .ref pl11, .ref pl12, .ref pl13]))] s.heap.size) w := fun h => by rw [hAe]; exact h
  have hS : va_S A s.heap s.heap [] := va_S.rf
  have hP : va_P D vwCl [(h0, .inr (9, [.ref pl, .int (nI i), .ref w2, .ref w3, .ref w4, .ref w5])), (pl, .inr (2, [.int 1, .int 0, .int 0, .int 0, .int 0, .ref pl5, .ref pl6, .ref pl7, .ref pl8, .ref pl9, .ref pl10, .ref pl11, .ref pl12, .ref pl13]))] s.heap := hP
  have hl := lv_entry ([.ref h0]) (n := 4) (Nat.le_of_ble_eq_true rfl)
  rw [lg_entry_eq]
  generalize (lg_sl ([.ref h0]) ++ List.replicate (4 - (lg_sl ([.ref h0])).length) Slot.unset).toArray = ls at hl ⊢
  have hl : lv_has ls 4 [(0, .ref h0)] := hl
  refine lv_iconst (v := 0) hx hb dX9_refill_0 (by decide +kernel) ?_
  refine lv_istore_n (lv' := [(1, .int 0), (0, .ref h0)]) hx hb dX9_refill_1 rfl hl (by decide +kernel) rfl (fun ls hl => ?_)
  refine lv_iload_n hx hb dX9_refill_2 rfl (lv_at hl 0 rfl) ?_
  refine lv_aload_n hx hb dX9_refill_3 rfl (lv_at hl 1 rfl) ?_
  refine va_get (D := D) (ci := 9) (v := .ref pl) (C := RX9) (T := TX9) (N := 6) hx hb hts iw_X9_refill_9 hown hC.1 hP 0 rfl rfl 0 (by decide +kernel) (hts (.fieldLink RX9 33 "FairWheel$Wheel" "plan" "LFairWheel$Plan;") (by decide +kernel)) (fun _ h9 => h9) rfl dX9_refill_4 ?_
  refine va_get (D := D) (ci := 2) (v := .int 0) (C := RX2) (T := TX2) (N := 14) hx hb hts iw_X9_refill_2 hown hC.1 hP 1 rfl rfl 3 (by decide +kernel) (hts (.fieldLink RX9 41 "FairWheel$Plan" "count" "I") (by decide +kernel)) (fun _ h9 => h9) rfl dX9_refill_7 ?_
  refine lv_icmp_ge (tgt := 127) hx hb dX9_refill_10 (by decide +kernel) (fun c_1 => ?_) (fun c_1 => absurd (by decide +kernel) c_1)
  exact W.vret hx hb hr (fun t ht hW => ⟨⟨(), rfl, trivial, by rw [ht]; exact hP.sub [0, 1] rfl, hDA (hD.sub [0, 1] (by decide +kernel) rfl)⟩, hS.F ht⟩) hS.2.2 dX9_refill_127
theorem iw_X9_awake_2 : ∀ w ∈ u_ws RX2 TX2 14, w ∈ wsX9_awake := by decide +kernel
theorem iw_X9_awake_9 : ∀ w ∈ u_ws RX9 TX9 6, w ∈ wsX9_awake := by decide +kernel
set_option maxHeartbeats 4000000 in
set_option maxRecDepth 100000 in
theorem k_X9_awake (l : Launch) (D : va_G) (ca : Nat → ClassId) (sz : Nat) (h0 : Nat) (w2 : Nat) (w3 : Nat) (w4 : Nat) (w5 : Nat) (pl : Nat) (pl5 : Nat) (pl6 : Nat) (pl7 : Nat) (pl8 : Nat) (pl9 : Nat) (pl10 : Nat) (pl11 : Nat) (pl12 : Nat) (pl13 : Nat) (i : Nat) : Met l yX9_awake wsX9_awake ({ frames := 0, cells := 0, slots := 0, locals := 0 }) (PC [.ref h0] sz D ca [(h0, .inr (9, [.ref pl, .int (nI i), .ref w2, .ref w3, .ref w4, .ref w5])), (pl, .inr (2, [.int 1, .int 0, .int 0, .int 0, .int 0, .ref pl5, .ref pl6, .ref pl7, .ref pl8, .ref pl9, .ref pl10, .ref pl11, .ref pl12, .ref pl13]))]) (QV (fun (u : Unit) => True) (fun (_ : Unit) => [(h0, .inr (9, [.ref pl, .int (nI i), .ref w2, .ref w3, .ref w4, .ref w5])), (pl, .inr (2, [.int 1, .int 0, .int 0, .int 0, .int 0, .ref pl5, .ref pl6, .ref pl7, .ref pl8, .ref pl9, .ref pl10, .ref pl11, .ref pl12, .ref pl13]))]) [(h0, .inr (9, [.ref pl, .int (nI i), .ref w2, .ref w3, .ref w4, .ref w5])), (pl, .inr (2, [.int 1, .int 0, .int 0, .int 0, .int 0, .ref pl5, .ref pl6, .ref pl7, .ref pl8, .ref pl9, .ref pl10, .ref pl11, .ref pl12, .ref pl13]))] sz D) 0 0 (va_A [(h0, .inr (9, [.ref pl, .int (nI i), .ref w2, .ref w3, .ref w4, .ref w5])), (pl, .inr (2, [.int 1, .int 0, .int 0, .int 0, .int 0, .ref pl5, .ref pl6, .ref pl7, .ref pl8, .ref pl9, .ref pl10, .ref pl11, .ref pl12, .ref pl13]))] sz) := by
  refine Met.ofW (cc := cX9_awake) (maxL := 2) (ret := none) (by decide +kernel) rfl ?_
  intro p e s m args below meth c s₁ B hml hv
  obtain ⟨rfl, hsz, hP, hC, hD0⟩ := hv
  have hx := B.exec
  have hb := B.bytes
  have hr := B.returns
  have hts := atoms_spec (ws := wsX9_awake) B.pre
  have hown : s.vm.findClass RX9 = some m.cls := findClass_of_methodNamed B.named
  have hlocks := B.notSynchronized
  subst hsz
  have hD := hD0.self (sz := s.heap.size)
  dsimp only [QV, QI, QL, BQ]
  generalize hAe : va_A [(h0, .inr (9, [.ref pl, .int (nI i), .ref w2, .ref w3, .ref w4, .ref w5])), (pl, .inr (2, [.int 1, .int 0, .int 0, .int 0, .int 0, .ref pl5, .ref pl6, .ref pl7, .ref pl8, .ref pl9, .ref pl10, .ref pl11, .ref pl12, .ref pl13]))] s.heap.size = A at hD ⊢
  have hA : ∀ q : Nat, s.heap.size ≤ q → A q := fun q h => by rw [← hAe]; exact Or.inr h
  have hDA : ∀ {w : va_W}, va_D A w → va_D (va_A [(h0, .inr (9, [.ref pl, .int (nI i), .ref w2, .ref w3, .ref w4, .ref w5])), (pl, .inr (2, [.int 1, .int 0, .int 0, .int 0, .int 0, .ref pl5, .ref pl6, .ref pl7, .ref pl8, .ref pl9, .ref pl10, .ref pl11, .ref pl12, .ref pl13]))] s.heap.size) w := fun h => by rw [hAe]; exact h
  have hS : va_S A s.heap s.heap [] := va_S.rf
  have hP : va_P D vwCl [(h0, .inr (9, [.ref pl, .int (nI i), .ref w2, .ref w3, .ref w4, .ref w5])), (pl, .inr (2, [.int 1, .int 0, .int 0, .int 0, .int 0, .ref pl5, .ref pl6, .ref pl7, .ref pl8, .ref pl9, .ref pl10, .ref pl11, .ref pl12, .ref pl13]))] s.heap := hP
  have hl := lv_entry ([.ref h0]) (n := 2) (Nat.le_of_ble_eq_true rfl)
  rw [lg_entry_eq]
  generalize (lg_sl ([.ref h0]) ++ List.replicate (2 - (lg_sl ([.ref h0])).length) Slot.unset).toArray = ls at hl ⊢
  have hl : lv_has ls 2 [(0, .ref h0)] := hl
  refine lv_iconst (v := 0) hx hb dX9_awake_0 (by decide +kernel) ?_
  refine lv_istore_n (lv' := [(1, .int 0), (0, .ref h0)]) hx hb dX9_awake_1 rfl hl (by decide +kernel) rfl (fun ls hl => ?_)
  refine lv_iload_n hx hb dX9_awake_2 rfl (lv_at hl 0 rfl) ?_
  refine lv_aload_n hx hb dX9_awake_3 rfl (lv_at hl 1 rfl) ?_
  refine va_get (D := D) (ci := 9) (v := .ref pl) (C := RX9) (T := TX9) (N := 6) hx hb hts iw_X9_awake_9 hown hC.1 hP 0 rfl rfl 0 (by decide +kernel) (hts (.fieldLink RX9 33 "FairWheel$Wheel" "plan" "LFairWheel$Plan;") (by decide +kernel)) (fun _ h9 => h9) rfl dX9_awake_4 ?_
  refine va_get (D := D) (ci := 2) (v := .int 0) (C := RX2) (T := TX2) (N := 14) hx hb hts iw_X9_awake_2 hown hC.1 hP 1 rfl rfl 3 (by decide +kernel) (hts (.fieldLink RX9 41 "FairWheel$Plan" "count" "I") (by decide +kernel)) (fun _ h9 => h9) rfl dX9_awake_7 ?_
  refine lv_icmp_ge (tgt := 53) hx hb dX9_awake_10 (by decide +kernel) (fun c_1 => ?_) (fun c_1 => absurd (by decide +kernel) c_1)
  exact W.vret hx hb hr (fun t ht hW => ⟨⟨(), rfl, trivial, by rw [ht]; exact hP.sub [0, 1] rfl, hDA (hD.sub [0, 1] (by decide +kernel) rfl)⟩, hS.F ht⟩) hS.2.2 dX9_awake_53
theorem iw_X9_lend_2 : ∀ w ∈ u_ws RX2 TX2 14, w ∈ wsX9_lend := by decide +kernel
theorem iw_X9_lend_9 : ∀ w ∈ u_ws RX9 TX9 6, w ∈ wsX9_lend := by decide +kernel
set_option maxHeartbeats 4000000 in
set_option maxRecDepth 100000 in
theorem k_X9_lend (l : Launch) (D : va_G) (ca : Nat → ClassId) (sz : Nat) (h0 : Nat) (w2 : Nat) (w3 : Nat) (w4 : Nat) (w5 : Nat) (pl : Nat) (pl5 : Nat) (pl6 : Nat) (pl7 : Nat) (pl8 : Nat) (pl9 : Nat) (pl10 : Nat) (pl11 : Nat) (pl12 : Nat) (pl13 : Nat) (i : Nat) : Met l yX9_lend wsX9_lend ({ frames := 0, cells := 0, slots := 0, locals := 0 }) (PC [.ref h0] sz D ca [(h0, .inr (9, [.ref pl, .int (nI i), .ref w2, .ref w3, .ref w4, .ref w5])), (pl, .inr (2, [.int 1, .int 0, .int 0, .int 0, .int 0, .ref pl5, .ref pl6, .ref pl7, .ref pl8, .ref pl9, .ref pl10, .ref pl11, .ref pl12, .ref pl13]))]) (QV (fun (u : Unit) => True) (fun (_ : Unit) => [(h0, .inr (9, [.ref pl, .int (nI i), .ref w2, .ref w3, .ref w4, .ref w5])), (pl, .inr (2, [.int 1, .int 0, .int 0, .int 0, .int 0, .ref pl5, .ref pl6, .ref pl7, .ref pl8, .ref pl9, .ref pl10, .ref pl11, .ref pl12, .ref pl13]))]) [(h0, .inr (9, [.ref pl, .int (nI i), .ref w2, .ref w3, .ref w4, .ref w5])), (pl, .inr (2, [.int 1, .int 0, .int 0, .int 0, .int 0, .ref pl5, .ref pl6, .ref pl7, .ref pl8, .ref pl9, .ref pl10, .ref pl11, .ref pl12, .ref pl13]))] sz D) 0 0 (va_A [(h0, .inr (9, [.ref pl, .int (nI i), .ref w2, .ref w3, .ref w4, .ref w5])), (pl, .inr (2, [.int 1, .int 0, .int 0, .int 0, .int 0, .ref pl5, .ref pl6, .ref pl7, .ref pl8, .ref pl9, .ref pl10, .ref pl11, .ref pl12, .ref pl13]))] sz) := by
  refine Met.ofW (cc := cX9_lend) (maxL := 4) (ret := none) (by decide +kernel) rfl ?_
  intro p e s m args below meth c s₁ B hml hv
  obtain ⟨rfl, hsz, hP, hC, hD0⟩ := hv
  have hx := B.exec
  have hb := B.bytes
  have hr := B.returns
  have hts := atoms_spec (ws := wsX9_lend) B.pre
  have hown : s.vm.findClass RX9 = some m.cls := findClass_of_methodNamed B.named
  have hlocks := B.notSynchronized
  subst hsz
  have hD := hD0.self (sz := s.heap.size)
  dsimp only [QV, QI, QL, BQ]
  generalize hAe : va_A [(h0, .inr (9, [.ref pl, .int (nI i), .ref w2, .ref w3, .ref w4, .ref w5])), (pl, .inr (2, [.int 1, .int 0, .int 0, .int 0, .int 0, .ref pl5, .ref pl6, .ref pl7, .ref pl8, .ref pl9, .ref pl10, .ref pl11, .ref pl12, .ref pl13]))] s.heap.size = A at hD ⊢
  have hA : ∀ q : Nat, s.heap.size ≤ q → A q := fun q h => by rw [← hAe]; exact Or.inr h
  have hDA : ∀ {w : va_W}, va_D A w → va_D (va_A [(h0, .inr (9, [.ref pl, .int (nI i), .ref w2, .ref w3, .ref w4, .ref w5])), (pl, .inr (2, [.int 1, .int 0, .int 0, .int 0, .int 0, .ref pl5, .ref pl6, .ref pl7, .ref pl8, .ref pl9, .ref pl10, .ref pl11, .ref pl12, .ref pl13]))] s.heap.size) w := fun h => by rw [hAe]; exact h
  have hS : va_S A s.heap s.heap [] := va_S.rf
  have hP : va_P D vwCl [(h0, .inr (9, [.ref pl, .int (nI i), .ref w2, .ref w3, .ref w4, .ref w5])), (pl, .inr (2, [.int 1, .int 0, .int 0, .int 0, .int 0, .ref pl5, .ref pl6, .ref pl7, .ref pl8, .ref pl9, .ref pl10, .ref pl11, .ref pl12, .ref pl13]))] s.heap := hP
  have hl := lv_entry ([.ref h0]) (n := 4) (Nat.le_of_ble_eq_true rfl)
  rw [lg_entry_eq]
  generalize (lg_sl ([.ref h0]) ++ List.replicate (4 - (lg_sl ([.ref h0])).length) Slot.unset).toArray = ls at hl ⊢
  have hl : lv_has ls 4 [(0, .ref h0)] := hl
  refine lv_iconst (v := 0) hx hb dX9_lend_0 (by decide +kernel) ?_
  refine lv_istore_n (lv' := [(1, .int 0), (0, .ref h0)]) hx hb dX9_lend_1 rfl hl (by decide +kernel) rfl (fun ls hl => ?_)
  refine lv_iload_n hx hb dX9_lend_2 rfl (lv_at hl 0 rfl) ?_
  refine lv_aload_n hx hb dX9_lend_3 rfl (lv_at hl 1 rfl) ?_
  refine va_get (D := D) (ci := 9) (v := .ref pl) (C := RX9) (T := TX9) (N := 6) hx hb hts iw_X9_lend_9 hown hC.1 hP 0 rfl rfl 0 (by decide +kernel) (hts (.fieldLink RX9 33 "FairWheel$Wheel" "plan" "LFairWheel$Plan;") (by decide +kernel)) (fun _ h9 => h9) rfl dX9_lend_4 ?_
  refine va_get (D := D) (ci := 2) (v := .int 0) (C := RX2) (T := TX2) (N := 14) hx hb hts iw_X9_lend_2 hown hC.1 hP 1 rfl rfl 3 (by decide +kernel) (hts (.fieldLink RX9 41 "FairWheel$Plan" "count" "I") (by decide +kernel)) (fun _ h9 => h9) rfl dX9_lend_7 ?_
  refine lv_icmp_ge (tgt := 34) hx hb dX9_lend_10 (by decide +kernel) (fun c_1 => ?_) (fun c_1 => absurd (by decide +kernel) c_1)
  refine lv_iconst (v := 0) hx hb dX9_lend_34 (by decide +kernel) ?_
  refine lv_istore_n (lv' := [(1, .int 0), (0, .ref h0)]) hx hb dX9_lend_35 rfl hl (by decide +kernel) rfl (fun ls hl => ?_)
  refine lv_iload_n hx hb dX9_lend_36 rfl (lv_at hl 0 rfl) ?_
  refine lv_aload_n hx hb dX9_lend_37 rfl (lv_at hl 1 rfl) ?_
  refine va_get (D := D) (ci := 9) (v := .ref pl) (C := RX9) (T := TX9) (N := 6) hx hb hts iw_X9_lend_9 hown hC.1 hP 0 rfl rfl 0 (by decide +kernel) (hts (.fieldLink RX9 33 "FairWheel$Wheel" "plan" "LFairWheel$Plan;") (by decide +kernel)) (fun _ h9 => h9) rfl dX9_lend_38 ?_
  refine va_get (D := D) (ci := 2) (v := .int 0) (C := RX2) (T := TX2) (N := 14) hx hb hts iw_X9_lend_2 hown hC.1 hP 1 rfl rfl 3 (by decide +kernel) (hts (.fieldLink RX9 41 "FairWheel$Plan" "count" "I") (by decide +kernel)) (fun _ h9 => h9) rfl dX9_lend_41 ?_
  refine lv_icmp_ge (tgt := 108) hx hb dX9_lend_44 (by decide +kernel) (fun c_2 => ?_) (fun c_2 => absurd (by decide +kernel) c_2)
  exact W.vret hx hb hr (fun t ht hW => ⟨⟨(), rfl, trivial, by rw [ht]; exact hP.sub [0, 1] rfl, hDA (hD.sub [0, 1] (by decide +kernel) rfl)⟩, hS.F ht⟩) hS.2.2 dX9_lend_108
theorem iw_X9_foremostReady_2 : ∀ w ∈ u_ws RX2 TX2 14, w ∈ wsX9_foremostReady := by decide +kernel
theorem iw_X9_foremostReady_9 : ∀ w ∈ u_ws RX9 TX9 6, w ∈ wsX9_foremostReady := by decide +kernel
set_option maxHeartbeats 4000000 in
set_option maxRecDepth 100000 in
theorem k_X9_foremostReady (l : Launch) (D : va_G) (ca : Nat → ClassId) (sz : Nat) (h0 : Nat) (w2 : Nat) (w3 : Nat) (w4 : Nat) (w5 : Nat) (pl : Nat) (pl5 : Nat) (pl6 : Nat) (pl7 : Nat) (pl8 : Nat) (pl9 : Nat) (pl10 : Nat) (pl11 : Nat) (pl12 : Nat) (pl13 : Nat) (i : Nat) : Met l yX9_foremostReady wsX9_foremostReady ({ frames := 0, cells := 0, slots := 0, locals := 0 }) (PC [.ref h0, .int 0] sz D ca [(h0, .inr (9, [.ref pl, .int (nI i), .ref w2, .ref w3, .ref w4, .ref w5])), (pl, .inr (2, [.int 1, .int 0, .int 0, .int 0, .int 0, .ref pl5, .ref pl6, .ref pl7, .ref pl8, .ref pl9, .ref pl10, .ref pl11, .ref pl12, .ref pl13]))]) (QI (fun (r : Int32) (u : Unit) => r = (-1)) (fun (_ : Unit) => [(h0, .inr (9, [.ref pl, .int (nI i), .ref w2, .ref w3, .ref w4, .ref w5])), (pl, .inr (2, [.int 1, .int 0, .int 0, .int 0, .int 0, .ref pl5, .ref pl6, .ref pl7, .ref pl8, .ref pl9, .ref pl10, .ref pl11, .ref pl12, .ref pl13]))]) [(h0, .inr (9, [.ref pl, .int (nI i), .ref w2, .ref w3, .ref w4, .ref w5])), (pl, .inr (2, [.int 1, .int 0, .int 0, .int 0, .int 0, .ref pl5, .ref pl6, .ref pl7, .ref pl8, .ref pl9, .ref pl10, .ref pl11, .ref pl12, .ref pl13]))] sz D) 0 0 (va_A [(h0, .inr (9, [.ref pl, .int (nI i), .ref w2, .ref w3, .ref w4, .ref w5])), (pl, .inr (2, [.int 1, .int 0, .int 0, .int 0, .int 0, .ref pl5, .ref pl6, .ref pl7, .ref pl8, .ref pl9, .ref pl10, .ref pl11, .ref pl12, .ref pl13]))] sz) := by
  refine Met.ofW (cc := cX9_foremostReady) (maxL := 6) (ret := (some .int)) (by decide +kernel) rfl ?_
  intro p e s m args below meth c s₁ B hml hv
  obtain ⟨rfl, hsz, hP, hC, hD0⟩ := hv
  have hx := B.exec
  have hb := B.bytes
  have hr := B.returns
  have hts := atoms_spec (ws := wsX9_foremostReady) B.pre
  have hown : s.vm.findClass RX9 = some m.cls := findClass_of_methodNamed B.named
  have hlocks := B.notSynchronized
  subst hsz
  have hD := hD0.self (sz := s.heap.size)
  dsimp only [QV, QI, QL, BQ]
  generalize hAe : va_A [(h0, .inr (9, [.ref pl, .int (nI i), .ref w2, .ref w3, .ref w4, .ref w5])), (pl, .inr (2, [.int 1, .int 0, .int 0, .int 0, .int 0, .ref pl5, .ref pl6, .ref pl7, .ref pl8, .ref pl9, .ref pl10, .ref pl11, .ref pl12, .ref pl13]))] s.heap.size = A at hD ⊢
  have hA : ∀ q : Nat, s.heap.size ≤ q → A q := fun q h => by rw [← hAe]; exact Or.inr h
  have hDA : ∀ {w : va_W}, va_D A w → va_D (va_A [(h0, .inr (9, [.ref pl, .int (nI i), .ref w2, .ref w3, .ref w4, .ref w5])), (pl, .inr (2, [.int 1, .int 0, .int 0, .int 0, .int 0, .ref pl5, .ref pl6, .ref pl7, .ref pl8, .ref pl9, .ref pl10, .ref pl11, .ref pl12, .ref pl13]))] s.heap.size) w := fun h => by rw [hAe]; exact h
  have hS : va_S A s.heap s.heap [] := va_S.rf
  have hP : va_P D vwCl [(h0, .inr (9, [.ref pl, .int (nI i), .ref w2, .ref w3, .ref w4, .ref w5])), (pl, .inr (2, [.int 1, .int 0, .int 0, .int 0, .int 0, .ref pl5, .ref pl6, .ref pl7, .ref pl8, .ref pl9, .ref pl10, .ref pl11, .ref pl12, .ref pl13]))] s.heap := hP
  have hl := lv_entry ([.ref h0, .int 0]) (n := 6) (Nat.le_of_ble_eq_true rfl)
  rw [lg_entry_eq]
  generalize (lg_sl ([.ref h0, .int 0]) ++ List.replicate (6 - (lg_sl ([.ref h0, .int 0])).length) Slot.unset).toArray = ls at hl ⊢
  have hl : lv_has ls 6 [(0, .ref h0), (1, .int 0)] := hl
  refine lv_iconst (v := (-1)) hx hb dX9_foremostReady_0 (by decide +kernel) ?_
  refine lv_istore_n (lv' := [(2, .int (-1)), (0, .ref h0), (1, .int 0)]) hx hb dX9_foremostReady_1 rfl hl (by decide +kernel) rfl (fun ls hl => ?_)
  refine lv_ldc2 (v := 4398046511104) hx hb hown (hts (.constantLong RX9 136 (4398046511104)) (by decide +kernel)) dX9_foremostReady_2 ?_
  refine lv_lstore_n (lv' := [(3, .long 4398046511104), (2, .int (-1)), (0, .ref h0), (1, .int 0)]) hx hb dX9_foremostReady_5 rfl hl (by decide +kernel) rfl (fun ls hl => ?_)
  refine lv_iconst (v := 0) hx hb dX9_foremostReady_6 (by decide +kernel) ?_
  refine lv_istore (lv' := [(5, .int 0), (3, .long 4398046511104), (2, .int (-1)), (0, .ref h0), (1, .int 0)]) hx hb dX9_foremostReady_7 hl (by decide +kernel) rfl (fun ls hl => ?_)
  refine lv_iload hx hb dX9_foremostReady_9 (lv_at hl 0 rfl) ?_
  refine lv_aload_n hx hb dX9_foremostReady_11 rfl (lv_at hl 3 rfl) ?_
  refine va_get (D := D) (ci := 9) (v := .ref pl) (C := RX9) (T := TX9) (N := 6) hx hb hts iw_X9_foremostReady_9 hown hC.1 hP 0 rfl rfl 0 (by decide +kernel) (hts (.fieldLink RX9 33 "FairWheel$Wheel" "plan" "LFairWheel$Plan;") (by decide +kernel)) (fun _ h9 => h9) rfl dX9_foremostReady_12 ?_
  refine va_get (D := D) (ci := 2) (v := .int 0) (C := RX2) (T := TX2) (N := 14) hx hb hts iw_X9_foremostReady_2 hown hC.1 hP 1 rfl rfl 3 (by decide +kernel) (hts (.fieldLink RX9 41 "FairWheel$Plan" "count" "I") (by decide +kernel)) (fun _ h9 => h9) rfl dX9_foremostReady_15 ?_
  refine lv_icmp_ge (tgt := 72) hx hb dX9_foremostReady_18 (by decide +kernel) (fun c_1 => ?_) (fun c_1 => absurd (by decide +kernel) c_1)
  refine lv_iload_n hx hb dX9_foremostReady_72 rfl (lv_at hl 2 rfl) ?_
  exact W.iret (v := (-1)) hx hb hr (fun t ht hW => ⟨⟨(-1), (), rfl, rfl, by rw [ht]; exact hP.sub [0, 1] rfl, hDA (hD.sub [0, 1] (by decide +kernel) rfl)⟩, hS.F ht⟩) hS.2.2 dX9_foremostReady_73
theorem iw_X9_choose_2 : ∀ w ∈ u_ws RX2 TX2 14, w ∈ wsX9_choose := by decide +kernel
theorem iw_X9_choose_9 : ∀ w ∈ u_ws RX9 TX9 6, w ∈ wsX9_choose := by decide +kernel
set_option maxHeartbeats 4000000 in
set_option maxRecDepth 100000 in
theorem k_X9_choose (l : Launch) (D : va_G) (ca : Nat → ClassId) (sz : Nat) (h0 : Nat) (w2 : Nat) (w3 : Nat) (w4 : Nat) (w5 : Nat) (pl : Nat) (pl5 : Nat) (pl6 : Nat) (pl7 : Nat) (pl8 : Nat) (pl9 : Nat) (pl10 : Nat) (pl11 : Nat) (pl12 : Nat) (pl13 : Nat) (i : Nat) : Met l yX9_choose wsX9_choose ({ frames := 1, cells := 0, slots := 0, locals := 25 }) (PC [.ref h0] sz D ca [(h0, .inr (9, [.ref pl, .int (nI i), .ref w2, .ref w3, .ref w4, .ref w5])), (pl, .inr (2, [.int 1, .int 0, .int 0, .int 0, .int 0, .ref pl5, .ref pl6, .ref pl7, .ref pl8, .ref pl9, .ref pl10, .ref pl11, .ref pl12, .ref pl13]))]) (QI (fun (r : Int32) (u : Unit) => r = 0) (fun (_ : Unit) => [(h0, .inr (9, [.ref pl, .int (nI i), .ref w2, .ref w3, .ref w4, .ref w5])), (pl, .inr (2, [.int 1, .int 0, .int 0, .int 0, .int 0, .ref pl5, .ref pl6, .ref pl7, .ref pl8, .ref pl9, .ref pl10, .ref pl11, .ref pl12, .ref pl13]))]) [(h0, .inr (9, [.ref pl, .int (nI i), .ref w2, .ref w3, .ref w4, .ref w5])), (pl, .inr (2, [.int 1, .int 0, .int 0, .int 0, .int 0, .ref pl5, .ref pl6, .ref pl7, .ref pl8, .ref pl9, .ref pl10, .ref pl11, .ref pl12, .ref pl13]))] sz D) 0 0 (va_A [(h0, .inr (9, [.ref pl, .int (nI i), .ref w2, .ref w3, .ref w4, .ref w5])), (pl, .inr (2, [.int 1, .int 0, .int 0, .int 0, .int 0, .ref pl5, .ref pl6, .ref pl7, .ref pl8, .ref pl9, .ref pl10, .ref pl11, .ref pl12, .ref pl13]))] sz) := by
  refine Met.ofW (cc := cX9_choose) (maxL := 5) (ret := (some .int)) (by decide +kernel) rfl ?_
  intro p e s m args below meth c s₁ B hml hv
  obtain ⟨rfl, hsz, hP, hC, hD0⟩ := hv
  have hx := B.exec
  have hb := B.bytes
  have hr := B.returns
  have hts := atoms_spec (ws := wsX9_choose) B.pre
  have hown : s.vm.findClass RX9 = some m.cls := findClass_of_methodNamed B.named
  have hlocks := B.notSynchronized
  subst hsz
  have hD := hD0.self (sz := s.heap.size)
  dsimp only [QV, QI, QL, BQ]
  generalize hAe : va_A [(h0, .inr (9, [.ref pl, .int (nI i), .ref w2, .ref w3, .ref w4, .ref w5])), (pl, .inr (2, [.int 1, .int 0, .int 0, .int 0, .int 0, .ref pl5, .ref pl6, .ref pl7, .ref pl8, .ref pl9, .ref pl10, .ref pl11, .ref pl12, .ref pl13]))] s.heap.size = A at hD ⊢
  have hA : ∀ q : Nat, s.heap.size ≤ q → A q := fun q h => by rw [← hAe]; exact Or.inr h
  have hDA : ∀ {w : va_W}, va_D A w → va_D (va_A [(h0, .inr (9, [.ref pl, .int (nI i), .ref w2, .ref w3, .ref w4, .ref w5])), (pl, .inr (2, [.int 1, .int 0, .int 0, .int 0, .int 0, .ref pl5, .ref pl6, .ref pl7, .ref pl8, .ref pl9, .ref pl10, .ref pl11, .ref pl12, .ref pl13]))] s.heap.size) w := fun h => by rw [hAe]; exact h
  have hS : va_S A s.heap s.heap [] := va_S.rf
  have hP : va_P D vwCl [(h0, .inr (9, [.ref pl, .int (nI i), .ref w2, .ref w3, .ref w4, .ref w5])), (pl, .inr (2, [.int 1, .int 0, .int 0, .int 0, .int 0, .ref pl5, .ref pl6, .ref pl7, .ref pl8, .ref pl9, .ref pl10, .ref pl11, .ref pl12, .ref pl13]))] s.heap := hP
  have hl := lv_entry ([.ref h0]) (n := 5) (Nat.le_of_ble_eq_true rfl)
  rw [lg_entry_eq]
  generalize (lg_sl ([.ref h0]) ++ List.replicate (5 - (lg_sl ([.ref h0])).length) Slot.unset).toArray = ls at hl ⊢
  have hl : lv_has ls 5 [(0, .ref h0)] := hl
  refine lv_aload_n hx hb dX9_choose_0 rfl (lv_at hl 0 rfl) ?_
  refine kc_v (wr := []) (va_runV (As := []) (rest := []) ⟨hx, hb, hml, hown, hts⟩ (k_X9_lend l D ca s.heap.size h0 w2 w3 w4 w5 pl pl5 pl6 pl7 pl8 pl9 pl10 pl11 pl12 pl13 i) (cwV 0 hts gX9_choose_X9_lend rfl rfl rfl (by decide +kernel) ⟨(Nat.le_of_ble_eq_true rfl), (Nat.le_of_ble_eq_true rfl)⟩) (PC.preV (ci := 9) hC hP hD [0, 1] rfl (by decide +kernel) rfl rfl) rfl rfl hl.1 rfl (lv_room (Nat.le_of_ble_eq_true rfl)) dX9_choose_1 ⟨(Nat.le_of_ble_eq_true rfl), (Nat.le_of_ble_eq_true rfl)⟩) hP hD hS hA [0, 1] [] rfl rfl (by decide +kernel) (by decide +kernel) (fun u_2 H locs hw_1 hP hD hS => ?_)
  have hP : va_P D vwCl [(h0, .inr (9, [.ref pl, .int (nI i), .ref w2, .ref w3, .ref w4, .ref w5])), (pl, .inr (2, [.int 1, .int 0, .int 0, .int 0, .int 0, .ref pl5, .ref pl6, .ref pl7, .ref pl8, .ref pl9, .ref pl10, .ref pl11, .ref pl12, .ref pl13]))] H := hP
  have hD : va_D A [(h0, .inr (9, [.ref pl, .int (nI i), .ref w2, .ref w3, .ref w4, .ref w5])), (pl, .inr (2, [.int 1, .int 0, .int 0, .int 0, .int 0, .ref pl5, .ref pl6, .ref pl7, .ref pl8, .ref pl9, .ref pl10, .ref pl11, .ref pl12, .ref pl13]))] := hD
  refine lv_iconst (v := 0) hx hb dX9_choose_4 (by decide +kernel) ?_
  refine lv_istore_n (lv' := [(1, .int 0), (0, .ref h0)]) hx hb dX9_choose_5 rfl hl (by decide +kernel) rfl (fun ls hl => ?_)
  refine lv_iconst (v := 0) hx hb dX9_choose_6 (by decide +kernel) ?_
  refine lv_istore_n (lv' := [(2, .int 0), (1, .int 0), (0, .ref h0)]) hx hb dX9_choose_7 rfl hl (by decide +kernel) rfl (fun ls hl => ?_)
  refine lv_iconst (v := 0) hx hb dX9_choose_8 (by decide +kernel) ?_
  refine lv_istore_n (lv' := [(3, .int 0), (2, .int 0), (1, .int 0), (0, .ref h0)]) hx hb dX9_choose_9 rfl hl (by decide +kernel) rfl (fun ls hl => ?_)
  refine lv_iload_n hx hb dX9_choose_10 rfl (lv_at hl 0 rfl) ?_
  refine lv_aload_n hx hb dX9_choose_11 rfl (lv_at hl 3 rfl) ?_
  refine va_get (D := D) (ci := 9) (v := .ref pl) (C := RX9) (T := TX9) (N := 6) hx hb hts iw_X9_choose_9 hown hC.1 hP 0 rfl rfl 0 (by decide +kernel) (hts (.fieldLink RX9 33 "FairWheel$Wheel" "plan" "LFairWheel$Plan;") (by decide +kernel)) (fun _ h9 => h9) rfl dX9_choose_12 ?_
  refine va_get (D := D) (ci := 2) (v := .int 1) (C := RX2) (T := TX2) (N := 14) hx hb hts iw_X9_choose_2 hown hC.1 hP 1 rfl rfl 0 (by decide +kernel) (hts (.fieldLink RX9 87 "FairWheel$Plan" "cores" "I") (by decide +kernel)) (fun _ h9 => h9) rfl dX9_choose_15 ?_
  refine lv_icmp_ge (tgt := 58) hx hb dX9_choose_18 (by decide +kernel) (fun c_3 => absurd c_3 (by decide +kernel)) (fun c_3 => ?_)
  refine lv_aload_n hx hb dX9_choose_21 rfl (lv_at hl 3 rfl) ?_
  refine lv_iload_n hx hb dX9_choose_22 rfl (lv_at hl 1 rfl) ?_
  refine kc_i (wr := []) (va_runV (As := [.int 0]) (rest := []) ⟨hx, hb, hml, hown, hts⟩ (k_X9_foremostReady l D ca H.size h0 w2 w3 w4 w5 pl pl5 pl6 pl7 pl8 pl9 pl10 pl11 pl12 pl13 i) (cwV 1 hts gX9_choose_X9_foremostReady rfl rfl rfl (by decide +kernel) ⟨(Nat.le_of_ble_eq_true rfl), (Nat.le_of_ble_eq_true rfl)⟩) (PC.preV (ci := 9) hC hP hD [0, 1] rfl (by decide +kernel) rfl rfl) rfl rfl hl.1 rfl (lv_room (Nat.le_of_ble_eq_true rfl)) dX9_choose_23 ⟨(Nat.le_of_ble_eq_true rfl), (Nat.le_of_ble_eq_true rfl)⟩) hP hD hS hA [0, 1] [] rfl rfl (by decide +kernel) (by decide +kernel) (fun r_4 u_6 H locs hw_5 hP hD hS => ?_)
  subst hw_5
  have hP : va_P D vwCl [(h0, .inr (9, [.ref pl, .int (nI i), .ref w2, .ref w3, .ref w4, .ref w5])), (pl, .inr (2, [.int 1, .int 0, .int 0, .int 0, .int 0, .ref pl5, .ref pl6, .ref pl7, .ref pl8, .ref pl9, .ref pl10, .ref pl11, .ref pl12, .ref pl13]))] H := hP
  have hD : va_D A [(h0, .inr (9, [.ref pl, .int (nI i), .ref w2, .ref w3, .ref w4, .ref w5])), (pl, .inr (2, [.int 1, .int 0, .int 0, .int 0, .int 0, .ref pl5, .ref pl6, .ref pl7, .ref pl8, .ref pl9, .ref pl10, .ref pl11, .ref pl12, .ref pl13]))] := hD
  refine lv_istore (lv' := [(4, .int (-1)), (3, .int 0), (2, .int 0), (1, .int 0), (0, .ref h0)]) hx hb dX9_choose_26 hl (by decide +kernel) rfl (fun ls hl => ?_)
  refine lv_iload hx hb dX9_choose_28 (lv_at hl 0 rfl) ?_
  refine lv_iconst (v := (-1)) hx hb dX9_choose_30 (by decide +kernel) ?_
  refine lv_icmp_eq (tgt := 52) hx hb dX9_choose_31 (by decide +kernel) (fun c_7 => ?_) (fun c_7 => absurd (by decide +kernel) c_7)
  refine lv_iinc (v := 1) (lv' := [(3, .int 1), (4, .int (-1)), (2, .int 0), (1, .int 0), (0, .ref h0)]) hx hb dX9_choose_52 hl (k := 1) rfl (by decide +kernel) (by decide +kernel) rfl (fun ls hl => ?_)
  refine lv_goto (tgt := 10) hx hb dX9_choose_55 (by decide +kernel) ?_
  refine lv_iload_n hx hb dX9_choose_10 rfl (lv_at hl 0 rfl) ?_
  refine lv_aload_n hx hb dX9_choose_11 rfl (lv_at hl 4 rfl) ?_
  refine va_get (D := D) (ci := 9) (v := .ref pl) (C := RX9) (T := TX9) (N := 6) hx hb hts iw_X9_choose_9 hown hC.1 hP 0 rfl rfl 0 (by decide +kernel) (hts (.fieldLink RX9 33 "FairWheel$Wheel" "plan" "LFairWheel$Plan;") (by decide +kernel)) (fun _ h9 => h9) rfl dX9_choose_12 ?_
  refine va_get (D := D) (ci := 2) (v := .int 1) (C := RX2) (T := TX2) (N := 14) hx hb hts iw_X9_choose_2 hown hC.1 hP 1 rfl rfl 0 (by decide +kernel) (hts (.fieldLink RX9 87 "FairWheel$Plan" "cores" "I") (by decide +kernel)) (fun _ h9 => h9) rfl dX9_choose_15 ?_
  refine lv_icmp_ge (tgt := 58) hx hb dX9_choose_18 (by decide +kernel) (fun c_8 => ?_) (fun c_8 => absurd (by decide +kernel) c_8)
  refine lv_iconst (v := 0) hx hb dX9_choose_58 (by decide +kernel) ?_
  refine lv_istore_n (lv' := [(3, .int 0), (4, .int (-1)), (2, .int 0), (1, .int 0), (0, .ref h0)]) hx hb dX9_choose_59 rfl hl (by decide +kernel) rfl (fun ls hl => ?_)
  refine lv_iload_n hx hb dX9_choose_60 rfl (lv_at hl 0 rfl) ?_
  refine lv_aload_n hx hb dX9_choose_61 rfl (lv_at hl 4 rfl) ?_
  refine va_get (D := D) (ci := 9) (v := .ref pl) (C := RX9) (T := TX9) (N := 6) hx hb hts iw_X9_choose_9 hown hC.1 hP 0 rfl rfl 0 (by decide +kernel) (hts (.fieldLink RX9 33 "FairWheel$Wheel" "plan" "LFairWheel$Plan;") (by decide +kernel)) (fun _ h9 => h9) rfl dX9_choose_62 ?_
  refine va_get (D := D) (ci := 2) (v := .int 0) (C := RX2) (T := TX2) (N := 14) hx hb hts iw_X9_choose_2 hown hC.1 hP 1 rfl rfl 3 (by decide +kernel) (hts (.fieldLink RX9 41 "FairWheel$Plan" "count" "I") (by decide +kernel)) (fun _ h9 => h9) rfl dX9_choose_65 ?_
  refine lv_icmp_ge (tgt := 111) hx hb dX9_choose_68 (by decide +kernel) (fun c_9 => ?_) (fun c_9 => absurd (by decide +kernel) c_9)
  refine lv_iload_n hx hb dX9_choose_111 rfl (lv_at hl 3 rfl) ?_
  exact W.iret (v := 0) hx hb hr (fun t ht hW => ⟨⟨0, (), rfl, rfl, by rw [ht]; exact hP.sub [0, 1] rfl, hDA (hD.sub [0, 1] (by decide +kernel) rfl)⟩, hS.F ht⟩) hS.2.2 dX9_choose_112
set_option maxHeartbeats 4000000 in
set_option maxRecDepth 100000 in
theorem k_X10_pick (l : Launch) (D : va_G) (ca : Nat → ClassId) (sz : Nat) : Met l yX10_pick wsX10_pick ({ frames := 0, cells := 0, slots := 0, locals := 0 }) (PC [.int 0, .int 0] sz D ca []) (QI (fun (r : Int32) (u : Unit) => r = (-1)) (fun (_ : Unit) => []) [] sz D) 0 0 (va_A [] sz) := by
  refine Met.ofW (cc := cX10_pick) (maxL := 2) (ret := (some .int)) (by decide +kernel) rfl ?_
  intro p e s m args below meth c s₁ B hml hv
  obtain ⟨rfl, hsz, hP, hC, hD0⟩ := hv
  have hx := B.exec
  have hb := B.bytes
  have hr := B.returns
  have hts := atoms_spec (ws := wsX10_pick) B.pre
  have hown : s.vm.findClass RX10 = some m.cls := findClass_of_methodNamed B.named
  have hlocks := B.notSynchronized
  subst hsz
  have hD := hD0.self (sz := s.heap.size)
  dsimp only [QV, QI, QL, BQ]
  generalize hAe : va_A [] s.heap.size = A at hD ⊢
  have hA : ∀ q : Nat, s.heap.size ≤ q → A q := fun q h => by rw [← hAe]; exact Or.inr h
  have hDA : ∀ {w : va_W}, va_D A w → va_D (va_A [] s.heap.size) w := fun h => by rw [hAe]; exact h
  have hS : va_S A s.heap s.heap [] := va_S.rf
  have hP : va_P D vwCl [] s.heap := hP
  have hl := lv_entry ([.int 0, .int 0]) (n := 2) (Nat.le_of_ble_eq_true rfl)
  rw [lg_entry_eq]
  generalize (lg_sl ([.int 0, .int 0]) ++ List.replicate (2 - (lg_sl ([.int 0, .int 0])).length) Slot.unset).toArray = ls at hl ⊢
  have hl : lv_has ls 2 [(0, .int 0), (1, .int 0)] := hl
  refine lv_iload_n hx hb dX10_pick_0 rfl (lv_at hl 0 rfl) ?_
  refine lv_iconst (v := 4) hx hb dX10_pick_1 (by decide +kernel) ?_
  refine lv_iload_n hx hb dX10_pick_2 rfl (lv_at hl 1 rfl) ?_
  refine lv_imul hx hb dX10_pick_3 ?_
  refine nt_i 0 (by decide +kernel) ?_
  refine lv_ishr hx hb dX10_pick_4 ?_
  refine nt_i 0 (by decide +kernel) ?_
  refine lv_bipush (v := 15) hx hb dX10_pick_5 (by decide +kernel) ?_
  refine lv_iand hx hb dX10_pick_7 ?_
  refine nt_i 0 (by decide +kernel) ?_
  refine lv_iconst (v := 1) hx hb dX10_pick_8 (by decide +kernel) ?_
  refine lv_isub hx hb dX10_pick_9 ?_
  refine nt_i (-1) (by decide +kernel) ?_
  exact W.iret (v := (-1)) hx hb hr (fun t ht hW => ⟨⟨(-1), (), rfl, rfl, by rw [ht]; exact hP.sub [] rfl, hDA (hD.sub [] (by decide +kernel) rfl)⟩, hS.F ht⟩) hS.2.2 dX10_pick_10
theorem iw_X9_pay_2 : ∀ w ∈ u_ws RX2 TX2 14, w ∈ wsX9_pay := by decide +kernel
theorem iw_X9_pay_9 : ∀ w ∈ u_ws RX9 TX9 6, w ∈ wsX9_pay := by decide +kernel
set_option maxHeartbeats 4000000 in
set_option maxRecDepth 100000 in
theorem k_X9_pay (l : Launch) (D : va_G) (ca : Nat → ClassId) (sz : Nat) (h0 : Nat) (w2 : Nat) (w3 : Nat) (w4 : Nat) (w5 : Nat) (pl : Nat) (pl5 : Nat) (pl6 : Nat) (pl7 : Nat) (pl8 : Nat) (pl9 : Nat) (pl10 : Nat) (pl11 : Nat) (pl12 : Nat) (pl13 : Nat) (i : Nat) : Met l yX9_pay wsX9_pay ({ frames := 1, cells := 0, slots := 0, locals := 21 }) (PC [.ref h0, .int 0] sz D ca [(h0, .inr (9, [.ref pl, .int (nI i), .ref w2, .ref w3, .ref w4, .ref w5])), (pl, .inr (2, [.int 1, .int 0, .int 0, .int 0, .int 0, .ref pl5, .ref pl6, .ref pl7, .ref pl8, .ref pl9, .ref pl10, .ref pl11, .ref pl12, .ref pl13]))]) (QV (fun (u : Unit) => True) (fun (_ : Unit) => [(h0, .inr (9, [.ref pl, .int (nI i), .ref w2, .ref w3, .ref w4, .ref w5])), (pl, .inr (2, [.int 1, .int 0, .int 0, .int 0, .int 0, .ref pl5, .ref pl6, .ref pl7, .ref pl8, .ref pl9, .ref pl10, .ref pl11, .ref pl12, .ref pl13]))]) [(h0, .inr (9, [.ref pl, .int (nI i), .ref w2, .ref w3, .ref w4, .ref w5])), (pl, .inr (2, [.int 1, .int 0, .int 0, .int 0, .int 0, .ref pl5, .ref pl6, .ref pl7, .ref pl8, .ref pl9, .ref pl10, .ref pl11, .ref pl12, .ref pl13]))] sz D) 0 0 (va_A [(h0, .inr (9, [.ref pl, .int (nI i), .ref w2, .ref w3, .ref w4, .ref w5])), (pl, .inr (2, [.int 1, .int 0, .int 0, .int 0, .int 0, .ref pl5, .ref pl6, .ref pl7, .ref pl8, .ref pl9, .ref pl10, .ref pl11, .ref pl12, .ref pl13]))] sz) := by
  refine Met.ofW (cc := cX9_pay) (maxL := 4) (ret := none) (by decide +kernel) rfl ?_
  intro p e s m args below meth c s₁ B hml hv
  obtain ⟨rfl, hsz, hP, hC, hD0⟩ := hv
  have hx := B.exec
  have hb := B.bytes
  have hr := B.returns
  have hts := atoms_spec (ws := wsX9_pay) B.pre
  have hown : s.vm.findClass RX9 = some m.cls := findClass_of_methodNamed B.named
  have hlocks := B.notSynchronized
  subst hsz
  have hD := hD0.self (sz := s.heap.size)
  dsimp only [QV, QI, QL, BQ]
  generalize hAe : va_A [(h0, .inr (9, [.ref pl, .int (nI i), .ref w2, .ref w3, .ref w4, .ref w5])), (pl, .inr (2, [.int 1, .int 0, .int 0, .int 0, .int 0, .ref pl5, .ref pl6, .ref pl7, .ref pl8, .ref pl9, .ref pl10, .ref pl11, .ref pl12, .ref pl13]))] s.heap.size = A at hD ⊢
  have hA : ∀ q : Nat, s.heap.size ≤ q → A q := fun q h => by rw [← hAe]; exact Or.inr h
  have hDA : ∀ {w : va_W}, va_D A w → va_D (va_A [(h0, .inr (9, [.ref pl, .int (nI i), .ref w2, .ref w3, .ref w4, .ref w5])), (pl, .inr (2, [.int 1, .int 0, .int 0, .int 0, .int 0, .ref pl5, .ref pl6, .ref pl7, .ref pl8, .ref pl9, .ref pl10, .ref pl11, .ref pl12, .ref pl13]))] s.heap.size) w := fun h => by rw [hAe]; exact h
  have hS : va_S A s.heap s.heap [] := va_S.rf
  have hP : va_P D vwCl [(h0, .inr (9, [.ref pl, .int (nI i), .ref w2, .ref w3, .ref w4, .ref w5])), (pl, .inr (2, [.int 1, .int 0, .int 0, .int 0, .int 0, .ref pl5, .ref pl6, .ref pl7, .ref pl8, .ref pl9, .ref pl10, .ref pl11, .ref pl12, .ref pl13]))] s.heap := hP
  have hl := lv_entry ([.ref h0, .int 0]) (n := 4) (Nat.le_of_ble_eq_true rfl)
  rw [lg_entry_eq]
  generalize (lg_sl ([.ref h0, .int 0]) ++ List.replicate (4 - (lg_sl ([.ref h0, .int 0])).length) Slot.unset).toArray = ls at hl ⊢
  have hl : lv_has ls 4 [(0, .ref h0), (1, .int 0)] := hl
  refine lv_iconst (v := 0) hx hb dX9_pay_0 (by decide +kernel) ?_
  refine lv_istore_n (lv' := [(2, .int 0), (0, .ref h0), (1, .int 0)]) hx hb dX9_pay_1 rfl hl (by decide +kernel) rfl (fun ls hl => ?_)
  refine lv_iload_n hx hb dX9_pay_2 rfl (lv_at hl 0 rfl) ?_
  refine lv_aload_n hx hb dX9_pay_3 rfl (lv_at hl 1 rfl) ?_
  refine va_get (D := D) (ci := 9) (v := .ref pl) (C := RX9) (T := TX9) (N := 6) hx hb hts iw_X9_pay_9 hown hC.1 hP 0 rfl rfl 0 (by decide +kernel) (hts (.fieldLink RX9 33 "FairWheel$Wheel" "plan" "LFairWheel$Plan;") (by decide +kernel)) (fun _ h9 => h9) rfl dX9_pay_4 ?_
  refine va_get (D := D) (ci := 2) (v := .int 1) (C := RX2) (T := TX2) (N := 14) hx hb hts iw_X9_pay_2 hown hC.1 hP 1 rfl rfl 0 (by decide +kernel) (hts (.fieldLink RX9 87 "FairWheel$Plan" "cores" "I") (by decide +kernel)) (fun _ h9 => h9) rfl dX9_pay_7 ?_
  refine lv_icmp_ge (tgt := 40) hx hb dX9_pay_10 (by decide +kernel) (fun c_1 => absurd c_1 (by decide +kernel)) (fun c_1 => ?_)
  refine lv_iload_n hx hb dX9_pay_13 rfl (lv_at hl 2 rfl) ?_
  refine lv_iload_n hx hb dX9_pay_14 rfl (lv_at hl 0 rfl) ?_
  refine kc_i (wr := [(h0, .inr (9, [.ref pl, .int (nI i), .ref w2, .ref w3, .ref w4, .ref w5])), (pl, .inr (2, [.int 1, .int 0, .int 0, .int 0, .int 0, .ref pl5, .ref pl6, .ref pl7, .ref pl8, .ref pl9, .ref pl10, .ref pl11, .ref pl12, .ref pl13]))]) (va_runSN (As := [.int 0, .int 0]) (rest := []) ⟨hx, hb, hml, hown, hts⟩ (k_X10_pick l D ca s.heap.size ) (⟨va_cnB 2 hts gX9_pay_X10_pick_n90 rfl rfl rfl hC.2.2.2.2.2.2.2.2.1 (hts (.initialized RX10) (by decide +kernel)) (by decide +kernel) ⟨(Nat.le_of_ble_eq_true rfl), (Nat.le_of_ble_eq_true rfl)⟩, hts (.static yX10_pick) (by decide +kernel), trivial⟩) (PC.preS hC hP hD [] rfl (by decide +kernel)) rfl rfl hl.1 rfl (lv_room (Nat.le_of_ble_eq_true rfl)) dX9_pay_15 ⟨(Nat.le_of_ble_eq_true rfl), (Nat.le_of_ble_eq_true rfl)⟩) hP hD hS hA [] [0, 1] rfl rfl (by decide +kernel) (by decide +kernel) (fun r_2 u_4 H locs hw_3 hP hD hS => ?_)
  subst hw_3
  have hP : va_P D vwCl [(h0, .inr (9, [.ref pl, .int (nI i), .ref w2, .ref w3, .ref w4, .ref w5])), (pl, .inr (2, [.int 1, .int 0, .int 0, .int 0, .int 0, .ref pl5, .ref pl6, .ref pl7, .ref pl8, .ref pl9, .ref pl10, .ref pl11, .ref pl12, .ref pl13]))] H := hP
  have hD : va_D A [(h0, .inr (9, [.ref pl, .int (nI i), .ref w2, .ref w3, .ref w4, .ref w5])), (pl, .inr (2, [.int 1, .int 0, .int 0, .int 0, .int 0, .ref pl5, .ref pl6, .ref pl7, .ref pl8, .ref pl9, .ref pl10, .ref pl11, .ref pl12, .ref pl13]))] := hD
  refine lv_istore_n (lv' := [(3, .int (-1)), (2, .int 0), (0, .ref h0), (1, .int 0)]) hx hb dX9_pay_18 rfl hl (by decide +kernel) rfl (fun ls hl => ?_)
  refine lv_iload_n hx hb dX9_pay_19 rfl (lv_at hl 0 rfl) ?_
  refine lv_iconst (v := (-1)) hx hb dX9_pay_20 (by decide +kernel) ?_
  refine lv_icmp_eq (tgt := 34) hx hb dX9_pay_21 (by decide +kernel) (fun c_5 => ?_) (fun c_5 => absurd (by decide +kernel) c_5)
  refine lv_iinc (v := 1) (lv' := [(2, .int 1), (3, .int (-1)), (0, .ref h0), (1, .int 0)]) hx hb dX9_pay_34 hl (k := 1) rfl (by decide +kernel) (by decide +kernel) rfl (fun ls hl => ?_)
  refine lv_goto (tgt := 2) hx hb dX9_pay_37 (by decide +kernel) ?_
  refine lv_iload_n hx hb dX9_pay_2 rfl (lv_at hl 0 rfl) ?_
  refine lv_aload_n hx hb dX9_pay_3 rfl (lv_at hl 2 rfl) ?_
  refine va_get (D := D) (ci := 9) (v := .ref pl) (C := RX9) (T := TX9) (N := 6) hx hb hts iw_X9_pay_9 hown hC.1 hP 0 rfl rfl 0 (by decide +kernel) (hts (.fieldLink RX9 33 "FairWheel$Wheel" "plan" "LFairWheel$Plan;") (by decide +kernel)) (fun _ h9 => h9) rfl dX9_pay_4 ?_
  refine va_get (D := D) (ci := 2) (v := .int 1) (C := RX2) (T := TX2) (N := 14) hx hb hts iw_X9_pay_2 hown hC.1 hP 1 rfl rfl 0 (by decide +kernel) (hts (.fieldLink RX9 87 "FairWheel$Plan" "cores" "I") (by decide +kernel)) (fun _ h9 => h9) rfl dX9_pay_7 ?_
  refine lv_icmp_ge (tgt := 40) hx hb dX9_pay_10 (by decide +kernel) (fun c_6 => ?_) (fun c_6 => absurd (by decide +kernel) c_6)
  exact W.vret hx hb hr (fun t ht hW => ⟨⟨(), rfl, trivial, by rw [ht]; exact hP.sub [0, 1] rfl, hDA (hD.sub [0, 1] (by decide +kernel) rfl)⟩, hS.F ht⟩) hS.2.2 dX9_pay_40
theorem iw_X9_tick_2 : ∀ w ∈ u_ws RX2 TX2 14, w ∈ wsX9_tick := by decide +kernel
theorem iw_X9_tick_9 : ∀ w ∈ u_ws RX9 TX9 6, w ∈ wsX9_tick := by decide +kernel
set_option maxHeartbeats 4000000 in
set_option maxRecDepth 100000 in
theorem k_X9_tick (l : Launch) (D : va_G) (ca : Nat → ClassId) (sz : Nat) (h0 : Nat) (w2 : Nat) (w3 : Nat) (w4 : Nat) (w5 : Nat) (pl : Nat) (pl5 : Nat) (pl6 : Nat) (pl7 : Nat) (pl8 : Nat) (pl9 : Nat) (pl10 : Nat) (pl11 : Nat) (pl12 : Nat) (pl13 : Nat) (i : Nat) : Met l yX9_tick wsX9_tick ({ frames := 2, cells := 0, slots := 0, locals := 49 }) (PC [.ref h0] sz D ca [(h0, .inr (9, [.ref pl, .int (nI i), .ref w2, .ref w3, .ref w4, .ref w5])), (pl, .inr (2, [.int 1, .int 0, .int 0, .int 0, .int 0, .ref pl5, .ref pl6, .ref pl7, .ref pl8, .ref pl9, .ref pl10, .ref pl11, .ref pl12, .ref pl13]))]) (QI (fun (r : Int32) (u : Unit) => r = 0) (fun (_ : Unit) => [(h0, .inr (9, [.ref pl, .int (nI (i + 1)), .ref w2, .ref w3, .ref w4, .ref w5])), (pl, .inr (2, [.int 1, .int 0, .int 0, .int 0, .int 0, .ref pl5, .ref pl6, .ref pl7, .ref pl8, .ref pl9, .ref pl10, .ref pl11, .ref pl12, .ref pl13]))]) [(h0, .inr (9, [.ref pl, .int (nI i), .ref w2, .ref w3, .ref w4, .ref w5])), (pl, .inr (2, [.int 1, .int 0, .int 0, .int 0, .int 0, .ref pl5, .ref pl6, .ref pl7, .ref pl8, .ref pl9, .ref pl10, .ref pl11, .ref pl12, .ref pl13]))] sz D) 0 0 (va_A [(h0, .inr (9, [.ref pl, .int (nI i), .ref w2, .ref w3, .ref w4, .ref w5])), (pl, .inr (2, [.int 1, .int 0, .int 0, .int 0, .int 0, .ref pl5, .ref pl6, .ref pl7, .ref pl8, .ref pl9, .ref pl10, .ref pl11, .ref pl12, .ref pl13]))] sz) := by
  refine Met.ofW (cc := cX9_tick) (maxL := 4) (ret := (some .int)) (by decide +kernel) rfl ?_
  intro p e s m args below meth c s₁ B hml hv
  obtain ⟨rfl, hsz, hP, hC, hD0⟩ := hv
  have hx := B.exec
  have hb := B.bytes
  have hr := B.returns
  have hts := atoms_spec (ws := wsX9_tick) B.pre
  have hown : s.vm.findClass RX9 = some m.cls := findClass_of_methodNamed B.named
  have hlocks := B.notSynchronized
  subst hsz
  have hD := hD0.self (sz := s.heap.size)
  dsimp only [QV, QI, QL, BQ]
  generalize hAe : va_A [(h0, .inr (9, [.ref pl, .int (nI i), .ref w2, .ref w3, .ref w4, .ref w5])), (pl, .inr (2, [.int 1, .int 0, .int 0, .int 0, .int 0, .ref pl5, .ref pl6, .ref pl7, .ref pl8, .ref pl9, .ref pl10, .ref pl11, .ref pl12, .ref pl13]))] s.heap.size = A at hD ⊢
  have hA : ∀ q : Nat, s.heap.size ≤ q → A q := fun q h => by rw [← hAe]; exact Or.inr h
  have hDA : ∀ {w : va_W}, va_D A w → va_D (va_A [(h0, .inr (9, [.ref pl, .int (nI i), .ref w2, .ref w3, .ref w4, .ref w5])), (pl, .inr (2, [.int 1, .int 0, .int 0, .int 0, .int 0, .ref pl5, .ref pl6, .ref pl7, .ref pl8, .ref pl9, .ref pl10, .ref pl11, .ref pl12, .ref pl13]))] s.heap.size) w := fun h => by rw [hAe]; exact h
  have hS : va_S A s.heap s.heap [] := va_S.rf
  have hP : va_P D vwCl [(h0, .inr (9, [.ref pl, .int (nI i), .ref w2, .ref w3, .ref w4, .ref w5])), (pl, .inr (2, [.int 1, .int 0, .int 0, .int 0, .int 0, .ref pl5, .ref pl6, .ref pl7, .ref pl8, .ref pl9, .ref pl10, .ref pl11, .ref pl12, .ref pl13]))] s.heap := hP
  have hl := lv_entry ([.ref h0]) (n := 4) (Nat.le_of_ble_eq_true rfl)
  rw [lg_entry_eq]
  generalize (lg_sl ([.ref h0]) ++ List.replicate (4 - (lg_sl ([.ref h0])).length) Slot.unset).toArray = ls at hl ⊢
  have hl : lv_has ls 4 [(0, .ref h0)] := hl
  refine lv_aload_n hx hb dX9_tick_0 rfl (lv_at hl 0 rfl) ?_
  refine kc_v (wr := []) (va_runV (As := []) (rest := []) ⟨hx, hb, hml, hown, hts⟩ (k_X9_refill l D ca s.heap.size h0 w2 w3 w4 w5 pl pl5 pl6 pl7 pl8 pl9 pl10 pl11 pl12 pl13 i) (cwV 0 hts gX9_tick_X9_refill rfl rfl rfl (by decide +kernel) ⟨(Nat.le_of_ble_eq_true rfl), (Nat.le_of_ble_eq_true rfl)⟩) (PC.preV (ci := 9) hC hP hD [0, 1] rfl (by decide +kernel) rfl rfl) rfl rfl hl.1 rfl (lv_room (Nat.le_of_ble_eq_true rfl)) dX9_tick_1 ⟨(Nat.le_of_ble_eq_true rfl), (Nat.le_of_ble_eq_true rfl)⟩) hP hD hS hA [0, 1] [] rfl rfl (by decide +kernel) (by decide +kernel) (fun u_2 H locs hw_1 hP hD hS => ?_)
  have hP : va_P D vwCl [(h0, .inr (9, [.ref pl, .int (nI i), .ref w2, .ref w3, .ref w4, .ref w5])), (pl, .inr (2, [.int 1, .int 0, .int 0, .int 0, .int 0, .ref pl5, .ref pl6, .ref pl7, .ref pl8, .ref pl9, .ref pl10, .ref pl11, .ref pl12, .ref pl13]))] H := hP
  have hD : va_D A [(h0, .inr (9, [.ref pl, .int (nI i), .ref w2, .ref w3, .ref w4, .ref w5])), (pl, .inr (2, [.int 1, .int 0, .int 0, .int 0, .int 0, .ref pl5, .ref pl6, .ref pl7, .ref pl8, .ref pl9, .ref pl10, .ref pl11, .ref pl12, .ref pl13]))] := hD
  refine lv_aload_n hx hb dX9_tick_4 rfl (lv_at hl 0 rfl) ?_
  refine kc_v (wr := []) (va_runV (As := []) (rest := []) ⟨hx, hb, hml, hown, hts⟩ (k_X9_awake l D ca H.size h0 w2 w3 w4 w5 pl pl5 pl6 pl7 pl8 pl9 pl10 pl11 pl12 pl13 i) (cwV 0 hts gX9_tick_X9_awake rfl rfl rfl (by decide +kernel) ⟨(Nat.le_of_ble_eq_true rfl), (Nat.le_of_ble_eq_true rfl)⟩) (PC.preV (ci := 9) hC hP hD [0, 1] rfl (by decide +kernel) rfl rfl) rfl rfl hl.1 rfl (lv_room (Nat.le_of_ble_eq_true rfl)) dX9_tick_5 ⟨(Nat.le_of_ble_eq_true rfl), (Nat.le_of_ble_eq_true rfl)⟩) hP hD hS hA [0, 1] [] rfl rfl (by decide +kernel) (by decide +kernel) (fun u_4 H locs hw_3 hP hD hS => ?_)
  have hP : va_P D vwCl [(h0, .inr (9, [.ref pl, .int (nI i), .ref w2, .ref w3, .ref w4, .ref w5])), (pl, .inr (2, [.int 1, .int 0, .int 0, .int 0, .int 0, .ref pl5, .ref pl6, .ref pl7, .ref pl8, .ref pl9, .ref pl10, .ref pl11, .ref pl12, .ref pl13]))] H := hP
  have hD : va_D A [(h0, .inr (9, [.ref pl, .int (nI i), .ref w2, .ref w3, .ref w4, .ref w5])), (pl, .inr (2, [.int 1, .int 0, .int 0, .int 0, .int 0, .ref pl5, .ref pl6, .ref pl7, .ref pl8, .ref pl9, .ref pl10, .ref pl11, .ref pl12, .ref pl13]))] := hD
  refine lv_aload_n hx hb dX9_tick_8 rfl (lv_at hl 0 rfl) ?_
  refine kc_i (wr := []) (va_runV (As := []) (rest := []) ⟨hx, hb, hml, hown, hts⟩ (k_X9_choose l D ca H.size h0 w2 w3 w4 w5 pl pl5 pl6 pl7 pl8 pl9 pl10 pl11 pl12 pl13 i) (cwV 0 hts gX9_tick_X9_choose rfl rfl rfl (by decide +kernel) ⟨(Nat.le_of_ble_eq_true rfl), (Nat.le_of_ble_eq_true rfl)⟩) (PC.preV (ci := 9) hC hP hD [0, 1] rfl (by decide +kernel) rfl rfl) rfl rfl hl.1 rfl (lv_room (Nat.le_of_ble_eq_true rfl)) dX9_tick_9 ⟨(Nat.le_of_ble_eq_true rfl), (Nat.le_of_ble_eq_true rfl)⟩) hP hD hS hA [0, 1] [] rfl rfl (by decide +kernel) (by decide +kernel) (fun r_5 u_7 H locs hw_6 hP hD hS => ?_)
  subst hw_6
  have hP : va_P D vwCl [(h0, .inr (9, [.ref pl, .int (nI i), .ref w2, .ref w3, .ref w4, .ref w5])), (pl, .inr (2, [.int 1, .int 0, .int 0, .int 0, .int 0, .ref pl5, .ref pl6, .ref pl7, .ref pl8, .ref pl9, .ref pl10, .ref pl11, .ref pl12, .ref pl13]))] H := hP
  have hD : va_D A [(h0, .inr (9, [.ref pl, .int (nI i), .ref w2, .ref w3, .ref w4, .ref w5])), (pl, .inr (2, [.int 1, .int 0, .int 0, .int 0, .int 0, .ref pl5, .ref pl6, .ref pl7, .ref pl8, .ref pl9, .ref pl10, .ref pl11, .ref pl12, .ref pl13]))] := hD
  refine lv_istore_n (lv' := [(1, .int 0), (0, .ref h0)]) hx hb dX9_tick_12 rfl hl (by decide +kernel) rfl (fun ls hl => ?_)
  refine lv_iconst (v := 0) hx hb dX9_tick_13 (by decide +kernel) ?_
  refine lv_istore_n (lv' := [(2, .int 0), (1, .int 0), (0, .ref h0)]) hx hb dX9_tick_14 rfl hl (by decide +kernel) rfl (fun ls hl => ?_)
  refine lv_iload_n hx hb dX9_tick_15 rfl (lv_at hl 0 rfl) ?_
  refine lv_aload_n hx hb dX9_tick_16 rfl (lv_at hl 2 rfl) ?_
  refine va_get (D := D) (ci := 9) (v := .ref pl) (C := RX9) (T := TX9) (N := 6) hx hb hts iw_X9_tick_9 hown hC.1 hP 0 rfl rfl 0 (by decide +kernel) (hts (.fieldLink RX9 33 "FairWheel$Wheel" "plan" "LFairWheel$Plan;") (by decide +kernel)) (fun _ h9 => h9) rfl dX9_tick_17 ?_
  refine va_get (D := D) (ci := 2) (v := .int 1) (C := RX2) (T := TX2) (N := 14) hx hb hts iw_X9_tick_2 hown hC.1 hP 1 rfl rfl 0 (by decide +kernel) (hts (.fieldLink RX9 87 "FairWheel$Plan" "cores" "I") (by decide +kernel)) (fun _ h9 => h9) rfl dX9_tick_20 ?_
  refine lv_icmp_ge (tgt := 48) hx hb dX9_tick_23 (by decide +kernel) (fun c_8 => absurd c_8 (by decide +kernel)) (fun c_8 => ?_)
  refine lv_iload_n hx hb dX9_tick_26 rfl (lv_at hl 1 rfl) ?_
  refine lv_iload_n hx hb dX9_tick_27 rfl (lv_at hl 0 rfl) ?_
  refine kc_i (wr := [(h0, .inr (9, [.ref pl, .int (nI i), .ref w2, .ref w3, .ref w4, .ref w5])), (pl, .inr (2, [.int 1, .int 0, .int 0, .int 0, .int 0, .ref pl5, .ref pl6, .ref pl7, .ref pl8, .ref pl9, .ref pl10, .ref pl11, .ref pl12, .ref pl13]))]) (va_runSN (As := [.int 0, .int 0]) (rest := []) ⟨hx, hb, hml, hown, hts⟩ (k_X10_pick l D ca H.size ) (⟨va_cnB 2 hts gX9_tick_X10_pick_n90 rfl rfl rfl hC.2.2.2.2.2.2.2.2.1 (hts (.initialized RX10) (by decide +kernel)) (by decide +kernel) ⟨(Nat.le_of_ble_eq_true rfl), (Nat.le_of_ble_eq_true rfl)⟩, hts (.static yX10_pick) (by decide +kernel), trivial⟩) (PC.preS hC hP hD [] rfl (by decide +kernel)) rfl rfl hl.1 rfl (lv_room (Nat.le_of_ble_eq_true rfl)) dX9_tick_28 ⟨(Nat.le_of_ble_eq_true rfl), (Nat.le_of_ble_eq_true rfl)⟩) hP hD hS hA [] [0, 1] rfl rfl (by decide +kernel) (by decide +kernel) (fun r_9 u_11 H locs hw_10 hP hD hS => ?_)
  subst hw_10
  have hP : va_P D vwCl [(h0, .inr (9, [.ref pl, .int (nI i), .ref w2, .ref w3, .ref w4, .ref w5])), (pl, .inr (2, [.int 1, .int 0, .int 0, .int 0, .int 0, .ref pl5, .ref pl6, .ref pl7, .ref pl8, .ref pl9, .ref pl10, .ref pl11, .ref pl12, .ref pl13]))] H := hP
  have hD : va_D A [(h0, .inr (9, [.ref pl, .int (nI i), .ref w2, .ref w3, .ref w4, .ref w5])), (pl, .inr (2, [.int 1, .int 0, .int 0, .int 0, .int 0, .ref pl5, .ref pl6, .ref pl7, .ref pl8, .ref pl9, .ref pl10, .ref pl11, .ref pl12, .ref pl13]))] := hD
  refine lv_istore_n (lv' := [(3, .int (-1)), (2, .int 0), (1, .int 0), (0, .ref h0)]) hx hb dX9_tick_31 rfl hl (by decide +kernel) rfl (fun ls hl => ?_)
  refine lv_iload_n hx hb dX9_tick_32 rfl (lv_at hl 0 rfl) ?_
  refine lv_iconst (v := (-1)) hx hb dX9_tick_33 (by decide +kernel) ?_
  refine lv_icmp_eq (tgt := 42) hx hb dX9_tick_34 (by decide +kernel) (fun c_12 => ?_) (fun c_12 => absurd (by decide +kernel) c_12)
  refine lv_iinc (v := 1) (lv' := [(2, .int 1), (3, .int (-1)), (1, .int 0), (0, .ref h0)]) hx hb dX9_tick_42 hl (k := 1) rfl (by decide +kernel) (by decide +kernel) rfl (fun ls hl => ?_)
  refine lv_goto (tgt := 15) hx hb dX9_tick_45 (by decide +kernel) ?_
  refine lv_iload_n hx hb dX9_tick_15 rfl (lv_at hl 0 rfl) ?_
  refine lv_aload_n hx hb dX9_tick_16 rfl (lv_at hl 3 rfl) ?_
  refine va_get (D := D) (ci := 9) (v := .ref pl) (C := RX9) (T := TX9) (N := 6) hx hb hts iw_X9_tick_9 hown hC.1 hP 0 rfl rfl 0 (by decide +kernel) (hts (.fieldLink RX9 33 "FairWheel$Wheel" "plan" "LFairWheel$Plan;") (by decide +kernel)) (fun _ h9 => h9) rfl dX9_tick_17 ?_
  refine va_get (D := D) (ci := 2) (v := .int 1) (C := RX2) (T := TX2) (N := 14) hx hb hts iw_X9_tick_2 hown hC.1 hP 1 rfl rfl 0 (by decide +kernel) (hts (.fieldLink RX9 87 "FairWheel$Plan" "cores" "I") (by decide +kernel)) (fun _ h9 => h9) rfl dX9_tick_20 ?_
  refine lv_icmp_ge (tgt := 48) hx hb dX9_tick_23 (by decide +kernel) (fun c_13 => ?_) (fun c_13 => absurd (by decide +kernel) c_13)
  refine lv_aload_n hx hb dX9_tick_48 rfl (lv_at hl 3 rfl) ?_
  refine lv_iload_n hx hb dX9_tick_49 rfl (lv_at hl 2 rfl) ?_
  refine kc_v (wr := []) (va_runV (As := [.int 0]) (rest := []) ⟨hx, hb, hml, hown, hts⟩ (k_X9_pay l D ca H.size h0 w2 w3 w4 w5 pl pl5 pl6 pl7 pl8 pl9 pl10 pl11 pl12 pl13 i) (cwV 1 hts gX9_tick_X9_pay rfl rfl rfl (by decide +kernel) ⟨(Nat.le_of_ble_eq_true rfl), (Nat.le_of_ble_eq_true rfl)⟩) (PC.preV (ci := 9) hC hP hD [0, 1] rfl (by decide +kernel) rfl rfl) rfl rfl hl.1 rfl (lv_room (Nat.le_of_ble_eq_true rfl)) dX9_tick_50 ⟨(Nat.le_of_ble_eq_true rfl), (Nat.le_of_ble_eq_true rfl)⟩) hP hD hS hA [0, 1] [] rfl rfl (by decide +kernel) (by decide +kernel) (fun u_15 H locs hw_14 hP hD hS => ?_)
  have hP : va_P D vwCl [(h0, .inr (9, [.ref pl, .int (nI i), .ref w2, .ref w3, .ref w4, .ref w5])), (pl, .inr (2, [.int 1, .int 0, .int 0, .int 0, .int 0, .ref pl5, .ref pl6, .ref pl7, .ref pl8, .ref pl9, .ref pl10, .ref pl11, .ref pl12, .ref pl13]))] H := hP
  have hD : va_D A [(h0, .inr (9, [.ref pl, .int (nI i), .ref w2, .ref w3, .ref w4, .ref w5])), (pl, .inr (2, [.int 1, .int 0, .int 0, .int 0, .int 0, .ref pl5, .ref pl6, .ref pl7, .ref pl8, .ref pl9, .ref pl10, .ref pl11, .ref pl12, .ref pl13]))] := hD
  refine lv_aload_n hx hb dX9_tick_53 rfl (lv_at hl 3 rfl) ?_
  refine lv_dup hx hb dX9_tick_54 rfl ?_
  refine va_get (D := D) (ci := 9) (v := .int (nI i)) (C := RX9) (T := TX9) (N := 6) hx hb hts iw_X9_tick_9 hown hC.1 hP 0 rfl rfl 1 (by decide +kernel) (hts (.fieldLink RX9 37 "FairWheel$Wheel" "now" "I") (by decide +kernel)) (fun _ h9 => h9) rfl dX9_tick_55 ?_
  refine lv_iconst (v := 1) hx hb dX9_tick_58 (by decide +kernel) ?_
  refine lv_iadd hx hb dX9_tick_59 ?_
  refine nt_i (nI (i + 1)) (nI_1 _) ?_
  refine va_put (D := D) (ci := 9) (v := .int (nI (i + 1))) (ty := .int) (C := RX9) (T := TX9) (N := 6) hx hb hts iw_X9_tick_9 tyX9 tyX9_ok nmX9 hown hC.1 hP hD hS 0 rfl rfl 1 (by decide +kernel) (hts (.fieldLink RX9 37 "FairWheel$Wheel" "now" "I") (by decide +kernel)) (fun _ h9 => h9) rfl (by decide +kernel) rfl rfl (Nat.le_of_ble_eq_true rfl) dX9_tick_60 (fun H locs hP hD hS => ?_)
  have hP : va_P D vwCl [(h0, .inr (9, [.ref pl, .int (nI (i + 1)), .ref w2, .ref w3, .ref w4, .ref w5])), (pl, .inr (2, [.int 1, .int 0, .int 0, .int 0, .int 0, .ref pl5, .ref pl6, .ref pl7, .ref pl8, .ref pl9, .ref pl10, .ref pl11, .ref pl12, .ref pl13]))] H := hP
  have hD : va_D A [(h0, .inr (9, [.ref pl, .int (nI (i + 1)), .ref w2, .ref w3, .ref w4, .ref w5])), (pl, .inr (2, [.int 1, .int 0, .int 0, .int 0, .int 0, .ref pl5, .ref pl6, .ref pl7, .ref pl8, .ref pl9, .ref pl10, .ref pl11, .ref pl12, .ref pl13]))] := hD
  refine lv_iload_n hx hb dX9_tick_63 rfl (lv_at hl 2 rfl) ?_
  exact W.iret (v := 0) hx hb hr (fun t ht hW => ⟨⟨0, (), rfl, rfl, by rw [ht]; exact hP.sub [0, 1] rfl, hDA (hD.sub [0, 1] (by decide +kernel) rfl)⟩, hS.F ht⟩) hS.2.2 dX9_tick_64
theorem iw_X10_run_9 : ∀ w ∈ u_ws RX9 TX9 6, w ∈ wsX10_run := by decide +kernel
theorem iw_X10_run_10 : ∀ w ∈ u_ws RX10 TX10 12, w ∈ wsX10_run := by decide +kernel
set_option maxHeartbeats 4000000 in
set_option maxRecDepth 100000 in
theorem k_X10_run (l : Launch) (D : va_G) (ca : Nat → ClassId) (sz : Nat) (h0 : Nat) (tp : Nat) (rd : Nat) (lv : Nat) (tr : Nat) (rw : Nat) (bx : Nat) (ch : Nat) (sg : Nat) (dg : Nat) (pl : Nat) (dr : Nat) (w2 : Nat) (w3 : Nat) (w4 : Nat) (w5 : Nat) (pl5 : Nat) (pl6 : Nat) (pl7 : Nat) (pl8 : Nat) (pl9 : Nat) (pl10 : Nat) (pl11 : Nat) (pl12 : Nat) (pl13 : Nat) (fr : Nat → Int32) (x1 : Int32) : Met l yX10_run wsX10_run ({ frames := 3, cells := 0, slots := 0, locals := 72 }) (PC [.ref h0, .int x1] sz D ca [(h0, .inr (10, [.ref tp, .ref rd, .ref lv, .ref tr, .ref rw, .ref bx, .ref ch, .ref sg, .ref dg, .ref pl, .ref dr, .int 0])), (lv, .inr (9, [.ref pl, .int 0, .ref w2, .ref w3, .ref w4, .ref w5])), (pl, .inr (2, [.int 1, .int 0, .int 0, .int 0, .int 0, .ref pl5, .ref pl6, .ref pl7, .ref pl8, .ref pl9, .ref pl10, .ref pl11, .ref pl12, .ref pl13])), (rw, .inl (ca 1, 2000, .inl fr))]) (QI (fun (r : Int32) (u : Unit) => r = sp_run x1) (fun (_ : Unit) => []) [(h0, .inr (10, [.ref tp, .ref rd, .ref lv, .ref tr, .ref rw, .ref bx, .ref ch, .ref sg, .ref dg, .ref pl, .ref dr, .int 0])), (lv, .inr (9, [.ref pl, .int 0, .ref w2, .ref w3, .ref w4, .ref w5])), (pl, .inr (2, [.int 1, .int 0, .int 0, .int 0, .int 0, .ref pl5, .ref pl6, .ref pl7, .ref pl8, .ref pl9, .ref pl10, .ref pl11, .ref pl12, .ref pl13])), (rw, .inl (ca 1, 2000, .inl fr))] sz D) 0 0 (va_A [(h0, .inr (10, [.ref tp, .ref rd, .ref lv, .ref tr, .ref rw, .ref bx, .ref ch, .ref sg, .ref dg, .ref pl, .ref dr, .int 0])), (lv, .inr (9, [.ref pl, .int 0, .ref w2, .ref w3, .ref w4, .ref w5])), (pl, .inr (2, [.int 1, .int 0, .int 0, .int 0, .int 0, .ref pl5, .ref pl6, .ref pl7, .ref pl8, .ref pl9, .ref pl10, .ref pl11, .ref pl12, .ref pl13])), (rw, .inl (ca 1, 2000, .inl fr))] sz) := by
  refine Met.ofW (cc := cX10_run) (maxL := 5) (ret := (some .int)) (by decide +kernel) rfl ?_
  intro p e s m args below meth c s₁ B hml hv
  obtain ⟨rfl, hsz, hP, hC, hD0⟩ := hv
  have hx := B.exec
  have hb := B.bytes
  have hr := B.returns
  have hts := atoms_spec (ws := wsX10_run) B.pre
  have hown : s.vm.findClass RX10 = some m.cls := findClass_of_methodNamed B.named
  have hlocks := B.notSynchronized
  subst hsz
  have hD := hD0.self (sz := s.heap.size)
  dsimp only [QV, QI, QL, BQ]
  generalize hAe : va_A [(h0, .inr (10, [.ref tp, .ref rd, .ref lv, .ref tr, .ref rw, .ref bx, .ref ch, .ref sg, .ref dg, .ref pl, .ref dr, .int 0])), (lv, .inr (9, [.ref pl, .int 0, .ref w2, .ref w3, .ref w4, .ref w5])), (pl, .inr (2, [.int 1, .int 0, .int 0, .int 0, .int 0, .ref pl5, .ref pl6, .ref pl7, .ref pl8, .ref pl9, .ref pl10, .ref pl11, .ref pl12, .ref pl13])), (rw, .inl (ca 1, 2000, .inl fr))] s.heap.size = A at hD ⊢
  have hA : ∀ q : Nat, s.heap.size ≤ q → A q := fun q h => by rw [← hAe]; exact Or.inr h
  have hDA : ∀ {w : va_W}, va_D A w → va_D (va_A [(h0, .inr (10, [.ref tp, .ref rd, .ref lv, .ref tr, .ref rw, .ref bx, .ref ch, .ref sg, .ref dg, .ref pl, .ref dr, .int 0])), (lv, .inr (9, [.ref pl, .int 0, .ref w2, .ref w3, .ref w4, .ref w5])), (pl, .inr (2, [.int 1, .int 0, .int 0, .int 0, .int 0, .ref pl5, .ref pl6, .ref pl7, .ref pl8, .ref pl9, .ref pl10, .ref pl11, .ref pl12, .ref pl13])), (rw, .inl (ca 1, 2000, .inl fr))] s.heap.size) w := fun h => by rw [hAe]; exact h
  have hS : va_S A s.heap s.heap [] := va_S.rf
  have hP : va_P D vwCl [(h0, .inr (10, [.ref tp, .ref rd, .ref lv, .ref tr, .ref rw, .ref bx, .ref ch, .ref sg, .ref dg, .ref pl, .ref dr, .int 0])), (lv, .inr (9, [.ref pl, .int 0, .ref w2, .ref w3, .ref w4, .ref w5])), (pl, .inr (2, [.int 1, .int 0, .int 0, .int 0, .int 0, .ref pl5, .ref pl6, .ref pl7, .ref pl8, .ref pl9, .ref pl10, .ref pl11, .ref pl12, .ref pl13])), (rw, .inl (ca 1, 2000, .inl fr))] s.heap := hP
  have hl := lv_entry ([.ref h0, .int x1]) (n := 5) (Nat.le_of_ble_eq_true rfl)
  rw [lg_entry_eq]
  generalize (lg_sl ([.ref h0, .int x1]) ++ List.replicate (5 - (lg_sl ([.ref h0, .int x1])).length) Slot.unset).toArray = ls at hl ⊢
  have hl : lv_has ls 5 [(0, .ref h0), (1, .int x1)] := hl
  refine lv_iload_n hx hb dX10_run_0 rfl (lv_at hl 1 rfl) ?_
  refine lv_if_lt (tgt := 26) hx hb dX10_run_1 (by decide +kernel) (fun c_1 => ?_) (fun c_1 => ?_)
  · refine lv_iconst (v := (-1)) hx hb dX10_run_26 (by decide +kernel) ?_
    exact W.iret (v := (-1)) hx hb hr (fun t ht hW => ⟨⟨(-1), (), rfl, (by unfold sp_run; rw [if_pos c_1]), by rw [ht]; exact hP.sub [] rfl, hDA (hD.sub [] (by decide +kernel) rfl)⟩, hS.F ht⟩) hS.2.2 dX10_run_27
  · refine lv_iload_n hx hb dX10_run_4 rfl (lv_at hl 1 rfl) ?_
    refine lv_sipush (v := 200) hx hb dX10_run_5 (by decide +kernel) ?_
    refine lv_icmp_gt (tgt := 26) hx hb dX10_run_8 (by decide +kernel) (fun c_2 => ?_) (fun c_2 => ?_)
    · refine lv_iconst (v := (-1)) hx hb dX10_run_26 (by decide +kernel) ?_
      exact W.iret (v := (-1)) hx hb hr (fun t ht hW => ⟨⟨(-1), (), rfl, (by unfold sp_run; rw [if_neg c_1, if_pos c_2]), by rw [ht]; exact hP.sub [] rfl, hDA (hD.sub [] (by decide +kernel) rfl)⟩, hS.F ht⟩) hS.2.2 dX10_run_27
    · refine lv_aload_n hx hb dX10_run_11 rfl (lv_at hl 0 rfl) ?_
      refine va_get (D := D) (ci := 10) (v := .ref lv) (C := RX10) (T := TX10) (N := 12) hx hb hts iw_X10_run_10 hown hC.1 hP 0 rfl rfl 2 (by decide +kernel) (hts (.fieldLink RX10 40 "FairWheel" "live" "LFairWheel$Wheel;") (by decide +kernel)) (fun _ h9 => h9) rfl dX10_run_12 ?_
      refine va_get (D := D) (ci := 9) (v := .int 0) (C := RX9) (T := TX9) (N := 6) hx hb hts iw_X10_run_9 hown hC.1 hP 1 rfl rfl 1 (by decide +kernel) (hts (.fieldLink RX10 112 "FairWheel$Wheel" "now" "I") (by decide +kernel)) (fun _ h9 => h9) rfl dX10_run_15 ?_
      refine lv_iload_n hx hb dX10_run_18 rfl (lv_at hl 1 rfl) ?_
      refine lv_iadd hx hb dX10_run_19 ?_
      refine nt_i x1 (Int32.zero_add _) ?_
      refine lv_sipush (v := 2000) hx hb dX10_run_20 (by decide +kernel) ?_
      refine lv_icmp_le (tgt := 28) hx hb dX10_run_23 (by decide +kernel) (fun c_3 => ?_) (fun c_3 => (pr_se (Int32.not_le.mp c_3) (Int32.not_lt.mp c_2) (by decide +kernel)).elim)
      obtain ⟨T, hT, rfl⟩ := nI_of2 (M := 200) (n := 200) (by decide +kernel) c_1 (Int32.not_lt.mp c_2)
      refine lv_iconst (v := 0) hx hb dX10_run_28 (by decide +kernel) ?_
      refine lv_istore_n (lv' := [(2, .int 0), (0, .ref h0), (1, .int (nI T))]) hx hb dX10_run_29 rfl hl (by decide +kernel) rfl (fun ls hl => ?_)
      refine lp_ind (I := fun (n : Nat) H locs ls => ∃ (i : Nat) (f : Nat → Int32), i ≤ T ∧ i + n = T + 1 ∧ lv_has ls 5 [(2, .int (nI i)), (0, .ref h0), (1, .int (nI T))] ∧ va_P D vwCl [(h0, .inr (10, [.ref tp, .ref rd, .ref lv, .ref tr, .ref rw, .ref bx, .ref ch, .ref sg, .ref dg, .ref pl, .ref dr, .int 0])), (lv, .inr (9, [.ref pl, .int (nI i), .ref w2, .ref w3, .ref w4, .ref w5])), (pl, .inr (2, [.int 1, .int 0, .int 0, .int 0, .int 0, .ref pl5, .ref pl6, .ref pl7, .ref pl8, .ref pl9, .ref pl10, .ref pl11, .ref pl12, .ref pl13])), (rw, .inl (ca 1, 2000, .inl f))] H ∧ va_D A [(h0, .inr (10, [.ref tp, .ref rd, .ref lv, .ref tr, .ref rw, .ref bx, .ref ch, .ref sg, .ref dg, .ref pl, .ref dr, .int 0])), (lv, .inr (9, [.ref pl, .int (nI i), .ref w2, .ref w3, .ref w4, .ref w5])), (pl, .inr (2, [.int 1, .int 0, .int 0, .int 0, .int 0, .ref pl5, .ref pl6, .ref pl7, .ref pl8, .ref pl9, .ref pl10, .ref pl11, .ref pl12, .ref pl13])), (rw, .inl (ca 1, 2000, .inl f))] ∧ va_S A s.heap H locs) (Wf := fun H locs ls => W p l e _ s m _ below meth c H locs _ _ _ (F0 m 30 ls [])) (T + 1) ⟨0, fr, Nat.zero_le _, Nat.zero_add _, hl, hP, hD, hS⟩ ?_ ?_
      · intro H locs ls hI
        obtain ⟨i, f, hi, hn, -⟩ := hI
        omega
      intro n ih_4 H locs ls hI
      obtain ⟨i, f, hi, hn, hl, hP, hD, hS⟩ := hI
      refine lv_iload_n hx hb dX10_run_30 rfl (lv_at hl 0 rfl) ?_
      refine lv_iload_n hx hb dX10_run_31 rfl (lv_at hl 2 rfl) ?_
      refine lv_icmp_ge (tgt := 79) hx hb dX10_run_32 (by decide +kernel) (fun c_5 => ?_) (fun c_5 => ?_)
      · have hiT : i = T := Nat.le_antisymm hi ((nI_leI (by omega) (by omega)).mp c_5)
        refine lv_aload_n hx hb dX10_run_79 rfl (lv_at hl 1 rfl) ?_
        refine va_get (D := D) (ci := 10) (v := .ref lv) (C := RX10) (T := TX10) (N := 12) hx hb hts iw_X10_run_10 hown hC.1 hP 0 rfl rfl 2 (by decide +kernel) (hts (.fieldLink RX10 40 "FairWheel" "live" "LFairWheel$Wheel;") (by decide +kernel)) (fun _ h9 => h9) rfl dX10_run_80 ?_
        refine va_get (D := D) (ci := 9) (v := .int (nI i)) (C := RX9) (T := TX9) (N := 6) hx hb hts iw_X10_run_9 hown hC.1 hP 1 rfl rfl 1 (by decide +kernel) (hts (.fieldLink RX10 112 "FairWheel$Wheel" "now" "I") (by decide +kernel)) (fun _ h9 => h9) rfl dX10_run_83 ?_
        exact W.iret (v := nI i) hx hb hr (fun t ht hW => ⟨⟨nI i, (), rfl, (by rw [hiT]; unfold sp_run; rw [if_neg c_1, if_neg c_2]), by rw [ht]; exact hP.sub [] rfl, hDA (hD.sub [] (by decide +kernel) rfl)⟩, hS.F ht⟩) hS.2.2 dX10_run_86
      · have hiT : i < T := Nat.lt_of_not_le (fun h => c_5 (nI_le h (by omega)))
        refine lv_aload_n hx hb dX10_run_35 rfl (lv_at hl 1 rfl) ?_
        refine va_get (D := D) (ci := 10) (v := .ref lv) (C := RX10) (T := TX10) (N := 12) hx hb hts iw_X10_run_10 hown hC.1 hP 0 rfl rfl 2 (by decide +kernel) (hts (.fieldLink RX10 40 "FairWheel" "live" "LFairWheel$Wheel;") (by decide +kernel)) (fun _ h9 => h9) rfl dX10_run_36 ?_
        refine va_get (D := D) (ci := 9) (v := .int (nI i)) (C := RX9) (T := TX9) (N := 6) hx hb hts iw_X10_run_9 hown hC.1 hP 1 rfl rfl 1 (by decide +kernel) (hts (.fieldLink RX10 112 "FairWheel$Wheel" "now" "I") (by decide +kernel)) (fun _ h9 => h9) rfl dX10_run_39 ?_
        refine lv_istore_n (lv' := [(3, .int (nI i)), (2, .int (nI i)), (0, .ref h0), (1, .int (nI T))]) hx hb dX10_run_42 rfl hl (by decide +kernel) rfl (fun ls hl => ?_)
        refine lv_aload_n hx hb dX10_run_43 rfl (lv_at hl 2 rfl) ?_
        refine va_get (D := D) (ci := 10) (v := .ref lv) (C := RX10) (T := TX10) (N := 12) hx hb hts iw_X10_run_10 hown hC.1 hP 0 rfl rfl 2 (by decide +kernel) (hts (.fieldLink RX10 40 "FairWheel" "live" "LFairWheel$Wheel;") (by decide +kernel)) (fun _ h9 => h9) rfl dX10_run_44 ?_
        refine kc_i (wr := [(h0, .inr (10, [.ref tp, .ref rd, .ref lv, .ref tr, .ref rw, .ref bx, .ref ch, .ref sg, .ref dg, .ref pl, .ref dr, .int 0])), (rw, .inl (ca 1, 2000, .inl f))]) (va_runV (As := []) (rest := []) ⟨hx, hb, hml, hown, hts⟩ (k_X9_tick l D ca H.size lv w2 w3 w4 w5 pl pl5 pl6 pl7 pl8 pl9 pl10 pl11 pl12 pl13 i) (cwV 0 hts gX10_run_X9_tick rfl rfl rfl (by decide +kernel) ⟨(Nat.le_of_ble_eq_true rfl), (Nat.le_of_ble_eq_true rfl)⟩) (PC.preV (ci := 9) hC hP hD [1, 2] rfl (by decide +kernel) rfl rfl) rfl rfl hl.1 rfl (lv_room (Nat.le_of_ble_eq_true rfl)) dX10_run_47 ⟨(Nat.le_of_ble_eq_true rfl), (Nat.le_of_ble_eq_true rfl)⟩) hP hD hS hA [1, 2] [0, 3] rfl rfl (by decide +kernel) (by decide +kernel) (fun r_6 u_8 H locs hw_7 hP hD hS => ?_)
        subst hw_7
        have hP : va_P D vwCl [(h0, .inr (10, [.ref tp, .ref rd, .ref lv, .ref tr, .ref rw, .ref bx, .ref ch, .ref sg, .ref dg, .ref pl, .ref dr, .int 0])), (rw, .inl (ca 1, 2000, .inl f)), (lv, .inr (9, [.ref pl, .int (nI (i + 1)), .ref w2, .ref w3, .ref w4, .ref w5])), (pl, .inr (2, [.int 1, .int 0, .int 0, .int 0, .int 0, .ref pl5, .ref pl6, .ref pl7, .ref pl8, .ref pl9, .ref pl10, .ref pl11, .ref pl12, .ref pl13]))] H := hP
        have hD : va_D A [(h0, .inr (10, [.ref tp, .ref rd, .ref lv, .ref tr, .ref rw, .ref bx, .ref ch, .ref sg, .ref dg, .ref pl, .ref dr, .int 0])), (rw, .inl (ca 1, 2000, .inl f)), (lv, .inr (9, [.ref pl, .int (nI (i + 1)), .ref w2, .ref w3, .ref w4, .ref w5])), (pl, .inr (2, [.int 1, .int 0, .int 0, .int 0, .int 0, .ref pl5, .ref pl6, .ref pl7, .ref pl8, .ref pl9, .ref pl10, .ref pl11, .ref pl12, .ref pl13]))] := hD
        refine lv_istore (lv' := [(4, .int 0), (3, .int (nI i)), (2, .int (nI i)), (0, .ref h0), (1, .int (nI T))]) hx hb dX10_run_50 hl (by decide +kernel) rfl (fun ls hl => ?_)
        refine lv_iload_n hx hb dX10_run_52 rfl (lv_at hl 1 rfl) ?_
        refine lv_if_lt (tgt := 73) hx hb dX10_run_53 (by decide +kernel) (fun c_9 => (nI_pos (by omega) c_9).elim) (fun c_9 => ?_)
        refine lv_iload_n hx hb dX10_run_56 rfl (lv_at hl 1 rfl) ?_
        refine lv_aload_n hx hb dX10_run_57 rfl (lv_at hl 3 rfl) ?_
        refine va_get (D := D) (ci := 10) (v := .ref rw) (C := RX10) (T := TX10) (N := 12) hx hb hts iw_X10_run_10 hown hC.1 hP 0 rfl rfl 4 (by decide +kernel) (hts (.fieldLink RX10 47 "FairWheel" "rows" "[I") (by decide +kernel)) (fun _ h9 => h9) rfl dX10_run_58 ?_
        refine va_alen (v := 2000) hx hb hC.1 hP 1 1 rfl rfl rfl dX10_run_61 ?_
        refine lv_icmp_ge (tgt := 73) hx hb dX10_run_62 (by decide +kernel) (fun c_10 => (nI_ge (a := i) (b := 2000) (by omega) (by omega) c_10).elim) (fun c_10 => ?_)
        refine lv_aload_n hx hb dX10_run_65 rfl (lv_at hl 3 rfl) ?_
        refine va_get (D := D) (ci := 10) (v := .ref rw) (C := RX10) (T := TX10) (N := 12) hx hb hts iw_X10_run_10 hown hC.1 hP 0 rfl rfl 4 (by decide +kernel) (hts (.fieldLink RX10 47 "FairWheel" "rows" "[I") (by decide +kernel)) (fun _ h9 => h9) rfl dX10_run_66 ?_
        refine lv_iload_n hx hb dX10_run_69 rfl (lv_at hl 1 rfl) ?_
        refine lv_iload hx hb dX10_run_70 (lv_at hl 0 rfl) ?_
        refine ka_iast hx hb hC.1 hP hD hS 1 1 rfl rfl i rfl (by omega) (by decide +kernel) dX10_run_72 (fun H locs hP hD hS => ?_)
        have hP : va_P D vwCl [(h0, .inr (10, [.ref tp, .ref rd, .ref lv, .ref tr, .ref rw, .ref bx, .ref ch, .ref sg, .ref dg, .ref pl, .ref dr, .int 0])), (rw, .inl (ca 1, 2000, .inl (upd f i 0))), (lv, .inr (9, [.ref pl, .int (nI (i + 1)), .ref w2, .ref w3, .ref w4, .ref w5])), (pl, .inr (2, [.int 1, .int 0, .int 0, .int 0, .int 0, .ref pl5, .ref pl6, .ref pl7, .ref pl8, .ref pl9, .ref pl10, .ref pl11, .ref pl12, .ref pl13]))] H := hP
        have hD : va_D A [(h0, .inr (10, [.ref tp, .ref rd, .ref lv, .ref tr, .ref rw, .ref bx, .ref ch, .ref sg, .ref dg, .ref pl, .ref dr, .int 0])), (rw, .inl (ca 1, 2000, .inl (upd f i 0))), (lv, .inr (9, [.ref pl, .int (nI (i + 1)), .ref w2, .ref w3, .ref w4, .ref w5])), (pl, .inr (2, [.int 1, .int 0, .int 0, .int 0, .int 0, .ref pl5, .ref pl6, .ref pl7, .ref pl8, .ref pl9, .ref pl10, .ref pl11, .ref pl12, .ref pl13]))] := hD
        refine lv_iinc (v := nI (i + 1)) (lv' := [(2, .int (nI (i + 1))), (4, .int 0), (3, .int (nI i)), (0, .ref h0), (1, .int (nI T))]) hx hb dX10_run_73 hl (k := 2) rfl (nI_1 _) (by decide +kernel) rfl (fun ls hl => ?_)
        refine lv_goto (tgt := 30) hx hb dX10_run_76 (by decide +kernel) ?_
        exact ih_4 _ _ _ ⟨i + 1, (upd f i 0), (by omega), (by omega), lv_sub hl [0, 3, 4] rfl, (hP.sub [0, 2, 3, 1] rfl), (hD.sub [0, 2, 3, 1] (by decide +kernel) rfl), hS⟩
theorem iw_X10_countAlive_2 : ∀ w ∈ u_ws RX2 TX2 14, w ∈ wsX10_countAlive := by decide +kernel
theorem iw_X10_countAlive_10 : ∀ w ∈ u_ws RX10 TX10 12, w ∈ wsX10_countAlive := by decide +kernel
set_option maxHeartbeats 4000000 in
set_option maxRecDepth 100000 in
theorem k_X10_countAlive (l : Launch) (D : va_G) (ca : Nat → ClassId) (sz : Nat) (h0 : Nat) (tp : Nat) (rd : Nat) (lv : Nat) (tr : Nat) (rw : Nat) (bx : Nat) (ch : Nat) (sg : Nat) (dg : Nat) (pl : Nat) (dr : Nat) (pl5 : Nat) (pl6 : Nat) (pl7 : Nat) (pl8 : Nat) (pl9 : Nat) (pl10 : Nat) (pl11 : Nat) (pl12 : Nat) (pl13 : Nat) : Met l yX10_countAlive wsX10_countAlive ({ frames := 0, cells := 0, slots := 0, locals := 0 }) (PC [.ref h0] sz D ca [(h0, .inr (10, [.ref tp, .ref rd, .ref lv, .ref tr, .ref rw, .ref bx, .ref ch, .ref sg, .ref dg, .ref pl, .ref dr, .int 0])), (pl, .inr (2, [.int 1, .int 0, .int 0, .int 0, .int 0, .ref pl5, .ref pl6, .ref pl7, .ref pl8, .ref pl9, .ref pl10, .ref pl11, .ref pl12, .ref pl13]))]) (QI (fun (r : Int32) (u : Unit) => r = 0) (fun (_ : Unit) => [(h0, .inr (10, [.ref tp, .ref rd, .ref lv, .ref tr, .ref rw, .ref bx, .ref ch, .ref sg, .ref dg, .ref pl, .ref dr, .int 0])), (pl, .inr (2, [.int 1, .int 0, .int 0, .int 0, .int 0, .ref pl5, .ref pl6, .ref pl7, .ref pl8, .ref pl9, .ref pl10, .ref pl11, .ref pl12, .ref pl13]))]) [(h0, .inr (10, [.ref tp, .ref rd, .ref lv, .ref tr, .ref rw, .ref bx, .ref ch, .ref sg, .ref dg, .ref pl, .ref dr, .int 0])), (pl, .inr (2, [.int 1, .int 0, .int 0, .int 0, .int 0, .ref pl5, .ref pl6, .ref pl7, .ref pl8, .ref pl9, .ref pl10, .ref pl11, .ref pl12, .ref pl13]))] sz D) 0 0 (va_A [(h0, .inr (10, [.ref tp, .ref rd, .ref lv, .ref tr, .ref rw, .ref bx, .ref ch, .ref sg, .ref dg, .ref pl, .ref dr, .int 0])), (pl, .inr (2, [.int 1, .int 0, .int 0, .int 0, .int 0, .ref pl5, .ref pl6, .ref pl7, .ref pl8, .ref pl9, .ref pl10, .ref pl11, .ref pl12, .ref pl13]))] sz) := by
  refine Met.ofW (cc := cX10_countAlive) (maxL := 3) (ret := (some .int)) (by decide +kernel) rfl ?_
  intro p e s m args below meth c s₁ B hml hv
  obtain ⟨rfl, hsz, hP, hC, hD0⟩ := hv
  have hx := B.exec
  have hb := B.bytes
  have hr := B.returns
  have hts := atoms_spec (ws := wsX10_countAlive) B.pre
  have hown : s.vm.findClass RX10 = some m.cls := findClass_of_methodNamed B.named
  have hlocks := B.notSynchronized
  subst hsz
  have hD := hD0.self (sz := s.heap.size)
  dsimp only [QV, QI, QL, BQ]
  generalize hAe : va_A [(h0, .inr (10, [.ref tp, .ref rd, .ref lv, .ref tr, .ref rw, .ref bx, .ref ch, .ref sg, .ref dg, .ref pl, .ref dr, .int 0])), (pl, .inr (2, [.int 1, .int 0, .int 0, .int 0, .int 0, .ref pl5, .ref pl6, .ref pl7, .ref pl8, .ref pl9, .ref pl10, .ref pl11, .ref pl12, .ref pl13]))] s.heap.size = A at hD ⊢
  have hA : ∀ q : Nat, s.heap.size ≤ q → A q := fun q h => by rw [← hAe]; exact Or.inr h
  have hDA : ∀ {w : va_W}, va_D A w → va_D (va_A [(h0, .inr (10, [.ref tp, .ref rd, .ref lv, .ref tr, .ref rw, .ref bx, .ref ch, .ref sg, .ref dg, .ref pl, .ref dr, .int 0])), (pl, .inr (2, [.int 1, .int 0, .int 0, .int 0, .int 0, .ref pl5, .ref pl6, .ref pl7, .ref pl8, .ref pl9, .ref pl10, .ref pl11, .ref pl12, .ref pl13]))] s.heap.size) w := fun h => by rw [hAe]; exact h
  have hS : va_S A s.heap s.heap [] := va_S.rf
  have hP : va_P D vwCl [(h0, .inr (10, [.ref tp, .ref rd, .ref lv, .ref tr, .ref rw, .ref bx, .ref ch, .ref sg, .ref dg, .ref pl, .ref dr, .int 0])), (pl, .inr (2, [.int 1, .int 0, .int 0, .int 0, .int 0, .ref pl5, .ref pl6, .ref pl7, .ref pl8, .ref pl9, .ref pl10, .ref pl11, .ref pl12, .ref pl13]))] s.heap := hP
  have hl := lv_entry ([.ref h0]) (n := 3) (Nat.le_of_ble_eq_true rfl)
  rw [lg_entry_eq]
  generalize (lg_sl ([.ref h0]) ++ List.replicate (3 - (lg_sl ([.ref h0])).length) Slot.unset).toArray = ls at hl ⊢
  have hl : lv_has ls 3 [(0, .ref h0)] := hl
  refine lv_iconst (v := 0) hx hb dX10_countAlive_0 (by decide +kernel) ?_
  refine lv_istore_n (lv' := [(1, .int 0), (0, .ref h0)]) hx hb dX10_countAlive_1 rfl hl (by decide +kernel) rfl (fun ls hl => ?_)
  refine lv_iconst (v := 0) hx hb dX10_countAlive_2 (by decide +kernel) ?_
  refine lv_istore_n (lv' := [(2, .int 0), (1, .int 0), (0, .ref h0)]) hx hb dX10_countAlive_3 rfl hl (by decide +kernel) rfl (fun ls hl => ?_)
  refine lv_iload_n hx hb dX10_countAlive_4 rfl (lv_at hl 0 rfl) ?_
  refine lv_aload_n hx hb dX10_countAlive_5 rfl (lv_at hl 2 rfl) ?_
  refine va_get (D := D) (ci := 10) (v := .ref pl) (C := RX10) (T := TX10) (N := 12) hx hb hts iw_X10_countAlive_10 hown hC.1 hP 0 rfl rfl 9 (by decide +kernel) (hts (.fieldLink RX10 19 "FairWheel" "plan" "LFairWheel$Plan;") (by decide +kernel)) (fun _ h9 => h9) rfl dX10_countAlive_6 ?_
  refine va_get (D := D) (ci := 2) (v := .int 0) (C := RX2) (T := TX2) (N := 14) hx hb hts iw_X10_countAlive_2 hown hC.1 hP 1 rfl rfl 3 (by decide +kernel) (hts (.fieldLink RX10 105 "FairWheel$Plan" "count" "I") (by decide +kernel)) (fun _ h9 => h9) rfl dX10_countAlive_9 ?_
  refine lv_icmp_ge (tgt := 40) hx hb dX10_countAlive_12 (by decide +kernel) (fun c_1 => ?_) (fun c_1 => absurd (by decide +kernel) c_1)
  refine lv_iload_n hx hb dX10_countAlive_40 rfl (lv_at hl 1 rfl) ?_
  exact W.iret (v := 0) hx hb hr (fun t ht hW => ⟨⟨0, (), rfl, rfl, by rw [ht]; exact hP.sub [0, 1] rfl, hDA (hD.sub [0, 1] (by decide +kernel) rfl)⟩, hS.F ht⟩) hS.2.2 dX10_countAlive_41
theorem iw_X10_about_1 : ∀ w ∈ u_ws RX1 TX1 4, w ∈ wsX10_about := by decide +kernel
theorem iw_X10_about_2 : ∀ w ∈ u_ws RX2 TX2 14, w ∈ wsX10_about := by decide +kernel
theorem iw_X10_about_6 : ∀ w ∈ u_ws RX6 TX6 6, w ∈ wsX10_about := by decide +kernel
theorem iw_X10_about_7 : ∀ w ∈ u_ws RX7 TX7 2, w ∈ wsX10_about := by decide +kernel
theorem iw_X10_about_9 : ∀ w ∈ u_ws RX9 TX9 6, w ∈ wsX10_about := by decide +kernel
theorem iw_X10_about_10 : ∀ w ∈ u_ws RX10 TX10 12, w ∈ wsX10_about := by decide +kernel
def sp_k_X10_about (x1 : Int32) : Int32 := (if x1 = 0 then 0 else (if x1 = 1 then 1 else (if x1 = 2 then 0 else (if x1 = 3 then 0 else (if x1 = 4 then 0 else (if x1 = 5 then 0 else (if x1 = 6 then 0 else (if x1 = 7 then 0 else (if x1 = 8 then 0 else (if x1 = 9 then 0 else (if x1 = 10 then 0 else (-1))))))))))))
set_option maxHeartbeats 4000000 in
set_option maxRecDepth 100000 in
theorem k_X10_about (l : Launch) (D : va_G) (ca : Nat → ClassId) (sz : Nat) (h0 : Nat) (tp : Nat) (rd : Nat) (lv : Nat) (tr : Nat) (rw : Nat) (bx : Nat) (ch : Nat) (sg : Nat) (dg : Nat) (pl : Nat) (dr : Nat) (pl5 : Nat) (pl6 : Nat) (pl7 : Nat) (pl8 : Nat) (pl9 : Nat) (pl10 : Nat) (pl11 : Nat) (pl12 : Nat) (pl13 : Nat) (w2 : Nat) (w3 : Nat) (w4 : Nat) (w5 : Nat) (c1 : Nat) (c2 : Nat) (c3 : Nat) (g1 : Nat) (g2 : Nat) (g3 : Nat) (g4 : Nat) (g5 : Nat) (tb : Nat) (x1 : Int32) : Met l yX10_about wsX10_about ({ frames := 1, cells := 0, slots := 0, locals := 22 }) (PC [.ref h0, .int x1] sz D ca [(h0, .inr (10, [.ref tp, .ref rd, .ref lv, .ref tr, .ref rw, .ref bx, .ref ch, .ref sg, .ref dg, .ref pl, .ref dr, .int 0])), (pl, .inr (2, [.int 1, .int 0, .int 0, .int 0, .int 0, .ref pl5, .ref pl6, .ref pl7, .ref pl8, .ref pl9, .ref pl10, .ref pl11, .ref pl12, .ref pl13])), (lv, .inr (9, [.ref pl, .int 0, .ref w2, .ref w3, .ref w4, .ref w5])), (ch, .inr (1, [.int 0, .ref c1, .ref c2, .ref c3])), (sg, .inr (6, [.int 0, .ref g1, .ref g2, .ref g3, .ref g4, .ref g5])), (tp, .inr (7, [.ref tb, .int 0]))]) (QI (fun (r : Int32) (u : Unit) => r = sp_k_X10_about x1) (fun (_ : Unit) => []) [(h0, .inr (10, [.ref tp, .ref rd, .ref lv, .ref tr, .ref rw, .ref bx, .ref ch, .ref sg, .ref dg, .ref pl, .ref dr, .int 0])), (pl, .inr (2, [.int 1, .int 0, .int 0, .int 0, .int 0, .ref pl5, .ref pl6, .ref pl7, .ref pl8, .ref pl9, .ref pl10, .ref pl11, .ref pl12, .ref pl13])), (lv, .inr (9, [.ref pl, .int 0, .ref w2, .ref w3, .ref w4, .ref w5])), (ch, .inr (1, [.int 0, .ref c1, .ref c2, .ref c3])), (sg, .inr (6, [.int 0, .ref g1, .ref g2, .ref g3, .ref g4, .ref g5])), (tp, .inr (7, [.ref tb, .int 0]))] sz D) 0 0 (va_A [(h0, .inr (10, [.ref tp, .ref rd, .ref lv, .ref tr, .ref rw, .ref bx, .ref ch, .ref sg, .ref dg, .ref pl, .ref dr, .int 0])), (pl, .inr (2, [.int 1, .int 0, .int 0, .int 0, .int 0, .ref pl5, .ref pl6, .ref pl7, .ref pl8, .ref pl9, .ref pl10, .ref pl11, .ref pl12, .ref pl13])), (lv, .inr (9, [.ref pl, .int 0, .ref w2, .ref w3, .ref w4, .ref w5])), (ch, .inr (1, [.int 0, .ref c1, .ref c2, .ref c3])), (sg, .inr (6, [.int 0, .ref g1, .ref g2, .ref g3, .ref g4, .ref g5])), (tp, .inr (7, [.ref tb, .int 0]))] sz) := by
  refine Met.ofW (cc := cX10_about) (maxL := 2) (ret := (some .int)) (by decide +kernel) rfl ?_
  intro p e s m args below meth c s₁ B hml hv
  obtain ⟨rfl, hsz, hP, hC, hD0⟩ := hv
  have hx := B.exec
  have hb := B.bytes
  have hr := B.returns
  have hts := atoms_spec (ws := wsX10_about) B.pre
  have hown : s.vm.findClass RX10 = some m.cls := findClass_of_methodNamed B.named
  have hlocks := B.notSynchronized
  subst hsz
  have hD := hD0.self (sz := s.heap.size)
  dsimp only [QV, QI, QL, BQ]
  generalize hAe : va_A [(h0, .inr (10, [.ref tp, .ref rd, .ref lv, .ref tr, .ref rw, .ref bx, .ref ch, .ref sg, .ref dg, .ref pl, .ref dr, .int 0])), (pl, .inr (2, [.int 1, .int 0, .int 0, .int 0, .int 0, .ref pl5, .ref pl6, .ref pl7, .ref pl8, .ref pl9, .ref pl10, .ref pl11, .ref pl12, .ref pl13])), (lv, .inr (9, [.ref pl, .int 0, .ref w2, .ref w3, .ref w4, .ref w5])), (ch, .inr (1, [.int 0, .ref c1, .ref c2, .ref c3])), (sg, .inr (6, [.int 0, .ref g1, .ref g2, .ref g3, .ref g4, .ref g5])), (tp, .inr (7, [.ref tb, .int 0]))] s.heap.size = A at hD ⊢
  have hA : ∀ q : Nat, s.heap.size ≤ q → A q := fun q h => by rw [← hAe]; exact Or.inr h
  have hDA : ∀ {w : va_W}, va_D A w → va_D (va_A [(h0, .inr (10, [.ref tp, .ref rd, .ref lv, .ref tr, .ref rw, .ref bx, .ref ch, .ref sg, .ref dg, .ref pl, .ref dr, .int 0])), (pl, .inr (2, [.int 1, .int 0, .int 0, .int 0, .int 0, .ref pl5, .ref pl6, .ref pl7, .ref pl8, .ref pl9, .ref pl10, .ref pl11, .ref pl12, .ref pl13])), (lv, .inr (9, [.ref pl, .int 0, .ref w2, .ref w3, .ref w4, .ref w5])), (ch, .inr (1, [.int 0, .ref c1, .ref c2, .ref c3])), (sg, .inr (6, [.int 0, .ref g1, .ref g2, .ref g3, .ref g4, .ref g5])), (tp, .inr (7, [.ref tb, .int 0]))] s.heap.size) w := fun h => by rw [hAe]; exact h
  have hS : va_S A s.heap s.heap [] := va_S.rf
  have hP : va_P D vwCl [(h0, .inr (10, [.ref tp, .ref rd, .ref lv, .ref tr, .ref rw, .ref bx, .ref ch, .ref sg, .ref dg, .ref pl, .ref dr, .int 0])), (pl, .inr (2, [.int 1, .int 0, .int 0, .int 0, .int 0, .ref pl5, .ref pl6, .ref pl7, .ref pl8, .ref pl9, .ref pl10, .ref pl11, .ref pl12, .ref pl13])), (lv, .inr (9, [.ref pl, .int 0, .ref w2, .ref w3, .ref w4, .ref w5])), (ch, .inr (1, [.int 0, .ref c1, .ref c2, .ref c3])), (sg, .inr (6, [.int 0, .ref g1, .ref g2, .ref g3, .ref g4, .ref g5])), (tp, .inr (7, [.ref tb, .int 0]))] s.heap := hP
  have hl := lv_entry ([.ref h0, .int x1]) (n := 2) (Nat.le_of_ble_eq_true rfl)
  rw [lg_entry_eq]
  generalize (lg_sl ([.ref h0, .int x1]) ++ List.replicate (2 - (lg_sl ([.ref h0, .int x1])).length) Slot.unset).toArray = ls at hl ⊢
  have hl : lv_has ls 2 [(0, .ref h0), (1, .int x1)] := hl
  refine lv_iload_n hx hb dX10_about_0 rfl (lv_at hl 1 rfl) ?_
  refine (Decidable.em (x1 = 0)).elim (fun c_2 => ?_) (fun c_2 => ?_)
  · refine nt_i 0 c_2 ?_
    refine lv_tableIn (off := 59) (tgt := 60) hx hb dX10_about_1 (by decide +kernel) (by decide +kernel) (by decide +kernel) (by decide +kernel) ?_
    refine lv_aload_n hx hb dX10_about_60 rfl (lv_at hl 0 rfl) ?_
    refine va_get (D := D) (ci := 10) (v := .ref pl) (C := RX10) (T := TX10) (N := 12) hx hb hts iw_X10_about_10 hown hC.1 hP 0 rfl rfl 9 (by decide +kernel) (hts (.fieldLink RX10 19 "FairWheel" "plan" "LFairWheel$Plan;") (by decide +kernel)) (fun _ h9 => h9) rfl dX10_about_61 ?_
    refine va_get (D := D) (ci := 2) (v := .int 0) (C := RX2) (T := TX2) (N := 14) hx hb hts iw_X10_about_2 hown hC.1 hP 1 rfl rfl 3 (by decide +kernel) (hts (.fieldLink RX10 105 "FairWheel$Plan" "count" "I") (by decide +kernel)) (fun _ h9 => h9) rfl dX10_about_64 ?_
    exact W.iret (v := 0) hx hb hr (fun t ht hW => ⟨⟨0, (), rfl, (by unfold sp_k_X10_about; rw [if_pos c_2]), by rw [ht]; exact hP.sub [] rfl, hDA (hD.sub [] (by decide +kernel) rfl)⟩, hS.F ht⟩) hS.2.2 dX10_about_67
  refine (Decidable.em (x1 = 1)).elim (fun c_3 => ?_) (fun c_3 => ?_)
  · refine nt_i 1 c_3 ?_
    refine lv_tableIn (off := 67) (tgt := 68) hx hb dX10_about_1 (by decide +kernel) (by decide +kernel) (by decide +kernel) (by decide +kernel) ?_
    refine lv_aload_n hx hb dX10_about_68 rfl (lv_at hl 0 rfl) ?_
    refine va_get (D := D) (ci := 10) (v := .ref pl) (C := RX10) (T := TX10) (N := 12) hx hb hts iw_X10_about_10 hown hC.1 hP 0 rfl rfl 9 (by decide +kernel) (hts (.fieldLink RX10 19 "FairWheel" "plan" "LFairWheel$Plan;") (by decide +kernel)) (fun _ h9 => h9) rfl dX10_about_69 ?_
    refine va_get (D := D) (ci := 2) (v := .int 1) (C := RX2) (T := TX2) (N := 14) hx hb hts iw_X10_about_2 hown hC.1 hP 1 rfl rfl 0 (by decide +kernel) (hts (.fieldLink RX10 271 "FairWheel$Plan" "cores" "I") (by decide +kernel)) (fun _ h9 => h9) rfl dX10_about_72 ?_
    exact W.iret (v := 1) hx hb hr (fun t ht hW => ⟨⟨1, (), rfl, (by unfold sp_k_X10_about; rw [if_neg c_2, if_pos c_3]), by rw [ht]; exact hP.sub [] rfl, hDA (hD.sub [] (by decide +kernel) rfl)⟩, hS.F ht⟩) hS.2.2 dX10_about_75
  refine (Decidable.em (x1 = 2)).elim (fun c_4 => ?_) (fun c_4 => ?_)
  · refine nt_i 2 c_4 ?_
    refine lv_tableIn (off := 75) (tgt := 76) hx hb dX10_about_1 (by decide +kernel) (by decide +kernel) (by decide +kernel) (by decide +kernel) ?_
    refine lv_aload_n hx hb dX10_about_76 rfl (lv_at hl 0 rfl) ?_
    refine va_get (D := D) (ci := 10) (v := .ref pl) (C := RX10) (T := TX10) (N := 12) hx hb hts iw_X10_about_10 hown hC.1 hP 0 rfl rfl 9 (by decide +kernel) (hts (.fieldLink RX10 19 "FairWheel" "plan" "LFairWheel$Plan;") (by decide +kernel)) (fun _ h9 => h9) rfl dX10_about_77 ?_
    refine va_get (D := D) (ci := 2) (v := .int 0) (C := RX2) (T := TX2) (N := 14) hx hb hts iw_X10_about_2 hown hC.1 hP 1 rfl rfl 1 (by decide +kernel) (hts (.fieldLink RX10 181 "FairWheel$Plan" "locks" "I") (by decide +kernel)) (fun _ h9 => h9) rfl dX10_about_80 ?_
    exact W.iret (v := 0) hx hb hr (fun t ht hW => ⟨⟨0, (), rfl, (by unfold sp_k_X10_about; rw [if_neg c_2, if_neg c_3, if_pos c_4]), by rw [ht]; exact hP.sub [] rfl, hDA (hD.sub [] (by decide +kernel) rfl)⟩, hS.F ht⟩) hS.2.2 dX10_about_83
  refine (Decidable.em (x1 = 3)).elim (fun c_5 => ?_) (fun c_5 => ?_)
  · refine nt_i 3 c_5 ?_
    refine lv_tableIn (off := 83) (tgt := 84) hx hb dX10_about_1 (by decide +kernel) (by decide +kernel) (by decide +kernel) (by decide +kernel) ?_
    refine lv_aload_n hx hb dX10_about_84 rfl (lv_at hl 0 rfl) ?_
    refine va_get (D := D) (ci := 10) (v := .ref pl) (C := RX10) (T := TX10) (N := 12) hx hb hts iw_X10_about_10 hown hC.1 hP 0 rfl rfl 9 (by decide +kernel) (hts (.fieldLink RX10 19 "FairWheel" "plan" "LFairWheel$Plan;") (by decide +kernel)) (fun _ h9 => h9) rfl dX10_about_85 ?_
    refine va_get (D := D) (ci := 2) (v := .int 0) (C := RX2) (T := TX2) (N := 14) hx hb hts iw_X10_about_2 hown hC.1 hP 1 rfl rfl 2 (by decide +kernel) (hts (.fieldLink RX10 274 "FairWheel$Plan" "bells" "I") (by decide +kernel)) (fun _ h9 => h9) rfl dX10_about_88 ?_
    exact W.iret (v := 0) hx hb hr (fun t ht hW => ⟨⟨0, (), rfl, (by unfold sp_k_X10_about; rw [if_neg c_2, if_neg c_3, if_neg c_4, if_pos c_5]), by rw [ht]; exact hP.sub [] rfl, hDA (hD.sub [] (by decide +kernel) rfl)⟩, hS.F ht⟩) hS.2.2 dX10_about_91
  refine (Decidable.em (x1 = 4)).elim (fun c_6 => ?_) (fun c_6 => ?_)
  · refine nt_i 4 c_6 ?_
    refine lv_tableIn (off := 91) (tgt := 92) hx hb dX10_about_1 (by decide +kernel) (by decide +kernel) (by decide +kernel) (by decide +kernel) ?_
    refine lv_aload_n hx hb dX10_about_92 rfl (lv_at hl 0 rfl) ?_
    refine va_get (D := D) (ci := 10) (v := .ref lv) (C := RX10) (T := TX10) (N := 12) hx hb hts iw_X10_about_10 hown hC.1 hP 0 rfl rfl 2 (by decide +kernel) (hts (.fieldLink RX10 40 "FairWheel" "live" "LFairWheel$Wheel;") (by decide +kernel)) (fun _ h9 => h9) rfl dX10_about_93 ?_
    refine va_get (D := D) (ci := 9) (v := .int 0) (C := RX9) (T := TX9) (N := 6) hx hb hts iw_X10_about_9 hown hC.1 hP 2 rfl rfl 1 (by decide +kernel) (hts (.fieldLink RX10 112 "FairWheel$Wheel" "now" "I") (by decide +kernel)) (fun _ h9 => h9) rfl dX10_about_96 ?_
    exact W.iret (v := 0) hx hb hr (fun t ht hW => ⟨⟨0, (), rfl, (by unfold sp_k_X10_about; rw [if_neg c_2, if_neg c_3, if_neg c_4, if_neg c_5, if_pos c_6]), by rw [ht]; exact hP.sub [] rfl, hDA (hD.sub [] (by decide +kernel) rfl)⟩, hS.F ht⟩) hS.2.2 dX10_about_99
  refine (Decidable.em (x1 = 5)).elim (fun c_7 => ?_) (fun c_7 => ?_)
  · refine nt_i 5 c_7 ?_
    refine lv_tableIn (off := 99) (tgt := 100) hx hb dX10_about_1 (by decide +kernel) (by decide +kernel) (by decide +kernel) (by decide +kernel) ?_
    refine lv_aload_n hx hb dX10_about_100 rfl (lv_at hl 0 rfl) ?_
    refine kc_i (wr := [(lv, .inr (9, [.ref pl, .int 0, .ref w2, .ref w3, .ref w4, .ref w5])), (ch, .inr (1, [.int 0, .ref c1, .ref c2, .ref c3])), (sg, .inr (6, [.int 0, .ref g1, .ref g2, .ref g3, .ref g4, .ref g5])), (tp, .inr (7, [.ref tb, .int 0]))]) (va_runV (As := []) (rest := []) ⟨hx, hb, hml, hown, hts⟩ (k_X10_countAlive l D ca s.heap.size h0 tp rd lv tr rw bx ch sg dg pl dr pl5 pl6 pl7 pl8 pl9 pl10 pl11 pl12 pl13) (cwV 0 hts gX10_about_X10_countAlive rfl rfl rfl (by decide +kernel) ⟨(Nat.le_of_ble_eq_true rfl), (Nat.le_of_ble_eq_true rfl)⟩) (PC.preV (ci := 10) hC hP hD [0, 1] rfl (by decide +kernel) rfl rfl) rfl rfl hl.1 rfl (lv_room (Nat.le_of_ble_eq_true rfl)) dX10_about_101 ⟨(Nat.le_of_ble_eq_true rfl), (Nat.le_of_ble_eq_true rfl)⟩) hP hD hS hA [0, 1] [2, 3, 4, 5] rfl rfl (by decide +kernel) (by decide +kernel) (fun r_8 u_10 H locs hw_9 hP hD hS => ?_)
    subst hw_9
    have hP : va_P D vwCl [(lv, .inr (9, [.ref pl, .int 0, .ref w2, .ref w3, .ref w4, .ref w5])), (ch, .inr (1, [.int 0, .ref c1, .ref c2, .ref c3])), (sg, .inr (6, [.int 0, .ref g1, .ref g2, .ref g3, .ref g4, .ref g5])), (tp, .inr (7, [.ref tb, .int 0])), (h0, .inr (10, [.ref tp, .ref rd, .ref lv, .ref tr, .ref rw, .ref bx, .ref ch, .ref sg, .ref dg, .ref pl, .ref dr, .int 0])), (pl, .inr (2, [.int 1, .int 0, .int 0, .int 0, .int 0, .ref pl5, .ref pl6, .ref pl7, .ref pl8, .ref pl9, .ref pl10, .ref pl11, .ref pl12, .ref pl13]))] H := hP
    have hD : va_D A [(lv, .inr (9, [.ref pl, .int 0, .ref w2, .ref w3, .ref w4, .ref w5])), (ch, .inr (1, [.int 0, .ref c1, .ref c2, .ref c3])), (sg, .inr (6, [.int 0, .ref g1, .ref g2, .ref g3, .ref g4, .ref g5])), (tp, .inr (7, [.ref tb, .int 0])), (h0, .inr (10, [.ref tp, .ref rd, .ref lv, .ref tr, .ref rw, .ref bx, .ref ch, .ref sg, .ref dg, .ref pl, .ref dr, .int 0])), (pl, .inr (2, [.int 1, .int 0, .int 0, .int 0, .int 0, .ref pl5, .ref pl6, .ref pl7, .ref pl8, .ref pl9, .ref pl10, .ref pl11, .ref pl12, .ref pl13]))] := hD
    exact W.iret (v := 0) hx hb hr (fun t ht hW => ⟨⟨0, (), rfl, (by unfold sp_k_X10_about; rw [if_neg c_2, if_neg c_3, if_neg c_4, if_neg c_5, if_neg c_6, if_pos c_7]), by rw [ht]; exact hP.sub [] rfl, hDA (hD.sub [] (by decide +kernel) rfl)⟩, hS.F ht⟩) hS.2.2 dX10_about_104
  refine (Decidable.em (x1 = 6)).elim (fun c_11 => ?_) (fun c_11 => ?_)
  · refine nt_i 6 c_11 ?_
    refine lv_tableIn (off := 104) (tgt := 105) hx hb dX10_about_1 (by decide +kernel) (by decide +kernel) (by decide +kernel) (by decide +kernel) ?_
    refine lv_aload_n hx hb dX10_about_105 rfl (lv_at hl 0 rfl) ?_
    refine va_get (D := D) (ci := 10) (v := .ref ch) (C := RX10) (T := TX10) (N := 12) hx hb hts iw_X10_about_10 hown hC.1 hP 0 rfl rfl 6 (by decide +kernel) (hts (.fieldLink RX10 61 "FairWheel" "choices" "LFairWheel$Choices;") (by decide +kernel)) (fun _ h9 => h9) rfl dX10_about_106 ?_
    refine va_get (D := D) (ci := 1) (v := .int 0) (C := RX1) (T := TX1) (N := 4) hx hb hts iw_X10_about_1 hown hC.1 hP 3 rfl rfl 0 (by decide +kernel) (hts (.fieldLink RX10 97 "FairWheel$Choices" "count" "I") (by decide +kernel)) (fun _ h9 => h9) rfl dX10_about_109 ?_
    exact W.iret (v := 0) hx hb hr (fun t ht hW => ⟨⟨0, (), rfl, (by unfold sp_k_X10_about; rw [if_neg c_2, if_neg c_3, if_neg c_4, if_neg c_5, if_neg c_6, if_neg c_7, if_pos c_11]), by rw [ht]; exact hP.sub [] rfl, hDA (hD.sub [] (by decide +kernel) rfl)⟩, hS.F ht⟩) hS.2.2 dX10_about_112
  refine (Decidable.em (x1 = 7)).elim (fun c_12 => ?_) (fun c_12 => ?_)
  · refine nt_i 7 c_12 ?_
    refine lv_tableIn (off := 112) (tgt := 113) hx hb dX10_about_1 (by decide +kernel) (by decide +kernel) (by decide +kernel) (by decide +kernel) ?_
    refine lv_aload_n hx hb dX10_about_113 rfl (lv_at hl 0 rfl) ?_
    refine va_get (D := D) (ci := 10) (v := .ref sg) (C := RX10) (T := TX10) (N := 12) hx hb hts iw_X10_about_10 hown hC.1 hP 0 rfl rfl 7 (by decide +kernel) (hts (.fieldLink RX10 68 "FairWheel" "sights" "LFairWheel$Sights;") (by decide +kernel)) (fun _ h9 => h9) rfl dX10_about_114 ?_
    refine va_get (D := D) (ci := 6) (v := .int 0) (C := RX6) (T := TX6) (N := 6) hx hb hts iw_X10_about_6 hown hC.1 hP 4 rfl rfl 0 (by decide +kernel) (hts (.fieldLink RX10 100 "FairWheel$Sights" "count" "I") (by decide +kernel)) (fun _ h9 => h9) rfl dX10_about_117 ?_
    exact W.iret (v := 0) hx hb hr (fun t ht hW => ⟨⟨0, (), rfl, (by unfold sp_k_X10_about; rw [if_neg c_2, if_neg c_3, if_neg c_4, if_neg c_5, if_neg c_6, if_neg c_7, if_neg c_11, if_pos c_12]), by rw [ht]; exact hP.sub [] rfl, hDA (hD.sub [] (by decide +kernel) rfl)⟩, hS.F ht⟩) hS.2.2 dX10_about_120
  refine (Decidable.em (x1 = 8)).elim (fun c_13 => ?_) (fun c_13 => ?_)
  · refine nt_i 8 c_13 ?_
    refine lv_tableIn (off := 120) (tgt := 121) hx hb dX10_about_1 (by decide +kernel) (by decide +kernel) (by decide +kernel) (by decide +kernel) ?_
    refine lv_aload_n hx hb dX10_about_121 rfl (lv_at hl 0 rfl) ?_
    refine va_get (D := D) (ci := 10) (v := .int 0) (C := RX10) (T := TX10) (N := 12) hx hb hts iw_X10_about_10 hown hC.1 hP 0 rfl rfl 11 (by decide +kernel) (hts (.fieldLink RX10 79 "FairWheel" "time" "I") (by decide +kernel)) (fun _ h9 => h9) rfl dX10_about_122 ?_
    exact W.iret (v := 0) hx hb hr (fun t ht hW => ⟨⟨0, (), rfl, (by unfold sp_k_X10_about; rw [if_neg c_2, if_neg c_3, if_neg c_4, if_neg c_5, if_neg c_6, if_neg c_7, if_neg c_11, if_neg c_12, if_pos c_13]), by rw [ht]; exact hP.sub [] rfl, hDA (hD.sub [] (by decide +kernel) rfl)⟩, hS.F ht⟩) hS.2.2 dX10_about_125
  refine (Decidable.em (x1 = 9)).elim (fun c_14 => ?_) (fun c_14 => ?_)
  · refine nt_i 9 c_14 ?_
    refine lv_tableIn (off := 125) (tgt := 126) hx hb dX10_about_1 (by decide +kernel) (by decide +kernel) (by decide +kernel) (by decide +kernel) ?_
    refine lv_aload_n hx hb dX10_about_126 rfl (lv_at hl 0 rfl) ?_
    refine va_get (D := D) (ci := 10) (v := .ref tp) (C := RX10) (T := TX10) (N := 12) hx hb hts iw_X10_about_10 hown hC.1 hP 0 rfl rfl 0 (by decide +kernel) (hts (.fieldLink RX10 12 "FairWheel" "tape" "LFairWheel$Tape;") (by decide +kernel)) (fun _ h9 => h9) rfl dX10_about_127 ?_
    refine va_get (D := D) (ci := 7) (v := .int 0) (C := RX7) (T := TX7) (N := 2) hx hb hts iw_X10_about_7 hown hC.1 hP 5 rfl rfl 1 (by decide +kernel) (hts (.fieldLink RX10 83 "FairWheel$Tape" "size" "I") (by decide +kernel)) (fun _ h9 => h9) rfl dX10_about_130 ?_
    exact W.iret (v := 0) hx hb hr (fun t ht hW => ⟨⟨0, (), rfl, (by unfold sp_k_X10_about; rw [if_neg c_2, if_neg c_3, if_neg c_4, if_neg c_5, if_neg c_6, if_neg c_7, if_neg c_11, if_neg c_12, if_neg c_13, if_pos c_14]), by rw [ht]; exact hP.sub [] rfl, hDA (hD.sub [] (by decide +kernel) rfl)⟩, hS.F ht⟩) hS.2.2 dX10_about_133
  refine (Decidable.em (x1 = 10)).elim (fun c_15 => ?_) (fun c_15 => ?_)
  · refine nt_i 10 c_15 ?_
    refine lv_tableIn (off := 133) (tgt := 134) hx hb dX10_about_1 (by decide +kernel) (by decide +kernel) (by decide +kernel) (by decide +kernel) ?_
    refine lv_aload_n hx hb dX10_about_134 rfl (lv_at hl 0 rfl) ?_
    refine va_get (D := D) (ci := 10) (v := .ref pl) (C := RX10) (T := TX10) (N := 12) hx hb hts iw_X10_about_10 hown hC.1 hP 0 rfl rfl 9 (by decide +kernel) (hts (.fieldLink RX10 19 "FairWheel" "plan" "LFairWheel$Plan;") (by decide +kernel)) (fun _ h9 => h9) rfl dX10_about_135 ?_
    refine va_get (D := D) (ci := 2) (v := .int 0) (C := RX2) (T := TX2) (N := 14) hx hb hts iw_X10_about_2 hown hC.1 hP 1 rfl rfl 4 (by decide +kernel) (hts (.fieldLink RX10 280 "FairWheel$Plan" "ops" "I") (by decide +kernel)) (fun _ h9 => h9) rfl dX10_about_138 ?_
    exact W.iret (v := 0) hx hb hr (fun t ht hW => ⟨⟨0, (), rfl, (by unfold sp_k_X10_about; rw [if_neg c_2, if_neg c_3, if_neg c_4, if_neg c_5, if_neg c_6, if_neg c_7, if_neg c_11, if_neg c_12, if_neg c_13, if_neg c_14, if_pos c_15]), by rw [ht]; exact hP.sub [] rfl, hDA (hD.sub [] (by decide +kernel) rfl)⟩, hS.F ht⟩) hS.2.2 dX10_about_141
  refine lv_tableOut (tgt := 142) hx hb dX10_about_1 (ts_out11 c_2 c_3 c_4 c_5 c_6 c_7 c_11 c_12 c_13 c_14 c_15) (by decide +kernel) ?_
  refine lv_iconst (v := (-1)) hx hb dX10_about_142 (by decide +kernel) ?_
  exact W.iret (v := (-1)) hx hb hr (fun t ht hW => ⟨⟨(-1), (), rfl, (by unfold sp_k_X10_about; rw [if_neg c_2, if_neg c_3, if_neg c_4, if_neg c_5, if_neg c_6, if_neg c_7, if_neg c_11, if_neg c_12, if_neg c_13, if_neg c_14, if_neg c_15]), by rw [ht]; exact hP.sub [] rfl, hDA (hD.sub [] (by decide +kernel) rfl)⟩, hS.F ht⟩) hS.2.2 dX10_about_143
