set_option maxRecDepth 20000 in
theorem ggX10_feed_X7_append : GoodIn wsX10_feed wsX7_append := goodIn_r _ [7, 8, 9, 22, 23] (by decide +kernel) (by decide +kernel)
set_option maxRecDepth 20000 in
theorem gX10_feed_X7_append : GoodIn wsX10_feed (wsV RX10 86 RX7 yX7_append wsX7_append) := goodIn_app (goodIn_of _ (by decide +kernel)) ggX10_feed_X7_append
theorem dX10_feed_0 : decode cX10_feed 0 = .ok (.aload_n 0, 1) := by decide +kernel
theorem dX10_feed_1 : decode cX10_feed 1 = .ok (.getfield 12, 3) := by decide +kernel
theorem dX10_feed_4 : decode cX10_feed 4 = .ok (.getfield 83, 3) := by decide +kernel
theorem dX10_feed_7 : decode cX10_feed 7 = .ok (.bipush 20, 2) := by decide +kernel
theorem dX10_feed_9 : decode cX10_feed 9 = .ok (.iadd, 1) := by decide +kernel
theorem dX10_feed_10 : decode cX10_feed 10 = .ok (.sipush 1700, 3) := by decide +kernel
theorem dX10_feed_13 : decode cX10_feed 13 = .ok (.if_icmp .le 5, 3) := by decide +kernel
theorem dX10_feed_16 : decode cX10_feed 16 = .ok (.iconst (-1), 1) := by decide +kernel
theorem dX10_feed_17 : decode cX10_feed 17 = .ok (.ireturn, 1) := by decide +kernel
theorem dX10_feed_18 : decode cX10_feed 18 = .ok (.aload_n 0, 1) := by decide +kernel
theorem dX10_feed_19 : decode cX10_feed 19 = .ok (.getfield 12, 3) := by decide +kernel
theorem dX10_feed_22 : decode cX10_feed 22 = .ok (.iload_n 1, 1) := by decide +kernel
theorem dX10_feed_23 : decode cX10_feed 23 = .ok (.invokevirtual 86, 3) := by decide +kernel
theorem dX10_feed_26 : decode cX10_feed 26 = .ok (.aload_n 0, 1) := by decide +kernel
theorem dX10_feed_27 : decode cX10_feed 27 = .ok (.getfield 12, 3) := by decide +kernel
theorem dX10_feed_30 : decode cX10_feed 30 = .ok (.iload_n 2, 1) := by decide +kernel
theorem dX10_feed_31 : decode cX10_feed 31 = .ok (.invokevirtual 86, 3) := by decide +kernel
theorem dX10_feed_34 : decode cX10_feed 34 = .ok (.aload_n 0, 1) := by decide +kernel
theorem dX10_feed_35 : decode cX10_feed 35 = .ok (.getfield 12, 3) := by decide +kernel
theorem dX10_feed_38 : decode cX10_feed 38 = .ok (.iload_n 3, 1) := by decide +kernel
theorem dX10_feed_39 : decode cX10_feed 39 = .ok (.invokevirtual 86, 3) := by decide +kernel
theorem dX10_feed_42 : decode cX10_feed 42 = .ok (.aload_n 0, 1) := by decide +kernel
theorem dX10_feed_43 : decode cX10_feed 43 = .ok (.getfield 12, 3) := by decide +kernel
theorem dX10_feed_46 : decode cX10_feed 46 = .ok (.iload 4, 2) := by decide +kernel
theorem dX10_feed_48 : decode cX10_feed 48 = .ok (.invokevirtual 86, 3) := by decide +kernel
theorem dX10_feed_51 : decode cX10_feed 51 = .ok (.aload_n 0, 1) := by decide +kernel
theorem dX10_feed_52 : decode cX10_feed 52 = .ok (.getfield 12, 3) := by decide +kernel
theorem dX10_feed_55 : decode cX10_feed 55 = .ok (.iload 5, 2) := by decide +kernel
theorem dX10_feed_57 : decode cX10_feed 57 = .ok (.invokevirtual 86, 3) := by decide +kernel
theorem dX10_feed_60 : decode cX10_feed 60 = .ok (.aload_n 0, 1) := by decide +kernel
theorem dX10_feed_61 : decode cX10_feed 61 = .ok (.getfield 12, 3) := by decide +kernel
theorem dX10_feed_64 : decode cX10_feed 64 = .ok (.getfield 83, 3) := by decide +kernel
theorem dX10_feed_67 : decode cX10_feed 67 = .ok (.ireturn, 1) := by decide +kernel
theorem dX10_end_0 : decode cX10_end 0 = .ok (.iload_n 1, 1) := by decide +kernel
theorem dX10_end_1 : decode cX10_end 1 = .ok (.ifCond .lt 14, 3) := by decide +kernel
theorem dX10_end_4 : decode cX10_end 4 = .ok (.iload_n 1, 1) := by decide +kernel
theorem dX10_end_5 : decode cX10_end 5 = .ok (.aload_n 0, 1) := by decide +kernel
theorem dX10_end_6 : decode cX10_end 6 = .ok (.getfield 12, 3) := by decide +kernel
theorem dX10_end_9 : decode cX10_end 9 = .ok (.getfield 83, 3) := by decide +kernel
theorem dX10_end_12 : decode cX10_end 12 = .ok (.if_icmp .le 5, 3) := by decide +kernel
theorem dX10_end_15 : decode cX10_end 15 = .ok (.iconst (-1), 1) := by decide +kernel
theorem dX10_end_16 : decode cX10_end 16 = .ok (.ireturn, 1) := by decide +kernel
theorem dX10_end_17 : decode cX10_end 17 = .ok (.aload_n 0, 1) := by decide +kernel
theorem dX10_end_18 : decode cX10_end 18 = .ok (.getfield 12, 3) := by decide +kernel
theorem dX10_end_21 : decode cX10_end 21 = .ok (.iload_n 1, 1) := by decide +kernel
theorem dX10_end_22 : decode cX10_end 22 = .ok (.putfield 83, 3) := by decide +kernel
theorem dX10_end_25 : decode cX10_end 25 = .ok (.iload_n 1, 1) := by decide +kernel
theorem dX10_end_26 : decode cX10_end 26 = .ok (.ireturn, 1) := by decide +kernel
theorem dX10_fault_0 : decode cX10_fault 0 = .ok (.iload_n 1, 1) := by decide +kernel
theorem dX10_fault_1 : decode cX10_fault 1 = .ok (.ifCond .ne 11, 3) := by decide +kernel
theorem dX10_fault_4 : decode cX10_fault 4 = .ok (.aload_n 0, 1) := by decide +kernel
theorem dX10_fault_5 : decode cX10_fault 5 = .ok (.getfield 31, 3) := by decide +kernel
theorem dX10_fault_8 : decode cX10_fault 8 = .ok (.getfield 106, 3) := by decide +kernel
theorem dX10_fault_11 : decode cX10_fault 11 = .ok (.ireturn, 1) := by decide +kernel
theorem dX10_fault_12 : decode cX10_fault 12 = .ok (.iload_n 1, 1) := by decide +kernel
theorem dX10_fault_13 : decode cX10_fault 13 = .ok (.iconst 1, 1) := by decide +kernel
theorem dX10_fault_14 : decode cX10_fault 14 = .ok (.if_icmp .ne 13, 3) := by decide +kernel
theorem dX10_fault_17 : decode cX10_fault 17 = .ok (.aload_n 0, 1) := by decide +kernel
theorem dX10_fault_18 : decode cX10_fault 18 = .ok (.getfield 31, 3) := by decide +kernel
theorem dX10_fault_21 : decode cX10_fault 21 = .ok (.getfield 109, 3) := by decide +kernel
theorem dX10_fault_24 : decode cX10_fault 24 = .ok (.goto 4, 3) := by decide +kernel
theorem dX10_fault_27 : decode cX10_fault 27 = .ok (.iconst (-1), 1) := by decide +kernel
theorem dX10_fault_28 : decode cX10_fault 28 = .ok (.ireturn, 1) := by decide +kernel
theorem dX10_wasChosenIn_0 : decode cX10_wasChosenIn 0 = .ok (.iload_n 1, 1) := by decide +kernel
theorem dX10_wasChosenIn_1 : decode cX10_wasChosenIn 1 = .ok (.ifCond .lt 42, 3) := by decide +kernel
theorem dX10_wasChosenIn_4 : decode cX10_wasChosenIn 4 = .ok (.iload_n 1, 1) := by decide +kernel
theorem dX10_wasChosenIn_5 : decode cX10_wasChosenIn 5 = .ok (.aload_n 0, 1) := by decide +kernel
theorem dX10_wasChosenIn_6 : decode cX10_wasChosenIn 6 = .ok (.getfield 40, 3) := by decide +kernel
theorem dX10_wasChosenIn_9 : decode cX10_wasChosenIn 9 = .ok (.getfield 112, 3) := by decide +kernel
theorem dX10_wasChosenIn_12 : decode cX10_wasChosenIn 12 = .ok (.if_icmp .ge 31, 3) := by decide +kernel
theorem dX10_wasChosenIn_15 : decode cX10_wasChosenIn 15 = .ok (.iload_n 1, 1) := by decide +kernel
theorem dX10_wasChosenIn_16 : decode cX10_wasChosenIn 16 = .ok (.aload_n 0, 1) := by decide +kernel
theorem dX10_wasChosenIn_17 : decode cX10_wasChosenIn 17 = .ok (.getfield 47, 3) := by decide +kernel
theorem dX10_wasChosenIn_20 : decode cX10_wasChosenIn 20 = .ok (.arraylength, 1) := by decide +kernel
theorem dX10_wasChosenIn_21 : decode cX10_wasChosenIn 21 = .ok (.if_icmp .ge 22, 3) := by decide +kernel
theorem dX10_wasChosenIn_24 : decode cX10_wasChosenIn 24 = .ok (.iload_n 2, 1) := by decide +kernel
theorem dX10_wasChosenIn_25 : decode cX10_wasChosenIn 25 = .ok (.ifCond .lt 18, 3) := by decide +kernel
theorem dX10_wasChosenIn_28 : decode cX10_wasChosenIn 28 = .ok (.iload_n 2, 1) := by decide +kernel
theorem dX10_wasChosenIn_29 : decode cX10_wasChosenIn 29 = .ok (.aload_n 0, 1) := by decide +kernel
theorem dX10_wasChosenIn_30 : decode cX10_wasChosenIn 30 = .ok (.getfield 19, 3) := by decide +kernel
theorem dX10_wasChosenIn_33 : decode cX10_wasChosenIn 33 = .ok (.getfield 271, 3) := by decide +kernel
theorem dX10_wasChosenIn_36 : decode cX10_wasChosenIn 36 = .ok (.if_icmp .ge 7, 3) := by decide +kernel
theorem dX10_wasChosenIn_39 : decode cX10_wasChosenIn 39 = .ok (.iconst 1, 1) := by decide +kernel
theorem dX10_wasChosenIn_40 : decode cX10_wasChosenIn 40 = .ok (.goto 4, 3) := by decide +kernel
theorem dX10_wasChosenIn_43 : decode cX10_wasChosenIn 43 = .ok (.iconst 0, 1) := by decide +kernel
theorem dX10_wasChosenIn_44 : decode cX10_wasChosenIn 44 = .ok (.ireturn, 1) := by decide +kernel
theorem dX10_isGone_0 : decode cX10_isGone 0 = .ok (.iload_n 1, 1) := by decide +kernel
theorem dX10_isGone_1 : decode cX10_isGone 1 = .ok (.ifCond .lt 30, 3) := by decide +kernel
theorem dX10_isGone_4 : decode cX10_isGone 4 = .ok (.iload_n 1, 1) := by decide +kernel
theorem dX10_isGone_5 : decode cX10_isGone 5 = .ok (.aload_n 0, 1) := by decide +kernel
theorem dX10_isGone_6 : decode cX10_isGone 6 = .ok (.getfield 19, 3) := by decide +kernel
theorem dX10_isGone_9 : decode cX10_isGone 9 = .ok (.getfield 105, 3) := by decide +kernel
theorem dX10_isGone_12 : decode cX10_isGone 12 = .ok (.if_icmp .ge 19, 3) := by decide +kernel
theorem dX10_isGone_15 : decode cX10_isGone 15 = .ok (.aload_n 0, 1) := by decide +kernel
theorem dX10_isGone_16 : decode cX10_isGone 16 = .ok (.getfield 40, 3) := by decide +kernel
theorem dX10_isGone_19 : decode cX10_isGone 19 = .ok (.getfield 127, 3) := by decide +kernel
theorem dX10_isGone_22 : decode cX10_isGone 22 = .ok (.iload_n 1, 1) := by decide +kernel
theorem dX10_isGone_23 : decode cX10_isGone 23 = .ok (.aaload, 1) := by decide +kernel
theorem dX10_isGone_24 : decode cX10_isGone 24 = .ok (.getfield 131, 3) := by decide +kernel
theorem dX10_isGone_27 : decode cX10_isGone 27 = .ok (.iconst 4, 1) := by decide +kernel
theorem dX10_isGone_28 : decode cX10_isGone 28 = .ok (.if_icmp .ne 7, 3) := by decide +kernel
theorem dX10_isGone_31 : decode cX10_isGone 31 = .ok (.iconst 1, 1) := by decide +kernel
theorem dX10_isGone_32 : decode cX10_isGone 32 = .ok (.goto 4, 3) := by decide +kernel
theorem dX10_isGone_35 : decode cX10_isGone 35 = .ok (.iconst 0, 1) := by decide +kernel
theorem dX10_isGone_36 : decode cX10_isGone 36 = .ok (.ireturn, 1) := by decide +kernel
set_option maxRecDepth 20000 in
theorem ggX10_chosen_X10_pick : GoodIn wsX10_chosen wsX10_pick := goodIn_r _ [13] (by decide +kernel) (by decide +kernel)
set_option maxRecDepth 20000 in
theorem gX10_chosen_X10_pick : GoodIn wsX10_chosen (va_wsS RX10 123 yX10_pick wsX10_pick) := goodIn_app (goodIn_of _ (by decide +kernel)) ggX10_chosen_X10_pick
set_option maxRecDepth 20000 in
theorem ggX10_chosen_X10_wasChosenIn : GoodIn wsX10_chosen wsX10_wasChosenIn := goodIn_r _ [6, 7, 8, 1, 9, 10, 14, 15, 16, 17, 18, 19, 20, 21, 22, 23, 24, 25, 26, 27, 28, 29, 30, 31, 32, 33, 34, 35, 36, 37, 38, 39, 40, 41, 42, 43, 44, 45] (by decide +kernel) (by decide +kernel)
set_option maxRecDepth 20000 in
theorem gX10_chosen_X10_wasChosenIn : GoodIn wsX10_chosen (wsV RX10 119 RX10 yX10_wasChosenIn wsX10_wasChosenIn) := goodIn_app (goodIn_of _ (by decide +kernel)) ggX10_chosen_X10_wasChosenIn
theorem dX10_chosen_0 : decode cX10_chosen 0 = .ok (.aload_n 0, 1) := by decide +kernel
theorem dX10_chosen_1 : decode cX10_chosen 1 = .ok (.iload_n 1, 1) := by decide +kernel
theorem dX10_chosen_2 : decode cX10_chosen 2 = .ok (.iload_n 2, 1) := by decide +kernel
theorem dX10_chosen_3 : decode cX10_chosen 3 = .ok (.invokevirtual 119, 3) := by decide +kernel
theorem dX10_chosen_6 : decode cX10_chosen 6 = .ok (.ifCond .ne 5, 3) := by decide +kernel
theorem dX10_chosen_9 : decode cX10_chosen 9 = .ok (.iconst (-1), 1) := by decide +kernel
theorem dX10_chosen_10 : decode cX10_chosen 10 = .ok (.ireturn, 1) := by decide +kernel
theorem dX10_chosen_11 : decode cX10_chosen 11 = .ok (.aload_n 0, 1) := by decide +kernel
theorem dX10_chosen_12 : decode cX10_chosen 12 = .ok (.getfield 47, 3) := by decide +kernel
theorem dX10_chosen_15 : decode cX10_chosen 15 = .ok (.iload_n 1, 1) := by decide +kernel
theorem dX10_chosen_16 : decode cX10_chosen 16 = .ok (.iaload, 1) := by decide +kernel
theorem dX10_chosen_17 : decode cX10_chosen 17 = .ok (.iload_n 2, 1) := by decide +kernel
theorem dX10_chosen_18 : decode cX10_chosen 18 = .ok (.invokestatic 123, 3) := by decide +kernel
theorem dX10_chosen_21 : decode cX10_chosen 21 = .ok (.ireturn, 1) := by decide +kernel
theorem dX10_task_0 : decode cX10_task 0 = .ok (.iload_n 1, 1) := by decide +kernel
theorem dX10_task_1 : decode cX10_task 1 = .ok (.ifCond .lt 14, 3) := by decide +kernel
theorem dX10_task_4 : decode cX10_task 4 = .ok (.iload_n 1, 1) := by decide +kernel
theorem dX10_task_5 : decode cX10_task 5 = .ok (.aload_n 0, 1) := by decide +kernel
theorem dX10_task_6 : decode cX10_task 6 = .ok (.getfield 19, 3) := by decide +kernel
theorem dX10_task_9 : decode cX10_task 9 = .ok (.getfield 105, 3) := by decide +kernel
theorem dX10_task_12 : decode cX10_task 12 = .ok (.if_icmp .lt 6, 3) := by decide +kernel
theorem dX10_task_15 : decode cX10_task 15 = .ok (.bipush (-2), 2) := by decide +kernel
theorem dX10_task_17 : decode cX10_task 17 = .ok (.ireturn, 1) := by decide +kernel
theorem dX10_task_18 : decode cX10_task 18 = .ok (.aload_n 0, 1) := by decide +kernel
theorem dX10_task_19 : decode cX10_task 19 = .ok (.getfield 40, 3) := by decide +kernel
theorem dX10_task_22 : decode cX10_task 22 = .ok (.getfield 127, 3) := by decide +kernel
theorem dX10_task_25 : decode cX10_task 25 = .ok (.iload_n 1, 1) := by decide +kernel
theorem dX10_task_26 : decode cX10_task 26 = .ok (.aaload, 1) := by decide +kernel
theorem dX10_task_27 : decode cX10_task 27 = .ok (.astore_n 3, 1) := by decide +kernel
theorem dX10_task_28 : decode cX10_task 28 = .ok (.iload_n 2, 1) := by decide +kernel
theorem dX10_task_29 : decode cX10_task 29 = .ok (.tableswitch 132 0 12 #[67, 72, 77, 82, 87, 92, 97, 102, 107, 112, 117, 122, 127], 67) := by decide +kernel
theorem dX10_task_96 : decode cX10_task 96 = .ok (.aload_n 3, 1) := by decide +kernel
theorem dX10_task_97 : decode cX10_task 97 = .ok (.getfield 131, 3) := by decide +kernel
theorem dX10_task_100 : decode cX10_task 100 = .ok (.ireturn, 1) := by decide +kernel
theorem dX10_task_101 : decode cX10_task 101 = .ok (.aload_n 3, 1) := by decide +kernel
theorem dX10_task_102 : decode cX10_task 102 = .ok (.getfield 136, 3) := by decide +kernel
theorem dX10_task_105 : decode cX10_task 105 = .ok (.ireturn, 1) := by decide +kernel
theorem dX10_task_106 : decode cX10_task 106 = .ok (.aload_n 3, 1) := by decide +kernel
theorem dX10_task_107 : decode cX10_task 107 = .ok (.getfield 139, 3) := by decide +kernel
theorem dX10_task_110 : decode cX10_task 110 = .ok (.ireturn, 1) := by decide +kernel
theorem dX10_task_111 : decode cX10_task 111 = .ok (.aload_n 3, 1) := by decide +kernel
theorem dX10_task_112 : decode cX10_task 112 = .ok (.getfield 142, 3) := by decide +kernel
theorem dX10_task_115 : decode cX10_task 115 = .ok (.ireturn, 1) := by decide +kernel
theorem dX10_task_116 : decode cX10_task 116 = .ok (.aload_n 3, 1) := by decide +kernel
theorem dX10_task_117 : decode cX10_task 117 = .ok (.getfield 145, 3) := by decide +kernel
theorem dX10_task_120 : decode cX10_task 120 = .ok (.ireturn, 1) := by decide +kernel
theorem dX10_task_121 : decode cX10_task 121 = .ok (.aload_n 3, 1) := by decide +kernel
theorem dX10_task_122 : decode cX10_task 122 = .ok (.getfield 148, 3) := by decide +kernel
theorem dX10_task_125 : decode cX10_task 125 = .ok (.ireturn, 1) := by decide +kernel
theorem dX10_task_126 : decode cX10_task 126 = .ok (.aload_n 3, 1) := by decide +kernel
theorem dX10_task_127 : decode cX10_task 127 = .ok (.getfield 151, 3) := by decide +kernel
theorem dX10_task_130 : decode cX10_task 130 = .ok (.ireturn, 1) := by decide +kernel
theorem dX10_task_131 : decode cX10_task 131 = .ok (.aload_n 3, 1) := by decide +kernel
theorem dX10_task_132 : decode cX10_task 132 = .ok (.getfield 154, 3) := by decide +kernel
theorem dX10_task_135 : decode cX10_task 135 = .ok (.ireturn, 1) := by decide +kernel
theorem dX10_task_136 : decode cX10_task 136 = .ok (.aload_n 3, 1) := by decide +kernel
theorem dX10_task_137 : decode cX10_task 137 = .ok (.getfield 157, 3) := by decide +kernel
theorem dX10_task_140 : decode cX10_task 140 = .ok (.ireturn, 1) := by decide +kernel
theorem dX10_task_141 : decode cX10_task 141 = .ok (.aload_n 3, 1) := by decide +kernel
theorem dX10_task_142 : decode cX10_task 142 = .ok (.getfield 160, 3) := by decide +kernel
theorem dX10_task_145 : decode cX10_task 145 = .ok (.ireturn, 1) := by decide +kernel
theorem dX10_task_146 : decode cX10_task 146 = .ok (.aload_n 3, 1) := by decide +kernel
theorem dX10_task_147 : decode cX10_task 147 = .ok (.getfield 163, 3) := by decide +kernel
theorem dX10_task_150 : decode cX10_task 150 = .ok (.ireturn, 1) := by decide +kernel
theorem dX10_task_151 : decode cX10_task 151 = .ok (.aload_n 3, 1) := by decide +kernel
theorem dX10_task_152 : decode cX10_task 152 = .ok (.getfield 166, 3) := by decide +kernel
theorem dX10_task_155 : decode cX10_task 155 = .ok (.ireturn, 1) := by decide +kernel
theorem dX10_task_156 : decode cX10_task 156 = .ok (.aload_n 3, 1) := by decide +kernel
theorem dX10_task_157 : decode cX10_task 157 = .ok (.getfield 169, 3) := by decide +kernel
theorem dX10_task_160 : decode cX10_task 160 = .ok (.ireturn, 1) := by decide +kernel
theorem dX10_task_161 : decode cX10_task 161 = .ok (.bipush (-2), 2) := by decide +kernel
theorem dX10_task_163 : decode cX10_task 163 = .ok (.ireturn, 1) := by decide +kernel
set_option maxRecDepth 20000 in
theorem ggX10_place_X9_lend : GoodIn wsX10_place wsX9_lend := goodIn_r _ [12, 13, 14, 15, 16, 17, 18, 19, 20, 21, 22, 23, 24, 11, 25, 26, 27, 28, 55, 56, 57, 58, 59, 60, 41, 42, 43, 44, 45, 46, 47, 48, 49, 50, 51, 52, 53, 54, 61, 62, 63, 64, 65, 66, 67, 68, 69, 70, 71, 72, 73, 74, 75, 76, 77] (by decide +kernel) (by decide +kernel)
set_option maxRecDepth 20000 in
theorem gX10_place_X9_lend : GoodIn wsX10_place (wsV RX10 172 RX9 yX9_lend wsX9_lend) := goodIn_app (goodIn_of _ (by decide +kernel)) ggX10_place_X9_lend
theorem dX10_place_0 : decode cX10_place 0 = .ok (.iload_n 1, 1) := by decide +kernel
theorem dX10_place_1 : decode cX10_place 1 = .ok (.ifCond .lt 30, 3) := by decide +kernel
theorem dX10_place_4 : decode cX10_place 4 = .ok (.iload_n 1, 1) := by decide +kernel
theorem dX10_place_5 : decode cX10_place 5 = .ok (.aload_n 0, 1) := by decide +kernel
theorem dX10_place_6 : decode cX10_place 6 = .ok (.getfield 19, 3) := by decide +kernel
theorem dX10_place_9 : decode cX10_place 9 = .ok (.getfield 105, 3) := by decide +kernel
theorem dX10_place_12 : decode cX10_place 12 = .ok (.if_icmp .ge 19, 3) := by decide +kernel
theorem dX10_place_15 : decode cX10_place 15 = .ok (.aload_n 0, 1) := by decide +kernel
theorem dX10_place_16 : decode cX10_place 16 = .ok (.getfield 40, 3) := by decide +kernel
theorem dX10_place_19 : decode cX10_place 19 = .ok (.getfield 127, 3) := by decide +kernel
theorem dX10_place_22 : decode cX10_place 22 = .ok (.iload_n 1, 1) := by decide +kernel
theorem dX10_place_23 : decode cX10_place 23 = .ok (.aaload, 1) := by decide +kernel
theorem dX10_place_24 : decode cX10_place 24 = .ok (.getfield 131, 3) := by decide +kernel
theorem dX10_place_27 : decode cX10_place 27 = .ok (.iconst 4, 1) := by decide +kernel
theorem dX10_place_28 : decode cX10_place 28 = .ok (.if_icmp .ne 5, 3) := by decide +kernel
theorem dX10_place_31 : decode cX10_place 31 = .ok (.iconst (-1), 1) := by decide +kernel
theorem dX10_place_32 : decode cX10_place 32 = .ok (.ireturn, 1) := by decide +kernel
theorem dX10_place_33 : decode cX10_place 33 = .ok (.aload_n 0, 1) := by decide +kernel
theorem dX10_place_34 : decode cX10_place 34 = .ok (.getfield 40, 3) := by decide +kernel
theorem dX10_place_37 : decode cX10_place 37 = .ok (.invokevirtual 172, 3) := by decide +kernel
theorem dX10_place_40 : decode cX10_place 40 = .ok (.aload_n 0, 1) := by decide +kernel
theorem dX10_place_41 : decode cX10_place 41 = .ok (.getfield 40, 3) := by decide +kernel
theorem dX10_place_44 : decode cX10_place 44 = .ok (.getfield 175, 3) := by decide +kernel
theorem dX10_place_47 : decode cX10_place 47 = .ok (.iload_n 1, 1) := by decide +kernel
theorem dX10_place_48 : decode cX10_place 48 = .ok (.laload, 1) := by decide +kernel
theorem dX10_place_49 : decode cX10_place 49 = .ok (.ldc2_w 179, 3) := by decide +kernel
theorem dX10_place_52 : decode cX10_place 52 = .ok (.land, 1) := by decide +kernel
theorem dX10_place_53 : decode cX10_place 53 = .ok (.l2i, 1) := by decide +kernel
theorem dX10_place_54 : decode cX10_place 54 = .ok (.ireturn, 1) := by decide +kernel
theorem dX10_holder_0 : decode cX10_holder 0 = .ok (.iload_n 1, 1) := by decide +kernel
theorem dX10_holder_1 : decode cX10_holder 1 = .ok (.ifCond .lt 14, 3) := by decide +kernel
theorem dX10_holder_4 : decode cX10_holder 4 = .ok (.iload_n 1, 1) := by decide +kernel
theorem dX10_holder_5 : decode cX10_holder 5 = .ok (.aload_n 0, 1) := by decide +kernel
theorem dX10_holder_6 : decode cX10_holder 6 = .ok (.getfield 19, 3) := by decide +kernel
theorem dX10_holder_9 : decode cX10_holder 9 = .ok (.getfield 181, 3) := by decide +kernel
theorem dX10_holder_12 : decode cX10_holder 12 = .ok (.if_icmp .lt 7, 3) := by decide +kernel
theorem dX10_holder_15 : decode cX10_holder 15 = .ok (.iconst (-1), 1) := by decide +kernel
theorem dX10_holder_16 : decode cX10_holder 16 = .ok (.goto 12, 3) := by decide +kernel
theorem dX10_holder_19 : decode cX10_holder 19 = .ok (.aload_n 0, 1) := by decide +kernel
theorem dX10_holder_20 : decode cX10_holder 20 = .ok (.getfield 40, 3) := by decide +kernel
theorem dX10_holder_23 : decode cX10_holder 23 = .ok (.getfield 184, 3) := by decide +kernel
theorem dX10_holder_26 : decode cX10_holder 26 = .ok (.iload_n 1, 1) := by decide +kernel
theorem dX10_holder_27 : decode cX10_holder 27 = .ok (.iaload, 1) := by decide +kernel
theorem dX10_holder_28 : decode cX10_holder 28 = .ok (.ireturn, 1) := by decide +kernel
set_option maxRecDepth 20000 in
theorem ggX10_waits_X8_isLockedFor : GoodIn wsX10_waits wsX8_isLockedFor := goodIn_r _ [10, 11, 12, 45, 46, 47, 48, 49, 50, 51, 52, 53, 54, 55, 56, 57, 58, 59, 60, 61] (by decide +kernel) (by decide +kernel)
set_option maxRecDepth 20000 in
theorem gX10_waits_X8_isLockedFor : GoodIn wsX10_waits (wsV RX10 187 RX8 yX8_isLockedFor wsX8_isLockedFor) := goodIn_app (goodIn_of _ (by decide +kernel)) ggX10_waits_X8_isLockedFor
theorem dX10_waits_0 : decode cX10_waits 0 = .ok (.iload_n 1, 1) := by decide +kernel
theorem dX10_waits_1 : decode cX10_waits 1 = .ok (.ifCond .lt 14, 3) := by decide +kernel
theorem dX10_waits_4 : decode cX10_waits 4 = .ok (.iload_n 1, 1) := by decide +kernel
theorem dX10_waits_5 : decode cX10_waits 5 = .ok (.aload_n 0, 1) := by decide +kernel
theorem dX10_waits_6 : decode cX10_waits 6 = .ok (.getfield 19, 3) := by decide +kernel
theorem dX10_waits_9 : decode cX10_waits 9 = .ok (.getfield 181, 3) := by decide +kernel
theorem dX10_waits_12 : decode cX10_waits 12 = .ok (.if_icmp .lt 5, 3) := by decide +kernel
theorem dX10_waits_15 : decode cX10_waits 15 = .ok (.iconst (-1), 1) := by decide +kernel
theorem dX10_waits_16 : decode cX10_waits 16 = .ok (.ireturn, 1) := by decide +kernel
theorem dX10_waits_17 : decode cX10_waits 17 = .ok (.iconst 0, 1) := by decide +kernel
theorem dX10_waits_18 : decode cX10_waits 18 = .ok (.istore_n 2, 1) := by decide +kernel
theorem dX10_waits_19 : decode cX10_waits 19 = .ok (.iconst 0, 1) := by decide +kernel
theorem dX10_waits_20 : decode cX10_waits 20 = .ok (.istore_n 3, 1) := by decide +kernel
theorem dX10_waits_21 : decode cX10_waits 21 = .ok (.iload_n 3, 1) := by decide +kernel
theorem dX10_waits_22 : decode cX10_waits 22 = .ok (.aload_n 0, 1) := by decide +kernel
theorem dX10_waits_23 : decode cX10_waits 23 = .ok (.getfield 19, 3) := by decide +kernel
theorem dX10_waits_26 : decode cX10_waits 26 = .ok (.getfield 105, 3) := by decide +kernel
theorem dX10_waits_29 : decode cX10_waits 29 = .ok (.if_icmp .ge 31, 3) := by decide +kernel
theorem dX10_waits_32 : decode cX10_waits 32 = .ok (.aload_n 0, 1) := by decide +kernel
theorem dX10_waits_33 : decode cX10_waits 33 = .ok (.getfield 40, 3) := by decide +kernel
theorem dX10_waits_36 : decode cX10_waits 36 = .ok (.getfield 127, 3) := by decide +kernel
theorem dX10_waits_39 : decode cX10_waits 39 = .ok (.iload_n 3, 1) := by decide +kernel
theorem dX10_waits_40 : decode cX10_waits 40 = .ok (.aaload, 1) := by decide +kernel
theorem dX10_waits_41 : decode cX10_waits 41 = .ok (.iload_n 1, 1) := by decide +kernel
theorem dX10_waits_42 : decode cX10_waits 42 = .ok (.invokevirtual 187, 3) := by decide +kernel
theorem dX10_waits_45 : decode cX10_waits 45 = .ok (.ifCond .eq 9, 3) := by decide +kernel
theorem dX10_waits_48 : decode cX10_waits 48 = .ok (.iload_n 2, 1) := by decide +kernel
theorem dX10_waits_49 : decode cX10_waits 49 = .ok (.iconst 1, 1) := by decide +kernel
theorem dX10_waits_50 : decode cX10_waits 50 = .ok (.iload_n 3, 1) := by decide +kernel
theorem dX10_waits_51 : decode cX10_waits 51 = .ok (.ishl, 1) := by decide +kernel
theorem dX10_waits_52 : decode cX10_waits 52 = .ok (.ior, 1) := by decide +kernel
theorem dX10_waits_53 : decode cX10_waits 53 = .ok (.istore_n 2, 1) := by decide +kernel
theorem dX10_waits_54 : decode cX10_waits 54 = .ok (.iinc 3 1, 3) := by decide +kernel
theorem dX10_waits_57 : decode cX10_waits 57 = .ok (.goto (-36), 3) := by decide +kernel
theorem dX10_waits_60 : decode cX10_waits 60 = .ok (.iload_n 2, 1) := by decide +kernel
theorem dX10_waits_61 : decode cX10_waits 61 = .ok (.ireturn, 1) := by decide +kernel
theorem dX10_ring_0 : decode cX10_ring 0 = .ok (.iload_n 1, 1) := by decide +kernel
theorem dX10_ring_1 : decode cX10_ring 1 = .ok (.ifCond .lt 14, 3) := by decide +kernel
theorem dX10_ring_4 : decode cX10_ring 4 = .ok (.iload_n 1, 1) := by decide +kernel
theorem dX10_ring_5 : decode cX10_ring 5 = .ok (.aload_n 0, 1) := by decide +kernel
theorem dX10_ring_6 : decode cX10_ring 6 = .ok (.getfield 19, 3) := by decide +kernel
theorem dX10_ring_9 : decode cX10_ring 9 = .ok (.getfield 105, 3) := by decide +kernel
theorem dX10_ring_12 : decode cX10_ring 12 = .ok (.if_icmp .lt 5, 3) := by decide +kernel
theorem dX10_ring_15 : decode cX10_ring 15 = .ok (.iconst (-1), 1) := by decide +kernel
theorem dX10_ring_16 : decode cX10_ring 16 = .ok (.ireturn, 1) := by decide +kernel
theorem dX10_ring_17 : decode cX10_ring 17 = .ok (.aload_n 0, 1) := by decide +kernel
theorem dX10_ring_18 : decode cX10_ring 18 = .ok (.getfield 40, 3) := by decide +kernel
theorem dX10_ring_21 : decode cX10_ring 21 = .ok (.getfield 127, 3) := by decide +kernel
theorem dX10_ring_24 : decode cX10_ring 24 = .ok (.iload_n 1, 1) := by decide +kernel
theorem dX10_ring_25 : decode cX10_ring 25 = .ok (.aaload, 1) := by decide +kernel
theorem dX10_ring_26 : decode cX10_ring 26 = .ok (.astore_n 3, 1) := by decide +kernel
theorem dX10_ring_27 : decode cX10_ring 27 = .ok (.iload_n 2, 1) := by decide +kernel
theorem dX10_ring_28 : decode cX10_ring 28 = .ok (.ifCond .lt 11, 3) := by decide +kernel
theorem dX10_ring_31 : decode cX10_ring 31 = .ok (.iload_n 2, 1) := by decide +kernel
theorem dX10_ring_32 : decode cX10_ring 32 = .ok (.aload_n 3, 1) := by decide +kernel
theorem dX10_ring_33 : decode cX10_ring 33 = .ok (.getfield 191, 3) := by decide +kernel
theorem dX10_ring_36 : decode cX10_ring 36 = .ok (.if_icmp .lt 7, 3) := by decide +kernel
theorem dX10_ring_39 : decode cX10_ring 39 = .ok (.iconst (-1), 1) := by decide +kernel
theorem dX10_ring_40 : decode cX10_ring 40 = .ok (.goto 9, 3) := by decide +kernel
theorem dX10_ring_43 : decode cX10_ring 43 = .ok (.aload_n 3, 1) := by decide +kernel
theorem dX10_ring_44 : decode cX10_ring 44 = .ok (.getfield 194, 3) := by decide +kernel
theorem dX10_ring_47 : decode cX10_ring 47 = .ok (.iload_n 2, 1) := by decide +kernel
theorem dX10_ring_48 : decode cX10_ring 48 = .ok (.iaload, 1) := by decide +kernel
theorem dX10_ring_49 : decode cX10_ring 49 = .ok (.ireturn, 1) := by decide +kernel
set_option maxRecDepth 20000 in
theorem ggX10_share_X10_isGone : GoodIn wsX10_share wsX10_isGone := goodIn_r _ [8, 9, 10, 1, 2, 11, 12, 13, 14, 15, 16, 17, 18, 19, 20, 21, 22, 23, 47, 48, 49, 50, 51, 52, 53, 54, 55, 56, 57, 58, 59, 60, 24, 25, 26, 27, 28, 29, 30, 31, 32, 33, 34, 35, 36, 37, 38, 39, 40, 41, 42, 43, 44, 45, 46] (by decide +kernel) (by decide +kernel)
set_option maxRecDepth 20000 in
theorem gX10_share_X10_isGone : GoodIn wsX10_share (wsV RX10 197 RX10 yX10_isGone wsX10_isGone) := goodIn_app (goodIn_of _ (by decide +kernel)) ggX10_share_X10_isGone
theorem dX10_share_0 : decode cX10_share 0 = .ok (.aload_n 0, 1) := by decide +kernel
theorem dX10_share_1 : decode cX10_share 1 = .ok (.iload_n 1, 1) := by decide +kernel
theorem dX10_share_2 : decode cX10_share 2 = .ok (.invokevirtual 197, 3) := by decide +kernel
theorem dX10_share_5 : decode cX10_share 5 = .ok (.ifCond .ne 15, 3) := by decide +kernel
theorem dX10_share_8 : decode cX10_share 8 = .ok (.iload_n 2, 1) := by decide +kernel
theorem dX10_share_9 : decode cX10_share 9 = .ok (.iconst 1, 1) := by decide +kernel
theorem dX10_share_10 : decode cX10_share 10 = .ok (.if_icmp .lt 10, 3) := by decide +kernel
theorem dX10_share_13 : decode cX10_share 13 = .ok (.iload_n 2, 1) := by decide +kernel
theorem dX10_share_14 : decode cX10_share 14 = .ok (.sipush 999, 3) := by decide +kernel
theorem dX10_share_17 : decode cX10_share 17 = .ok (.if_icmp .le 5, 3) := by decide +kernel
theorem dX10_share_20 : decode cX10_share 20 = .ok (.iconst (-1), 1) := by decide +kernel
theorem dX10_share_21 : decode cX10_share 21 = .ok (.ireturn, 1) := by decide +kernel
theorem dX10_share_22 : decode cX10_share 22 = .ok (.aload_n 0, 1) := by decide +kernel
theorem dX10_share_23 : decode cX10_share 23 = .ok (.getfield 40, 3) := by decide +kernel
theorem dX10_share_26 : decode cX10_share 26 = .ok (.getfield 127, 3) := by decide +kernel
theorem dX10_share_29 : decode cX10_share 29 = .ok (.iload_n 1, 1) := by decide +kernel
theorem dX10_share_30 : decode cX10_share 30 = .ok (.aaload, 1) := by decide +kernel
theorem dX10_share_31 : decode cX10_share 31 = .ok (.getfield 148, 3) := by decide +kernel
theorem dX10_share_34 : decode cX10_share 34 = .ok (.istore_n 3, 1) := by decide +kernel
theorem dX10_share_35 : decode cX10_share 35 = .ok (.aload_n 0, 1) := by decide +kernel
theorem dX10_share_36 : decode cX10_share 36 = .ok (.getfield 40, 3) := by decide +kernel
theorem dX10_share_39 : decode cX10_share 39 = .ok (.getfield 127, 3) := by decide +kernel
theorem dX10_share_42 : decode cX10_share 42 = .ok (.iload_n 1, 1) := by decide +kernel
theorem dX10_share_43 : decode cX10_share 43 = .ok (.aaload, 1) := by decide +kernel
theorem dX10_share_44 : decode cX10_share 44 = .ok (.iload_n 2, 1) := by decide +kernel
theorem dX10_share_45 : decode cX10_share 45 = .ok (.putfield 148, 3) := by decide +kernel
theorem dX10_share_48 : decode cX10_share 48 = .ok (.iload_n 3, 1) := by decide +kernel
theorem dX10_share_49 : decode cX10_share 49 = .ok (.ireturn, 1) := by decide +kernel
theorem dX10_countAlive_0 : decode cX10_countAlive 0 = .ok (.iconst 0, 1) := by decide +kernel
theorem dX10_countAlive_1 : decode cX10_countAlive 1 = .ok (.istore_n 1, 1) := by decide +kernel
theorem dX10_countAlive_2 : decode cX10_countAlive 2 = .ok (.iconst 0, 1) := by decide +kernel
theorem dX10_countAlive_3 : decode cX10_countAlive 3 = .ok (.istore_n 2, 1) := by decide +kernel
theorem dX10_countAlive_4 : decode cX10_countAlive 4 = .ok (.iload_n 2, 1) := by decide +kernel
theorem dX10_countAlive_5 : decode cX10_countAlive 5 = .ok (.aload_n 0, 1) := by decide +kernel
theorem dX10_countAlive_6 : decode cX10_countAlive 6 = .ok (.getfield 19, 3) := by decide +kernel
theorem dX10_countAlive_9 : decode cX10_countAlive 9 = .ok (.getfield 105, 3) := by decide +kernel
theorem dX10_countAlive_12 : decode cX10_countAlive 12 = .ok (.if_icmp .ge 28, 3) := by decide +kernel
theorem dX10_countAlive_15 : decode cX10_countAlive 15 = .ok (.aload_n 0, 1) := by decide +kernel
theorem dX10_countAlive_16 : decode cX10_countAlive 16 = .ok (.getfield 40, 3) := by decide +kernel
theorem dX10_countAlive_19 : decode cX10_countAlive 19 = .ok (.getfield 127, 3) := by decide +kernel
theorem dX10_countAlive_22 : decode cX10_countAlive 22 = .ok (.iload_n 2, 1) := by decide +kernel
theorem dX10_countAlive_23 : decode cX10_countAlive 23 = .ok (.aaload, 1) := by decide +kernel
theorem dX10_countAlive_24 : decode cX10_countAlive 24 = .ok (.getfield 131, 3) := by decide +kernel
theorem dX10_countAlive_27 : decode cX10_countAlive 27 = .ok (.iconst 4, 1) := by decide +kernel
theorem dX10_countAlive_28 : decode cX10_countAlive 28 = .ok (.if_icmp .eq 6, 3) := by decide +kernel
theorem dX10_countAlive_31 : decode cX10_countAlive 31 = .ok (.iinc 1 1, 3) := by decide +kernel
theorem dX10_countAlive_34 : decode cX10_countAlive 34 = .ok (.iinc 2 1, 3) := by decide +kernel
theorem dX10_countAlive_37 : decode cX10_countAlive 37 = .ok (.goto (-33), 3) := by decide +kernel
theorem dX10_countAlive_40 : decode cX10_countAlive 40 = .ok (.iload_n 1, 1) := by decide +kernel
theorem dX10_countAlive_41 : decode cX10_countAlive 41 = .ok (.ireturn, 1) := by decide +kernel
set_option maxRecDepth 20000 in
theorem ggX10_load_X10_commonPart : GoodIn wsX10_load wsX10_commonPart := goodIn_r _ [18] (by decide +kernel) (by decide +kernel)
set_option maxRecDepth 20000 in
theorem gX10_load_X10_commonPart : GoodIn wsX10_load (va_wsS RX10 226 yX10_commonPart wsX10_commonPart) := goodIn_app (goodIn_of _ (by decide +kernel)) ggX10_load_X10_commonPart
set_option maxRecDepth 20000 in
theorem ggX10_load_X2_isBudgeted : GoodIn wsX10_load wsX2_isBudgeted := goodIn_r _ [13, 14, 31, 32, 33, 34, 35, 36, 37, 38, 39, 40, 41, 42, 43, 44] (by decide +kernel) (by decide +kernel)
set_option maxRecDepth 20000 in
theorem gX10_load_X2_isBudgeted : GoodIn wsX10_load (wsV RX10 218 RX2 yX2_isBudgeted wsX2_isBudgeted) := goodIn_app (goodIn_of _ (by decide +kernel)) ggX10_load_X2_isBudgeted
theorem dX10_load_0 : decode cX10_load 0 = .ok (.iload_n 1, 1) := by decide +kernel
theorem dX10_load_1 : decode cX10_load 1 = .ok (.ifCond .eq 12, 3) := by decide +kernel
theorem dX10_load_4 : decode cX10_load 4 = .ok (.iload_n 1, 1) := by decide +kernel
theorem dX10_load_5 : decode cX10_load 5 = .ok (.iconst 1, 1) := by decide +kernel
theorem dX10_load_6 : decode cX10_load 6 = .ok (.if_icmp .eq 7, 3) := by decide +kernel
theorem dX10_load_9 : decode cX10_load 9 = .ok (.ldc2_w 216, 3) := by decide +kernel
theorem dX10_load_12 : decode cX10_load 12 = .ok (.lreturn, 1) := by decide +kernel
theorem dX10_load_13 : decode cX10_load 13 = .ok (.lconst 0, 1) := by decide +kernel
theorem dX10_load_14 : decode cX10_load 14 = .ok (.lstore_n 2, 1) := by decide +kernel
theorem dX10_load_15 : decode cX10_load 15 = .ok (.lconst 1, 1) := by decide +kernel
theorem dX10_load_16 : decode cX10_load 16 = .ok (.lstore 4, 2) := by decide +kernel
theorem dX10_load_18 : decode cX10_load 18 = .ok (.iconst 0, 1) := by decide +kernel
theorem dX10_load_19 : decode cX10_load 19 = .ok (.istore 6, 2) := by decide +kernel
theorem dX10_load_21 : decode cX10_load 21 = .ok (.iload 6, 2) := by decide +kernel
theorem dX10_load_23 : decode cX10_load 23 = .ok (.aload_n 0, 1) := by decide +kernel
theorem dX10_load_24 : decode cX10_load 24 = .ok (.getfield 19, 3) := by decide +kernel
theorem dX10_load_27 : decode cX10_load 27 = .ok (.getfield 105, 3) := by decide +kernel
theorem dX10_load_30 : decode cX10_load 30 = .ok (.if_icmp .ge 110, 3) := by decide +kernel
theorem dX10_load_33 : decode cX10_load 33 = .ok (.aload_n 0, 1) := by decide +kernel
theorem dX10_load_34 : decode cX10_load 34 = .ok (.getfield 19, 3) := by decide +kernel
theorem dX10_load_37 : decode cX10_load 37 = .ok (.iload 6, 2) := by decide +kernel
theorem dX10_load_39 : decode cX10_load 39 = .ok (.invokevirtual 218, 3) := by decide +kernel
theorem dX10_load_42 : decode cX10_load 42 = .ok (.ifCond .eq 92, 3) := by decide +kernel
theorem dX10_load_45 : decode cX10_load 45 = .ok (.aload_n 0, 1) := by decide +kernel
theorem dX10_load_46 : decode cX10_load 46 = .ok (.getfield 40, 3) := by decide +kernel
theorem dX10_load_49 : decode cX10_load 49 = .ok (.getfield 127, 3) := by decide +kernel
theorem dX10_load_52 : decode cX10_load 52 = .ok (.iload 6, 2) := by decide +kernel
theorem dX10_load_54 : decode cX10_load 54 = .ok (.aaload, 1) := by decide +kernel
theorem dX10_load_55 : decode cX10_load 55 = .ok (.getfield 131, 3) := by decide +kernel
theorem dX10_load_58 : decode cX10_load 58 = .ok (.iconst 4, 1) := by decide +kernel
theorem dX10_load_59 : decode cX10_load 59 = .ok (.if_icmp .eq 75, 3) := by decide +kernel
theorem dX10_load_62 : decode cX10_load 62 = .ok (.lload_n 2, 1) := by decide +kernel
theorem dX10_load_63 : decode cX10_load 63 = .ok (.aload_n 0, 1) := by decide +kernel
theorem dX10_load_64 : decode cX10_load 64 = .ok (.getfield 19, 3) := by decide +kernel
theorem dX10_load_67 : decode cX10_load 67 = .ok (.getfield 221, 3) := by decide +kernel
theorem dX10_load_70 : decode cX10_load 70 = .ok (.iload 6, 2) := by decide +kernel
theorem dX10_load_72 : decode cX10_load 72 = .ok (.iaload, 1) := by decide +kernel
theorem dX10_load_73 : decode cX10_load 73 = .ok (.i2l, 1) := by decide +kernel
theorem dX10_load_74 : decode cX10_load 74 = .ok (.lmul, 1) := by decide +kernel
theorem dX10_load_75 : decode cX10_load 75 = .ok (.lload 4, 2) := by decide +kernel
theorem dX10_load_77 : decode cX10_load 77 = .ok (.aload_n 0, 1) := by decide +kernel
theorem dX10_load_78 : decode cX10_load 78 = .ok (.getfield 19, 3) := by decide +kernel
theorem dX10_load_81 : decode cX10_load 81 = .ok (.getfield 224, 3) := by decide +kernel
theorem dX10_load_84 : decode cX10_load 84 = .ok (.iload 6, 2) := by decide +kernel
theorem dX10_load_86 : decode cX10_load 86 = .ok (.iaload, 1) := by decide +kernel
theorem dX10_load_87 : decode cX10_load 87 = .ok (.i2l, 1) := by decide +kernel
theorem dX10_load_88 : decode cX10_load 88 = .ok (.lmul, 1) := by decide +kernel
theorem dX10_load_89 : decode cX10_load 89 = .ok (.ladd, 1) := by decide +kernel
theorem dX10_load_90 : decode cX10_load 90 = .ok (.lstore_n 2, 1) := by decide +kernel
theorem dX10_load_91 : decode cX10_load 91 = .ok (.lload 4, 2) := by decide +kernel
theorem dX10_load_93 : decode cX10_load 93 = .ok (.aload_n 0, 1) := by decide +kernel
theorem dX10_load_94 : decode cX10_load 94 = .ok (.getfield 19, 3) := by decide +kernel
theorem dX10_load_97 : decode cX10_load 97 = .ok (.getfield 221, 3) := by decide +kernel
theorem dX10_load_100 : decode cX10_load 100 = .ok (.iload 6, 2) := by decide +kernel
theorem dX10_load_102 : decode cX10_load 102 = .ok (.iaload, 1) := by decide +kernel
theorem dX10_load_103 : decode cX10_load 103 = .ok (.i2l, 1) := by decide +kernel
theorem dX10_load_104 : decode cX10_load 104 = .ok (.lmul, 1) := by decide +kernel
theorem dX10_load_105 : decode cX10_load 105 = .ok (.lstore 4, 2) := by decide +kernel
theorem dX10_load_107 : decode cX10_load 107 = .ok (.lload_n 2, 1) := by decide +kernel
theorem dX10_load_108 : decode cX10_load 108 = .ok (.lload 4, 2) := by decide +kernel
theorem dX10_load_110 : decode cX10_load 110 = .ok (.invokestatic 226, 3) := by decide +kernel
theorem dX10_load_113 : decode cX10_load 113 = .ok (.lstore 7, 2) := by decide +kernel
theorem dX10_load_115 : decode cX10_load 115 = .ok (.lload 7, 2) := by decide +kernel
theorem dX10_load_117 : decode cX10_load 117 = .ok (.lconst 1, 1) := by decide +kernel
theorem dX10_load_118 : decode cX10_load 118 = .ok (.lcmp, 1) := by decide +kernel
theorem dX10_load_119 : decode cX10_load 119 = .ok (.ifCond .le 15, 3) := by decide +kernel
theorem dX10_load_122 : decode cX10_load 122 = .ok (.lload_n 2, 1) := by decide +kernel
theorem dX10_load_123 : decode cX10_load 123 = .ok (.lload 7, 2) := by decide +kernel
theorem dX10_load_125 : decode cX10_load 125 = .ok (.ldiv, 1) := by decide +kernel
theorem dX10_load_126 : decode cX10_load 126 = .ok (.lstore_n 2, 1) := by decide +kernel
theorem dX10_load_127 : decode cX10_load 127 = .ok (.lload 4, 2) := by decide +kernel
theorem dX10_load_129 : decode cX10_load 129 = .ok (.lload 7, 2) := by decide +kernel
theorem dX10_load_131 : decode cX10_load 131 = .ok (.ldiv, 1) := by decide +kernel
theorem dX10_load_132 : decode cX10_load 132 = .ok (.lstore 4, 2) := by decide +kernel
theorem dX10_load_134 : decode cX10_load 134 = .ok (.iinc 6 1, 3) := by decide +kernel
theorem dX10_load_137 : decode cX10_load 137 = .ok (.goto (-116), 3) := by decide +kernel
theorem dX10_load_140 : decode cX10_load 140 = .ok (.iload_n 1, 1) := by decide +kernel
theorem dX10_load_141 : decode cX10_load 141 = .ok (.ifCond .ne 7, 3) := by decide +kernel
theorem dX10_load_144 : decode cX10_load 144 = .ok (.lload_n 2, 1) := by decide +kernel
theorem dX10_load_145 : decode cX10_load 145 = .ok (.goto 5, 3) := by decide +kernel
theorem dX10_load_148 : decode cX10_load 148 = .ok (.lload 4, 2) := by decide +kernel
theorem dX10_load_150 : decode cX10_load 150 = .ok (.lreturn, 1) := by decide +kernel
set_option maxRecDepth 20000 in
theorem ggX10_tell_X1_add : GoodIn wsX10_tell wsX1_add := goodIn_r _ [7, 8, 9, 10, 11, 24, 25, 26, 27] (by decide +kernel) (by decide +kernel)
set_option maxRecDepth 20000 in
theorem gX10_tell_X1_add : GoodIn wsX10_tell (wsV RX10 237 RX1 yX1_add wsX1_add) := goodIn_app (goodIn_of _ (by decide +kernel)) ggX10_tell_X1_add
theorem dX10_tell_0 : decode cX10_tell 0 = .ok (.iload_n 1, 1) := by decide +kernel
theorem dX10_tell_1 : decode cX10_tell 1 = .ok (.ifCond .lt 34, 3) := by decide +kernel
theorem dX10_tell_4 : decode cX10_tell 4 = .ok (.iload_n 1, 1) := by decide +kernel
theorem dX10_tell_5 : decode cX10_tell 5 = .ok (.sipush 2000, 3) := by decide +kernel
theorem dX10_tell_8 : decode cX10_tell 8 = .ok (.if_icmp .ge 27, 3) := by decide +kernel
theorem dX10_tell_11 : decode cX10_tell 11 = .ok (.iload_n 2, 1) := by decide +kernel
theorem dX10_tell_12 : decode cX10_tell 12 = .ok (.ifCond .lt 23, 3) := by decide +kernel
theorem dX10_tell_15 : decode cX10_tell 15 = .ok (.iload_n 2, 1) := by decide +kernel
theorem dX10_tell_16 : decode cX10_tell 16 = .ok (.iconst 4, 1) := by decide +kernel
theorem dX10_tell_17 : decode cX10_tell 17 = .ok (.if_icmp .ge 18, 3) := by decide +kernel
theorem dX10_tell_20 : decode cX10_tell 20 = .ok (.iload_n 3, 1) := by decide +kernel
theorem dX10_tell_21 : decode cX10_tell 21 = .ok (.iconst (-1), 1) := by decide +kernel
theorem dX10_tell_22 : decode cX10_tell 22 = .ok (.if_icmp .lt 13, 3) := by decide +kernel
theorem dX10_tell_25 : decode cX10_tell 25 = .ok (.iload_n 3, 1) := by decide +kernel
theorem dX10_tell_26 : decode cX10_tell 26 = .ok (.bipush 10, 2) := by decide +kernel
theorem dX10_tell_28 : decode cX10_tell 28 = .ok (.if_icmp .ge 7, 3) := by decide +kernel
theorem dX10_tell_31 : decode cX10_tell 31 = .ok (.iconst 1, 1) := by decide +kernel
theorem dX10_tell_32 : decode cX10_tell 32 = .ok (.goto 4, 3) := by decide +kernel
theorem dX10_tell_35 : decode cX10_tell 35 = .ok (.iconst 0, 1) := by decide +kernel
theorem dX10_tell_36 : decode cX10_tell 36 = .ok (.istore 4, 2) := by decide +kernel
theorem dX10_tell_38 : decode cX10_tell 38 = .ok (.iload 4, 2) := by decide +kernel
theorem dX10_tell_40 : decode cX10_tell 40 = .ok (.ifCond .eq 26, 3) := by decide +kernel
theorem dX10_tell_43 : decode cX10_tell 43 = .ok (.aload_n 0, 1) := by decide +kernel
theorem dX10_tell_44 : decode cX10_tell 44 = .ok (.getfield 61, 3) := by decide +kernel
theorem dX10_tell_47 : decode cX10_tell 47 = .ok (.iload_n 1, 1) := by decide +kernel
theorem dX10_tell_48 : decode cX10_tell 48 = .ok (.iload_n 2, 1) := by decide +kernel
theorem dX10_tell_49 : decode cX10_tell 49 = .ok (.iload_n 3, 1) := by decide +kernel
theorem dX10_tell_50 : decode cX10_tell 50 = .ok (.invokevirtual 237, 3) := by decide +kernel
theorem dX10_tell_53 : decode cX10_tell 53 = .ok (.ifCond .eq 13, 3) := by decide +kernel
theorem dX10_tell_56 : decode cX10_tell 56 = .ok (.aload_n 0, 1) := by decide +kernel
theorem dX10_tell_57 : decode cX10_tell 57 = .ok (.getfield 61, 3) := by decide +kernel
theorem dX10_tell_60 : decode cX10_tell 60 = .ok (.getfield 97, 3) := by decide +kernel
theorem dX10_tell_63 : decode cX10_tell 63 = .ok (.goto 4, 3) := by decide +kernel
theorem dX10_tell_66 : decode cX10_tell 66 = .ok (.iconst (-1), 1) := by decide +kernel
theorem dX10_tell_67 : decode cX10_tell 67 = .ok (.ireturn, 1) := by decide +kernel
theorem dX10_hush_0 : decode cX10_hush 0 = .ok (.aload_n 0, 1) := by decide +kernel
theorem dX10_hush_1 : decode cX10_hush 1 = .ok (.getfield 61, 3) := by decide +kernel
theorem dX10_hush_4 : decode cX10_hush 4 = .ok (.getfield 97, 3) := by decide +kernel
theorem dX10_hush_7 : decode cX10_hush 7 = .ok (.istore_n 1, 1) := by decide +kernel
theorem dX10_hush_8 : decode cX10_hush 8 = .ok (.aload_n 0, 1) := by decide +kernel
theorem dX10_hush_9 : decode cX10_hush 9 = .ok (.getfield 61, 3) := by decide +kernel
theorem dX10_hush_12 : decode cX10_hush 12 = .ok (.iconst 0, 1) := by decide +kernel
theorem dX10_hush_13 : decode cX10_hush 13 = .ok (.putfield 97, 3) := by decide +kernel
theorem dX10_hush_16 : decode cX10_hush 16 = .ok (.iload_n 1, 1) := by decide +kernel
theorem dX10_hush_17 : decode cX10_hush 17 = .ok (.ireturn, 1) := by decide +kernel
set_option maxRecDepth 20000 in
theorem ggX10_check_X10_pick : GoodIn wsX10_check wsX10_pick := goodIn_r _ [18] (by decide +kernel) (by decide +kernel)
set_option maxRecDepth 20000 in
theorem gX10_check_X10_pick : GoodIn wsX10_check (va_wsS RX10 123 yX10_pick wsX10_pick) := goodIn_app (goodIn_of _ (by decide +kernel)) ggX10_check_X10_pick
set_option maxRecDepth 20000 in
theorem ggX10_check_X10_wasChosenIn : GoodIn wsX10_check wsX10_wasChosenIn := goodIn_r _ [11, 12, 13, 5, 14, 15, 19, 20, 21, 22, 23, 24, 25, 26, 27, 28, 29, 30, 35, 36, 37, 38, 39, 40, 41, 42, 43, 44, 45, 46, 47, 48, 49, 50, 51, 52, 53, 54] (by decide +kernel) (by decide +kernel)
set_option maxRecDepth 20000 in
theorem gX10_check_X10_wasChosenIn : GoodIn wsX10_check (wsV RX10 119 RX10 yX10_wasChosenIn wsX10_wasChosenIn) := goodIn_app (goodIn_of _ (by decide +kernel)) ggX10_check_X10_wasChosenIn
theorem dX10_check_0 : decode cX10_check 0 = .ok (.iconst 0, 1) := by decide +kernel
theorem dX10_check_1 : decode cX10_check 1 = .ok (.istore_n 1, 1) := by decide +kernel
theorem dX10_check_2 : decode cX10_check 2 = .ok (.iload_n 1, 1) := by decide +kernel
theorem dX10_check_3 : decode cX10_check 3 = .ok (.aload_n 0, 1) := by decide +kernel
theorem dX10_check_4 : decode cX10_check 4 = .ok (.getfield 61, 3) := by decide +kernel
theorem dX10_check_7 : decode cX10_check 7 = .ok (.getfield 97, 3) := by decide +kernel
theorem dX10_check_10 : decode cX10_check 10 = .ok (.if_icmp .ge 62, 3) := by decide +kernel
theorem dX10_check_13 : decode cX10_check 13 = .ok (.aload_n 0, 1) := by decide +kernel
theorem dX10_check_14 : decode cX10_check 14 = .ok (.getfield 61, 3) := by decide +kernel
theorem dX10_check_17 : decode cX10_check 17 = .ok (.getfield 241, 3) := by decide +kernel
theorem dX10_check_20 : decode cX10_check 20 = .ok (.iload_n 1, 1) := by decide +kernel
theorem dX10_check_21 : decode cX10_check 21 = .ok (.iaload, 1) := by decide +kernel
theorem dX10_check_22 : decode cX10_check 22 = .ok (.istore_n 2, 1) := by decide +kernel
theorem dX10_check_23 : decode cX10_check 23 = .ok (.aload_n 0, 1) := by decide +kernel
theorem dX10_check_24 : decode cX10_check 24 = .ok (.getfield 61, 3) := by decide +kernel
theorem dX10_check_27 : decode cX10_check 27 = .ok (.getfield 244, 3) := by decide +kernel
theorem dX10_check_30 : decode cX10_check 30 = .ok (.iload_n 1, 1) := by decide +kernel
theorem dX10_check_31 : decode cX10_check 31 = .ok (.iaload, 1) := by decide +kernel
theorem dX10_check_32 : decode cX10_check 32 = .ok (.istore_n 3, 1) := by decide +kernel
theorem dX10_check_33 : decode cX10_check 33 = .ok (.aload_n 0, 1) := by decide +kernel
theorem dX10_check_34 : decode cX10_check 34 = .ok (.iload_n 2, 1) := by decide +kernel
theorem dX10_check_35 : decode cX10_check 35 = .ok (.iload_n 3, 1) := by decide +kernel
theorem dX10_check_36 : decode cX10_check 36 = .ok (.invokevirtual 119, 3) := by decide +kernel
theorem dX10_check_39 : decode cX10_check 39 = .ok (.ifCond .eq 25, 3) := by decide +kernel
theorem dX10_check_42 : decode cX10_check 42 = .ok (.aload_n 0, 1) := by decide +kernel
theorem dX10_check_43 : decode cX10_check 43 = .ok (.getfield 47, 3) := by decide +kernel
theorem dX10_check_46 : decode cX10_check 46 = .ok (.iload_n 2, 1) := by decide +kernel
theorem dX10_check_47 : decode cX10_check 47 = .ok (.iaload, 1) := by decide +kernel
theorem dX10_check_48 : decode cX10_check 48 = .ok (.iload_n 3, 1) := by decide +kernel
theorem dX10_check_49 : decode cX10_check 49 = .ok (.invokestatic 123, 3) := by decide +kernel
theorem dX10_check_52 : decode cX10_check 52 = .ok (.aload_n 0, 1) := by decide +kernel
theorem dX10_check_53 : decode cX10_check 53 = .ok (.getfield 61, 3) := by decide +kernel
theorem dX10_check_56 : decode cX10_check 56 = .ok (.getfield 247, 3) := by decide +kernel
theorem dX10_check_59 : decode cX10_check 59 = .ok (.iload_n 1, 1) := by decide +kernel
theorem dX10_check_60 : decode cX10_check 60 = .ok (.iaload, 1) := by decide +kernel
theorem dX10_check_61 : decode cX10_check 61 = .ok (.if_icmp .eq 5, 3) := by decide +kernel
theorem dX10_check_64 : decode cX10_check 64 = .ok (.iload_n 1, 1) := by decide +kernel
theorem dX10_check_65 : decode cX10_check 65 = .ok (.ireturn, 1) := by decide +kernel
theorem dX10_check_66 : decode cX10_check 66 = .ok (.iinc 1 1, 3) := by decide +kernel
theorem dX10_check_69 : decode cX10_check 69 = .ok (.goto (-67), 3) := by decide +kernel
theorem dX10_check_72 : decode cX10_check 72 = .ok (.iconst (-1), 1) := by decide +kernel
theorem dX10_check_73 : decode cX10_check 73 = .ok (.ireturn, 1) := by decide +kernel
set_option maxRecDepth 20000 in
theorem ggX10_sight_X6_add : GoodIn wsX10_sight wsX6_add := goodIn_r _ [10, 11, 12, 13, 14, 15, 16, 43, 44, 45, 46, 47, 48] (by decide +kernel) (by decide +kernel)
set_option maxRecDepth 20000 in
theorem gX10_sight_X6_add : GoodIn wsX10_sight (wsV RX10 249 RX6 yX6_add wsX6_add) := goodIn_app (goodIn_of _ (by decide +kernel)) ggX10_sight_X6_add
theorem dX10_sight_0 : decode cX10_sight 0 = .ok (.iload_n 1, 1) := by decide +kernel
theorem dX10_sight_1 : decode cX10_sight 1 = .ok (.ifCond .lt 24, 3) := by decide +kernel
theorem dX10_sight_4 : decode cX10_sight 4 = .ok (.iload_n 1, 1) := by decide +kernel
theorem dX10_sight_5 : decode cX10_sight 5 = .ok (.bipush 100, 2) := by decide +kernel
theorem dX10_sight_7 : decode cX10_sight 7 = .ok (.if_icmp .ge 18, 3) := by decide +kernel
theorem dX10_sight_10 : decode cX10_sight 10 = .ok (.iload_n 2, 1) := by decide +kernel
theorem dX10_sight_11 : decode cX10_sight 11 = .ok (.ifCond .lt 14, 3) := by decide +kernel
theorem dX10_sight_14 : decode cX10_sight 14 = .ok (.iload_n 2, 1) := by decide +kernel
theorem dX10_sight_15 : decode cX10_sight 15 = .ok (.aload_n 0, 1) := by decide +kernel
theorem dX10_sight_16 : decode cX10_sight 16 = .ok (.getfield 19, 3) := by decide +kernel
theorem dX10_sight_19 : decode cX10_sight 19 = .ok (.getfield 105, 3) := by decide +kernel
theorem dX10_sight_22 : decode cX10_sight 22 = .ok (.if_icmp .lt 5, 3) := by decide +kernel
theorem dX10_sight_25 : decode cX10_sight 25 = .ok (.iconst (-1), 1) := by decide +kernel
theorem dX10_sight_26 : decode cX10_sight 26 = .ok (.ireturn, 1) := by decide +kernel
theorem dX10_sight_27 : decode cX10_sight 27 = .ok (.aload_n 0, 1) := by decide +kernel
theorem dX10_sight_28 : decode cX10_sight 28 = .ok (.getfield 68, 3) := by decide +kernel
theorem dX10_sight_31 : decode cX10_sight 31 = .ok (.iload_n 1, 1) := by decide +kernel
theorem dX10_sight_32 : decode cX10_sight 32 = .ok (.iload_n 2, 1) := by decide +kernel
theorem dX10_sight_33 : decode cX10_sight 33 = .ok (.iload_n 3, 1) := by decide +kernel
theorem dX10_sight_34 : decode cX10_sight 34 = .ok (.aload_n 0, 1) := by decide +kernel
theorem dX10_sight_35 : decode cX10_sight 35 = .ok (.getfield 79, 3) := by decide +kernel
theorem dX10_sight_38 : decode cX10_sight 38 = .ok (.invokevirtual 249, 3) := by decide +kernel
theorem dX10_sight_41 : decode cX10_sight 41 = .ok (.ifCond .eq 15, 3) := by decide +kernel
theorem dX10_sight_44 : decode cX10_sight 44 = .ok (.aload_n 0, 1) := by decide +kernel
theorem dX10_sight_45 : decode cX10_sight 45 = .ok (.getfield 68, 3) := by decide +kernel
theorem dX10_sight_48 : decode cX10_sight 48 = .ok (.getfield 100, 3) := by decide +kernel
theorem dX10_sight_51 : decode cX10_sight 51 = .ok (.iconst 1, 1) := by decide +kernel
theorem dX10_sight_52 : decode cX10_sight 52 = .ok (.isub, 1) := by decide +kernel
theorem dX10_sight_53 : decode cX10_sight 53 = .ok (.goto 4, 3) := by decide +kernel
theorem dX10_sight_56 : decode cX10_sight 56 = .ok (.iconst (-1), 1) := by decide +kernel
theorem dX10_sight_57 : decode cX10_sight 57 = .ok (.ireturn, 1) := by decide +kernel
theorem dX10_untell_0 : decode cX10_untell 0 = .ok (.iload_n 1, 1) := by decide +kernel
theorem dX10_untell_1 : decode cX10_untell 1 = .ok (.ifCond .lt 27, 3) := by decide +kernel
theorem dX10_untell_4 : decode cX10_untell 4 = .ok (.iload_n 1, 1) := by decide +kernel
theorem dX10_untell_5 : decode cX10_untell 5 = .ok (.aload_n 0, 1) := by decide +kernel
theorem dX10_untell_6 : decode cX10_untell 6 = .ok (.getfield 68, 3) := by decide +kernel
theorem dX10_untell_9 : decode cX10_untell 9 = .ok (.getfield 100, 3) := by decide +kernel
theorem dX10_untell_12 : decode cX10_untell 12 = .ok (.if_icmp .ge 16, 3) := by decide +kernel
theorem dX10_untell_15 : decode cX10_untell 15 = .ok (.aload_n 0, 1) := by decide +kernel
theorem dX10_untell_16 : decode cX10_untell 16 = .ok (.getfield 68, 3) := by decide +kernel
theorem dX10_untell_19 : decode cX10_untell 19 = .ok (.getfield 252, 3) := by decide +kernel
theorem dX10_untell_22 : decode cX10_untell 22 = .ok (.iload_n 1, 1) := by decide +kernel
theorem dX10_untell_23 : decode cX10_untell 23 = .ok (.iaload, 1) := by decide +kernel
theorem dX10_untell_24 : decode cX10_untell 24 = .ok (.iconst (-1), 1) := by decide +kernel
theorem dX10_untell_25 : decode cX10_untell 25 = .ok (.if_icmp .eq 5, 3) := by decide +kernel
theorem dX10_untell_28 : decode cX10_untell 28 = .ok (.iconst 0, 1) := by decide +kernel
theorem dX10_untell_29 : decode cX10_untell 29 = .ok (.ireturn, 1) := by decide +kernel
theorem dX10_untell_30 : decode cX10_untell 30 = .ok (.aload_n 0, 1) := by decide +kernel
theorem dX10_untell_31 : decode cX10_untell 31 = .ok (.getfield 68, 3) := by decide +kernel
theorem dX10_untell_34 : decode cX10_untell 34 = .ok (.getfield 252, 3) := by decide +kernel
theorem dX10_untell_37 : decode cX10_untell 37 = .ok (.iload_n 1, 1) := by decide +kernel
theorem dX10_untell_38 : decode cX10_untell 38 = .ok (.aload_n 0, 1) := by decide +kernel
theorem dX10_untell_39 : decode cX10_untell 39 = .ok (.getfield 79, 3) := by decide +kernel
theorem dX10_untell_42 : decode cX10_untell 42 = .ok (.iastore, 1) := by decide +kernel
theorem dX10_untell_43 : decode cX10_untell 43 = .ok (.iconst 1, 1) := by decide +kernel
theorem dX10_untell_44 : decode cX10_untell 44 = .ok (.ireturn, 1) := by decide +kernel
theorem dX10_later_0 : decode cX10_later 0 = .ok (.iload_n 1, 1) := by decide +kernel
theorem dX10_later_1 : decode cX10_later 1 = .ok (.ifCond .lt 21, 3) := by decide +kernel
theorem dX10_later_4 : decode cX10_later 4 = .ok (.iload_n 1, 1) := by decide +kernel
theorem dX10_later_5 : decode cX10_later 5 = .ok (.sipush 1000, 3) := by decide +kernel
theorem dX10_later_8 : decode cX10_later 8 = .ok (.if_icmp .gt 14, 3) := by decide +kernel
theorem dX10_later_11 : decode cX10_later 11 = .ok (.aload_n 0, 1) := by decide +kernel
theorem dX10_later_12 : decode cX10_later 12 = .ok (.getfield 79, 3) := by decide +kernel
theorem dX10_later_15 : decode cX10_later 15 = .ok (.iload_n 1, 1) := by decide +kernel
theorem dX10_later_16 : decode cX10_later 16 = .ok (.iadd, 1) := by decide +kernel
theorem dX10_later_17 : decode cX10_later 17 = .ok (.ldc 255, 2) := by decide +kernel
theorem dX10_later_19 : decode cX10_later 19 = .ok (.if_icmp .le 5, 3) := by decide +kernel
theorem dX10_later_22 : decode cX10_later 22 = .ok (.iconst (-1), 1) := by decide +kernel
theorem dX10_later_23 : decode cX10_later 23 = .ok (.ireturn, 1) := by decide +kernel
theorem dX10_later_24 : decode cX10_later 24 = .ok (.aload_n 0, 1) := by decide +kernel
theorem dX10_later_25 : decode cX10_later 25 = .ok (.dup, 1) := by decide +kernel
theorem dX10_later_26 : decode cX10_later 26 = .ok (.getfield 79, 3) := by decide +kernel
theorem dX10_later_29 : decode cX10_later 29 = .ok (.iload_n 1, 1) := by decide +kernel
theorem dX10_later_30 : decode cX10_later 30 = .ok (.iadd, 1) := by decide +kernel
theorem dX10_later_31 : decode cX10_later 31 = .ok (.putfield 79, 3) := by decide +kernel
theorem dX10_later_34 : decode cX10_later 34 = .ok (.aload_n 0, 1) := by decide +kernel
theorem dX10_later_35 : decode cX10_later 35 = .ok (.getfield 79, 3) := by decide +kernel
theorem dX10_later_38 : decode cX10_later 38 = .ok (.ireturn, 1) := by decide +kernel
set_option maxHeartbeats 4000000 in
set_option maxRecDepth 100000 in
theorem s_X6_add_n (l : Launch) (D : va_G) (ca : Nat → ClassId) (sz : Nat) (h0 : Nat) (g1 : Nat) (g2 : Nat) (g3 : Nat) (g4 : Nat) (g5 : Nat) (kq : Nat) (fg1 : Nat → Int32) (fg2 : Nat → Int32) (fg3 : Nat → Int32) (fg4 : Nat → Int32) (fg5 : Nat → Int32) (kz : Nat) (x2 : Int32) (x3 : Int32) (x4 : Int32) (hq : kq ≤ 20) (hkz : kz < 100) (hfg1 : sok fg1) : Met l yX6_add wsX6_add ({ frames := 0, cells := 0, slots := 0, locals := 0 }) (PC [.ref h0, .int (nI kz), .int x2, .int x3, .int x4] sz D ca [(h0, .inr (6, [.int (nI kq), .ref g1, .ref g2, .ref g3, .ref g4, .ref g5])), (g1, .inl (ca 1, 20, .inl fg1)), (g2, .inl (ca 1, 20, .inl fg2)), (g3, .inl (ca 3, 20, .inl fg3)), (g4, .inl (ca 1, 20, .inl fg4)), (g5, .inl (ca 1, 20, .inl fg5))]) (QI (fun (r : Int32) (u : Nat × (Nat → Int32) × (Nat → Int32) × (Nat → Int32) × (Nat → Int32) × (Nat → Int32)) => (r = 0 ∨ r = 1) ∧ u.1 ≤ 20 ∧ sok u.2.1) (fun (u : Nat × (Nat → Int32) × (Nat → Int32) × (Nat → Int32) × (Nat → Int32) × (Nat → Int32)) => [(h0, .inr (6, [.int (nI u.1), .ref g1, .ref g2, .ref g3, .ref g4, .ref g5])), (g1, .inl (ca 1, 20, .inl u.2.1)), (g2, .inl (ca 1, 20, .inl u.2.2.1)), (g3, .inl (ca 3, 20, .inl u.2.2.2.1)), (g4, .inl (ca 1, 20, .inl u.2.2.2.2.1)), (g5, .inl (ca 1, 20, .inl u.2.2.2.2.2))]) [(h0, .inr (6, [.int (nI kq), .ref g1, .ref g2, .ref g3, .ref g4, .ref g5])), (g1, .inl (ca 1, 20, .inl fg1)), (g2, .inl (ca 1, 20, .inl fg2)), (g3, .inl (ca 3, 20, .inl fg3)), (g4, .inl (ca 1, 20, .inl fg4)), (g5, .inl (ca 1, 20, .inl fg5))] sz D) 0 0 (va_A [(h0, .inr (6, [.int (nI kq), .ref g1, .ref g2, .ref g3, .ref g4, .ref g5])), (g1, .inl (ca 1, 20, .inl fg1)), (g2, .inl (ca 1, 20, .inl fg2)), (g3, .inl (ca 3, 20, .inl fg3)), (g4, .inl (ca 1, 20, .inl fg4)), (g5, .inl (ca 1, 20, .inl fg5))] sz) := by
  refine Met.ofW (cc := cX6_add) (maxL := 5) (ret := (some .boolean)) (by decide +kernel) rfl ?_
  intro p e s m args below meth c s₁ B hml hv
  obtain ⟨rfl, hsz, hP, hC, hD0⟩ := hv
  have hx := B.exec
  have hb := B.bytes
  have hr := B.returns
  have hts := atoms_spec (ws := wsX6_add) B.pre
  have hown : s.vm.findClass RX6 = some m.cls := findClass_of_methodNamed B.named
  have hlocks := B.notSynchronized
  subst hsz
  have hD := hD0.self (sz := s.heap.size)
  dsimp only [QV, QI, QL, BQ]
  generalize hAe : va_A [(h0, .inr (6, [.int (nI kq), .ref g1, .ref g2, .ref g3, .ref g4, .ref g5])), (g1, .inl (ca 1, 20, .inl fg1)), (g2, .inl (ca 1, 20, .inl fg2)), (g3, .inl (ca 3, 20, .inl fg3)), (g4, .inl (ca 1, 20, .inl fg4)), (g5, .inl (ca 1, 20, .inl fg5))] s.heap.size = A at hD ⊢
  have hA : ∀ q : Nat, s.heap.size ≤ q → A q := fun q h => by rw [← hAe]; exact Or.inr h
  have hDA : ∀ {w : va_W}, va_D A w → va_D (va_A [(h0, .inr (6, [.int (nI kq), .ref g1, .ref g2, .ref g3, .ref g4, .ref g5])), (g1, .inl (ca 1, 20, .inl fg1)), (g2, .inl (ca 1, 20, .inl fg2)), (g3, .inl (ca 3, 20, .inl fg3)), (g4, .inl (ca 1, 20, .inl fg4)), (g5, .inl (ca 1, 20, .inl fg5))] s.heap.size) w := fun h => by rw [hAe]; exact h
  have hS : va_S A s.heap s.heap [] := va_S.rf
  have hP : va_P D vwCl [(h0, .inr (6, [.int (nI kq), .ref g1, .ref g2, .ref g3, .ref g4, .ref g5])), (g1, .inl (ca 1, 20, .inl fg1)), (g2, .inl (ca 1, 20, .inl fg2)), (g3, .inl (ca 3, 20, .inl fg3)), (g4, .inl (ca 1, 20, .inl fg4)), (g5, .inl (ca 1, 20, .inl fg5))] s.heap := hP
  have hl := lv_entry ([.ref h0, .int (nI kz), .int x2, .int x3, .int x4]) (n := 5) (Nat.le_of_ble_eq_true rfl)
  rw [lg_entry_eq]
  generalize (lg_sl ([.ref h0, .int (nI kz), .int x2, .int x3, .int x4]) ++ List.replicate (5 - (lg_sl ([.ref h0, .int (nI kz), .int x2, .int x3, .int x4])).length) Slot.unset).toArray = ls at hl ⊢
  have hl : lv_has ls 5 [(0, .ref h0), (1, .int (nI kz)), (2, .int x2), (3, .int x3), (4, .int x4)] := hl
  refine lv_aload_n hx hb dX6_add_0 rfl (lv_at hl 0 rfl) ?_
  refine va_get (D := D) (ci := 6) (v := .int (nI kq)) (C := RX6) (T := TX6) (N := 6) hx hb hts iw_X6_add_6 hown hC.1 hP 0 rfl rfl 0 (by decide +kernel) (hts (.fieldLink RX6 9 "FairWheel$Sights" "count" "I") (by decide +kernel)) (fun _ h9 => h9) rfl dX6_add_1 ?_
  refine lv_bipush (v := 20) hx hb dX6_add_4 (by decide +kernel) ?_
  refine lv_icmp_lt (tgt := 11) hx hb dX6_add_6 (by decide +kernel) (fun c_1 => ?_) (fun c_1 => ?_)
  · have nc_1 : kq < 20 := (nI_ltI (a := kq) (b := 20) (by omega) (by omega)).mp c_1
    refine lv_aload_n hx hb dX6_add_11 rfl (lv_at hl 0 rfl) ?_
    refine va_get (D := D) (ci := 6) (v := .ref g1) (C := RX6) (T := TX6) (N := 6) hx hb hts iw_X6_add_6 hown hC.1 hP 0 rfl rfl 1 (by decide +kernel) (hts (.fieldLink RX6 15 "FairWheel$Sights" "ticks" "[I") (by decide +kernel)) (fun _ h9 => h9) rfl dX6_add_12 ?_
    refine lv_aload_n hx hb dX6_add_15 rfl (lv_at hl 0 rfl) ?_
    refine va_get (D := D) (ci := 6) (v := .int (nI kq)) (C := RX6) (T := TX6) (N := 6) hx hb hts iw_X6_add_6 hown hC.1 hP 0 rfl rfl 0 (by decide +kernel) (hts (.fieldLink RX6 9 "FairWheel$Sights" "count" "I") (by decide +kernel)) (fun _ h9 => h9) rfl dX6_add_16 ?_
    refine lv_iload_n hx hb dX6_add_19 rfl (lv_at hl 1 rfl) ?_
    refine ka_iast hx hb hC.1 hP hD hS 1 1 rfl rfl kq rfl (by omega) (by decide +kernel) dX6_add_20 (fun H locs hP hD hS => ?_)
    have hP : va_P D vwCl [(h0, .inr (6, [.int (nI kq), .ref g1, .ref g2, .ref g3, .ref g4, .ref g5])), (g1, .inl (ca 1, 20, .inl (upd fg1 kq (nI kz)))), (g2, .inl (ca 1, 20, .inl fg2)), (g3, .inl (ca 3, 20, .inl fg3)), (g4, .inl (ca 1, 20, .inl fg4)), (g5, .inl (ca 1, 20, .inl fg5))] H := hP
    have hD : va_D A [(h0, .inr (6, [.int (nI kq), .ref g1, .ref g2, .ref g3, .ref g4, .ref g5])), (g1, .inl (ca 1, 20, .inl (upd fg1 kq (nI kz)))), (g2, .inl (ca 1, 20, .inl fg2)), (g3, .inl (ca 3, 20, .inl fg3)), (g4, .inl (ca 1, 20, .inl fg4)), (g5, .inl (ca 1, 20, .inl fg5))] := hD
    obtain ⟨f_2, hf_2, hP, hD⟩ : ∃ f_2, sok f_2 ∧ va_P D vwCl [(h0, .inr (6, [.int (nI kq), .ref g1, .ref g2, .ref g3, .ref g4, .ref g5])), (g1, .inl (ca 1, 20, .inl f_2)), (g2, .inl (ca 1, 20, .inl fg2)), (g3, .inl (ca 3, 20, .inl fg3)), (g4, .inl (ca 1, 20, .inl fg4)), (g5, .inl (ca 1, 20, .inl fg5))] H ∧ va_D A [(h0, .inr (6, [.int (nI kq), .ref g1, .ref g2, .ref g3, .ref g4, .ref g5])), (g1, .inl (ca 1, 20, .inl f_2)), (g2, .inl (ca 1, 20, .inl fg2)), (g3, .inl (ca 3, 20, .inl fg3)), (g4, .inl (ca 1, 20, .inl fg4)), (g5, .inl (ca 1, 20, .inl fg5))] := ⟨(upd fg1 kq (nI kz)), sok_up hfg1 ⟨kz, by omega, rfl⟩, hP, hD⟩
    refine lv_aload_n hx hb dX6_add_21 rfl (lv_at hl 0 rfl) ?_
    refine va_get (D := D) (ci := 6) (v := .ref g2) (C := RX6) (T := TX6) (N := 6) hx hb hts iw_X6_add_6 hown hC.1 hP 0 rfl rfl 2 (by decide +kernel) (hts (.fieldLink RX6 19 "FairWheel$Sights" "tasks" "[I") (by decide +kernel)) (fun _ h9 => h9) rfl dX6_add_22 ?_
    refine lv_aload_n hx hb dX6_add_25 rfl (lv_at hl 0 rfl) ?_
    refine va_get (D := D) (ci := 6) (v := .int (nI kq)) (C := RX6) (T := TX6) (N := 6) hx hb hts iw_X6_add_6 hown hC.1 hP 0 rfl rfl 0 (by decide +kernel) (hts (.fieldLink RX6 9 "FairWheel$Sights" "count" "I") (by decide +kernel)) (fun _ h9 => h9) rfl dX6_add_26 ?_
    refine lv_iload_n hx hb dX6_add_29 rfl (lv_at hl 2 rfl) ?_
    refine ka_iast hx hb hC.1 hP hD hS 2 1 rfl rfl kq rfl (by omega) (by decide +kernel) dX6_add_30 (fun H locs hP hD hS => ?_)
    have hP : va_P D vwCl [(h0, .inr (6, [.int (nI kq), .ref g1, .ref g2, .ref g3, .ref g4, .ref g5])), (g1, .inl (ca 1, 20, .inl f_2)), (g2, .inl (ca 1, 20, .inl (upd fg2 kq x2))), (g3, .inl (ca 3, 20, .inl fg3)), (g4, .inl (ca 1, 20, .inl fg4)), (g5, .inl (ca 1, 20, .inl fg5))] H := hP
    have hD : va_D A [(h0, .inr (6, [.int (nI kq), .ref g1, .ref g2, .ref g3, .ref g4, .ref g5])), (g1, .inl (ca 1, 20, .inl f_2)), (g2, .inl (ca 1, 20, .inl (upd fg2 kq x2))), (g3, .inl (ca 3, 20, .inl fg3)), (g4, .inl (ca 1, 20, .inl fg4)), (g5, .inl (ca 1, 20, .inl fg5))] := hD
    generalize (upd fg2 kq x2) = f_3 at hP hD
    refine lv_aload_n hx hb dX6_add_31 rfl (lv_at hl 0 rfl) ?_
    refine va_get (D := D) (ci := 6) (v := .ref g3) (C := RX6) (T := TX6) (N := 6) hx hb hts iw_X6_add_6 hown hC.1 hP 0 rfl rfl 3 (by decide +kernel) (hts (.fieldLink RX6 22 "FairWheel$Sights" "ran" "[Z") (by decide +kernel)) (fun _ h9 => h9) rfl dX6_add_32 ?_
    refine lv_aload_n hx hb dX6_add_35 rfl (lv_at hl 0 rfl) ?_
    refine va_get (D := D) (ci := 6) (v := .int (nI kq)) (C := RX6) (T := TX6) (N := 6) hx hb hts iw_X6_add_6 hown hC.1 hP 0 rfl rfl 0 (by decide +kernel) (hts (.fieldLink RX6 9 "FairWheel$Sights" "count" "I") (by decide +kernel)) (fun _ h9 => h9) rfl dX6_add_36 ?_
    refine lv_iload_n hx hb dX6_add_39 rfl (lv_at hl 3 rfl) ?_
    refine ka_zast hx hb hC.1 hP hD hS 3 3 rfl rfl kq rfl (by omega) (by decide +kernel) dX6_add_40 (fun H locs hP hD hS => ?_)
    have hP : va_P D vwCl [(h0, .inr (6, [.int (nI kq), .ref g1, .ref g2, .ref g3, .ref g4, .ref g5])), (g1, .inl (ca 1, 20, .inl f_2)), (g2, .inl (ca 1, 20, .inl f_3)), (g3, .inl (ca 3, 20, .inl (upd fg3 kq (vp_nar .boolean x3)))), (g4, .inl (ca 1, 20, .inl fg4)), (g5, .inl (ca 1, 20, .inl fg5))] H := hP
    have hD : va_D A [(h0, .inr (6, [.int (nI kq), .ref g1, .ref g2, .ref g3, .ref g4, .ref g5])), (g1, .inl (ca 1, 20, .inl f_2)), (g2, .inl (ca 1, 20, .inl f_3)), (g3, .inl (ca 3, 20, .inl (upd fg3 kq (vp_nar .boolean x3)))), (g4, .inl (ca 1, 20, .inl fg4)), (g5, .inl (ca 1, 20, .inl fg5))] := hD
    generalize (upd fg3 kq (vp_nar .boolean x3)) = f_4 at hP hD
    refine lv_aload_n hx hb dX6_add_41 rfl (lv_at hl 0 rfl) ?_
    refine va_get (D := D) (ci := 6) (v := .ref g4) (C := RX6) (T := TX6) (N := 6) hx hb hts iw_X6_add_6 hown hC.1 hP 0 rfl rfl 4 (by decide +kernel) (hts (.fieldLink RX6 26 "FairWheel$Sights" "since" "[I") (by decide +kernel)) (fun _ h9 => h9) rfl dX6_add_42 ?_
    refine lv_aload_n hx hb dX6_add_45 rfl (lv_at hl 0 rfl) ?_
    refine va_get (D := D) (ci := 6) (v := .int (nI kq)) (C := RX6) (T := TX6) (N := 6) hx hb hts iw_X6_add_6 hown hC.1 hP 0 rfl rfl 0 (by decide +kernel) (hts (.fieldLink RX6 9 "FairWheel$Sights" "count" "I") (by decide +kernel)) (fun _ h9 => h9) rfl dX6_add_46 ?_
    refine lv_iload hx hb dX6_add_49 (lv_at hl 4 rfl) ?_
    refine ka_iast hx hb hC.1 hP hD hS 4 1 rfl rfl kq rfl (by omega) (by decide +kernel) dX6_add_51 (fun H locs hP hD hS => ?_)
    have hP : va_P D vwCl [(h0, .inr (6, [.int (nI kq), .ref g1, .ref g2, .ref g3, .ref g4, .ref g5])), (g1, .inl (ca 1, 20, .inl f_2)), (g2, .inl (ca 1, 20, .inl f_3)), (g3, .inl (ca 3, 20, .inl f_4)), (g4, .inl (ca 1, 20, .inl (upd fg4 kq x4))), (g5, .inl (ca 1, 20, .inl fg5))] H := hP
    have hD : va_D A [(h0, .inr (6, [.int (nI kq), .ref g1, .ref g2, .ref g3, .ref g4, .ref g5])), (g1, .inl (ca 1, 20, .inl f_2)), (g2, .inl (ca 1, 20, .inl f_3)), (g3, .inl (ca 3, 20, .inl f_4)), (g4, .inl (ca 1, 20, .inl (upd fg4 kq x4))), (g5, .inl (ca 1, 20, .inl fg5))] := hD
    generalize (upd fg4 kq x4) = f_5 at hP hD
    refine lv_aload_n hx hb dX6_add_52 rfl (lv_at hl 0 rfl) ?_
    refine va_get (D := D) (ci := 6) (v := .ref g5) (C := RX6) (T := TX6) (N := 6) hx hb hts iw_X6_add_6 hown hC.1 hP 0 rfl rfl 5 (by decide +kernel) (hts (.fieldLink RX6 29 "FairWheel$Sights" "untold" "[I") (by decide +kernel)) (fun _ h9 => h9) rfl dX6_add_53 ?_
    refine lv_aload_n hx hb dX6_add_56 rfl (lv_at hl 0 rfl) ?_
    refine va_get (D := D) (ci := 6) (v := .int (nI kq)) (C := RX6) (T := TX6) (N := 6) hx hb hts iw_X6_add_6 hown hC.1 hP 0 rfl rfl 0 (by decide +kernel) (hts (.fieldLink RX6 9 "FairWheel$Sights" "count" "I") (by decide +kernel)) (fun _ h9 => h9) rfl dX6_add_57 ?_
    refine lv_iconst (v := (-1)) hx hb dX6_add_60 (by decide +kernel) ?_
    refine ka_iast hx hb hC.1 hP hD hS 5 1 rfl rfl kq rfl (by omega) (by decide +kernel) dX6_add_61 (fun H locs hP hD hS => ?_)
    have hP : va_P D vwCl [(h0, .inr (6, [.int (nI kq), .ref g1, .ref g2, .ref g3, .ref g4, .ref g5])), (g1, .inl (ca 1, 20, .inl f_2)), (g2, .inl (ca 1, 20, .inl f_3)), (g3, .inl (ca 3, 20, .inl f_4)), (g4, .inl (ca 1, 20, .inl f_5)), (g5, .inl (ca 1, 20, .inl (upd fg5 kq (-1))))] H := hP
    have hD : va_D A [(h0, .inr (6, [.int (nI kq), .ref g1, .ref g2, .ref g3, .ref g4, .ref g5])), (g1, .inl (ca 1, 20, .inl f_2)), (g2, .inl (ca 1, 20, .inl f_3)), (g3, .inl (ca 3, 20, .inl f_4)), (g4, .inl (ca 1, 20, .inl f_5)), (g5, .inl (ca 1, 20, .inl (upd fg5 kq (-1))))] := hD
    generalize (upd fg5 kq (-1)) = f_6 at hP hD
    refine lv_aload_n hx hb dX6_add_62 rfl (lv_at hl 0 rfl) ?_
    refine lv_dup hx hb dX6_add_63 rfl ?_
    refine va_get (D := D) (ci := 6) (v := .int (nI kq)) (C := RX6) (T := TX6) (N := 6) hx hb hts iw_X6_add_6 hown hC.1 hP 0 rfl rfl 0 (by decide +kernel) (hts (.fieldLink RX6 9 "FairWheel$Sights" "count" "I") (by decide +kernel)) (fun _ h9 => h9) rfl dX6_add_64 ?_
    refine lv_iconst (v := 1) hx hb dX6_add_67 (by decide +kernel) ?_
    refine lv_iadd hx hb dX6_add_68 ?_
    refine nt_i (nI (kq + 1)) (nI_add kq 1) ?_
    refine va_put (D := D) (ci := 6) (v := .int (nI (kq + 1))) (ty := .int) (C := RX6) (T := TX6) (N := 6) hx hb hts iw_X6_add_6 tyX6 tyX6_ok nmX6 hown hC.1 hP hD hS 0 rfl rfl 0 (by decide +kernel) (hts (.fieldLink RX6 9 "FairWheel$Sights" "count" "I") (by decide +kernel)) (fun _ h9 => h9) rfl (by decide +kernel) rfl rfl (Nat.le_of_ble_eq_true rfl) dX6_add_69 (fun H locs hP hD hS => ?_)
    have hP : va_P D vwCl [(h0, .inr (6, [.int (nI (kq + 1)), .ref g1, .ref g2, .ref g3, .ref g4, .ref g5])), (g1, .inl (ca 1, 20, .inl f_2)), (g2, .inl (ca 1, 20, .inl f_3)), (g3, .inl (ca 3, 20, .inl f_4)), (g4, .inl (ca 1, 20, .inl f_5)), (g5, .inl (ca 1, 20, .inl f_6))] H := hP
    have hD : va_D A [(h0, .inr (6, [.int (nI (kq + 1)), .ref g1, .ref g2, .ref g3, .ref g4, .ref g5])), (g1, .inl (ca 1, 20, .inl f_2)), (g2, .inl (ca 1, 20, .inl f_3)), (g3, .inl (ca 3, 20, .inl f_4)), (g4, .inl (ca 1, 20, .inl f_5)), (g5, .inl (ca 1, 20, .inl f_6))] := hD
    refine lv_iconst (v := 1) hx hb dX6_add_72 (by decide +kernel) ?_
    exact W.zret (v := 1) hx hb hr (rfl) (fun t ht hW => ⟨⟨1, ((kq + 1), f_2, f_3, f_4, f_5, f_6), rfl, ⟨(Or.inr rfl), by dsimp only; omega, hf_2⟩, by rw [ht]; exact hP.sub [0, 1, 2, 3, 4, 5] rfl, hDA (hD.sub [0, 1, 2, 3, 4, 5] (by decide +kernel) rfl)⟩, hS.F ht⟩) hS.2.2 dX6_add_73
  · have nc_1 : ¬ (kq < 20) := fun h => c_1 ((nI_ltI (a := kq) (b := 20) (by omega) (by omega)).mpr h)
    refine lv_iconst (v := 0) hx hb dX6_add_9 (by decide +kernel) ?_
    exact W.zret (v := 0) hx hb hr (rfl) (fun t ht hW => ⟨⟨0, (kq, fg1, fg2, fg3, fg4, fg5), rfl, ⟨(Or.inl rfl), by dsimp only; omega, hfg1⟩, by rw [ht]; exact hP.sub [0, 1, 2, 3, 4, 5] rfl, hDA (hD.sub [0, 1, 2, 3, 4, 5] (by decide +kernel) rfl)⟩, hS.F ht⟩) hS.2.2 dX6_add_10
set_option maxHeartbeats 4000000 in
set_option maxRecDepth 100000 in
theorem s_X6_ticksKnown_n (l : Launch) (D : va_G) (ca : Nat → ClassId) (sz : Nat) (h0 : Nat) (g1 : Nat) (g2 : Nat) (g3 : Nat) (g4 : Nat) (g5 : Nat) (kq : Nat) (fg1 : Nat → Int32) (fg4 : Nat → Int32) (fg5 : Nat → Int32) (x1 : Int32) (hq : kq ≤ 20) (hfg1 : sok fg1) : Met l yX6_ticksKnown wsX6_ticksKnown ({ frames := 1, cells := 0, slots := 0, locals := 22 }) (PC [.ref h0, .int x1] sz D ca [(h0, .inr (6, [.int (nI kq), .ref g1, .ref g2, .ref g3, .ref g4, .ref g5])), (g1, .inl (ca 1, 20, .inl fg1)), (g4, .inl (ca 1, 20, .inl fg4)), (g5, .inl (ca 1, 20, .inl fg5))]) (QI (fun (r : Int32) (u : (Nat → Int32)) => (∃ j : Nat, j ≤ 100 ∧ r = nI j) ∧ sok u) (fun (u : (Nat → Int32)) => [(h0, .inr (6, [.int (nI kq), .ref g1, .ref g2, .ref g3, .ref g4, .ref g5])), (g1, .inl (ca 1, 20, .inl u)), (g4, .inl (ca 1, 20, .inl fg4)), (g5, .inl (ca 1, 20, .inl fg5))]) [(h0, .inr (6, [.int (nI kq), .ref g1, .ref g2, .ref g3, .ref g4, .ref g5])), (g1, .inl (ca 1, 20, .inl fg1)), (g4, .inl (ca 1, 20, .inl fg4)), (g5, .inl (ca 1, 20, .inl fg5))] sz D) 0 0 (va_A [(h0, .inr (6, [.int (nI kq), .ref g1, .ref g2, .ref g3, .ref g4, .ref g5])), (g1, .inl (ca 1, 20, .inl fg1)), (g4, .inl (ca 1, 20, .inl fg4)), (g5, .inl (ca 1, 20, .inl fg5))] sz) := by
  refine Met.ofW (cc := cX6_ticksKnown) (maxL := 4) (ret := (some .int)) (by decide +kernel) rfl ?_
  intro p e s m args below meth c s₁ B hml hv
  obtain ⟨rfl, hsz, hP, hC, hD0⟩ := hv
  have hx := B.exec
  have hb := B.bytes
  have hr := B.returns
  have hts := atoms_spec (ws := wsX6_ticksKnown) B.pre
  have hown : s.vm.findClass RX6 = some m.cls := findClass_of_methodNamed B.named
  have hlocks := B.notSynchronized
  subst hsz
  have hD := hD0.self (sz := s.heap.size)
  dsimp only [QV, QI, QL, BQ]
  generalize hAe : va_A [(h0, .inr (6, [.int (nI kq), .ref g1, .ref g2, .ref g3, .ref g4, .ref g5])), (g1, .inl (ca 1, 20, .inl fg1)), (g4, .inl (ca 1, 20, .inl fg4)), (g5, .inl (ca 1, 20, .inl fg5))] s.heap.size = A at hD ⊢
  have hA : ∀ q : Nat, s.heap.size ≤ q → A q := fun q h => by rw [← hAe]; exact Or.inr h
  have hDA : ∀ {w : va_W}, va_D A w → va_D (va_A [(h0, .inr (6, [.int (nI kq), .ref g1, .ref g2, .ref g3, .ref g4, .ref g5])), (g1, .inl (ca 1, 20, .inl fg1)), (g4, .inl (ca 1, 20, .inl fg4)), (g5, .inl (ca 1, 20, .inl fg5))] s.heap.size) w := fun h => by rw [hAe]; exact h
  have hS : va_S A s.heap s.heap [] := va_S.rf
  have hP : va_P D vwCl [(h0, .inr (6, [.int (nI kq), .ref g1, .ref g2, .ref g3, .ref g4, .ref g5])), (g1, .inl (ca 1, 20, .inl fg1)), (g4, .inl (ca 1, 20, .inl fg4)), (g5, .inl (ca 1, 20, .inl fg5))] s.heap := hP
  have hl := lv_entry ([.ref h0, .int x1]) (n := 4) (Nat.le_of_ble_eq_true rfl)
  rw [lg_entry_eq]
  generalize (lg_sl ([.ref h0, .int x1]) ++ List.replicate (4 - (lg_sl ([.ref h0, .int x1])).length) Slot.unset).toArray = ls at hl ⊢
  have hl : lv_has ls 4 [(0, .ref h0), (1, .int x1)] := hl
  refine lv_iconst (v := 0) hx hb dX6_ticksKnown_0 (by decide +kernel) ?_
  refine lv_istore_n (lv' := [(2, .int 0), (0, .ref h0), (1, .int x1)]) hx hb dX6_ticksKnown_1 rfl hl (by decide +kernel) rfl (fun ls hl => ?_)
  refine lv_iconst (v := 0) hx hb dX6_ticksKnown_2 (by decide +kernel) ?_
  refine lv_istore_n (lv' := [(3, .int 0), (2, .int 0), (0, .ref h0), (1, .int x1)]) hx hb dX6_ticksKnown_3 rfl hl (by decide +kernel) rfl (fun ls hl => ?_)
  refine lp_ind (I := fun (n : Nat) H locs ls => ∃ (ji : Nat) (jm : Nat) (jf_1 : Nat → Int32), ji ≤ kq ∧ ji + n = kq + 1 ∧ jm ≤ 100 ∧ sok jf_1 ∧ lv_has ls 4 [(3, .int (nI ji)), (2, .int (nI jm)), (0, .ref h0), (1, .int x1)] ∧ va_P D vwCl [(h0, .inr (6, [.int (nI kq), .ref g1, .ref g2, .ref g3, .ref g4, .ref g5])), (g1, .inl (ca 1, 20, .inl jf_1)), (g4, .inl (ca 1, 20, .inl fg4)), (g5, .inl (ca 1, 20, .inl fg5))] H ∧ va_D A [(h0, .inr (6, [.int (nI kq), .ref g1, .ref g2, .ref g3, .ref g4, .ref g5])), (g1, .inl (ca 1, 20, .inl jf_1)), (g4, .inl (ca 1, 20, .inl fg4)), (g5, .inl (ca 1, 20, .inl fg5))] ∧ va_S A s.heap H locs) (Wf := fun H locs ls => W p l e _ s m _ below meth c H locs _ _ _ (F0 m 4 ls [])) (kq + 1) ⟨0, 0, fg1, (by omega), (by omega), (by omega), hfg1, hl, hP, hD, hS⟩ ?_ ?_
  · intro H locs ls hI
    obtain ⟨ji, jm, jf_1, hji, hm, hjm, hjf_1, -⟩ := hI
    omega
  intro n ih_2 H locs ls hI
  obtain ⟨ji, jm, jf_1, hji, hm, hjm, hjf_1, hl, hP, hD, hS⟩ := hI
  refine lv_iload_n hx hb dX6_ticksKnown_4 rfl (lv_at hl 0 rfl) ?_
  refine lv_aload_n hx hb dX6_ticksKnown_5 rfl (lv_at hl 2 rfl) ?_
  refine va_get (D := D) (ci := 6) (v := .int (nI kq)) (C := RX6) (T := TX6) (N := 6) hx hb hts iw_X6_ticksKnown_6 hown hC.1 hP 0 rfl rfl 0 (by decide +kernel) (hts (.fieldLink RX6 9 "FairWheel$Sights" "count" "I") (by decide +kernel)) (fun _ h9 => h9) rfl dX6_ticksKnown_6 ?_
  refine lv_icmp_ge (tgt := 40) hx hb dX6_ticksKnown_9 (by decide +kernel) (fun c_3 => ?_) (fun c_3 => ?_)
  · have nc_3 : kq ≤ ji := (nI_leI (a := kq) (b := ji) (by omega) (by omega)).mp c_3
    refine lv_iload_n hx hb dX6_ticksKnown_40 rfl (lv_at hl 1 rfl) ?_
    exact W.iret (v := nI jm) hx hb hr (fun t ht hW => ⟨⟨nI jm, jf_1, rfl, ⟨(⟨jm, by omega, rfl⟩), hjf_1⟩, by rw [ht]; exact hP.sub [0, 1, 2, 3] rfl, hDA (hD.sub [0, 1, 2, 3] (by decide +kernel) rfl)⟩, hS.F ht⟩) hS.2.2 dX6_ticksKnown_41
  · have nc_3 : ¬ (kq ≤ ji) := fun h => c_3 ((nI_leI (a := kq) (b := ji) (by omega) (by omega)).mpr h)
    refine lv_aload_n hx hb dX6_ticksKnown_12 rfl (lv_at hl 2 rfl) ?_
    refine lv_iload_n hx hb dX6_ticksKnown_13 rfl (lv_at hl 0 rfl) ?_
    refine lv_iload_n hx hb dX6_ticksKnown_14 rfl (lv_at hl 3 rfl) ?_
    refine kc_i (wr := [(g1, .inl (ca 1, 20, .inl jf_1))]) (va_runV (As := [.int (nI ji), .int x1]) (rest := []) ⟨hx, hb, hml, hown, hts⟩ (s_X6_counts l D ca H.size h0 g1 g2 g3 g4 g5 kq fg4 fg5 ji x1 (by omega)) (cwV 2 hts gX6_ticksKnown_X6_counts rfl rfl rfl (by decide +kernel) ⟨(Nat.le_of_ble_eq_true rfl), (Nat.le_of_ble_eq_true rfl)⟩) (PC.preV (ci := 6) hC hP hD [0, 2, 3] rfl (by decide +kernel) rfl rfl) rfl rfl hl.1 rfl (lv_room (Nat.le_of_ble_eq_true rfl)) dX6_ticksKnown_15 ⟨(Nat.le_of_ble_eq_true rfl), (Nat.le_of_ble_eq_true rfl)⟩) hP hD hS hA [0, 2, 3] [1] rfl rfl (by decide +kernel) (by decide +kernel) (fun r_4 u_6 H locs hw_5 hP hD hS => ?_)
    have hu_7 := hw_5
    have hP : va_P D vwCl [(g1, .inl (ca 1, 20, .inl jf_1)), (h0, .inr (6, [.int (nI kq), .ref g1, .ref g2, .ref g3, .ref g4, .ref g5])), (g4, .inl (ca 1, 20, .inl fg4)), (g5, .inl (ca 1, 20, .inl fg5))] H := hP
    have hD : va_D A [(g1, .inl (ca 1, 20, .inl jf_1)), (h0, .inr (6, [.int (nI kq), .ref g1, .ref g2, .ref g3, .ref g4, .ref g5])), (g4, .inl (ca 1, 20, .inl fg4)), (g5, .inl (ca 1, 20, .inl fg5))] := hD
    refine lv_if_eq (tgt := 34) hx hb dX6_ticksKnown_18 (by decide +kernel) (fun c_8 => ?_) (fun c_8 => ?_)
    · refine lv_iinc (v := nI (ji + 1)) (lv' := [(3, .int (nI (ji + 1))), (2, .int (nI jm)), (0, .ref h0), (1, .int x1)]) hx hb dX6_ticksKnown_34 hl (k := 0) rfl (nI_1 _) (by decide +kernel) rfl (fun ls hl => ?_)
      refine lv_goto (tgt := 4) hx hb dX6_ticksKnown_37 (by decide +kernel) ?_
      exact ih_2 _ _ _ ⟨(ji + 1), jm, jf_1, (by omega), (by omega), (by omega), hjf_1, lv_sub hl [0, 1, 2, 3] rfl, (hP.sub [1, 0, 2, 3] rfl), (hD.sub [1, 0, 2, 3] (by decide +kernel) rfl), hS⟩
    · refine lv_iload_n hx hb dX6_ticksKnown_21 rfl (lv_at hl 1 rfl) ?_
      refine lv_aload_n hx hb dX6_ticksKnown_22 rfl (lv_at hl 2 rfl) ?_
      refine va_get (D := D) (ci := 6) (v := .ref g1) (C := RX6) (T := TX6) (N := 6) hx hb hts iw_X6_ticksKnown_6 hown hC.1 hP 1 rfl rfl 1 (by decide +kernel) (hts (.fieldLink RX6 15 "FairWheel$Sights" "ticks" "[I") (by decide +kernel)) (fun _ h9 => h9) rfl dX6_ticksKnown_23 ?_
      refine lv_iload_n hx hb dX6_ticksKnown_26 rfl (lv_at hl 0 rfl) ?_
      refine ka_iald hx hb hC.1 hP 0 1 rfl rfl ji rfl (by omega) (by decide +kernel) dX6_ticksKnown_27 ?_
      refine lv_topi (fun y_9 ey_9 => ?_)
      obtain ⟨k_10, hk_10, qk_10⟩ := hjf_1 ji (by omega)
      obtain rfl := ey_9.trans qk_10
      refine lv_iconst (v := 1) hx hb dX6_ticksKnown_28 (by decide +kernel) ?_
      refine lv_iadd hx hb dX6_ticksKnown_29 ?_
      refine nt_i (nI (k_10 + 1)) (nI_add k_10 1) ?_
      refine va_mmax hx hb (hml.trans hl.1.symm) hown (hts (.methodLink RX6 36 Lib.Math.max.name) (by decide +kernel)) (hts (.static Lib.Math.max.name) (by decide +kernel)) (hts (.initialized "java/lang/Math") (by decide +kernel)) (hts (.code Lib.Math.max.name Lib.Math.max.code 2 (some .int)) (by decide +kernel)) (Nat.le_of_ble_eq_true rfl) (Nat.le_of_ble_eq_true rfl) (Nat.le_of_ble_eq_true rfl) (Nat.le_of_ble_eq_true rfl) dX6_ticksKnown_30 ?_
      refine lv_topi (fun y_11 ey_11 => ?_)
      refine nt_i (nI (max jm (k_10 + 1))) (max_nI (by omega) (by omega) ey_11) ?_
      refine lv_istore_n (lv' := [(2, .int (nI (max jm (k_10 + 1)))), (3, .int (nI ji)), (0, .ref h0), (1, .int x1)]) hx hb dX6_ticksKnown_33 rfl hl (by decide +kernel) rfl (fun ls hl => ?_)
      refine lv_iinc (v := nI (ji + 1)) (lv' := [(3, .int (nI (ji + 1))), (2, .int (nI (max jm (k_10 + 1)))), (0, .ref h0), (1, .int x1)]) hx hb dX6_ticksKnown_34 hl (k := 1) rfl (nI_1 _) (by decide +kernel) rfl (fun ls hl => ?_)
      refine lv_goto (tgt := 4) hx hb dX6_ticksKnown_37 (by decide +kernel) ?_
      exact ih_2 _ _ _ ⟨(ji + 1), (max jm (k_10 + 1)), jf_1, (by omega), (by omega), (by omega), hjf_1, lv_sub hl [0, 1, 2, 3] rfl, (hP.sub [1, 0, 2, 3] rfl), (hD.sub [1, 0, 2, 3] (by decide +kernel) rfl), hS⟩
theorem iw_X10_feed_7 : ∀ w ∈ u_ws RX7 TX7 2, w ∈ wsX10_feed := by decide +kernel
theorem iw_X10_feed_10 : ∀ w ∈ u_ws RX10 TX10 12, w ∈ wsX10_feed := by decide +kernel
set_option maxHeartbeats 4000000 in
set_option maxRecDepth 100000 in
theorem s_X10_feed (l : Launch) (D : va_G) (ca : Nat → ClassId) (sz : Nat) (h0 : Nat) (tp : Nat) (rd : Nat) (lv : Nat) (tr : Nat) (rw : Nat) (bx : Nat) (ch : Nat) (si : Nat) (dg : Nat) (pl : Nat) (pd : Nat) (xz : Int32) (tb : Nat) (kt : Nat) (fb : Nat → Int32) (x1 : Int32) (x2 : Int32) (x3 : Int32) (x4 : Int32) (x5 : Int32) (hkt : kt ≤ 1700) : Met l yX10_feed wsX10_feed ({ frames := 1, cells := 0, slots := 0, locals := 22 }) (PC [.ref h0, .int x1, .int x2, .int x3, .int x4, .int x5] sz D ca [(h0, .inr (10, [.ref tp, .ref rd, .ref lv, .ref tr, .ref rw, .ref bx, .ref ch, .ref si, .ref dg, .ref pl, .ref pd, .int xz])), (tp, .inr (7, [.ref tb, .int (nI kt)])), (tb, .inl (ca 0, 1700, .inl fb))]) (QI (fun (r : Int32) (u : Nat × (Nat → Int32)) => u.1 ≤ 1700) (fun (u : Nat × (Nat → Int32)) => [(h0, .inr (10, [.ref tp, .ref rd, .ref lv, .ref tr, .ref rw, .ref bx, .ref ch, .ref si, .ref dg, .ref pl, .ref pd, .int xz])), (tp, .inr (7, [.ref tb, .int (nI u.1)])), (tb, .inl (ca 0, 1700, .inl u.2))]) [(h0, .inr (10, [.ref tp, .ref rd, .ref lv, .ref tr, .ref rw, .ref bx, .ref ch, .ref si, .ref dg, .ref pl, .ref pd, .int xz])), (tp, .inr (7, [.ref tb, .int (nI kt)])), (tb, .inl (ca 0, 1700, .inl fb))] sz D) 0 0 (va_A [(h0, .inr (10, [.ref tp, .ref rd, .ref lv, .ref tr, .ref rw, .ref bx, .ref ch, .ref si, .ref dg, .ref pl, .ref pd, .int xz])), (tp, .inr (7, [.ref tb, .int (nI kt)])), (tb, .inl (ca 0, 1700, .inl fb))] sz) := by
  refine Met.ofW (cc := cX10_feed) (maxL := 6) (ret := (some .int)) (by decide +kernel) rfl ?_
  intro p e s m args below meth c s₁ B hml hv
  obtain ⟨rfl, hsz, hP, hC, hD0⟩ := hv
  have hx := B.exec
  have hb := B.bytes
  have hr := B.returns
  have hts := atoms_spec (ws := wsX10_feed) B.pre
  have hown : s.vm.findClass RX10 = some m.cls := findClass_of_methodNamed B.named
  have hlocks := B.notSynchronized
  subst hsz
  have hD := hD0.self (sz := s.heap.size)
  dsimp only [QV, QI, QL, BQ]
  generalize hAe : va_A [(h0, .inr (10, [.ref tp, .ref rd, .ref lv, .ref tr, .ref rw, .ref bx, .ref ch, .ref si, .ref dg, .ref pl, .ref pd, .int xz])), (tp, .inr (7, [.ref tb, .int (nI kt)])), (tb, .inl (ca 0, 1700, .inl fb))] s.heap.size = A at hD ⊢
  have hA : ∀ q : Nat, s.heap.size ≤ q → A q := fun q h => by rw [← hAe]; exact Or.inr h
  have hDA : ∀ {w : va_W}, va_D A w → va_D (va_A [(h0, .inr (10, [.ref tp, .ref rd, .ref lv, .ref tr, .ref rw, .ref bx, .ref ch, .ref si, .ref dg, .ref pl, .ref pd, .int xz])), (tp, .inr (7, [.ref tb, .int (nI kt)])), (tb, .inl (ca 0, 1700, .inl fb))] s.heap.size) w := fun h => by rw [hAe]; exact h
  have hS : va_S A s.heap s.heap [] := va_S.rf
  have hP : va_P D vwCl [(h0, .inr (10, [.ref tp, .ref rd, .ref lv, .ref tr, .ref rw, .ref bx, .ref ch, .ref si, .ref dg, .ref pl, .ref pd, .int xz])), (tp, .inr (7, [.ref tb, .int (nI kt)])), (tb, .inl (ca 0, 1700, .inl fb))] s.heap := hP
  have hl := lv_entry ([.ref h0, .int x1, .int x2, .int x3, .int x4, .int x5]) (n := 6) (Nat.le_of_ble_eq_true rfl)
  rw [lg_entry_eq]
  generalize (lg_sl ([.ref h0, .int x1, .int x2, .int x3, .int x4, .int x5]) ++ List.replicate (6 - (lg_sl ([.ref h0, .int x1, .int x2, .int x3, .int x4, .int x5])).length) Slot.unset).toArray = ls at hl ⊢
  have hl : lv_has ls 6 [(0, .ref h0), (1, .int x1), (2, .int x2), (3, .int x3), (4, .int x4), (5, .int x5)] := hl
  refine lv_aload_n hx hb dX10_feed_0 rfl (lv_at hl 0 rfl) ?_
  refine va_get (D := D) (ci := 10) (v := .ref tp) (C := RX10) (T := TX10) (N := 12) hx hb hts iw_X10_feed_10 hown hC.1 hP 0 rfl rfl 0 (by decide +kernel) (hts (.fieldLink RX10 12 "FairWheel" "tape" "LFairWheel$Tape;") (by decide +kernel)) (fun _ h9 => h9) rfl dX10_feed_1 ?_
  refine va_get (D := D) (ci := 7) (v := .int (nI kt)) (C := RX7) (T := TX7) (N := 2) hx hb hts iw_X10_feed_7 hown hC.1 hP 1 rfl rfl 1 (by decide +kernel) (hts (.fieldLink RX10 83 "FairWheel$Tape" "size" "I") (by decide +kernel)) (fun _ h9 => h9) rfl dX10_feed_4 ?_
  refine lv_bipush (v := 20) hx hb dX10_feed_7 (by decide +kernel) ?_
  refine lv_iadd hx hb dX10_feed_9 ?_
  refine nt_i (nI (kt + 20)) (nI_add kt 20) ?_
  refine lv_sipush (v := 1700) hx hb dX10_feed_10 (by decide +kernel) ?_
  refine lv_icmp_le (tgt := 18) hx hb dX10_feed_13 (by decide +kernel) (fun c_1 => ?_) (fun c_1 => ?_)
  · have nc_1 : (kt + 20) ≤ 1700 := (nI_leI (a := (kt + 20)) (b := 1700) (by omega) (by omega)).mp c_1
    refine lv_aload_n hx hb dX10_feed_18 rfl (lv_at hl 0 rfl) ?_
    refine va_get (D := D) (ci := 10) (v := .ref tp) (C := RX10) (T := TX10) (N := 12) hx hb hts iw_X10_feed_10 hown hC.1 hP 0 rfl rfl 0 (by decide +kernel) (hts (.fieldLink RX10 12 "FairWheel" "tape" "LFairWheel$Tape;") (by decide +kernel)) (fun _ h9 => h9) rfl dX10_feed_19 ?_
    refine lv_iload_n hx hb dX10_feed_22 rfl (lv_at hl 1 rfl) ?_
    refine kc_v (wr := [(h0, .inr (10, [.ref tp, .ref rd, .ref lv, .ref tr, .ref rw, .ref bx, .ref ch, .ref si, .ref dg, .ref pl, .ref pd, .int xz]))]) (va_runV (As := [.int x1]) (rest := []) ⟨hx, hb, hml, hown, hts⟩ (s_X7_append l D ca s.heap.size tp tb kt fb x1 (by omega)) (cwV 1 hts gX10_feed_X7_append rfl rfl rfl (by decide +kernel) ⟨(Nat.le_of_ble_eq_true rfl), (Nat.le_of_ble_eq_true rfl)⟩) (PC.preV (ci := 7) hC hP hD [1, 2] rfl (by decide +kernel) rfl rfl) rfl rfl hl.1 rfl (lv_room (Nat.le_of_ble_eq_true rfl)) dX10_feed_23 ⟨(Nat.le_of_ble_eq_true rfl), (Nat.le_of_ble_eq_true rfl)⟩) hP hD hS hA [1, 2] [0] rfl rfl (by decide +kernel) (by decide +kernel) (fun u_3 H locs hw_2 hP hD hS => ?_)
    obtain ⟨k_4, f_5⟩ := u_3
    have hu_6 := hw_2
    have hP : va_P D vwCl [(h0, .inr (10, [.ref tp, .ref rd, .ref lv, .ref tr, .ref rw, .ref bx, .ref ch, .ref si, .ref dg, .ref pl, .ref pd, .int xz])), (tp, .inr (7, [.ref tb, .int (nI k_4)])), (tb, .inl (ca 0, 1700, .inl f_5))] H := hP
    have hD : va_D A [(h0, .inr (10, [.ref tp, .ref rd, .ref lv, .ref tr, .ref rw, .ref bx, .ref ch, .ref si, .ref dg, .ref pl, .ref pd, .int xz])), (tp, .inr (7, [.ref tb, .int (nI k_4)])), (tb, .inl (ca 0, 1700, .inl f_5))] := hD
    refine lv_aload_n hx hb dX10_feed_26 rfl (lv_at hl 0 rfl) ?_
    refine va_get (D := D) (ci := 10) (v := .ref tp) (C := RX10) (T := TX10) (N := 12) hx hb hts iw_X10_feed_10 hown hC.1 hP 0 rfl rfl 0 (by decide +kernel) (hts (.fieldLink RX10 12 "FairWheel" "tape" "LFairWheel$Tape;") (by decide +kernel)) (fun _ h9 => h9) rfl dX10_feed_27 ?_
    refine lv_iload_n hx hb dX10_feed_30 rfl (lv_at hl 2 rfl) ?_
    refine kc_v (wr := [(h0, .inr (10, [.ref tp, .ref rd, .ref lv, .ref tr, .ref rw, .ref bx, .ref ch, .ref si, .ref dg, .ref pl, .ref pd, .int xz]))]) (va_runV (As := [.int x2]) (rest := []) ⟨hx, hb, hml, hown, hts⟩ (s_X7_append l D ca H.size tp tb k_4 f_5 x2 (by omega)) (cwV 1 hts gX10_feed_X7_append rfl rfl rfl (by decide +kernel) ⟨(Nat.le_of_ble_eq_true rfl), (Nat.le_of_ble_eq_true rfl)⟩) (PC.preV (ci := 7) hC hP hD [1, 2] rfl (by decide +kernel) rfl rfl) rfl rfl hl.1 rfl (lv_room (Nat.le_of_ble_eq_true rfl)) dX10_feed_31 ⟨(Nat.le_of_ble_eq_true rfl), (Nat.le_of_ble_eq_true rfl)⟩) hP hD hS hA [1, 2] [0] rfl rfl (by decide +kernel) (by decide +kernel) (fun u_8 H locs hw_7 hP hD hS => ?_)
    obtain ⟨k_9, f_10⟩ := u_8
    have hu_11 := hw_7
    have hP : va_P D vwCl [(h0, .inr (10, [.ref tp, .ref rd, .ref lv, .ref tr, .ref rw, .ref bx, .ref ch, .ref si, .ref dg, .ref pl, .ref pd, .int xz])), (tp, .inr (7, [.ref tb, .int (nI k_9)])), (tb, .inl (ca 0, 1700, .inl f_10))] H := hP
    have hD : va_D A [(h0, .inr (10, [.ref tp, .ref rd, .ref lv, .ref tr, .ref rw, .ref bx, .ref ch, .ref si, .ref dg, .ref pl, .ref pd, .int xz])), (tp, .inr (7, [.ref tb, .int (nI k_9)])), (tb, .inl (ca 0, 1700, .inl f_10))] := hD
    refine lv_aload_n hx hb dX10_feed_34 rfl (lv_at hl 0 rfl) ?_
    refine va_get (D := D) (ci := 10) (v := .ref tp) (C := RX10) (T := TX10) (N := 12) hx hb hts iw_X10_feed_10 hown hC.1 hP 0 rfl rfl 0 (by decide +kernel) (hts (.fieldLink RX10 12 "FairWheel" "tape" "LFairWheel$Tape;") (by decide +kernel)) (fun _ h9 => h9) rfl dX10_feed_35 ?_
    refine lv_iload_n hx hb dX10_feed_38 rfl (lv_at hl 3 rfl) ?_
    refine kc_v (wr := [(h0, .inr (10, [.ref tp, .ref rd, .ref lv, .ref tr, .ref rw, .ref bx, .ref ch, .ref si, .ref dg, .ref pl, .ref pd, .int xz]))]) (va_runV (As := [.int x3]) (rest := []) ⟨hx, hb, hml, hown, hts⟩ (s_X7_append l D ca H.size tp tb k_9 f_10 x3 (by omega)) (cwV 1 hts gX10_feed_X7_append rfl rfl rfl (by decide +kernel) ⟨(Nat.le_of_ble_eq_true rfl), (Nat.le_of_ble_eq_true rfl)⟩) (PC.preV (ci := 7) hC hP hD [1, 2] rfl (by decide +kernel) rfl rfl) rfl rfl hl.1 rfl (lv_room (Nat.le_of_ble_eq_true rfl)) dX10_feed_39 ⟨(Nat.le_of_ble_eq_true rfl), (Nat.le_of_ble_eq_true rfl)⟩) hP hD hS hA [1, 2] [0] rfl rfl (by decide +kernel) (by decide +kernel) (fun u_13 H locs hw_12 hP hD hS => ?_)
    obtain ⟨k_14, f_15⟩ := u_13
    have hu_16 := hw_12
    have hP : va_P D vwCl [(h0, .inr (10, [.ref tp, .ref rd, .ref lv, .ref tr, .ref rw, .ref bx, .ref ch, .ref si, .ref dg, .ref pl, .ref pd, .int xz])), (tp, .inr (7, [.ref tb, .int (nI k_14)])), (tb, .inl (ca 0, 1700, .inl f_15))] H := hP
    have hD : va_D A [(h0, .inr (10, [.ref tp, .ref rd, .ref lv, .ref tr, .ref rw, .ref bx, .ref ch, .ref si, .ref dg, .ref pl, .ref pd, .int xz])), (tp, .inr (7, [.ref tb, .int (nI k_14)])), (tb, .inl (ca 0, 1700, .inl f_15))] := hD
    refine lv_aload_n hx hb dX10_feed_42 rfl (lv_at hl 0 rfl) ?_
    refine va_get (D := D) (ci := 10) (v := .ref tp) (C := RX10) (T := TX10) (N := 12) hx hb hts iw_X10_feed_10 hown hC.1 hP 0 rfl rfl 0 (by decide +kernel) (hts (.fieldLink RX10 12 "FairWheel" "tape" "LFairWheel$Tape;") (by decide +kernel)) (fun _ h9 => h9) rfl dX10_feed_43 ?_
    refine lv_iload hx hb dX10_feed_46 (lv_at hl 4 rfl) ?_
    refine kc_v (wr := [(h0, .inr (10, [.ref tp, .ref rd, .ref lv, .ref tr, .ref rw, .ref bx, .ref ch, .ref si, .ref dg, .ref pl, .ref pd, .int xz]))]) (va_runV (As := [.int x4]) (rest := []) ⟨hx, hb, hml, hown, hts⟩ (s_X7_append l D ca H.size tp tb k_14 f_15 x4 (by omega)) (cwV 1 hts gX10_feed_X7_append rfl rfl rfl (by decide +kernel) ⟨(Nat.le_of_ble_eq_true rfl), (Nat.le_of_ble_eq_true rfl)⟩) (PC.preV (ci := 7) hC hP hD [1, 2] rfl (by decide +kernel) rfl rfl) rfl rfl hl.1 rfl (lv_room (Nat.le_of_ble_eq_true rfl)) dX10_feed_48 ⟨(Nat.le_of_ble_eq_true rfl), (Nat.le_of_ble_eq_true rfl)⟩) hP hD hS hA [1, 2] [0] rfl rfl (by decide +kernel) (by decide +kernel) (fun u_18 H locs hw_17 hP hD hS => ?_)
    obtain ⟨k_19, f_20⟩ := u_18
    have hu_21 := hw_17
    have hP : va_P D vwCl [(h0, .inr (10, [.ref tp, .ref rd, .ref lv, .ref tr, .ref rw, .ref bx, .ref ch, .ref si, .ref dg, .ref pl, .ref pd, .int xz])), (tp, .inr (7, [.ref tb, .int (nI k_19)])), (tb, .inl (ca 0, 1700, .inl f_20))] H := hP
    have hD : va_D A [(h0, .inr (10, [.ref tp, .ref rd, .ref lv, .ref tr, .ref rw, .ref bx, .ref ch, .ref si, .ref dg, .ref pl, .ref pd, .int xz])), (tp, .inr (7, [.ref tb, .int (nI k_19)])), (tb, .inl (ca 0, 1700, .inl f_20))] := hD
    refine lv_aload_n hx hb dX10_feed_51 rfl (lv_at hl 0 rfl) ?_
    refine va_get (D := D) (ci := 10) (v := .ref tp) (C := RX10) (T := TX10) (N := 12) hx hb hts iw_X10_feed_10 hown hC.1 hP 0 rfl rfl 0 (by decide +kernel) (hts (.fieldLink RX10 12 "FairWheel" "tape" "LFairWheel$Tape;") (by decide +kernel)) (fun _ h9 => h9) rfl dX10_feed_52 ?_
    refine lv_iload hx hb dX10_feed_55 (lv_at hl 5 rfl) ?_
    refine kc_v (wr := [(h0, .inr (10, [.ref tp, .ref rd, .ref lv, .ref tr, .ref rw, .ref bx, .ref ch, .ref si, .ref dg, .ref pl, .ref pd, .int xz]))]) (va_runV (As := [.int x5]) (rest := []) ⟨hx, hb, hml, hown, hts⟩ (s_X7_append l D ca H.size tp tb k_19 f_20 x5 (by omega)) (cwV 1 hts gX10_feed_X7_append rfl rfl rfl (by decide +kernel) ⟨(Nat.le_of_ble_eq_true rfl), (Nat.le_of_ble_eq_true rfl)⟩) (PC.preV (ci := 7) hC hP hD [1, 2] rfl (by decide +kernel) rfl rfl) rfl rfl hl.1 rfl (lv_room (Nat.le_of_ble_eq_true rfl)) dX10_feed_57 ⟨(Nat.le_of_ble_eq_true rfl), (Nat.le_of_ble_eq_true rfl)⟩) hP hD hS hA [1, 2] [0] rfl rfl (by decide +kernel) (by decide +kernel) (fun u_23 H locs hw_22 hP hD hS => ?_)
    obtain ⟨k_24, f_25⟩ := u_23
    have hu_26 := hw_22
    have hP : va_P D vwCl [(h0, .inr (10, [.ref tp, .ref rd, .ref lv, .ref tr, .ref rw, .ref bx, .ref ch, .ref si, .ref dg, .ref pl, .ref pd, .int xz])), (tp, .inr (7, [.ref tb, .int (nI k_24)])), (tb, .inl (ca 0, 1700, .inl f_25))] H := hP
    have hD : va_D A [(h0, .inr (10, [.ref tp, .ref rd, .ref lv, .ref tr, .ref rw, .ref bx, .ref ch, .ref si, .ref dg, .ref pl, .ref pd, .int xz])), (tp, .inr (7, [.ref tb, .int (nI k_24)])), (tb, .inl (ca 0, 1700, .inl f_25))] := hD
    refine lv_aload_n hx hb dX10_feed_60 rfl (lv_at hl 0 rfl) ?_
    refine va_get (D := D) (ci := 10) (v := .ref tp) (C := RX10) (T := TX10) (N := 12) hx hb hts iw_X10_feed_10 hown hC.1 hP 0 rfl rfl 0 (by decide +kernel) (hts (.fieldLink RX10 12 "FairWheel" "tape" "LFairWheel$Tape;") (by decide +kernel)) (fun _ h9 => h9) rfl dX10_feed_61 ?_
    refine va_get (D := D) (ci := 7) (v := .int (nI k_24)) (C := RX7) (T := TX7) (N := 2) hx hb hts iw_X10_feed_7 hown hC.1 hP 1 rfl rfl 1 (by decide +kernel) (hts (.fieldLink RX10 83 "FairWheel$Tape" "size" "I") (by decide +kernel)) (fun _ h9 => h9) rfl dX10_feed_64 ?_
    exact W.iret (v := nI k_24) hx hb hr (fun t ht hW => ⟨⟨nI k_24, (k_24, f_25), rfl, (by dsimp only; omega), by rw [ht]; exact hP.sub [0, 1, 2] rfl, hDA (hD.sub [0, 1, 2] (by decide +kernel) rfl)⟩, hS.F ht⟩) hS.2.2 dX10_feed_67
  · have nc_1 : ¬ ((kt + 20) ≤ 1700) := fun h => c_1 ((nI_leI (a := (kt + 20)) (b := 1700) (by omega) (by omega)).mpr h)
    refine lv_iconst (v := (-1)) hx hb dX10_feed_16 (by decide +kernel) ?_
    exact W.iret (v := (-1)) hx hb hr (fun t ht hW => ⟨⟨(-1), (kt, fb), rfl, (by dsimp only; omega), by rw [ht]; exact hP.sub [0, 1, 2] rfl, hDA (hD.sub [0, 1, 2] (by decide +kernel) rfl)⟩, hS.F ht⟩) hS.2.2 dX10_feed_17
theorem iw_X10_end_7 : ∀ w ∈ u_ws RX7 TX7 2, w ∈ wsX10_end := by decide +kernel
theorem iw_X10_end_10 : ∀ w ∈ u_ws RX10 TX10 12, w ∈ wsX10_end := by decide +kernel
set_option maxHeartbeats 4000000 in
set_option maxRecDepth 100000 in
theorem s_X10_end (l : Launch) (D : va_G) (ca : Nat → ClassId) (sz : Nat) (h0 : Nat) (tp : Nat) (rd : Nat) (lv : Nat) (tr : Nat) (rw : Nat) (bx : Nat) (ch : Nat) (si : Nat) (dg : Nat) (pl : Nat) (pd : Nat) (xz : Int32) (tb : Nat) (kt : Nat) (fb : Nat → Int32) (x1 : Int32) (hkt : kt ≤ 1700) : Met l yX10_end wsX10_end ({ frames := 0, cells := 0, slots := 0, locals := 0 }) (PC [.ref h0, .int x1] sz D ca [(h0, .inr (10, [.ref tp, .ref rd, .ref lv, .ref tr, .ref rw, .ref bx, .ref ch, .ref si, .ref dg, .ref pl, .ref pd, .int xz])), (tp, .inr (7, [.ref tb, .int (nI kt)])), (tb, .inl (ca 0, 1700, .inl fb))]) (QI (fun (r : Int32) (u : Nat) => u ≤ 1700) (fun (u : Nat) => [(h0, .inr (10, [.ref tp, .ref rd, .ref lv, .ref tr, .ref rw, .ref bx, .ref ch, .ref si, .ref dg, .ref pl, .ref pd, .int xz])), (tp, .inr (7, [.ref tb, .int (nI u)])), (tb, .inl (ca 0, 1700, .inl fb))]) [(h0, .inr (10, [.ref tp, .ref rd, .ref lv, .ref tr, .ref rw, .ref bx, .ref ch, .ref si, .ref dg, .ref pl, .ref pd, .int xz])), (tp, .inr (7, [.ref tb, .int (nI kt)])), (tb, .inl (ca 0, 1700, .inl fb))] sz D) 0 0 (va_A [(h0, .inr (10, [.ref tp, .ref rd, .ref lv, .ref tr, .ref rw, .ref bx, .ref ch, .ref si, .ref dg, .ref pl, .ref pd, .int xz])), (tp, .inr (7, [.ref tb, .int (nI kt)])), (tb, .inl (ca 0, 1700, .inl fb))] sz) := by
  refine Met.ofW (cc := cX10_end) (maxL := 2) (ret := (some .int)) (by decide +kernel) rfl ?_
  intro p e s m args below meth c s₁ B hml hv
  obtain ⟨rfl, hsz, hP, hC, hD0⟩ := hv
  have hx := B.exec
  have hb := B.bytes
  have hr := B.returns
  have hts := atoms_spec (ws := wsX10_end) B.pre
  have hown : s.vm.findClass RX10 = some m.cls := findClass_of_methodNamed B.named
  have hlocks := B.notSynchronized
  subst hsz
  have hD := hD0.self (sz := s.heap.size)
  dsimp only [QV, QI, QL, BQ]
  generalize hAe : va_A [(h0, .inr (10, [.ref tp, .ref rd, .ref lv, .ref tr, .ref rw, .ref bx, .ref ch, .ref si, .ref dg, .ref pl, .ref pd, .int xz])), (tp, .inr (7, [.ref tb, .int (nI kt)])), (tb, .inl (ca 0, 1700, .inl fb))] s.heap.size = A at hD ⊢
  have hA : ∀ q : Nat, s.heap.size ≤ q → A q := fun q h => by rw [← hAe]; exact Or.inr h
  have hDA : ∀ {w : va_W}, va_D A w → va_D (va_A [(h0, .inr (10, [.ref tp, .ref rd, .ref lv, .ref tr, .ref rw, .ref bx, .ref ch, .ref si, .ref dg, .ref pl, .ref pd, .int xz])), (tp, .inr (7, [.ref tb, .int (nI kt)])), (tb, .inl (ca 0, 1700, .inl fb))] s.heap.size) w := fun h => by rw [hAe]; exact h
  have hS : va_S A s.heap s.heap [] := va_S.rf
  have hP : va_P D vwCl [(h0, .inr (10, [.ref tp, .ref rd, .ref lv, .ref tr, .ref rw, .ref bx, .ref ch, .ref si, .ref dg, .ref pl, .ref pd, .int xz])), (tp, .inr (7, [.ref tb, .int (nI kt)])), (tb, .inl (ca 0, 1700, .inl fb))] s.heap := hP
  have hl := lv_entry ([.ref h0, .int x1]) (n := 2) (Nat.le_of_ble_eq_true rfl)
  rw [lg_entry_eq]
  generalize (lg_sl ([.ref h0, .int x1]) ++ List.replicate (2 - (lg_sl ([.ref h0, .int x1])).length) Slot.unset).toArray = ls at hl ⊢
  have hl : lv_has ls 2 [(0, .ref h0), (1, .int x1)] := hl
  refine lv_iload_n hx hb dX10_end_0 rfl (lv_at hl 1 rfl) ?_
  refine lv_if_lt (tgt := 15) hx hb dX10_end_1 (by decide +kernel) (fun c_1 => ?_) (fun c_1 => ?_)
  · refine lv_iconst (v := (-1)) hx hb dX10_end_15 (by decide +kernel) ?_
    exact W.iret (v := (-1)) hx hb hr (fun t ht hW => ⟨⟨(-1), kt, rfl, (by dsimp only; omega), by rw [ht]; exact hP.sub [0, 1, 2] rfl, hDA (hD.sub [0, 1, 2] (by decide +kernel) rfl)⟩, hS.F ht⟩) hS.2.2 dX10_end_16
  · refine lv_iload_n hx hb dX10_end_4 rfl (lv_at hl 1 rfl) ?_
    refine lv_aload_n hx hb dX10_end_5 rfl (lv_at hl 0 rfl) ?_
    refine va_get (D := D) (ci := 10) (v := .ref tp) (C := RX10) (T := TX10) (N := 12) hx hb hts iw_X10_end_10 hown hC.1 hP 0 rfl rfl 0 (by decide +kernel) (hts (.fieldLink RX10 12 "FairWheel" "tape" "LFairWheel$Tape;") (by decide +kernel)) (fun _ h9 => h9) rfl dX10_end_6 ?_
    refine va_get (D := D) (ci := 7) (v := .int (nI kt)) (C := RX7) (T := TX7) (N := 2) hx hb hts iw_X10_end_7 hown hC.1 hP 1 rfl rfl 1 (by decide +kernel) (hts (.fieldLink RX10 83 "FairWheel$Tape" "size" "I") (by decide +kernel)) (fun _ h9 => h9) rfl dX10_end_9 ?_
    refine lv_icmp_le (tgt := 17) hx hb dX10_end_12 (by decide +kernel) (fun c_2 => ?_) (fun c_2 => ?_)
    · refine lv_aload_n hx hb dX10_end_17 rfl (lv_at hl 0 rfl) ?_
      refine va_get (D := D) (ci := 10) (v := .ref tp) (C := RX10) (T := TX10) (N := 12) hx hb hts iw_X10_end_10 hown hC.1 hP 0 rfl rfl 0 (by decide +kernel) (hts (.fieldLink RX10 12 "FairWheel" "tape" "LFairWheel$Tape;") (by decide +kernel)) (fun _ h9 => h9) rfl dX10_end_18 ?_
      refine lv_iload_n hx hb dX10_end_21 rfl (lv_at hl 1 rfl) ?_
      refine va_put (D := D) (ci := 7) (v := .int x1) (ty := .int) (C := RX7) (T := TX7) (N := 2) hx hb hts iw_X10_end_7 tyX7 tyX7_ok nmX7 hown hC.1 hP hD hS 1 rfl rfl 1 (by decide +kernel) (hts (.fieldLink RX10 83 "FairWheel$Tape" "size" "I") (by decide +kernel)) (fun _ h9 => h9) rfl (by decide +kernel) rfl rfl (Nat.le_of_ble_eq_true rfl) dX10_end_22 (fun H locs hP hD hS => ?_)
      have hP : va_P D vwCl [(h0, .inr (10, [.ref tp, .ref rd, .ref lv, .ref tr, .ref rw, .ref bx, .ref ch, .ref si, .ref dg, .ref pl, .ref pd, .int xz])), (tp, .inr (7, [.ref tb, .int x1])), (tb, .inl (ca 0, 1700, .inl fb))] H := hP
      have hD : va_D A [(h0, .inr (10, [.ref tp, .ref rd, .ref lv, .ref tr, .ref rw, .ref bx, .ref ch, .ref si, .ref dg, .ref pl, .ref pd, .int xz])), (tp, .inr (7, [.ref tb, .int x1])), (tb, .inl (ca 0, 1700, .inl fb))] := hD
      refine lv_iload_n hx hb dX10_end_25 rfl (lv_at hl 1 rfl) ?_
      obtain ⟨k_3, hk_3, rfl⟩ := nI_of c_1
      have nc_2 : k_3 ≤ kt := (nI_leI (a := k_3) (b := kt) (by omega) (by omega)).mp c_2
      exact W.iret (v := nI k_3) hx hb hr (fun t ht hW => ⟨⟨nI k_3, k_3, rfl, (by dsimp only; omega), by rw [ht]; exact hP.sub [0, 1, 2] rfl, hDA (hD.sub [0, 1, 2] (by decide +kernel) rfl)⟩, hS.F ht⟩) hS.2.2 dX10_end_26
    · refine lv_iconst (v := (-1)) hx hb dX10_end_15 (by decide +kernel) ?_
      exact W.iret (v := (-1)) hx hb hr (fun t ht hW => ⟨⟨(-1), kt, rfl, (by dsimp only; omega), by rw [ht]; exact hP.sub [0, 1, 2] rfl, hDA (hD.sub [0, 1, 2] (by decide +kernel) rfl)⟩, hS.F ht⟩) hS.2.2 dX10_end_16
theorem iw_X10_fault_3 : ∀ w ∈ u_ws RX3 TX3 6, w ∈ wsX10_fault := by decide +kernel
theorem iw_X10_fault_10 : ∀ w ∈ u_ws RX10 TX10 12, w ∈ wsX10_fault := by decide +kernel
set_option maxHeartbeats 4000000 in
set_option maxRecDepth 100000 in
theorem s_X10_fault (l : Launch) (D : va_G) (ca : Nat → ClassId) (sz : Nat) (h0 : Nat) (tp : Nat) (rd : Nat) (lv : Nat) (tr : Nat) (rw : Nat) (bx : Nat) (ch : Nat) (si : Nat) (dg : Nat) (pl : Nat) (pd : Nat) (xz : Int32) (sc : Nat) (pz : Nat) (xt : Int32) (xm : Int32) (xf : Int32) (xg : Int32) (x1 : Int32) : Met l yX10_fault wsX10_fault ({ frames := 0, cells := 0, slots := 0, locals := 0 }) (PC [.ref h0, .int x1] sz D ca [(h0, .inr (10, [.ref tp, .ref rd, .ref lv, .ref tr, .ref rw, .ref bx, .ref ch, .ref si, .ref dg, .ref pl, .ref pd, .int xz])), (rd, .inr (3, [.ref sc, .ref pz, .int xt, .int xm, .int xf, .int xg]))]) (QI (fun (r : Int32) (u : Unit) => True) (fun (_ : Unit) => [(h0, .inr (10, [.ref tp, .ref rd, .ref lv, .ref tr, .ref rw, .ref bx, .ref ch, .ref si, .ref dg, .ref pl, .ref pd, .int xz])), (rd, .inr (3, [.ref sc, .ref pz, .int xt, .int xm, .int xf, .int xg]))]) [(h0, .inr (10, [.ref tp, .ref rd, .ref lv, .ref tr, .ref rw, .ref bx, .ref ch, .ref si, .ref dg, .ref pl, .ref pd, .int xz])), (rd, .inr (3, [.ref sc, .ref pz, .int xt, .int xm, .int xf, .int xg]))] sz D) 0 0 (va_A [(h0, .inr (10, [.ref tp, .ref rd, .ref lv, .ref tr, .ref rw, .ref bx, .ref ch, .ref si, .ref dg, .ref pl, .ref pd, .int xz])), (rd, .inr (3, [.ref sc, .ref pz, .int xt, .int xm, .int xf, .int xg]))] sz) := by
  refine Met.ofW (cc := cX10_fault) (maxL := 2) (ret := (some .int)) (by decide +kernel) rfl ?_
  intro p e s m args below meth c s₁ B hml hv
  obtain ⟨rfl, hsz, hP, hC, hD0⟩ := hv
  have hx := B.exec
  have hb := B.bytes
  have hr := B.returns
  have hts := atoms_spec (ws := wsX10_fault) B.pre
  have hown : s.vm.findClass RX10 = some m.cls := findClass_of_methodNamed B.named
  have hlocks := B.notSynchronized
  subst hsz
  have hD := hD0.self (sz := s.heap.size)
  dsimp only [QV, QI, QL, BQ]
  generalize hAe : va_A [(h0, .inr (10, [.ref tp, .ref rd, .ref lv, .ref tr, .ref rw, .ref bx, .ref ch, .ref si, .ref dg, .ref pl, .ref pd, .int xz])), (rd, .inr (3, [.ref sc, .ref pz, .int xt, .int xm, .int xf, .int xg]))] s.heap.size = A at hD ⊢
  have hA : ∀ q : Nat, s.heap.size ≤ q → A q := fun q h => by rw [← hAe]; exact Or.inr h
  have hDA : ∀ {w : va_W}, va_D A w → va_D (va_A [(h0, .inr (10, [.ref tp, .ref rd, .ref lv, .ref tr, .ref rw, .ref bx, .ref ch, .ref si, .ref dg, .ref pl, .ref pd, .int xz])), (rd, .inr (3, [.ref sc, .ref pz, .int xt, .int xm, .int xf, .int xg]))] s.heap.size) w := fun h => by rw [hAe]; exact h
  have hS : va_S A s.heap s.heap [] := va_S.rf
  have hP : va_P D vwCl [(h0, .inr (10, [.ref tp, .ref rd, .ref lv, .ref tr, .ref rw, .ref bx, .ref ch, .ref si, .ref dg, .ref pl, .ref pd, .int xz])), (rd, .inr (3, [.ref sc, .ref pz, .int xt, .int xm, .int xf, .int xg]))] s.heap := hP
  have hl := lv_entry ([.ref h0, .int x1]) (n := 2) (Nat.le_of_ble_eq_true rfl)
  rw [lg_entry_eq]
  generalize (lg_sl ([.ref h0, .int x1]) ++ List.replicate (2 - (lg_sl ([.ref h0, .int x1])).length) Slot.unset).toArray = ls at hl ⊢
  have hl : lv_has ls 2 [(0, .ref h0), (1, .int x1)] := hl
  refine lv_iload_n hx hb dX10_fault_0 rfl (lv_at hl 1 rfl) ?_
  refine lv_if_ne (tgt := 12) hx hb dX10_fault_1 (by decide +kernel) (fun c_1 => ?_) (fun c_1 => ?_)
  · refine lv_iload_n hx hb dX10_fault_12 rfl (lv_at hl 1 rfl) ?_
    refine lv_iconst (v := 1) hx hb dX10_fault_13 (by decide +kernel) ?_
    refine lv_icmp_ne (tgt := 27) hx hb dX10_fault_14 (by decide +kernel) (fun c_2 => ?_) (fun c_2 => ?_)
    · refine lv_iconst (v := (-1)) hx hb dX10_fault_27 (by decide +kernel) ?_
      exact W.iret (v := (-1)) hx hb hr (fun t ht hW => ⟨⟨(-1), (), rfl, trivial, by rw [ht]; exact hP.sub [0, 1] rfl, hDA (hD.sub [0, 1] (by decide +kernel) rfl)⟩, hS.F ht⟩) hS.2.2 dX10_fault_28
    · refine lv_aload_n hx hb dX10_fault_17 rfl (lv_at hl 0 rfl) ?_
      refine va_get (D := D) (ci := 10) (v := .ref rd) (C := RX10) (T := TX10) (N := 12) hx hb hts iw_X10_fault_10 hown hC.1 hP 0 rfl rfl 1 (by decide +kernel) (hts (.fieldLink RX10 31 "FairWheel" "reader" "LFairWheel$Reader;") (by decide +kernel)) (fun _ h9 => h9) rfl dX10_fault_18 ?_
      refine va_get (D := D) (ci := 3) (v := .int xg) (C := RX3) (T := TX3) (N := 6) hx hb hts iw_X10_fault_3 hown hC.1 hP 1 rfl rfl 5 (by decide +kernel) (hts (.fieldLink RX10 109 "FairWheel$Reader" "foundAt" "I") (by decide +kernel)) (fun _ h9 => h9) rfl dX10_fault_21 ?_
      refine lv_goto (tgt := 28) hx hb dX10_fault_24 (by decide +kernel) ?_
      exact W.iret (v := xg) hx hb hr (fun t ht hW => ⟨⟨xg, (), rfl, trivial, by rw [ht]; exact hP.sub [0, 1] rfl, hDA (hD.sub [0, 1] (by decide +kernel) rfl)⟩, hS.F ht⟩) hS.2.2 dX10_fault_28
  · refine lv_aload_n hx hb dX10_fault_4 rfl (lv_at hl 0 rfl) ?_
    refine va_get (D := D) (ci := 10) (v := .ref rd) (C := RX10) (T := TX10) (N := 12) hx hb hts iw_X10_fault_10 hown hC.1 hP 0 rfl rfl 1 (by decide +kernel) (hts (.fieldLink RX10 31 "FairWheel" "reader" "LFairWheel$Reader;") (by decide +kernel)) (fun _ h9 => h9) rfl dX10_fault_5 ?_
    refine va_get (D := D) (ci := 3) (v := .int xf) (C := RX3) (T := TX3) (N := 6) hx hb hts iw_X10_fault_3 hown hC.1 hP 1 rfl rfl 4 (by decide +kernel) (hts (.fieldLink RX10 106 "FairWheel$Reader" "found" "I") (by decide +kernel)) (fun _ h9 => h9) rfl dX10_fault_8 ?_
    exact W.iret (v := xf) hx hb hr (fun t ht hW => ⟨⟨xf, (), rfl, trivial, by rw [ht]; exact hP.sub [0, 1] rfl, hDA (hD.sub [0, 1] (by decide +kernel) rfl)⟩, hS.F ht⟩) hS.2.2 dX10_fault_11
theorem iw_X10_wasChosenIn_2 : ∀ w ∈ u_ws RX2 TX2 14, w ∈ wsX10_wasChosenIn := by decide +kernel
theorem iw_X10_wasChosenIn_9 : ∀ w ∈ u_ws RX9 TX9 6, w ∈ wsX10_wasChosenIn := by decide +kernel
theorem iw_X10_wasChosenIn_10 : ∀ w ∈ u_ws RX10 TX10 12, w ∈ wsX10_wasChosenIn := by decide +kernel
set_option maxHeartbeats 4000000 in
set_option maxRecDepth 100000 in
theorem s_X10_wasChosenIn (l : Launch) (D : va_G) (ca : Nat → ClassId) (sz : Nat) (h0 : Nat) (tp : Nat) (rd : Nat) (lv : Nat) (tr : Nat) (rw : Nat) (bx : Nat) (ch : Nat) (si : Nat) (dg : Nat) (pl : Nat) (pd : Nat) (xz : Int32) (kw : Nat) (tk : Nat) (hd : Nat) (fr : Nat) (cg : Nat) (p5 : Nat) (p6 : Nat) (p7 : Nat) (p8 : Nat) (p9 : Nat) (p10 : Nat) (p11 : Nat) (p12 : Nat) (p13 : Nat) (kc : Nat) (kl : Nat) (kn : Nat) (ko : Nat) (xb : Int32) (frw : Nat → Int32) (x1 : Int32) (x2 : Int32) (wa : Nat → Nat × va_E) (ta : Nat → Nat) (ra : Nat → Nat) (hkw : kw ≤ 2000) (hkn : kn ≤ 10) (hkc : kc ≤ 4) (hkl : kl ≤ 6) (hw_wa : wok ca ta ra wa) : Met l yX10_wasChosenIn wsX10_wasChosenIn ({ frames := 0, cells := 0, slots := 0, locals := 0 }) (PC [.ref h0, .int x1, .int x2] sz D ca (wq [(h0, .inr (10, [.ref tp, .ref rd, .ref lv, .ref tr, .ref rw, .ref bx, .ref ch, .ref si, .ref dg, .ref pl, .ref pd, .int xz])), (lv, .inr (9, [.ref pl, .int (nI kw), .ref tk, .ref hd, .ref fr, .ref cg])), (tk, .inl (ca 5, 10, .inr (.inr (.inr (.inr (fun j => some (ta j))))))), (pl, .inr (2, [.int (nI kc), .int (nI kl), .int xb, .int (nI kn), .int (nI ko), .ref p5, .ref p6, .ref p7, .ref p8, .ref p9, .ref p10, .ref p11, .ref p12, .ref p13])), (rw, .inl (ca 1, 2000, .inl frw))] [wx wa []])) (QI (fun (r : Int32) (u : (Nat → Nat × va_E)) => (r = 0 ∨ (r = 1 ∧ ∃ k : Nat, k < 2000 ∧ x1 = nI k)) ∧ wok ca ta ra u) (fun (u : (Nat → Nat × va_E)) => (wq [(h0, .inr (10, [.ref tp, .ref rd, .ref lv, .ref tr, .ref rw, .ref bx, .ref ch, .ref si, .ref dg, .ref pl, .ref pd, .int xz])), (lv, .inr (9, [.ref pl, .int (nI kw), .ref tk, .ref hd, .ref fr, .ref cg])), (tk, .inl (ca 5, 10, .inr (.inr (.inr (.inr (fun j => some (ta j))))))), (pl, .inr (2, [.int (nI kc), .int (nI kl), .int xb, .int (nI kn), .int (nI ko), .ref p5, .ref p6, .ref p7, .ref p8, .ref p9, .ref p10, .ref p11, .ref p12, .ref p13])), (rw, .inl (ca 1, 2000, .inl frw))] [wx u []])) (wq [(h0, .inr (10, [.ref tp, .ref rd, .ref lv, .ref tr, .ref rw, .ref bx, .ref ch, .ref si, .ref dg, .ref pl, .ref pd, .int xz])), (lv, .inr (9, [.ref pl, .int (nI kw), .ref tk, .ref hd, .ref fr, .ref cg])), (tk, .inl (ca 5, 10, .inr (.inr (.inr (.inr (fun j => some (ta j))))))), (pl, .inr (2, [.int (nI kc), .int (nI kl), .int xb, .int (nI kn), .int (nI ko), .ref p5, .ref p6, .ref p7, .ref p8, .ref p9, .ref p10, .ref p11, .ref p12, .ref p13])), (rw, .inl (ca 1, 2000, .inl frw))] [wx wa []]) sz D) 0 0 (va_A (wq [(h0, .inr (10, [.ref tp, .ref rd, .ref lv, .ref tr, .ref rw, .ref bx, .ref ch, .ref si, .ref dg, .ref pl, .ref pd, .int xz])), (lv, .inr (9, [.ref pl, .int (nI kw), .ref tk, .ref hd, .ref fr, .ref cg])), (tk, .inl (ca 5, 10, .inr (.inr (.inr (.inr (fun j => some (ta j))))))), (pl, .inr (2, [.int (nI kc), .int (nI kl), .int xb, .int (nI kn), .int (nI ko), .ref p5, .ref p6, .ref p7, .ref p8, .ref p9, .ref p10, .ref p11, .ref p12, .ref p13])), (rw, .inl (ca 1, 2000, .inl frw))] [wx wa []]) sz) := by
  refine Met.ofW (cc := cX10_wasChosenIn) (maxL := 3) (ret := (some .boolean)) (by decide +kernel) rfl ?_
  intro p e s m args below meth c s₁ B hml hv
  obtain ⟨rfl, hsz, hP, hC, hD0⟩ := hv
  have hx := B.exec
  have hb := B.bytes
  have hr := B.returns
  have hts := atoms_spec (ws := wsX10_wasChosenIn) B.pre
  have hown : s.vm.findClass RX10 = some m.cls := findClass_of_methodNamed B.named
  have hlocks := B.notSynchronized
  subst hsz
  have hD := hD0.self (sz := s.heap.size)
  dsimp only [QV, QI, QL, BQ]
  generalize hAe : va_A (wq [(h0, .inr (10, [.ref tp, .ref rd, .ref lv, .ref tr, .ref rw, .ref bx, .ref ch, .ref si, .ref dg, .ref pl, .ref pd, .int xz])), (lv, .inr (9, [.ref pl, .int (nI kw), .ref tk, .ref hd, .ref fr, .ref cg])), (tk, .inl (ca 5, 10, .inr (.inr (.inr (.inr (fun j => some (ta j))))))), (pl, .inr (2, [.int (nI kc), .int (nI kl), .int xb, .int (nI kn), .int (nI ko), .ref p5, .ref p6, .ref p7, .ref p8, .ref p9, .ref p10, .ref p11, .ref p12, .ref p13])), (rw, .inl (ca 1, 2000, .inl frw))] [wx wa []]) s.heap.size = A at hD ⊢
  have hA : ∀ q : Nat, s.heap.size ≤ q → A q := fun q h => by rw [← hAe]; exact Or.inr h
  have hDA : ∀ {w : va_W}, va_D A w → va_D (va_A (wq [(h0, .inr (10, [.ref tp, .ref rd, .ref lv, .ref tr, .ref rw, .ref bx, .ref ch, .ref si, .ref dg, .ref pl, .ref pd, .int xz])), (lv, .inr (9, [.ref pl, .int (nI kw), .ref tk, .ref hd, .ref fr, .ref cg])), (tk, .inl (ca 5, 10, .inr (.inr (.inr (.inr (fun j => some (ta j))))))), (pl, .inr (2, [.int (nI kc), .int (nI kl), .int xb, .int (nI kn), .int (nI ko), .ref p5, .ref p6, .ref p7, .ref p8, .ref p9, .ref p10, .ref p11, .ref p12, .ref p13])), (rw, .inl (ca 1, 2000, .inl frw))] [wx wa []]) s.heap.size) w := fun h => by rw [hAe]; exact h
  have hS : va_S A s.heap s.heap [] := va_S.rf
  have hP : va_P D vwCl (wq [(h0, .inr (10, [.ref tp, .ref rd, .ref lv, .ref tr, .ref rw, .ref bx, .ref ch, .ref si, .ref dg, .ref pl, .ref pd, .int xz])), (lv, .inr (9, [.ref pl, .int (nI kw), .ref tk, .ref hd, .ref fr, .ref cg])), (tk, .inl (ca 5, 10, .inr (.inr (.inr (.inr (fun j => some (ta j))))))), (pl, .inr (2, [.int (nI kc), .int (nI kl), .int xb, .int (nI kn), .int (nI ko), .ref p5, .ref p6, .ref p7, .ref p8, .ref p9, .ref p10, .ref p11, .ref p12, .ref p13])), (rw, .inl (ca 1, 2000, .inl frw))] [wx wa []]) s.heap := hP
  have hl := lv_entry ([.ref h0, .int x1, .int x2]) (n := 3) (Nat.le_of_ble_eq_true rfl)
  rw [lg_entry_eq]
  generalize (lg_sl ([.ref h0, .int x1, .int x2]) ++ List.replicate (3 - (lg_sl ([.ref h0, .int x1, .int x2])).length) Slot.unset).toArray = ls at hl ⊢
  have hl : lv_has ls 3 [(0, .ref h0), (1, .int x1), (2, .int x2)] := hl
  refine lv_iload_n hx hb dX10_wasChosenIn_0 rfl (lv_at hl 1 rfl) ?_
  refine lv_if_lt (tgt := 43) hx hb dX10_wasChosenIn_1 (by decide +kernel) (fun c_1 => ?_) (fun c_1 => ?_)
  · refine lv_iconst (v := 0) hx hb dX10_wasChosenIn_43 (by decide +kernel) ?_
    exact W.zret (v := 0) hx hb hr (rfl) (fun t ht hW => ⟨⟨0, wa, rfl, ⟨(Or.inl rfl), hw_wa⟩, by rw [ht]; exact (hP.perm (sg (wr := []) 6 [0, 1, 2, 3, 4, 5] [] rfl rfl rfl (by decide +kernel))).left, hDA ((hD.perm (sg (wr := []) 6 [0, 1, 2, 3, 4, 5] [] rfl rfl rfl (by decide +kernel))).left)⟩, hS.F ht⟩) hS.2.2 dX10_wasChosenIn_44
  · refine lv_iload_n hx hb dX10_wasChosenIn_4 rfl (lv_at hl 1 rfl) ?_
    refine lv_aload_n hx hb dX10_wasChosenIn_5 rfl (lv_at hl 0 rfl) ?_
    refine va_get (D := D) (ci := 10) (v := .ref lv) (C := RX10) (T := TX10) (N := 12) hx hb hts iw_X10_wasChosenIn_10 hown hC.1 hP 0 rfl rfl 2 (by decide +kernel) (hts (.fieldLink RX10 40 "FairWheel" "live" "LFairWheel$Wheel;") (by decide +kernel)) (fun _ h9 => h9) rfl dX10_wasChosenIn_6 ?_
    refine va_get (D := D) (ci := 9) (v := .int (nI kw)) (C := RX9) (T := TX9) (N := 6) hx hb hts iw_X10_wasChosenIn_9 hown hC.1 hP 1 rfl rfl 1 (by decide +kernel) (hts (.fieldLink RX10 112 "FairWheel$Wheel" "now" "I") (by decide +kernel)) (fun _ h9 => h9) rfl dX10_wasChosenIn_9 ?_
    refine lv_icmp_ge (tgt := 43) hx hb dX10_wasChosenIn_12 (by decide +kernel) (fun c_2 => ?_) (fun c_2 => ?_)
    · refine lv_iconst (v := 0) hx hb dX10_wasChosenIn_43 (by decide +kernel) ?_
      exact W.zret (v := 0) hx hb hr (rfl) (fun t ht hW => ⟨⟨0, wa, rfl, ⟨(Or.inl rfl), hw_wa⟩, by rw [ht]; exact (hP.perm (sg (wr := []) 6 [0, 1, 2, 3, 4, 5] [] rfl rfl rfl (by decide +kernel))).left, hDA ((hD.perm (sg (wr := []) 6 [0, 1, 2, 3, 4, 5] [] rfl rfl rfl (by decide +kernel))).left)⟩, hS.F ht⟩) hS.2.2 dX10_wasChosenIn_44
    · refine lv_iload_n hx hb dX10_wasChosenIn_15 rfl (lv_at hl 1 rfl) ?_
      refine lv_aload_n hx hb dX10_wasChosenIn_16 rfl (lv_at hl 0 rfl) ?_
      refine va_get (D := D) (ci := 10) (v := .ref rw) (C := RX10) (T := TX10) (N := 12) hx hb hts iw_X10_wasChosenIn_10 hown hC.1 hP 0 rfl rfl 4 (by decide +kernel) (hts (.fieldLink RX10 47 "FairWheel" "rows" "[I") (by decide +kernel)) (fun _ h9 => h9) rfl dX10_wasChosenIn_17 ?_
      refine va_alen (v := 2000) hx hb hC.1 hP 4 1 rfl rfl rfl dX10_wasChosenIn_20 ?_
      refine lv_icmp_ge (tgt := 43) hx hb dX10_wasChosenIn_21 (by decide +kernel) (fun c_3 => ?_) (fun c_3 => ?_)
      · refine lv_iconst (v := 0) hx hb dX10_wasChosenIn_43 (by decide +kernel) ?_
        exact W.zret (v := 0) hx hb hr (rfl) (fun t ht hW => ⟨⟨0, wa, rfl, ⟨(Or.inl rfl), hw_wa⟩, by rw [ht]; exact (hP.perm (sg (wr := []) 6 [0, 1, 2, 3, 4, 5] [] rfl rfl rfl (by decide +kernel))).left, hDA ((hD.perm (sg (wr := []) 6 [0, 1, 2, 3, 4, 5] [] rfl rfl rfl (by decide +kernel))).left)⟩, hS.F ht⟩) hS.2.2 dX10_wasChosenIn_44
      · refine lv_iload_n hx hb dX10_wasChosenIn_24 rfl (lv_at hl 2 rfl) ?_
        refine lv_if_lt (tgt := 43) hx hb dX10_wasChosenIn_25 (by decide +kernel) (fun c_4 => ?_) (fun c_4 => ?_)
        · refine lv_iconst (v := 0) hx hb dX10_wasChosenIn_43 (by decide +kernel) ?_
          exact W.zret (v := 0) hx hb hr (rfl) (fun t ht hW => ⟨⟨0, wa, rfl, ⟨(Or.inl rfl), hw_wa⟩, by rw [ht]; exact (hP.perm (sg (wr := []) 6 [0, 1, 2, 3, 4, 5] [] rfl rfl rfl (by decide +kernel))).left, hDA ((hD.perm (sg (wr := []) 6 [0, 1, 2, 3, 4, 5] [] rfl rfl rfl (by decide +kernel))).left)⟩, hS.F ht⟩) hS.2.2 dX10_wasChosenIn_44
        · refine lv_iload_n hx hb dX10_wasChosenIn_28 rfl (lv_at hl 2 rfl) ?_
          refine lv_aload_n hx hb dX10_wasChosenIn_29 rfl (lv_at hl 0 rfl) ?_
          refine va_get (D := D) (ci := 10) (v := .ref pl) (C := RX10) (T := TX10) (N := 12) hx hb hts iw_X10_wasChosenIn_10 hown hC.1 hP 0 rfl rfl 9 (by decide +kernel) (hts (.fieldLink RX10 19 "FairWheel" "plan" "LFairWheel$Plan;") (by decide +kernel)) (fun _ h9 => h9) rfl dX10_wasChosenIn_30 ?_
          refine va_get (D := D) (ci := 2) (v := .int (nI kc)) (C := RX2) (T := TX2) (N := 14) hx hb hts iw_X10_wasChosenIn_2 hown hC.1 hP 3 rfl rfl 0 (by decide +kernel) (hts (.fieldLink RX10 271 "FairWheel$Plan" "cores" "I") (by decide +kernel)) (fun _ h9 => h9) rfl dX10_wasChosenIn_33 ?_
          refine lv_icmp_ge (tgt := 43) hx hb dX10_wasChosenIn_36 (by decide +kernel) (fun c_5 => ?_) (fun c_5 => ?_)
          · refine lv_iconst (v := 0) hx hb dX10_wasChosenIn_43 (by decide +kernel) ?_
            exact W.zret (v := 0) hx hb hr (rfl) (fun t ht hW => ⟨⟨0, wa, rfl, ⟨(Or.inl rfl), hw_wa⟩, by rw [ht]; exact (hP.perm (sg (wr := []) 6 [0, 1, 2, 3, 4, 5] [] rfl rfl rfl (by decide +kernel))).left, hDA ((hD.perm (sg (wr := []) 6 [0, 1, 2, 3, 4, 5] [] rfl rfl rfl (by decide +kernel))).left)⟩, hS.F ht⟩) hS.2.2 dX10_wasChosenIn_44
          · obtain ⟨k_6, hk_6, rfl⟩ := nI_of c_1
            have nc_2 : ¬ (kw ≤ k_6) := fun h => c_2 ((nI_leI (a := kw) (b := k_6) (by omega) (by omega)).mpr h)
            have nc_3 : ¬ (2000 ≤ k_6) := fun h => c_3 ((nI_leI (a := 2000) (b := k_6) (by omega) (by omega)).mpr h)
            refine lv_iconst (v := 1) hx hb dX10_wasChosenIn_39 (by decide +kernel) ?_
            refine lv_goto (tgt := 44) hx hb dX10_wasChosenIn_40 (by decide +kernel) ?_
            exact W.zret (v := 1) hx hb hr (rfl) (fun t ht hW => ⟨⟨1, wa, rfl, ⟨(Or.inr ⟨rfl, k_6, by omega, rfl⟩), hw_wa⟩, by rw [ht]; exact (hP.perm (sg (wr := []) 6 [0, 1, 2, 3, 4, 5] [] rfl rfl rfl (by decide +kernel))).left, hDA ((hD.perm (sg (wr := []) 6 [0, 1, 2, 3, 4, 5] [] rfl rfl rfl (by decide +kernel))).left)⟩, hS.F ht⟩) hS.2.2 dX10_wasChosenIn_44
theorem iw_X10_isGone_2 : ∀ w ∈ u_ws RX2 TX2 14, w ∈ wsX10_isGone := by decide +kernel
theorem iw_X10_isGone_8 : ∀ w ∈ u_ws RX8 TX8 17, w ∈ wsX10_isGone := by decide +kernel
theorem iw_X10_isGone_9 : ∀ w ∈ u_ws RX9 TX9 6, w ∈ wsX10_isGone := by decide +kernel
theorem iw_X10_isGone_10 : ∀ w ∈ u_ws RX10 TX10 12, w ∈ wsX10_isGone := by decide +kernel
set_option maxHeartbeats 4000000 in
set_option maxRecDepth 100000 in
theorem s_X10_isGone (l : Launch) (D : va_G) (ca : Nat → ClassId) (sz : Nat) (h0 : Nat) (tp : Nat) (rd : Nat) (lv : Nat) (tr : Nat) (rw : Nat) (bx : Nat) (ch : Nat) (si : Nat) (dg : Nat) (pl : Nat) (pd : Nat) (xz : Int32) (kw : Nat) (tk : Nat) (hd : Nat) (fr : Nat) (cg : Nat) (p5 : Nat) (p6 : Nat) (p7 : Nat) (p8 : Nat) (p9 : Nat) (p10 : Nat) (p11 : Nat) (p12 : Nat) (p13 : Nat) (kc : Nat) (kl : Nat) (kn : Nat) (ko : Nat) (xb : Int32) (x1 : Int32) (wa : Nat → Nat × va_E) (ta : Nat → Nat) (ra : Nat → Nat) (hkw : kw ≤ 2000) (hkn : kn ≤ 10) (hkc : kc ≤ 4) (hkl : kl ≤ 6) (hw_wa : wok ca ta ra wa) : Met l yX10_isGone wsX10_isGone ({ frames := 0, cells := 0, slots := 0, locals := 0 }) (PC [.ref h0, .int x1] sz D ca (wq [(h0, .inr (10, [.ref tp, .ref rd, .ref lv, .ref tr, .ref rw, .ref bx, .ref ch, .ref si, .ref dg, .ref pl, .ref pd, .int xz])), (lv, .inr (9, [.ref pl, .int (nI kw), .ref tk, .ref hd, .ref fr, .ref cg])), (tk, .inl (ca 5, 10, .inr (.inr (.inr (.inr (fun j => some (ta j))))))), (pl, .inr (2, [.int (nI kc), .int (nI kl), .int xb, .int (nI kn), .int (nI ko), .ref p5, .ref p6, .ref p7, .ref p8, .ref p9, .ref p10, .ref p11, .ref p12, .ref p13]))] [wx wa []])) (QI (fun (r : Int32) (u : (Nat → Nat × va_E)) => (r = 1 ∨ (r = 0 ∧ ∃ k : Nat, k < 10 ∧ x1 = nI k)) ∧ wok ca ta ra u) (fun (u : (Nat → Nat × va_E)) => (wq [(h0, .inr (10, [.ref tp, .ref rd, .ref lv, .ref tr, .ref rw, .ref bx, .ref ch, .ref si, .ref dg, .ref pl, .ref pd, .int xz])), (lv, .inr (9, [.ref pl, .int (nI kw), .ref tk, .ref hd, .ref fr, .ref cg])), (tk, .inl (ca 5, 10, .inr (.inr (.inr (.inr (fun j => some (ta j))))))), (pl, .inr (2, [.int (nI kc), .int (nI kl), .int xb, .int (nI kn), .int (nI ko), .ref p5, .ref p6, .ref p7, .ref p8, .ref p9, .ref p10, .ref p11, .ref p12, .ref p13]))] [wx u []])) (wq [(h0, .inr (10, [.ref tp, .ref rd, .ref lv, .ref tr, .ref rw, .ref bx, .ref ch, .ref si, .ref dg, .ref pl, .ref pd, .int xz])), (lv, .inr (9, [.ref pl, .int (nI kw), .ref tk, .ref hd, .ref fr, .ref cg])), (tk, .inl (ca 5, 10, .inr (.inr (.inr (.inr (fun j => some (ta j))))))), (pl, .inr (2, [.int (nI kc), .int (nI kl), .int xb, .int (nI kn), .int (nI ko), .ref p5, .ref p6, .ref p7, .ref p8, .ref p9, .ref p10, .ref p11, .ref p12, .ref p13]))] [wx wa []]) sz D) 0 0 (va_A (wq [(h0, .inr (10, [.ref tp, .ref rd, .ref lv, .ref tr, .ref rw, .ref bx, .ref ch, .ref si, .ref dg, .ref pl, .ref pd, .int xz])), (lv, .inr (9, [.ref pl, .int (nI kw), .ref tk, .ref hd, .ref fr, .ref cg])), (tk, .inl (ca 5, 10, .inr (.inr (.inr (.inr (fun j => some (ta j))))))), (pl, .inr (2, [.int (nI kc), .int (nI kl), .int xb, .int (nI kn), .int (nI ko), .ref p5, .ref p6, .ref p7, .ref p8, .ref p9, .ref p10, .ref p11, .ref p12, .ref p13]))] [wx wa []]) sz) := by
  refine Met.ofW (cc := cX10_isGone) (maxL := 2) (ret := (some .boolean)) (by decide +kernel) rfl ?_
  intro p e s m args below meth c s₁ B hml hv
  obtain ⟨rfl, hsz, hP, hC, hD0⟩ := hv
  have hx := B.exec
  have hb := B.bytes
  have hr := B.returns
  have hts := atoms_spec (ws := wsX10_isGone) B.pre
  have hown : s.vm.findClass RX10 = some m.cls := findClass_of_methodNamed B.named
  have hlocks := B.notSynchronized
  subst hsz
  have hD := hD0.self (sz := s.heap.size)
  dsimp only [QV, QI, QL, BQ]
  generalize hAe : va_A (wq [(h0, .inr (10, [.ref tp, .ref rd, .ref lv, .ref tr, .ref rw, .ref bx, .ref ch, .ref si, .ref dg, .ref pl, .ref pd, .int xz])), (lv, .inr (9, [.ref pl, .int (nI kw), .ref tk, .ref hd, .ref fr, .ref cg])), (tk, .inl (ca 5, 10, .inr (.inr (.inr (.inr (fun j => some (ta j))))))), (pl, .inr (2, [.int (nI kc), .int (nI kl), .int xb, .int (nI kn), .int (nI ko), .ref p5, .ref p6, .ref p7, .ref p8, .ref p9, .ref p10, .ref p11, .ref p12, .ref p13]))] [wx wa []]) s.heap.size = A at hD ⊢
  have hA : ∀ q : Nat, s.heap.size ≤ q → A q := fun q h => by rw [← hAe]; exact Or.inr h
  have hDA : ∀ {w : va_W}, va_D A w → va_D (va_A (wq [(h0, .inr (10, [.ref tp, .ref rd, .ref lv, .ref tr, .ref rw, .ref bx, .ref ch, .ref si, .ref dg, .ref pl, .ref pd, .int xz])), (lv, .inr (9, [.ref pl, .int (nI kw), .ref tk, .ref hd, .ref fr, .ref cg])), (tk, .inl (ca 5, 10, .inr (.inr (.inr (.inr (fun j => some (ta j))))))), (pl, .inr (2, [.int (nI kc), .int (nI kl), .int xb, .int (nI kn), .int (nI ko), .ref p5, .ref p6, .ref p7, .ref p8, .ref p9, .ref p10, .ref p11, .ref p12, .ref p13]))] [wx wa []]) s.heap.size) w := fun h => by rw [hAe]; exact h
  have hS : va_S A s.heap s.heap [] := va_S.rf
  have hP : va_P D vwCl (wq [(h0, .inr (10, [.ref tp, .ref rd, .ref lv, .ref tr, .ref rw, .ref bx, .ref ch, .ref si, .ref dg, .ref pl, .ref pd, .int xz])), (lv, .inr (9, [.ref pl, .int (nI kw), .ref tk, .ref hd, .ref fr, .ref cg])), (tk, .inl (ca 5, 10, .inr (.inr (.inr (.inr (fun j => some (ta j))))))), (pl, .inr (2, [.int (nI kc), .int (nI kl), .int xb, .int (nI kn), .int (nI ko), .ref p5, .ref p6, .ref p7, .ref p8, .ref p9, .ref p10, .ref p11, .ref p12, .ref p13]))] [wx wa []]) s.heap := hP
  have hl := lv_entry ([.ref h0, .int x1]) (n := 2) (Nat.le_of_ble_eq_true rfl)
  rw [lg_entry_eq]
  generalize (lg_sl ([.ref h0, .int x1]) ++ List.replicate (2 - (lg_sl ([.ref h0, .int x1])).length) Slot.unset).toArray = ls at hl ⊢
  have hl : lv_has ls 2 [(0, .ref h0), (1, .int x1)] := hl
  refine lv_iload_n hx hb dX10_isGone_0 rfl (lv_at hl 1 rfl) ?_
  refine lv_if_lt (tgt := 31) hx hb dX10_isGone_1 (by decide +kernel) (fun c_1 => ?_) (fun c_1 => ?_)
  · refine lv_iconst (v := 1) hx hb dX10_isGone_31 (by decide +kernel) ?_
    refine lv_goto (tgt := 36) hx hb dX10_isGone_32 (by decide +kernel) ?_
    exact W.zret (v := 1) hx hb hr (rfl) (fun t ht hW => ⟨⟨1, wa, rfl, ⟨(Or.inl rfl), hw_wa⟩, by rw [ht]; exact (hP.perm (sg (wr := []) 5 [0, 1, 2, 3, 4] [] rfl rfl rfl (by decide +kernel))).left, hDA ((hD.perm (sg (wr := []) 5 [0, 1, 2, 3, 4] [] rfl rfl rfl (by decide +kernel))).left)⟩, hS.F ht⟩) hS.2.2 dX10_isGone_36
  · refine lv_iload_n hx hb dX10_isGone_4 rfl (lv_at hl 1 rfl) ?_
    refine lv_aload_n hx hb dX10_isGone_5 rfl (lv_at hl 0 rfl) ?_
    refine va_get (D := D) (ci := 10) (v := .ref pl) (C := RX10) (T := TX10) (N := 12) hx hb hts iw_X10_isGone_10 hown hC.1 hP 0 rfl rfl 9 (by decide +kernel) (hts (.fieldLink RX10 19 "FairWheel" "plan" "LFairWheel$Plan;") (by decide +kernel)) (fun _ h9 => h9) rfl dX10_isGone_6 ?_
    refine va_get (D := D) (ci := 2) (v := .int (nI kn)) (C := RX2) (T := TX2) (N := 14) hx hb hts iw_X10_isGone_2 hown hC.1 hP 3 rfl rfl 3 (by decide +kernel) (hts (.fieldLink RX10 105 "FairWheel$Plan" "count" "I") (by decide +kernel)) (fun _ h9 => h9) rfl dX10_isGone_9 ?_
    refine lv_icmp_ge (tgt := 31) hx hb dX10_isGone_12 (by decide +kernel) (fun c_2 => ?_) (fun c_2 => ?_)
    · refine lv_iconst (v := 1) hx hb dX10_isGone_31 (by decide +kernel) ?_
      refine lv_goto (tgt := 36) hx hb dX10_isGone_32 (by decide +kernel) ?_
      exact W.zret (v := 1) hx hb hr (rfl) (fun t ht hW => ⟨⟨1, wa, rfl, ⟨(Or.inl rfl), hw_wa⟩, by rw [ht]; exact (hP.perm (sg (wr := []) 5 [0, 1, 2, 3, 4] [] rfl rfl rfl (by decide +kernel))).left, hDA ((hD.perm (sg (wr := []) 5 [0, 1, 2, 3, 4] [] rfl rfl rfl (by decide +kernel))).left)⟩, hS.F ht⟩) hS.2.2 dX10_isGone_36
    · refine lv_aload_n hx hb dX10_isGone_15 rfl (lv_at hl 0 rfl) ?_
      refine va_get (D := D) (ci := 10) (v := .ref lv) (C := RX10) (T := TX10) (N := 12) hx hb hts iw_X10_isGone_10 hown hC.1 hP 0 rfl rfl 2 (by decide +kernel) (hts (.fieldLink RX10 40 "FairWheel" "live" "LFairWheel$Wheel;") (by decide +kernel)) (fun _ h9 => h9) rfl dX10_isGone_16 ?_
      refine va_get (D := D) (ci := 9) (v := .ref tk) (C := RX9) (T := TX9) (N := 6) hx hb hts iw_X10_isGone_9 hown hC.1 hP 1 rfl rfl 2 (by decide +kernel) (hts (.fieldLink RX10 127 "FairWheel$Wheel" "tasks" "[LFairWheel$Task;") (by decide +kernel)) (fun _ h9 => h9) rfl dX10_isGone_19 ?_
      refine lv_iload_n hx hb dX10_isGone_22 rfl (lv_at hl 1 rfl) ?_
      obtain ⟨k_3, hk_3, rfl⟩ := nI_of c_1
      have nc_2 : ¬ (kn ≤ k_3) := fun h => c_2 ((nI_leI (a := kn) (b := k_3) (by omega) (by omega)).mpr h)
      refine ka_aldq hx hb hC.1 hP 2 5 rfl rfl k_3 rfl (by omega) (by decide +kernel) dX10_isGone_23 ?_
      refine nt_v (.ref (ta k_3)) rfl ?_
      obtain ⟨t_4_0, t_4_1, t_4_2, t_4_3, t_4_4, t_4_5, t_4_6, t_4_7, t_4_8, t_4_9, t_4_10, t_4_11, t_4_12, t_4_13, t_4_o, t_4_z, ht_4, et_4⟩ := (hw_wa k_3 (by omega)).1
      have hP := hP.perm (wx_o0 (k := k_3) (by omega) (List.not_mem_nil) et_4)
      have hD := hD.perm (wx_o0 (k := k_3) (by omega) (List.not_mem_nil) et_4)
      have hP : va_P D vwCl (wq [(ta k_3, .inr (8, [.int t_4_0, .int t_4_1, .int t_4_2, .int t_4_3, .int t_4_4, .int t_4_5, .int t_4_6, .int t_4_7, .int t_4_8, .int t_4_9, .int t_4_10, .int t_4_11, .int t_4_12, .int t_4_13, .long t_4_o, .int (nI t_4_z), .ref (ra k_3)])), (h0, .inr (10, [.ref tp, .ref rd, .ref lv, .ref tr, .ref rw, .ref bx, .ref ch, .ref si, .ref dg, .ref pl, .ref pd, .int xz])), (lv, .inr (9, [.ref pl, .int (nI kw), .ref tk, .ref hd, .ref fr, .ref cg])), (tk, .inl (ca 5, 10, .inr (.inr (.inr (.inr (fun j => some (ta j))))))), (pl, .inr (2, [.int (nI kc), .int (nI kl), .int xb, .int (nI kn), .int (nI ko), .ref p5, .ref p6, .ref p7, .ref p8, .ref p9, .ref p10, .ref p11, .ref p12, .ref p13]))] [wx wa [k_3]]) s.heap := hP
      have hD : va_D A (wq [(ta k_3, .inr (8, [.int t_4_0, .int t_4_1, .int t_4_2, .int t_4_3, .int t_4_4, .int t_4_5, .int t_4_6, .int t_4_7, .int t_4_8, .int t_4_9, .int t_4_10, .int t_4_11, .int t_4_12, .int t_4_13, .long t_4_o, .int (nI t_4_z), .ref (ra k_3)])), (h0, .inr (10, [.ref tp, .ref rd, .ref lv, .ref tr, .ref rw, .ref bx, .ref ch, .ref si, .ref dg, .ref pl, .ref pd, .int xz])), (lv, .inr (9, [.ref pl, .int (nI kw), .ref tk, .ref hd, .ref fr, .ref cg])), (tk, .inl (ca 5, 10, .inr (.inr (.inr (.inr (fun j => some (ta j))))))), (pl, .inr (2, [.int (nI kc), .int (nI kl), .int xb, .int (nI kn), .int (nI ko), .ref p5, .ref p6, .ref p7, .ref p8, .ref p9, .ref p10, .ref p11, .ref p12, .ref p13]))] [wx wa [k_3]]) := hD
      refine va_get (D := D) (ci := 8) (v := .int t_4_0) (C := RX8) (T := TX8) (N := 17) hx hb hts iw_X10_isGone_8 hown hC.1 hP 0 rfl rfl 0 (by decide +kernel) (hts (.fieldLink RX10 131 "FairWheel$Task" "phase" "I") (by decide +kernel)) (fun _ h9 => h9) rfl dX10_isGone_24 ?_
      refine lv_iconst (v := 4) hx hb dX10_isGone_27 (by decide +kernel) ?_
      refine lv_icmp_ne (tgt := 35) hx hb dX10_isGone_28 (by decide +kernel) (fun c_5 => ?_) (fun c_5 => ?_)
      · refine lv_iconst (v := 0) hx hb dX10_isGone_35 (by decide +kernel) ?_
        obtain ⟨w_6, hw_6, hP, hD⟩ : ∃ w_6, wok ca ta ra w_6 ∧ va_P D vwCl (wq [(h0, .inr (10, [.ref tp, .ref rd, .ref lv, .ref tr, .ref rw, .ref bx, .ref ch, .ref si, .ref dg, .ref pl, .ref pd, .int xz])), (lv, .inr (9, [.ref pl, .int (nI kw), .ref tk, .ref hd, .ref fr, .ref cg])), (tk, .inl (ca 5, 10, .inr (.inr (.inr (.inr (fun j => some (ta j))))))), (pl, .inr (2, [.int (nI kc), .int (nI kl), .int xb, .int (nI kn), .int (nI ko), .ref p5, .ref p6, .ref p7, .ref p8, .ref p9, .ref p10, .ref p11, .ref p12, .ref p13]))] [wx w_6 []]) s.heap ∧ va_D A (wq [(h0, .inr (10, [.ref tp, .ref rd, .ref lv, .ref tr, .ref rw, .ref bx, .ref ch, .ref si, .ref dg, .ref pl, .ref pd, .int xz])), (lv, .inr (9, [.ref pl, .int (nI kw), .ref tk, .ref hd, .ref fr, .ref cg])), (tk, .inl (ca 5, 10, .inr (.inr (.inr (.inr (fun j => some (ta j))))))), (pl, .inr (2, [.int (nI kc), .int (nI kl), .int xb, .int (nI kn), .int (nI ko), .ref p5, .ref p6, .ref p7, .ref p8, .ref p9, .ref p10, .ref p11, .ref p12, .ref p13]))] [wx w_6 []]) := ⟨_, wok_t hw_wa (k := k_3) (by omega) t_4_0 t_4_1 t_4_2 t_4_3 t_4_4 t_4_5 t_4_6 t_4_7 t_4_8 t_4_9 t_4_10 t_4_11 t_4_12 t_4_13 t_4_o t_4_z (by omega), hP.perm (wx_c0 (k := k_3) (by omega) (List.not_mem_nil)), hD.perm (wx_c0 (k := k_3) (by omega) (List.not_mem_nil))⟩
        exact W.zret (v := 0) hx hb hr (rfl) (fun t ht hW => ⟨⟨0, w_6, rfl, ⟨(Or.inr ⟨rfl, k_3, by omega, rfl⟩), hw_6⟩, by rw [ht]; exact (hP.perm (sg (wr := []) 5 [0, 1, 2, 3, 4] [] rfl rfl rfl (by decide +kernel))).left, hDA ((hD.perm (sg (wr := []) 5 [0, 1, 2, 3, 4] [] rfl rfl rfl (by decide +kernel))).left)⟩, hS.F ht⟩) hS.2.2 dX10_isGone_36
      · refine lv_iconst (v := 1) hx hb dX10_isGone_31 (by decide +kernel) ?_
        refine lv_goto (tgt := 36) hx hb dX10_isGone_32 (by decide +kernel) ?_
        obtain ⟨w_7, hw_7, hP, hD⟩ : ∃ w_7, wok ca ta ra w_7 ∧ va_P D vwCl (wq [(h0, .inr (10, [.ref tp, .ref rd, .ref lv, .ref tr, .ref rw, .ref bx, .ref ch, .ref si, .ref dg, .ref pl, .ref pd, .int xz])), (lv, .inr (9, [.ref pl, .int (nI kw), .ref tk, .ref hd, .ref fr, .ref cg])), (tk, .inl (ca 5, 10, .inr (.inr (.inr (.inr (fun j => some (ta j))))))), (pl, .inr (2, [.int (nI kc), .int (nI kl), .int xb, .int (nI kn), .int (nI ko), .ref p5, .ref p6, .ref p7, .ref p8, .ref p9, .ref p10, .ref p11, .ref p12, .ref p13]))] [wx w_7 []]) s.heap ∧ va_D A (wq [(h0, .inr (10, [.ref tp, .ref rd, .ref lv, .ref tr, .ref rw, .ref bx, .ref ch, .ref si, .ref dg, .ref pl, .ref pd, .int xz])), (lv, .inr (9, [.ref pl, .int (nI kw), .ref tk, .ref hd, .ref fr, .ref cg])), (tk, .inl (ca 5, 10, .inr (.inr (.inr (.inr (fun j => some (ta j))))))), (pl, .inr (2, [.int (nI kc), .int (nI kl), .int xb, .int (nI kn), .int (nI ko), .ref p5, .ref p6, .ref p7, .ref p8, .ref p9, .ref p10, .ref p11, .ref p12, .ref p13]))] [wx w_7 []]) := ⟨_, wok_t hw_wa (k := k_3) (by omega) t_4_0 t_4_1 t_4_2 t_4_3 t_4_4 t_4_5 t_4_6 t_4_7 t_4_8 t_4_9 t_4_10 t_4_11 t_4_12 t_4_13 t_4_o t_4_z (by omega), hP.perm (wx_c0 (k := k_3) (by omega) (List.not_mem_nil)), hD.perm (wx_c0 (k := k_3) (by omega) (List.not_mem_nil))⟩
        exact W.zret (v := 1) hx hb hr (rfl) (fun t ht hW => ⟨⟨1, w_7, rfl, ⟨(Or.inl rfl), hw_7⟩, by rw [ht]; exact (hP.perm (sg (wr := []) 5 [0, 1, 2, 3, 4] [] rfl rfl rfl (by decide +kernel))).left, hDA ((hD.perm (sg (wr := []) 5 [0, 1, 2, 3, 4] [] rfl rfl rfl (by decide +kernel))).left)⟩, hS.F ht⟩) hS.2.2 dX10_isGone_36
theorem iw_X10_chosen_10 : ∀ w ∈ u_ws RX10 TX10 12, w ∈ wsX10_chosen := by decide +kernel
set_option maxHeartbeats 4000000 in
set_option maxRecDepth 100000 in
theorem s_X10_chosen (l : Launch) (D : va_G) (ca : Nat → ClassId) (sz : Nat) (h0 : Nat) (tp : Nat) (rd : Nat) (lv : Nat) (tr : Nat) (rw : Nat) (bx : Nat) (ch : Nat) (si : Nat) (dg : Nat) (pl : Nat) (pd : Nat) (xz : Int32) (kw : Nat) (tk : Nat) (hd : Nat) (fr : Nat) (cg : Nat) (p5 : Nat) (p6 : Nat) (p7 : Nat) (p8 : Nat) (p9 : Nat) (p10 : Nat) (p11 : Nat) (p12 : Nat) (p13 : Nat) (kc : Nat) (kl : Nat) (kn : Nat) (ko : Nat) (xb : Int32) (frw : Nat → Int32) (x1 : Int32) (x2 : Int32) (wa : Nat → Nat × va_E) (ta : Nat → Nat) (ra : Nat → Nat) (hkw : kw ≤ 2000) (hkn : kn ≤ 10) (hkc : kc ≤ 4) (hkl : kl ≤ 6) (hw_wa : wok ca ta ra wa) : Met l yX10_chosen wsX10_chosen ({ frames := 1, cells := 0, slots := 0, locals := 22 }) (PC [.ref h0, .int x1, .int x2] sz D ca (wq [(h0, .inr (10, [.ref tp, .ref rd, .ref lv, .ref tr, .ref rw, .ref bx, .ref ch, .ref si, .ref dg, .ref pl, .ref pd, .int xz])), (lv, .inr (9, [.ref pl, .int (nI kw), .ref tk, .ref hd, .ref fr, .ref cg])), (tk, .inl (ca 5, 10, .inr (.inr (.inr (.inr (fun j => some (ta j))))))), (pl, .inr (2, [.int (nI kc), .int (nI kl), .int xb, .int (nI kn), .int (nI ko), .ref p5, .ref p6, .ref p7, .ref p8, .ref p9, .ref p10, .ref p11, .ref p12, .ref p13])), (rw, .inl (ca 1, 2000, .inl frw))] [wx wa []])) (QI (fun (r : Int32) (u : (Nat → Nat × va_E)) => wok ca ta ra u) (fun (u : (Nat → Nat × va_E)) => (wq [(h0, .inr (10, [.ref tp, .ref rd, .ref lv, .ref tr, .ref rw, .ref bx, .ref ch, .ref si, .ref dg, .ref pl, .ref pd, .int xz])), (lv, .inr (9, [.ref pl, .int (nI kw), .ref tk, .ref hd, .ref fr, .ref cg])), (tk, .inl (ca 5, 10, .inr (.inr (.inr (.inr (fun j => some (ta j))))))), (pl, .inr (2, [.int (nI kc), .int (nI kl), .int xb, .int (nI kn), .int (nI ko), .ref p5, .ref p6, .ref p7, .ref p8, .ref p9, .ref p10, .ref p11, .ref p12, .ref p13])), (rw, .inl (ca 1, 2000, .inl frw))] [wx u []])) (wq [(h0, .inr (10, [.ref tp, .ref rd, .ref lv, .ref tr, .ref rw, .ref bx, .ref ch, .ref si, .ref dg, .ref pl, .ref pd, .int xz])), (lv, .inr (9, [.ref pl, .int (nI kw), .ref tk, .ref hd, .ref fr, .ref cg])), (tk, .inl (ca 5, 10, .inr (.inr (.inr (.inr (fun j => some (ta j))))))), (pl, .inr (2, [.int (nI kc), .int (nI kl), .int xb, .int (nI kn), .int (nI ko), .ref p5, .ref p6, .ref p7, .ref p8, .ref p9, .ref p10, .ref p11, .ref p12, .ref p13])), (rw, .inl (ca 1, 2000, .inl frw))] [wx wa []]) sz D) 0 0 (va_A (wq [(h0, .inr (10, [.ref tp, .ref rd, .ref lv, .ref tr, .ref rw, .ref bx, .ref ch, .ref si, .ref dg, .ref pl, .ref pd, .int xz])), (lv, .inr (9, [.ref pl, .int (nI kw), .ref tk, .ref hd, .ref fr, .ref cg])), (tk, .inl (ca 5, 10, .inr (.inr (.inr (.inr (fun j => some (ta j))))))), (pl, .inr (2, [.int (nI kc), .int (nI kl), .int xb, .int (nI kn), .int (nI ko), .ref p5, .ref p6, .ref p7, .ref p8, .ref p9, .ref p10, .ref p11, .ref p12, .ref p13])), (rw, .inl (ca 1, 2000, .inl frw))] [wx wa []]) sz) := by
  refine Met.ofW (cc := cX10_chosen) (maxL := 3) (ret := (some .int)) (by decide +kernel) rfl ?_
  intro p e s m args below meth c s₁ B hml hv
  obtain ⟨rfl, hsz, hP, hC, hD0⟩ := hv
  have hx := B.exec
  have hb := B.bytes
  have hr := B.returns
  have hts := atoms_spec (ws := wsX10_chosen) B.pre
  have hown : s.vm.findClass RX10 = some m.cls := findClass_of_methodNamed B.named
  have hlocks := B.notSynchronized
  subst hsz
  have hD := hD0.self (sz := s.heap.size)
  dsimp only [QV, QI, QL, BQ]
  generalize hAe : va_A (wq [(h0, .inr (10, [.ref tp, .ref rd, .ref lv, .ref tr, .ref rw, .ref bx, .ref ch, .ref si, .ref dg, .ref pl, .ref pd, .int xz])), (lv, .inr (9, [.ref pl, .int (nI kw), .ref tk, .ref hd, .ref fr, .ref cg])), (tk, .inl (ca 5, 10, .inr (.inr (.inr (.inr (fun j => some (ta j))))))), (pl, .inr (2, [.int (nI kc), .int (nI kl), .int xb, .int (nI kn), .int (nI ko), .ref p5, .ref p6, .ref p7, .ref p8, .ref p9, .ref p10, .ref p11, .ref p12, .ref p13])), (rw, .inl (ca 1, 2000, .inl frw))] [wx wa []]) s.heap.size = A at hD ⊢
  have hA : ∀ q : Nat, s.heap.size ≤ q → A q := fun q h => by rw [← hAe]; exact Or.inr h
  have hDA : ∀ {w : va_W}, va_D A w → va_D (va_A (wq [(h0, .inr (10, [.ref tp, .ref rd, .ref lv, .ref tr, .ref rw, .ref bx, .ref ch, .ref si, .ref dg, .ref pl, .ref pd, .int xz])), (lv, .inr (9, [.ref pl, .int (nI kw), .ref tk, .ref hd, .ref fr, .ref cg])), (tk, .inl (ca 5, 10, .inr (.inr (.inr (.inr (fun j => some (ta j))))))), (pl, .inr (2, [.int (nI kc), .int (nI kl), .int xb, .int (nI kn), .int (nI ko), .ref p5, .ref p6, .ref p7, .ref p8, .ref p9, .ref p10, .ref p11, .ref p12, .ref p13])), (rw, .inl (ca 1, 2000, .inl frw))] [wx wa []]) s.heap.size) w := fun h => by rw [hAe]; exact h
  have hS : va_S A s.heap s.heap [] := va_S.rf
  have hP : va_P D vwCl (wq [(h0, .inr (10, [.ref tp, .ref rd, .ref lv, .ref tr, .ref rw, .ref bx, .ref ch, .ref si, .ref dg, .ref pl, .ref pd, .int xz])), (lv, .inr (9, [.ref pl, .int (nI kw), .ref tk, .ref hd, .ref fr, .ref cg])), (tk, .inl (ca 5, 10, .inr (.inr (.inr (.inr (fun j => some (ta j))))))), (pl, .inr (2, [.int (nI kc), .int (nI kl), .int xb, .int (nI kn), .int (nI ko), .ref p5, .ref p6, .ref p7, .ref p8, .ref p9, .ref p10, .ref p11, .ref p12, .ref p13])), (rw, .inl (ca 1, 2000, .inl frw))] [wx wa []]) s.heap := hP
  have hl := lv_entry ([.ref h0, .int x1, .int x2]) (n := 3) (Nat.le_of_ble_eq_true rfl)
  rw [lg_entry_eq]
  generalize (lg_sl ([.ref h0, .int x1, .int x2]) ++ List.replicate (3 - (lg_sl ([.ref h0, .int x1, .int x2])).length) Slot.unset).toArray = ls at hl ⊢
  have hl : lv_has ls 3 [(0, .ref h0), (1, .int x1), (2, .int x2)] := hl
  refine lv_aload_n hx hb dX10_chosen_0 rfl (lv_at hl 0 rfl) ?_
  refine lv_iload_n hx hb dX10_chosen_1 rfl (lv_at hl 1 rfl) ?_
  refine lv_iload_n hx hb dX10_chosen_2 rfl (lv_at hl 2 rfl) ?_
  have hq_1 : List.Perm (wq [(h0, .inr (10, [.ref tp, .ref rd, .ref lv, .ref tr, .ref rw, .ref bx, .ref ch, .ref si, .ref dg, .ref pl, .ref pd, .int xz])), (lv, .inr (9, [.ref pl, .int (nI kw), .ref tk, .ref hd, .ref fr, .ref cg])), (tk, .inl (ca 5, 10, .inr (.inr (.inr (.inr (fun j => some (ta j))))))), (pl, .inr (2, [.int (nI kc), .int (nI kl), .int xb, .int (nI kn), .int (nI ko), .ref p5, .ref p6, .ref p7, .ref p8, .ref p9, .ref p10, .ref p11, .ref p12, .ref p13])), (rw, .inl (ca 1, 2000, .inl frw))] [wx wa []]) (ap (wq [(h0, .inr (10, [.ref tp, .ref rd, .ref lv, .ref tr, .ref rw, .ref bx, .ref ch, .ref si, .ref dg, .ref pl, .ref pd, .int xz])), (lv, .inr (9, [.ref pl, .int (nI kw), .ref tk, .ref hd, .ref fr, .ref cg])), (tk, .inl (ca 5, 10, .inr (.inr (.inr (.inr (fun j => some (ta j))))))), (pl, .inr (2, [.int (nI kc), .int (nI kl), .int xb, .int (nI kn), .int (nI ko), .ref p5, .ref p6, .ref p7, .ref p8, .ref p9, .ref p10, .ref p11, .ref p12, .ref p13])), (rw, .inl (ca 1, 2000, .inl frw))] [wx wa []]) []) := sg 6 [0, 1, 2, 3, 4, 5] [] rfl rfl rfl (by decide +kernel)
  refine kp_i (va_runV (As := [.int x1, .int x2]) (rest := []) ⟨hx, hb, hml, hown, hts⟩ (s_X10_wasChosenIn l D ca s.heap.size h0 tp rd lv tr rw bx ch si dg pl pd xz kw tk hd fr cg p5 p6 p7 p8 p9 p10 p11 p12 p13 kc kl kn ko xb frw x1 x2 wa ta ra (by omega) (by omega) (by omega) (by omega) hw_wa) (cwV 2 hts gX10_chosen_X10_wasChosenIn rfl rfl rfl (by decide +kernel) ⟨(Nat.le_of_ble_eq_true rfl), (Nat.le_of_ble_eq_true rfl)⟩) (PC.preVp (ci := 10) hC hP hD hq_1 rfl rfl) rfl rfl hl.1 rfl (lv_room (Nat.le_of_ble_eq_true rfl)) dX10_chosen_3 ⟨(Nat.le_of_ble_eq_true rfl), (Nat.le_of_ble_eq_true rfl)⟩) hP hD hS hA hq_1 (fun _ => sg0) (fun r_2 u_4 H locs hw_3 hP hD hS => ?_)
  obtain ⟨w_5, rfl⟩ : ∃ z, z = u_4 := ⟨_, rfl⟩
  obtain ⟨hu_6, hu_7⟩ := hw_3
  have hP : va_P D vwCl (wq [(h0, .inr (10, [.ref tp, .ref rd, .ref lv, .ref tr, .ref rw, .ref bx, .ref ch, .ref si, .ref dg, .ref pl, .ref pd, .int xz])), (lv, .inr (9, [.ref pl, .int (nI kw), .ref tk, .ref hd, .ref fr, .ref cg])), (tk, .inl (ca 5, 10, .inr (.inr (.inr (.inr (fun j => some (ta j))))))), (pl, .inr (2, [.int (nI kc), .int (nI kl), .int xb, .int (nI kn), .int (nI ko), .ref p5, .ref p6, .ref p7, .ref p8, .ref p9, .ref p10, .ref p11, .ref p12, .ref p13])), (rw, .inl (ca 1, 2000, .inl frw))] [wx w_5 []]) H := hP
  have hD : va_D A (wq [(h0, .inr (10, [.ref tp, .ref rd, .ref lv, .ref tr, .ref rw, .ref bx, .ref ch, .ref si, .ref dg, .ref pl, .ref pd, .int xz])), (lv, .inr (9, [.ref pl, .int (nI kw), .ref tk, .ref hd, .ref fr, .ref cg])), (tk, .inl (ca 5, 10, .inr (.inr (.inr (.inr (fun j => some (ta j))))))), (pl, .inr (2, [.int (nI kc), .int (nI kl), .int xb, .int (nI kn), .int (nI ko), .ref p5, .ref p6, .ref p7, .ref p8, .ref p9, .ref p10, .ref p11, .ref p12, .ref p13])), (rw, .inl (ca 1, 2000, .inl frw))] [wx w_5 []]) := hD
  refine lv_if_ne (tgt := 11) hx hb dX10_chosen_6 (by decide +kernel) (fun c_8 => ?_) (fun c_8 => ?_)
  · obtain ⟨-, k_9, hk_9, rfl⟩ := hu_6.resolve_left c_8
    refine lv_aload_n hx hb dX10_chosen_11 rfl (lv_at hl 0 rfl) ?_
    refine va_get (D := D) (ci := 10) (v := .ref rw) (C := RX10) (T := TX10) (N := 12) hx hb hts iw_X10_chosen_10 hown hC.1 hP 0 rfl rfl 4 (by decide +kernel) (hts (.fieldLink RX10 47 "FairWheel" "rows" "[I") (by decide +kernel)) (fun _ h9 => h9) rfl dX10_chosen_12 ?_
    refine lv_iload_n hx hb dX10_chosen_15 rfl (lv_at hl 1 rfl) ?_
    refine ka_iald hx hb hC.1 hP 4 1 rfl rfl k_9 rfl (by omega) (by decide +kernel) dX10_chosen_16 ?_
    refine lv_topi (fun y_10 ey_10 => ?_)
    refine lv_iload_n hx hb dX10_chosen_17 rfl (lv_at hl 2 rfl) ?_
    have hq_11 : List.Perm (wq [(h0, .inr (10, [.ref tp, .ref rd, .ref lv, .ref tr, .ref rw, .ref bx, .ref ch, .ref si, .ref dg, .ref pl, .ref pd, .int xz])), (lv, .inr (9, [.ref pl, .int (nI kw), .ref tk, .ref hd, .ref fr, .ref cg])), (tk, .inl (ca 5, 10, .inr (.inr (.inr (.inr (fun j => some (ta j))))))), (pl, .inr (2, [.int (nI kc), .int (nI kl), .int xb, .int (nI kn), .int (nI ko), .ref p5, .ref p6, .ref p7, .ref p8, .ref p9, .ref p10, .ref p11, .ref p12, .ref p13])), (rw, .inl (ca 1, 2000, .inl frw))] [wx w_5 []]) (ap [] (wq [(h0, .inr (10, [.ref tp, .ref rd, .ref lv, .ref tr, .ref rw, .ref bx, .ref ch, .ref si, .ref dg, .ref pl, .ref pd, .int xz])), (lv, .inr (9, [.ref pl, .int (nI kw), .ref tk, .ref hd, .ref fr, .ref cg])), (tk, .inl (ca 5, 10, .inr (.inr (.inr (.inr (fun j => some (ta j))))))), (pl, .inr (2, [.int (nI kc), .int (nI kl), .int xb, .int (nI kn), .int (nI ko), .ref p5, .ref p6, .ref p7, .ref p8, .ref p9, .ref p10, .ref p11, .ref p12, .ref p13])), (rw, .inl (ca 1, 2000, .inl frw))] [wx w_5 []])) := sg 6 [] [0, 1, 2, 3, 4, 5] rfl rfl rfl (by decide +kernel)
    refine kp_i (va_runS (As := [.int y_10, .int x2]) (rest := []) ⟨hx, hb, hml, hown, hts⟩ (s_X10_pick l D ca H.size y_10 x2) (va_cwS 2 hts gX10_chosen_X10_pick rfl rfl rfl (by decide +kernel) ⟨(Nat.le_of_ble_eq_true rfl), (Nat.le_of_ble_eq_true rfl)⟩) (PC.preSp hC hP hD hq_11) rfl rfl hl.1 rfl (lv_room (Nat.le_of_ble_eq_true rfl)) dX10_chosen_18 ⟨(Nat.le_of_ble_eq_true rfl), (Nat.le_of_ble_eq_true rfl)⟩) hP hD hS hA hq_11 (fun _ => sg1) (fun r_12 u_14 H locs hw_13 hP hD hS => ?_)
    have hP : va_P D vwCl (wq [(h0, .inr (10, [.ref tp, .ref rd, .ref lv, .ref tr, .ref rw, .ref bx, .ref ch, .ref si, .ref dg, .ref pl, .ref pd, .int xz])), (lv, .inr (9, [.ref pl, .int (nI kw), .ref tk, .ref hd, .ref fr, .ref cg])), (tk, .inl (ca 5, 10, .inr (.inr (.inr (.inr (fun j => some (ta j))))))), (pl, .inr (2, [.int (nI kc), .int (nI kl), .int xb, .int (nI kn), .int (nI ko), .ref p5, .ref p6, .ref p7, .ref p8, .ref p9, .ref p10, .ref p11, .ref p12, .ref p13])), (rw, .inl (ca 1, 2000, .inl frw))] [wx w_5 []]) H := hP
    have hD : va_D A (wq [(h0, .inr (10, [.ref tp, .ref rd, .ref lv, .ref tr, .ref rw, .ref bx, .ref ch, .ref si, .ref dg, .ref pl, .ref pd, .int xz])), (lv, .inr (9, [.ref pl, .int (nI kw), .ref tk, .ref hd, .ref fr, .ref cg])), (tk, .inl (ca 5, 10, .inr (.inr (.inr (.inr (fun j => some (ta j))))))), (pl, .inr (2, [.int (nI kc), .int (nI kl), .int xb, .int (nI kn), .int (nI ko), .ref p5, .ref p6, .ref p7, .ref p8, .ref p9, .ref p10, .ref p11, .ref p12, .ref p13])), (rw, .inl (ca 1, 2000, .inl frw))] [wx w_5 []]) := hD
    exact W.iret (v := r_12) hx hb hr (fun t ht hW => ⟨⟨r_12, w_5, rfl, hu_7, by rw [ht]; exact (hP.perm (sg (wr := []) 6 [0, 1, 2, 3, 4, 5] [] rfl rfl rfl (by decide +kernel))).left, hDA ((hD.perm (sg (wr := []) 6 [0, 1, 2, 3, 4, 5] [] rfl rfl rfl (by decide +kernel))).left)⟩, hS.F ht⟩) hS.2.2 dX10_chosen_21
  · refine lv_iconst (v := (-1)) hx hb dX10_chosen_9 (by decide +kernel) ?_
    exact W.iret (v := (-1)) hx hb hr (fun t ht hW => ⟨⟨(-1), w_5, rfl, hu_7, by rw [ht]; exact (hP.perm (sg (wr := []) 6 [0, 1, 2, 3, 4, 5] [] rfl rfl rfl (by decide +kernel))).left, hDA ((hD.perm (sg (wr := []) 6 [0, 1, 2, 3, 4, 5] [] rfl rfl rfl (by decide +kernel))).left)⟩, hS.F ht⟩) hS.2.2 dX10_chosen_10
theorem iw_X10_task_2 : ∀ w ∈ u_ws RX2 TX2 14, w ∈ wsX10_task := by decide +kernel
theorem iw_X10_task_8 : ∀ w ∈ u_ws RX8 TX8 17, w ∈ wsX10_task := by decide +kernel
theorem iw_X10_task_9 : ∀ w ∈ u_ws RX9 TX9 6, w ∈ wsX10_task := by decide +kernel
theorem iw_X10_task_10 : ∀ w ∈ u_ws RX10 TX10 12, w ∈ wsX10_task := by decide +kernel
set_option maxHeartbeats 4000000 in
set_option maxRecDepth 100000 in
theorem s_X10_task (l : Launch) (D : va_G) (ca : Nat → ClassId) (sz : Nat) (h0 : Nat) (tp : Nat) (rd : Nat) (lv : Nat) (tr : Nat) (rw : Nat) (bx : Nat) (ch : Nat) (si : Nat) (dg : Nat) (pl : Nat) (pd : Nat) (xz : Int32) (kw : Nat) (tk : Nat) (hd : Nat) (fr : Nat) (cg : Nat) (p5 : Nat) (p6 : Nat) (p7 : Nat) (p8 : Nat) (p9 : Nat) (p10 : Nat) (p11 : Nat) (p12 : Nat) (p13 : Nat) (kc : Nat) (kl : Nat) (kn : Nat) (ko : Nat) (xb : Int32) (x1 : Int32) (x2 : Int32) (wa : Nat → Nat × va_E) (ta : Nat → Nat) (ra : Nat → Nat) (hkw : kw ≤ 2000) (hkn : kn ≤ 10) (hkc : kc ≤ 4) (hkl : kl ≤ 6) (hw_wa : wok ca ta ra wa) : Met l yX10_task wsX10_task ({ frames := 0, cells := 0, slots := 0, locals := 0 }) (PC [.ref h0, .int x1, .int x2] sz D ca (wq [(h0, .inr (10, [.ref tp, .ref rd, .ref lv, .ref tr, .ref rw, .ref bx, .ref ch, .ref si, .ref dg, .ref pl, .ref pd, .int xz])), (lv, .inr (9, [.ref pl, .int (nI kw), .ref tk, .ref hd, .ref fr, .ref cg])), (tk, .inl (ca 5, 10, .inr (.inr (.inr (.inr (fun j => some (ta j))))))), (pl, .inr (2, [.int (nI kc), .int (nI kl), .int xb, .int (nI kn), .int (nI ko), .ref p5, .ref p6, .ref p7, .ref p8, .ref p9, .ref p10, .ref p11, .ref p12, .ref p13]))] [wx wa []])) (QI (fun (r : Int32) (u : (Nat → Nat × va_E)) => wok ca ta ra u) (fun (u : (Nat → Nat × va_E)) => (wq [(h0, .inr (10, [.ref tp, .ref rd, .ref lv, .ref tr, .ref rw, .ref bx, .ref ch, .ref si, .ref dg, .ref pl, .ref pd, .int xz])), (lv, .inr (9, [.ref pl, .int (nI kw), .ref tk, .ref hd, .ref fr, .ref cg])), (tk, .inl (ca 5, 10, .inr (.inr (.inr (.inr (fun j => some (ta j))))))), (pl, .inr (2, [.int (nI kc), .int (nI kl), .int xb, .int (nI kn), .int (nI ko), .ref p5, .ref p6, .ref p7, .ref p8, .ref p9, .ref p10, .ref p11, .ref p12, .ref p13]))] [wx u []])) (wq [(h0, .inr (10, [.ref tp, .ref rd, .ref lv, .ref tr, .ref rw, .ref bx, .ref ch, .ref si, .ref dg, .ref pl, .ref pd, .int xz])), (lv, .inr (9, [.ref pl, .int (nI kw), .ref tk, .ref hd, .ref fr, .ref cg])), (tk, .inl (ca 5, 10, .inr (.inr (.inr (.inr (fun j => some (ta j))))))), (pl, .inr (2, [.int (nI kc), .int (nI kl), .int xb, .int (nI kn), .int (nI ko), .ref p5, .ref p6, .ref p7, .ref p8, .ref p9, .ref p10, .ref p11, .ref p12, .ref p13]))] [wx wa []]) sz D) 0 0 (va_A (wq [(h0, .inr (10, [.ref tp, .ref rd, .ref lv, .ref tr, .ref rw, .ref bx, .ref ch, .ref si, .ref dg, .ref pl, .ref pd, .int xz])), (lv, .inr (9, [.ref pl, .int (nI kw), .ref tk, .ref hd, .ref fr, .ref cg])), (tk, .inl (ca 5, 10, .inr (.inr (.inr (.inr (fun j => some (ta j))))))), (pl, .inr (2, [.int (nI kc), .int (nI kl), .int xb, .int (nI kn), .int (nI ko), .ref p5, .ref p6, .ref p7, .ref p8, .ref p9, .ref p10, .ref p11, .ref p12, .ref p13]))] [wx wa []]) sz) := by
  refine Met.ofW (cc := cX10_task) (maxL := 4) (ret := (some .int)) (by decide +kernel) rfl ?_
  intro p e s m args below meth c s₁ B hml hv
  obtain ⟨rfl, hsz, hP, hC, hD0⟩ := hv
  have hx := B.exec
  have hb := B.bytes
  have hr := B.returns
  have hts := atoms_spec (ws := wsX10_task) B.pre
  have hown : s.vm.findClass RX10 = some m.cls := findClass_of_methodNamed B.named
  have hlocks := B.notSynchronized
  subst hsz
  have hD := hD0.self (sz := s.heap.size)
  dsimp only [QV, QI, QL, BQ]
  generalize hAe : va_A (wq [(h0, .inr (10, [.ref tp, .ref rd, .ref lv, .ref tr, .ref rw, .ref bx, .ref ch, .ref si, .ref dg, .ref pl, .ref pd, .int xz])), (lv, .inr (9, [.ref pl, .int (nI kw), .ref tk, .ref hd, .ref fr, .ref cg])), (tk, .inl (ca 5, 10, .inr (.inr (.inr (.inr (fun j => some (ta j))))))), (pl, .inr (2, [.int (nI kc), .int (nI kl), .int xb, .int (nI kn), .int (nI ko), .ref p5, .ref p6, .ref p7, .ref p8, .ref p9, .ref p10, .ref p11, .ref p12, .ref p13]))] [wx wa []]) s.heap.size = A at hD ⊢
  have hA : ∀ q : Nat, s.heap.size ≤ q → A q := fun q h => by rw [← hAe]; exact Or.inr h
  have hDA : ∀ {w : va_W}, va_D A w → va_D (va_A (wq [(h0, .inr (10, [.ref tp, .ref rd, .ref lv, .ref tr, .ref rw, .ref bx, .ref ch, .ref si, .ref dg, .ref pl, .ref pd, .int xz])), (lv, .inr (9, [.ref pl, .int (nI kw), .ref tk, .ref hd, .ref fr, .ref cg])), (tk, .inl (ca 5, 10, .inr (.inr (.inr (.inr (fun j => some (ta j))))))), (pl, .inr (2, [.int (nI kc), .int (nI kl), .int xb, .int (nI kn), .int (nI ko), .ref p5, .ref p6, .ref p7, .ref p8, .ref p9, .ref p10, .ref p11, .ref p12, .ref p13]))] [wx wa []]) s.heap.size) w := fun h => by rw [hAe]; exact h
  have hS : va_S A s.heap s.heap [] := va_S.rf
  have hP : va_P D vwCl (wq [(h0, .inr (10, [.ref tp, .ref rd, .ref lv, .ref tr, .ref rw, .ref bx, .ref ch, .ref si, .ref dg, .ref pl, .ref pd, .int xz])), (lv, .inr (9, [.ref pl, .int (nI kw), .ref tk, .ref hd, .ref fr, .ref cg])), (tk, .inl (ca 5, 10, .inr (.inr (.inr (.inr (fun j => some (ta j))))))), (pl, .inr (2, [.int (nI kc), .int (nI kl), .int xb, .int (nI kn), .int (nI ko), .ref p5, .ref p6, .ref p7, .ref p8, .ref p9, .ref p10, .ref p11, .ref p12, .ref p13]))] [wx wa []]) s.heap := hP
  have hl := lv_entry ([.ref h0, .int x1, .int x2]) (n := 4) (Nat.le_of_ble_eq_true rfl)
  rw [lg_entry_eq]
  generalize (lg_sl ([.ref h0, .int x1, .int x2]) ++ List.replicate (4 - (lg_sl ([.ref h0, .int x1, .int x2])).length) Slot.unset).toArray = ls at hl ⊢
  have hl : lv_has ls 4 [(0, .ref h0), (1, .int x1), (2, .int x2)] := hl
  refine lv_iload_n hx hb dX10_task_0 rfl (lv_at hl 1 rfl) ?_
  refine lv_if_lt (tgt := 15) hx hb dX10_task_1 (by decide +kernel) (fun c_1 => ?_) (fun c_1 => ?_)
  · refine lv_bipush (v := (-2)) hx hb dX10_task_15 (by decide +kernel) ?_
    exact W.iret (v := (-2)) hx hb hr (fun t ht hW => ⟨⟨(-2), wa, rfl, hw_wa, by rw [ht]; exact (hP.perm (sg (wr := []) 5 [0, 1, 2, 3, 4] [] rfl rfl rfl (by decide +kernel))).left, hDA ((hD.perm (sg (wr := []) 5 [0, 1, 2, 3, 4] [] rfl rfl rfl (by decide +kernel))).left)⟩, hS.F ht⟩) hS.2.2 dX10_task_17
  · refine lv_iload_n hx hb dX10_task_4 rfl (lv_at hl 1 rfl) ?_
    refine lv_aload_n hx hb dX10_task_5 rfl (lv_at hl 0 rfl) ?_
    refine va_get (D := D) (ci := 10) (v := .ref pl) (C := RX10) (T := TX10) (N := 12) hx hb hts iw_X10_task_10 hown hC.1 hP 0 rfl rfl 9 (by decide +kernel) (hts (.fieldLink RX10 19 "FairWheel" "plan" "LFairWheel$Plan;") (by decide +kernel)) (fun _ h9 => h9) rfl dX10_task_6 ?_
    refine va_get (D := D) (ci := 2) (v := .int (nI kn)) (C := RX2) (T := TX2) (N := 14) hx hb hts iw_X10_task_2 hown hC.1 hP 3 rfl rfl 3 (by decide +kernel) (hts (.fieldLink RX10 105 "FairWheel$Plan" "count" "I") (by decide +kernel)) (fun _ h9 => h9) rfl dX10_task_9 ?_
    refine lv_icmp_lt (tgt := 18) hx hb dX10_task_12 (by decide +kernel) (fun c_2 => ?_) (fun c_2 => ?_)
    · refine lv_aload_n hx hb dX10_task_18 rfl (lv_at hl 0 rfl) ?_
      refine va_get (D := D) (ci := 10) (v := .ref lv) (C := RX10) (T := TX10) (N := 12) hx hb hts iw_X10_task_10 hown hC.1 hP 0 rfl rfl 2 (by decide +kernel) (hts (.fieldLink RX10 40 "FairWheel" "live" "LFairWheel$Wheel;") (by decide +kernel)) (fun _ h9 => h9) rfl dX10_task_19 ?_
      refine va_get (D := D) (ci := 9) (v := .ref tk) (C := RX9) (T := TX9) (N := 6) hx hb hts iw_X10_task_9 hown hC.1 hP 1 rfl rfl 2 (by decide +kernel) (hts (.fieldLink RX10 127 "FairWheel$Wheel" "tasks" "[LFairWheel$Task;") (by decide +kernel)) (fun _ h9 => h9) rfl dX10_task_22 ?_
      refine lv_iload_n hx hb dX10_task_25 rfl (lv_at hl 1 rfl) ?_
      obtain ⟨k_3, hk_3, rfl⟩ := nI_of c_1
      have nc_2 : k_3 < kn := (nI_ltI (a := k_3) (b := kn) (by omega) (by omega)).mp c_2
      refine ka_aldq hx hb hC.1 hP 2 5 rfl rfl k_3 rfl (by omega) (by decide +kernel) dX10_task_26 ?_
      refine nt_v (.ref (ta k_3)) rfl ?_
      refine lv_astore_n (lv' := [(3, .ref (ta k_3)), (0, .ref h0), (1, .int (nI k_3)), (2, .int x2)]) hx hb dX10_task_27 rfl hl (by decide +kernel) rfl (fun ls hl => ?_)
      refine lv_iload_n hx hb dX10_task_28 rfl (lv_at hl 3 rfl) ?_
      refine (Decidable.em (x2 = 0)).elim (fun c_5 => ?_) (fun c_5 => ?_)
      · refine nt_i 0 c_5 ?_
        refine lv_tableIn (off := 67) (tgt := 96) hx hb dX10_task_29 (by decide +kernel) (by decide +kernel) (by decide +kernel) (by decide +kernel) ?_
        refine lv_aload_n hx hb dX10_task_96 rfl (lv_at hl 0 rfl) ?_
        obtain ⟨t_6_0, t_6_1, t_6_2, t_6_3, t_6_4, t_6_5, t_6_6, t_6_7, t_6_8, t_6_9, t_6_10, t_6_11, t_6_12, t_6_13, t_6_o, t_6_z, ht_6, et_6⟩ := (hw_wa k_3 (by omega)).1
        have hP := hP.perm (wx_o0 (k := k_3) (by omega) (List.not_mem_nil) et_6)
        have hD := hD.perm (wx_o0 (k := k_3) (by omega) (List.not_mem_nil) et_6)
        have hP : va_P D vwCl (wq [(ta k_3, .inr (8, [.int t_6_0, .int t_6_1, .int t_6_2, .int t_6_3, .int t_6_4, .int t_6_5, .int t_6_6, .int t_6_7, .int t_6_8, .int t_6_9, .int t_6_10, .int t_6_11, .int t_6_12, .int t_6_13, .long t_6_o, .int (nI t_6_z), .ref (ra k_3)])), (h0, .inr (10, [.ref tp, .ref rd, .ref lv, .ref tr, .ref rw, .ref bx, .ref ch, .ref si, .ref dg, .ref pl, .ref pd, .int xz])), (lv, .inr (9, [.ref pl, .int (nI kw), .ref tk, .ref hd, .ref fr, .ref cg])), (tk, .inl (ca 5, 10, .inr (.inr (.inr (.inr (fun j => some (ta j))))))), (pl, .inr (2, [.int (nI kc), .int (nI kl), .int xb, .int (nI kn), .int (nI ko), .ref p5, .ref p6, .ref p7, .ref p8, .ref p9, .ref p10, .ref p11, .ref p12, .ref p13]))] [wx wa [k_3]]) s.heap := hP
        have hD : va_D A (wq [(ta k_3, .inr (8, [.int t_6_0, .int t_6_1, .int t_6_2, .int t_6_3, .int t_6_4, .int t_6_5, .int t_6_6, .int t_6_7, .int t_6_8, .int t_6_9, .int t_6_10, .int t_6_11, .int t_6_12, .int t_6_13, .long t_6_o, .int (nI t_6_z), .ref (ra k_3)])), (h0, .inr (10, [.ref tp, .ref rd, .ref lv, .ref tr, .ref rw, .ref bx, .ref ch, .ref si, .ref dg, .ref pl, .ref pd, .int xz])), (lv, .inr (9, [.ref pl, .int (nI kw), .ref tk, .ref hd, .ref fr, .ref cg])), (tk, .inl (ca 5, 10, .inr (.inr (.inr (.inr (fun j => some (ta j))))))), (pl, .inr (2, [.int (nI kc), .int (nI kl), .int xb, .int (nI kn), .int (nI ko), .ref p5, .ref p6, .ref p7, .ref p8, .ref p9, .ref p10, .ref p11, .ref p12, .ref p13]))] [wx wa [k_3]]) := hD
        refine va_get (D := D) (ci := 8) (v := .int t_6_0) (C := RX8) (T := TX8) (N := 17) hx hb hts iw_X10_task_8 hown hC.1 hP 0 rfl rfl 0 (by decide +kernel) (hts (.fieldLink RX10 131 "FairWheel$Task" "phase" "I") (by decide +kernel)) (fun _ h9 => h9) rfl dX10_task_97 ?_
        obtain ⟨w_7, hw_7, hP, hD⟩ : ∃ w_7, wok ca ta ra w_7 ∧ va_P D vwCl (wq [(h0, .inr (10, [.ref tp, .ref rd, .ref lv, .ref tr, .ref rw, .ref bx, .ref ch, .ref si, .ref dg, .ref pl, .ref pd, .int xz])), (lv, .inr (9, [.ref pl, .int (nI kw), .ref tk, .ref hd, .ref fr, .ref cg])), (tk, .inl (ca 5, 10, .inr (.inr (.inr (.inr (fun j => some (ta j))))))), (pl, .inr (2, [.int (nI kc), .int (nI kl), .int xb, .int (nI kn), .int (nI ko), .ref p5, .ref p6, .ref p7, .ref p8, .ref p9, .ref p10, .ref p11, .ref p12, .ref p13]))] [wx w_7 []]) s.heap ∧ va_D A (wq [(h0, .inr (10, [.ref tp, .ref rd, .ref lv, .ref tr, .ref rw, .ref bx, .ref ch, .ref si, .ref dg, .ref pl, .ref pd, .int xz])), (lv, .inr (9, [.ref pl, .int (nI kw), .ref tk, .ref hd, .ref fr, .ref cg])), (tk, .inl (ca 5, 10, .inr (.inr (.inr (.inr (fun j => some (ta j))))))), (pl, .inr (2, [.int (nI kc), .int (nI kl), .int xb, .int (nI kn), .int (nI ko), .ref p5, .ref p6, .ref p7, .ref p8, .ref p9, .ref p10, .ref p11, .ref p12, .ref p13]))] [wx w_7 []]) := ⟨_, wok_t hw_wa (k := k_3) (by omega) t_6_0 t_6_1 t_6_2 t_6_3 t_6_4 t_6_5 t_6_6 t_6_7 t_6_8 t_6_9 t_6_10 t_6_11 t_6_12 t_6_13 t_6_o t_6_z (by omega), hP.perm (wx_c0 (k := k_3) (by omega) (List.not_mem_nil)), hD.perm (wx_c0 (k := k_3) (by omega) (List.not_mem_nil))⟩
        exact W.iret (v := t_6_0) hx hb hr (fun t ht hW => ⟨⟨t_6_0, w_7, rfl, hw_7, by rw [ht]; exact (hP.perm (sg (wr := []) 5 [0, 1, 2, 3, 4] [] rfl rfl rfl (by decide +kernel))).left, hDA ((hD.perm (sg (wr := []) 5 [0, 1, 2, 3, 4] [] rfl rfl rfl (by decide +kernel))).left)⟩, hS.F ht⟩) hS.2.2 dX10_task_100
      refine (Decidable.em (x2 = 1)).elim (fun c_8 => ?_) (fun c_8 => ?_)
      · refine nt_i 1 c_8 ?_
        refine lv_tableIn (off := 72) (tgt := 101) hx hb dX10_task_29 (by decide +kernel) (by decide +kernel) (by decide +kernel) (by decide +kernel) ?_
        refine lv_aload_n hx hb dX10_task_101 rfl (lv_at hl 0 rfl) ?_
        obtain ⟨t_9_0, t_9_1, t_9_2, t_9_3, t_9_4, t_9_5, t_9_6, t_9_7, t_9_8, t_9_9, t_9_10, t_9_11, t_9_12, t_9_13, t_9_o, t_9_z, ht_9, et_9⟩ := (hw_wa k_3 (by omega)).1
        have hP := hP.perm (wx_o0 (k := k_3) (by omega) (List.not_mem_nil) et_9)
        have hD := hD.perm (wx_o0 (k := k_3) (by omega) (List.not_mem_nil) et_9)
        have hP : va_P D vwCl (wq [(ta k_3, .inr (8, [.int t_9_0, .int t_9_1, .int t_9_2, .int t_9_3, .int t_9_4, .int t_9_5, .int t_9_6, .int t_9_7, .int t_9_8, .int t_9_9, .int t_9_10, .int t_9_11, .int t_9_12, .int t_9_13, .long t_9_o, .int (nI t_9_z), .ref (ra k_3)])), (h0, .inr (10, [.ref tp, .ref rd, .ref lv, .ref tr, .ref rw, .ref bx, .ref ch, .ref si, .ref dg, .ref pl, .ref pd, .int xz])), (lv, .inr (9, [.ref pl, .int (nI kw), .ref tk, .ref hd, .ref fr, .ref cg])), (tk, .inl (ca 5, 10, .inr (.inr (.inr (.inr (fun j => some (ta j))))))), (pl, .inr (2, [.int (nI kc), .int (nI kl), .int xb, .int (nI kn), .int (nI ko), .ref p5, .ref p6, .ref p7, .ref p8, .ref p9, .ref p10, .ref p11, .ref p12, .ref p13]))] [wx wa [k_3]]) s.heap := hP
        have hD : va_D A (wq [(ta k_3, .inr (8, [.int t_9_0, .int t_9_1, .int t_9_2, .int t_9_3, .int t_9_4, .int t_9_5, .int t_9_6, .int t_9_7, .int t_9_8, .int t_9_9, .int t_9_10, .int t_9_11, .int t_9_12, .int t_9_13, .long t_9_o, .int (nI t_9_z), .ref (ra k_3)])), (h0, .inr (10, [.ref tp, .ref rd, .ref lv, .ref tr, .ref rw, .ref bx, .ref ch, .ref si, .ref dg, .ref pl, .ref pd, .int xz])), (lv, .inr (9, [.ref pl, .int (nI kw), .ref tk, .ref hd, .ref fr, .ref cg])), (tk, .inl (ca 5, 10, .inr (.inr (.inr (.inr (fun j => some (ta j))))))), (pl, .inr (2, [.int (nI kc), .int (nI kl), .int xb, .int (nI kn), .int (nI ko), .ref p5, .ref p6, .ref p7, .ref p8, .ref p9, .ref p10, .ref p11, .ref p12, .ref p13]))] [wx wa [k_3]]) := hD
        refine va_get (D := D) (ci := 8) (v := .int t_9_1) (C := RX8) (T := TX8) (N := 17) hx hb hts iw_X10_task_8 hown hC.1 hP 0 rfl rfl 1 (by decide +kernel) (hts (.fieldLink RX10 136 "FairWheel$Task" "op" "I") (by decide +kernel)) (fun _ h9 => h9) rfl dX10_task_102 ?_
        obtain ⟨w_10, hw_10, hP, hD⟩ : ∃ w_10, wok ca ta ra w_10 ∧ va_P D vwCl (wq [(h0, .inr (10, [.ref tp, .ref rd, .ref lv, .ref tr, .ref rw, .ref bx, .ref ch, .ref si, .ref dg, .ref pl, .ref pd, .int xz])), (lv, .inr (9, [.ref pl, .int (nI kw), .ref tk, .ref hd, .ref fr, .ref cg])), (tk, .inl (ca 5, 10, .inr (.inr (.inr (.inr (fun j => some (ta j))))))), (pl, .inr (2, [.int (nI kc), .int (nI kl), .int xb, .int (nI kn), .int (nI ko), .ref p5, .ref p6, .ref p7, .ref p8, .ref p9, .ref p10, .ref p11, .ref p12, .ref p13]))] [wx w_10 []]) s.heap ∧ va_D A (wq [(h0, .inr (10, [.ref tp, .ref rd, .ref lv, .ref tr, .ref rw, .ref bx, .ref ch, .ref si, .ref dg, .ref pl, .ref pd, .int xz])), (lv, .inr (9, [.ref pl, .int (nI kw), .ref tk, .ref hd, .ref fr, .ref cg])), (tk, .inl (ca 5, 10, .inr (.inr (.inr (.inr (fun j => some (ta j))))))), (pl, .inr (2, [.int (nI kc), .int (nI kl), .int xb, .int (nI kn), .int (nI ko), .ref p5, .ref p6, .ref p7, .ref p8, .ref p9, .ref p10, .ref p11, .ref p12, .ref p13]))] [wx w_10 []]) := ⟨_, wok_t hw_wa (k := k_3) (by omega) t_9_0 t_9_1 t_9_2 t_9_3 t_9_4 t_9_5 t_9_6 t_9_7 t_9_8 t_9_9 t_9_10 t_9_11 t_9_12 t_9_13 t_9_o t_9_z (by omega), hP.perm (wx_c0 (k := k_3) (by omega) (List.not_mem_nil)), hD.perm (wx_c0 (k := k_3) (by omega) (List.not_mem_nil))⟩
        exact W.iret (v := t_9_1) hx hb hr (fun t ht hW => ⟨⟨t_9_1, w_10, rfl, hw_10, by rw [ht]; exact (hP.perm (sg (wr := []) 5 [0, 1, 2, 3, 4] [] rfl rfl rfl (by decide +kernel))).left, hDA ((hD.perm (sg (wr := []) 5 [0, 1, 2, 3, 4] [] rfl rfl rfl (by decide +kernel))).left)⟩, hS.F ht⟩) hS.2.2 dX10_task_105
      refine (Decidable.em (x2 = 2)).elim (fun c_11 => ?_) (fun c_11 => ?_)
      · refine nt_i 2 c_11 ?_
        refine lv_tableIn (off := 77) (tgt := 106) hx hb dX10_task_29 (by decide +kernel) (by decide +kernel) (by decide +kernel) (by decide +kernel) ?_
        refine lv_aload_n hx hb dX10_task_106 rfl (lv_at hl 0 rfl) ?_
        obtain ⟨t_12_0, t_12_1, t_12_2, t_12_3, t_12_4, t_12_5, t_12_6, t_12_7, t_12_8, t_12_9, t_12_10, t_12_11, t_12_12, t_12_13, t_12_o, t_12_z, ht_12, et_12⟩ := (hw_wa k_3 (by omega)).1
        have hP := hP.perm (wx_o0 (k := k_3) (by omega) (List.not_mem_nil) et_12)
        have hD := hD.perm (wx_o0 (k := k_3) (by omega) (List.not_mem_nil) et_12)
        have hP : va_P D vwCl (wq [(ta k_3, .inr (8, [.int t_12_0, .int t_12_1, .int t_12_2, .int t_12_3, .int t_12_4, .int t_12_5, .int t_12_6, .int t_12_7, .int t_12_8, .int t_12_9, .int t_12_10, .int t_12_11, .int t_12_12, .int t_12_13, .long t_12_o, .int (nI t_12_z), .ref (ra k_3)])), (h0, .inr (10, [.ref tp, .ref rd, .ref lv, .ref tr, .ref rw, .ref bx, .ref ch, .ref si, .ref dg, .ref pl, .ref pd, .int xz])), (lv, .inr (9, [.ref pl, .int (nI kw), .ref tk, .ref hd, .ref fr, .ref cg])), (tk, .inl (ca 5, 10, .inr (.inr (.inr (.inr (fun j => some (ta j))))))), (pl, .inr (2, [.int (nI kc), .int (nI kl), .int xb, .int (nI kn), .int (nI ko), .ref p5, .ref p6, .ref p7, .ref p8, .ref p9, .ref p10, .ref p11, .ref p12, .ref p13]))] [wx wa [k_3]]) s.heap := hP
        have hD : va_D A (wq [(ta k_3, .inr (8, [.int t_12_0, .int t_12_1, .int t_12_2, .int t_12_3, .int t_12_4, .int t_12_5, .int t_12_6, .int t_12_7, .int t_12_8, .int t_12_9, .int t_12_10, .int t_12_11, .int t_12_12, .int t_12_13, .long t_12_o, .int (nI t_12_z), .ref (ra k_3)])), (h0, .inr (10, [.ref tp, .ref rd, .ref lv, .ref tr, .ref rw, .ref bx, .ref ch, .ref si, .ref dg, .ref pl, .ref pd, .int xz])), (lv, .inr (9, [.ref pl, .int (nI kw), .ref tk, .ref hd, .ref fr, .ref cg])), (tk, .inl (ca 5, 10, .inr (.inr (.inr (.inr (fun j => some (ta j))))))), (pl, .inr (2, [.int (nI kc), .int (nI kl), .int xb, .int (nI kn), .int (nI ko), .ref p5, .ref p6, .ref p7, .ref p8, .ref p9, .ref p10, .ref p11, .ref p12, .ref p13]))] [wx wa [k_3]]) := hD
        refine va_get (D := D) (ci := 8) (v := .int t_12_2) (C := RX8) (T := TX8) (N := 17) hx hb hts iw_X10_task_8 hown hC.1 hP 0 rfl rfl 2 (by decide +kernel) (hts (.fieldLink RX10 139 "FairWheel$Task" "left" "I") (by decide +kernel)) (fun _ h9 => h9) rfl dX10_task_107 ?_
        obtain ⟨w_13, hw_13, hP, hD⟩ : ∃ w_13, wok ca ta ra w_13 ∧ va_P D vwCl (wq [(h0, .inr (10, [.ref tp, .ref rd, .ref lv, .ref tr, .ref rw, .ref bx, .ref ch, .ref si, .ref dg, .ref pl, .ref pd, .int xz])), (lv, .inr (9, [.ref pl, .int (nI kw), .ref tk, .ref hd, .ref fr, .ref cg])), (tk, .inl (ca 5, 10, .inr (.inr (.inr (.inr (fun j => some (ta j))))))), (pl, .inr (2, [.int (nI kc), .int (nI kl), .int xb, .int (nI kn), .int (nI ko), .ref p5, .ref p6, .ref p7, .ref p8, .ref p9, .ref p10, .ref p11, .ref p12, .ref p13]))] [wx w_13 []]) s.heap ∧ va_D A (wq [(h0, .inr (10, [.ref tp, .ref rd, .ref lv, .ref tr, .ref rw, .ref bx, .ref ch, .ref si, .ref dg, .ref pl, .ref pd, .int xz])), (lv, .inr (9, [.ref pl, .int (nI kw), .ref tk, .ref hd, .ref fr, .ref cg])), (tk, .inl (ca 5, 10, .inr (.inr (.inr (.inr (fun j => some (ta j))))))), (pl, .inr (2, [.int (nI kc), .int (nI kl), .int xb, .int (nI kn), .int (nI ko), .ref p5, .ref p6, .ref p7, .ref p8, .ref p9, .ref p10, .ref p11, .ref p12, .ref p13]))] [wx w_13 []]) := ⟨_, wok_t hw_wa (k := k_3) (by omega) t_12_0 t_12_1 t_12_2 t_12_3 t_12_4 t_12_5 t_12_6 t_12_7 t_12_8 t_12_9 t_12_10 t_12_11 t_12_12 t_12_13 t_12_o t_12_z (by omega), hP.perm (wx_c0 (k := k_3) (by omega) (List.not_mem_nil)), hD.perm (wx_c0 (k := k_3) (by omega) (List.not_mem_nil))⟩
        exact W.iret (v := t_12_2) hx hb hr (fun t ht hW => ⟨⟨t_12_2, w_13, rfl, hw_13, by rw [ht]; exact (hP.perm (sg (wr := []) 5 [0, 1, 2, 3, 4] [] rfl rfl rfl (by decide +kernel))).left, hDA ((hD.perm (sg (wr := []) 5 [0, 1, 2, 3, 4] [] rfl rfl rfl (by decide +kernel))).left)⟩, hS.F ht⟩) hS.2.2 dX10_task_110
      refine (Decidable.em (x2 = 3)).elim (fun c_14 => ?_) (fun c_14 => ?_)
      · refine nt_i 3 c_14 ?_
        refine lv_tableIn (off := 82) (tgt := 111) hx hb dX10_task_29 (by decide +kernel) (by decide +kernel) (by decide +kernel) (by decide +kernel) ?_
        refine lv_aload_n hx hb dX10_task_111 rfl (lv_at hl 0 rfl) ?_
        obtain ⟨t_15_0, t_15_1, t_15_2, t_15_3, t_15_4, t_15_5, t_15_6, t_15_7, t_15_8, t_15_9, t_15_10, t_15_11, t_15_12, t_15_13, t_15_o, t_15_z, ht_15, et_15⟩ := (hw_wa k_3 (by omega)).1
        have hP := hP.perm (wx_o0 (k := k_3) (by omega) (List.not_mem_nil) et_15)
        have hD := hD.perm (wx_o0 (k := k_3) (by omega) (List.not_mem_nil) et_15)
        have hP : va_P D vwCl (wq [(ta k_3, .inr (8, [.int t_15_0, .int t_15_1, .int t_15_2, .int t_15_3, .int t_15_4, .int t_15_5, .int t_15_6, .int t_15_7, .int t_15_8, .int t_15_9, .int t_15_10, .int t_15_11, .int t_15_12, .int t_15_13, .long t_15_o, .int (nI t_15_z), .ref (ra k_3)])), (h0, .inr (10, [.ref tp, .ref rd, .ref lv, .ref tr, .ref rw, .ref bx, .ref ch, .ref si, .ref dg, .ref pl, .ref pd, .int xz])), (lv, .inr (9, [.ref pl, .int (nI kw), .ref tk, .ref hd, .ref fr, .ref cg])), (tk, .inl (ca 5, 10, .inr (.inr (.inr (.inr (fun j => some (ta j))))))), (pl, .inr (2, [.int (nI kc), .int (nI kl), .int xb, .int (nI kn), .int (nI ko), .ref p5, .ref p6, .ref p7, .ref p8, .ref p9, .ref p10, .ref p11, .ref p12, .ref p13]))] [wx wa [k_3]]) s.heap := hP
        have hD : va_D A (wq [(ta k_3, .inr (8, [.int t_15_0, .int t_15_1, .int t_15_2, .int t_15_3, .int t_15_4, .int t_15_5, .int t_15_6, .int t_15_7, .int t_15_8, .int t_15_9, .int t_15_10, .int t_15_11, .int t_15_12, .int t_15_13, .long t_15_o, .int (nI t_15_z), .ref (ra k_3)])), (h0, .inr (10, [.ref tp, .ref rd, .ref lv, .ref tr, .ref rw, .ref bx, .ref ch, .ref si, .ref dg, .ref pl, .ref pd, .int xz])), (lv, .inr (9, [.ref pl, .int (nI kw), .ref tk, .ref hd, .ref fr, .ref cg])), (tk, .inl (ca 5, 10, .inr (.inr (.inr (.inr (fun j => some (ta j))))))), (pl, .inr (2, [.int (nI kc), .int (nI kl), .int xb, .int (nI kn), .int (nI ko), .ref p5, .ref p6, .ref p7, .ref p8, .ref p9, .ref p10, .ref p11, .ref p12, .ref p13]))] [wx wa [k_3]]) := hD
        refine va_get (D := D) (ci := 8) (v := .int t_15_3) (C := RX8) (T := TX8) (N := 17) hx hb hts iw_X10_task_8 hown hC.1 hP 0 rfl rfl 3 (by decide +kernel) (hts (.fieldLink RX10 142 "FairWheel$Task" "virtual" "I") (by decide +kernel)) (fun _ h9 => h9) rfl dX10_task_112 ?_
        obtain ⟨w_16, hw_16, hP, hD⟩ : ∃ w_16, wok ca ta ra w_16 ∧ va_P D vwCl (wq [(h0, .inr (10, [.ref tp, .ref rd, .ref lv, .ref tr, .ref rw, .ref bx, .ref ch, .ref si, .ref dg, .ref pl, .ref pd, .int xz])), (lv, .inr (9, [.ref pl, .int (nI kw), .ref tk, .ref hd, .ref fr, .ref cg])), (tk, .inl (ca 5, 10, .inr (.inr (.inr (.inr (fun j => some (ta j))))))), (pl, .inr (2, [.int (nI kc), .int (nI kl), .int xb, .int (nI kn), .int (nI ko), .ref p5, .ref p6, .ref p7, .ref p8, .ref p9, .ref p10, .ref p11, .ref p12, .ref p13]))] [wx w_16 []]) s.heap ∧ va_D A (wq [(h0, .inr (10, [.ref tp, .ref rd, .ref lv, .ref tr, .ref rw, .ref bx, .ref ch, .ref si, .ref dg, .ref pl, .ref pd, .int xz])), (lv, .inr (9, [.ref pl, .int (nI kw), .ref tk, .ref hd, .ref fr, .ref cg])), (tk, .inl (ca 5, 10, .inr (.inr (.inr (.inr (fun j => some (ta j))))))), (pl, .inr (2, [.int (nI kc), .int (nI kl), .int xb, .int (nI kn), .int (nI ko), .ref p5, .ref p6, .ref p7, .ref p8, .ref p9, .ref p10, .ref p11, .ref p12, .ref p13]))] [wx w_16 []]) := ⟨_, wok_t hw_wa (k := k_3) (by omega) t_15_0 t_15_1 t_15_2 t_15_3 t_15_4 t_15_5 t_15_6 t_15_7 t_15_8 t_15_9 t_15_10 t_15_11 t_15_12 t_15_13 t_15_o t_15_z (by omega), hP.perm (wx_c0 (k := k_3) (by omega) (List.not_mem_nil)), hD.perm (wx_c0 (k := k_3) (by omega) (List.not_mem_nil))⟩
        exact W.iret (v := t_15_3) hx hb hr (fun t ht hW => ⟨⟨t_15_3, w_16, rfl, hw_16, by rw [ht]; exact (hP.perm (sg (wr := []) 5 [0, 1, 2, 3, 4] [] rfl rfl rfl (by decide +kernel))).left, hDA ((hD.perm (sg (wr := []) 5 [0, 1, 2, 3, 4] [] rfl rfl rfl (by decide +kernel))).left)⟩, hS.F ht⟩) hS.2.2 dX10_task_115
      refine (Decidable.em (x2 = 4)).elim (fun c_17 => ?_) (fun c_17 => ?_)
      · refine nt_i 4 c_17 ?_
        refine lv_tableIn (off := 87) (tgt := 116) hx hb dX10_task_29 (by decide +kernel) (by decide +kernel) (by decide +kernel) (by decide +kernel) ?_
        refine lv_aload_n hx hb dX10_task_116 rfl (lv_at hl 0 rfl) ?_
        obtain ⟨t_18_0, t_18_1, t_18_2, t_18_3, t_18_4, t_18_5, t_18_6, t_18_7, t_18_8, t_18_9, t_18_10, t_18_11, t_18_12, t_18_13, t_18_o, t_18_z, ht_18, et_18⟩ := (hw_wa k_3 (by omega)).1
        have hP := hP.perm (wx_o0 (k := k_3) (by omega) (List.not_mem_nil) et_18)
        have hD := hD.perm (wx_o0 (k := k_3) (by omega) (List.not_mem_nil) et_18)
        have hP : va_P D vwCl (wq [(ta k_3, .inr (8, [.int t_18_0, .int t_18_1, .int t_18_2, .int t_18_3, .int t_18_4, .int t_18_5, .int t_18_6, .int t_18_7, .int t_18_8, .int t_18_9, .int t_18_10, .int t_18_11, .int t_18_12, .int t_18_13, .long t_18_o, .int (nI t_18_z), .ref (ra k_3)])), (h0, .inr (10, [.ref tp, .ref rd, .ref lv, .ref tr, .ref rw, .ref bx, .ref ch, .ref si, .ref dg, .ref pl, .ref pd, .int xz])), (lv, .inr (9, [.ref pl, .int (nI kw), .ref tk, .ref hd, .ref fr, .ref cg])), (tk, .inl (ca 5, 10, .inr (.inr (.inr (.inr (fun j => some (ta j))))))), (pl, .inr (2, [.int (nI kc), .int (nI kl), .int xb, .int (nI kn), .int (nI ko), .ref p5, .ref p6, .ref p7, .ref p8, .ref p9, .ref p10, .ref p11, .ref p12, .ref p13]))] [wx wa [k_3]]) s.heap := hP
        have hD : va_D A (wq [(ta k_3, .inr (8, [.int t_18_0, .int t_18_1, .int t_18_2, .int t_18_3, .int t_18_4, .int t_18_5, .int t_18_6, .int t_18_7, .int t_18_8, .int t_18_9, .int t_18_10, .int t_18_11, .int t_18_12, .int t_18_13, .long t_18_o, .int (nI t_18_z), .ref (ra k_3)])), (h0, .inr (10, [.ref tp, .ref rd, .ref lv, .ref tr, .ref rw, .ref bx, .ref ch, .ref si, .ref dg, .ref pl, .ref pd, .int xz])), (lv, .inr (9, [.ref pl, .int (nI kw), .ref tk, .ref hd, .ref fr, .ref cg])), (tk, .inl (ca 5, 10, .inr (.inr (.inr (.inr (fun j => some (ta j))))))), (pl, .inr (2, [.int (nI kc), .int (nI kl), .int xb, .int (nI kn), .int (nI ko), .ref p5, .ref p6, .ref p7, .ref p8, .ref p9, .ref p10, .ref p11, .ref p12, .ref p13]))] [wx wa [k_3]]) := hD
        refine va_get (D := D) (ci := 8) (v := .int t_18_4) (C := RX8) (T := TX8) (N := 17) hx hb hts iw_X10_task_8 hown hC.1 hP 0 rfl rfl 4 (by decide +kernel) (hts (.fieldLink RX10 145 "FairWheel$Task" "rest" "I") (by decide +kernel)) (fun _ h9 => h9) rfl dX10_task_117 ?_
        obtain ⟨w_19, hw_19, hP, hD⟩ : ∃ w_19, wok ca ta ra w_19 ∧ va_P D vwCl (wq [(h0, .inr (10, [.ref tp, .ref rd, .ref lv, .ref tr, .ref rw, .ref bx, .ref ch, .ref si, .ref dg, .ref pl, .ref pd, .int xz])), (lv, .inr (9, [.ref pl, .int (nI kw), .ref tk, .ref hd, .ref fr, .ref cg])), (tk, .inl (ca 5, 10, .inr (.inr (.inr (.inr (fun j => some (ta j))))))), (pl, .inr (2, [.int (nI kc), .int (nI kl), .int xb, .int (nI kn), .int (nI ko), .ref p5, .ref p6, .ref p7, .ref p8, .ref p9, .ref p10, .ref p11, .ref p12, .ref p13]))] [wx w_19 []]) s.heap ∧ va_D A (wq [(h0, .inr (10, [.ref tp, .ref rd, .ref lv, .ref tr, .ref rw, .ref bx, .ref ch, .ref si, .ref dg, .ref pl, .ref pd, .int xz])), (lv, .inr (9, [.ref pl, .int (nI kw), .ref tk, .ref hd, .ref fr, .ref cg])), (tk, .inl (ca 5, 10, .inr (.inr (.inr (.inr (fun j => some (ta j))))))), (pl, .inr (2, [.int (nI kc), .int (nI kl), .int xb, .int (nI kn), .int (nI ko), .ref p5, .ref p6, .ref p7, .ref p8, .ref p9, .ref p10, .ref p11, .ref p12, .ref p13]))] [wx w_19 []]) := ⟨_, wok_t hw_wa (k := k_3) (by omega) t_18_0 t_18_1 t_18_2 t_18_3 t_18_4 t_18_5 t_18_6 t_18_7 t_18_8 t_18_9 t_18_10 t_18_11 t_18_12 t_18_13 t_18_o t_18_z (by omega), hP.perm (wx_c0 (k := k_3) (by omega) (List.not_mem_nil)), hD.perm (wx_c0 (k := k_3) (by omega) (List.not_mem_nil))⟩
        exact W.iret (v := t_18_4) hx hb hr (fun t ht hW => ⟨⟨t_18_4, w_19, rfl, hw_19, by rw [ht]; exact (hP.perm (sg (wr := []) 5 [0, 1, 2, 3, 4] [] rfl rfl rfl (by decide +kernel))).left, hDA ((hD.perm (sg (wr := []) 5 [0, 1, 2, 3, 4] [] rfl rfl rfl (by decide +kernel))).left)⟩, hS.F ht⟩) hS.2.2 dX10_task_120
      refine (Decidable.em (x2 = 5)).elim (fun c_20 => ?_) (fun c_20 => ?_)
      · refine nt_i 5 c_20 ?_
        refine lv_tableIn (off := 92) (tgt := 121) hx hb dX10_task_29 (by decide +kernel) (by decide +kernel) (by decide +kernel) (by decide +kernel) ?_
        refine lv_aload_n hx hb dX10_task_121 rfl (lv_at hl 0 rfl) ?_
        obtain ⟨t_21_0, t_21_1, t_21_2, t_21_3, t_21_4, t_21_5, t_21_6, t_21_7, t_21_8, t_21_9, t_21_10, t_21_11, t_21_12, t_21_13, t_21_o, t_21_z, ht_21, et_21⟩ := (hw_wa k_3 (by omega)).1
        have hP := hP.perm (wx_o0 (k := k_3) (by omega) (List.not_mem_nil) et_21)
        have hD := hD.perm (wx_o0 (k := k_3) (by omega) (List.not_mem_nil) et_21)
        have hP : va_P D vwCl (wq [(ta k_3, .inr (8, [.int t_21_0, .int t_21_1, .int t_21_2, .int t_21_3, .int t_21_4, .int t_21_5, .int t_21_6, .int t_21_7, .int t_21_8, .int t_21_9, .int t_21_10, .int t_21_11, .int t_21_12, .int t_21_13, .long t_21_o, .int (nI t_21_z), .ref (ra k_3)])), (h0, .inr (10, [.ref tp, .ref rd, .ref lv, .ref tr, .ref rw, .ref bx, .ref ch, .ref si, .ref dg, .ref pl, .ref pd, .int xz])), (lv, .inr (9, [.ref pl, .int (nI kw), .ref tk, .ref hd, .ref fr, .ref cg])), (tk, .inl (ca 5, 10, .inr (.inr (.inr (.inr (fun j => some (ta j))))))), (pl, .inr (2, [.int (nI kc), .int (nI kl), .int xb, .int (nI kn), .int (nI ko), .ref p5, .ref p6, .ref p7, .ref p8, .ref p9, .ref p10, .ref p11, .ref p12, .ref p13]))] [wx wa [k_3]]) s.heap := hP
        have hD : va_D A (wq [(ta k_3, .inr (8, [.int t_21_0, .int t_21_1, .int t_21_2, .int t_21_3, .int t_21_4, .int t_21_5, .int t_21_6, .int t_21_7, .int t_21_8, .int t_21_9, .int t_21_10, .int t_21_11, .int t_21_12, .int t_21_13, .long t_21_o, .int (nI t_21_z), .ref (ra k_3)])), (h0, .inr (10, [.ref tp, .ref rd, .ref lv, .ref tr, .ref rw, .ref bx, .ref ch, .ref si, .ref dg, .ref pl, .ref pd, .int xz])), (lv, .inr (9, [.ref pl, .int (nI kw), .ref tk, .ref hd, .ref fr, .ref cg])), (tk, .inl (ca 5, 10, .inr (.inr (.inr (.inr (fun j => some (ta j))))))), (pl, .inr (2, [.int (nI kc), .int (nI kl), .int xb, .int (nI kn), .int (nI ko), .ref p5, .ref p6, .ref p7, .ref p8, .ref p9, .ref p10, .ref p11, .ref p12, .ref p13]))] [wx wa [k_3]]) := hD
        refine va_get (D := D) (ci := 8) (v := .int t_21_5) (C := RX8) (T := TX8) (N := 17) hx hb hts iw_X10_task_8 hown hC.1 hP 0 rfl rfl 5 (by decide +kernel) (hts (.fieldLink RX10 148 "FairWheel$Task" "weight" "I") (by decide +kernel)) (fun _ h9 => h9) rfl dX10_task_122 ?_
        obtain ⟨w_22, hw_22, hP, hD⟩ : ∃ w_22, wok ca ta ra w_22 ∧ va_P D vwCl (wq [(h0, .inr (10, [.ref tp, .ref rd, .ref lv, .ref tr, .ref rw, .ref bx, .ref ch, .ref si, .ref dg, .ref pl, .ref pd, .int xz])), (lv, .inr (9, [.ref pl, .int (nI kw), .ref tk, .ref hd, .ref fr, .ref cg])), (tk, .inl (ca 5, 10, .inr (.inr (.inr (.inr (fun j => some (ta j))))))), (pl, .inr (2, [.int (nI kc), .int (nI kl), .int xb, .int (nI kn), .int (nI ko), .ref p5, .ref p6, .ref p7, .ref p8, .ref p9, .ref p10, .ref p11, .ref p12, .ref p13]))] [wx w_22 []]) s.heap ∧ va_D A (wq [(h0, .inr (10, [.ref tp, .ref rd, .ref lv, .ref tr, .ref rw, .ref bx, .ref ch, .ref si, .ref dg, .ref pl, .ref pd, .int xz])), (lv, .inr (9, [.ref pl, .int (nI kw), .ref tk, .ref hd, .ref fr, .ref cg])), (tk, .inl (ca 5, 10, .inr (.inr (.inr (.inr (fun j => some (ta j))))))), (pl, .inr (2, [.int (nI kc), .int (nI kl), .int xb, .int (nI kn), .int (nI ko), .ref p5, .ref p6, .ref p7, .ref p8, .ref p9, .ref p10, .ref p11, .ref p12, .ref p13]))] [wx w_22 []]) := ⟨_, wok_t hw_wa (k := k_3) (by omega) t_21_0 t_21_1 t_21_2 t_21_3 t_21_4 t_21_5 t_21_6 t_21_7 t_21_8 t_21_9 t_21_10 t_21_11 t_21_12 t_21_13 t_21_o t_21_z (by omega), hP.perm (wx_c0 (k := k_3) (by omega) (List.not_mem_nil)), hD.perm (wx_c0 (k := k_3) (by omega) (List.not_mem_nil))⟩
        exact W.iret (v := t_21_5) hx hb hr (fun t ht hW => ⟨⟨t_21_5, w_22, rfl, hw_22, by rw [ht]; exact (hP.perm (sg (wr := []) 5 [0, 1, 2, 3, 4] [] rfl rfl rfl (by decide +kernel))).left, hDA ((hD.perm (sg (wr := []) 5 [0, 1, 2, 3, 4] [] rfl rfl rfl (by decide +kernel))).left)⟩, hS.F ht⟩) hS.2.2 dX10_task_125
      refine (Decidable.em (x2 = 6)).elim (fun c_23 => ?_) (fun c_23 => ?_)
      · refine nt_i 6 c_23 ?_
        refine lv_tableIn (off := 97) (tgt := 126) hx hb dX10_task_29 (by decide +kernel) (by decide +kernel) (by decide +kernel) (by decide +kernel) ?_
        refine lv_aload_n hx hb dX10_task_126 rfl (lv_at hl 0 rfl) ?_
        obtain ⟨t_24_0, t_24_1, t_24_2, t_24_3, t_24_4, t_24_5, t_24_6, t_24_7, t_24_8, t_24_9, t_24_10, t_24_11, t_24_12, t_24_13, t_24_o, t_24_z, ht_24, et_24⟩ := (hw_wa k_3 (by omega)).1
        have hP := hP.perm (wx_o0 (k := k_3) (by omega) (List.not_mem_nil) et_24)
        have hD := hD.perm (wx_o0 (k := k_3) (by omega) (List.not_mem_nil) et_24)
        have hP : va_P D vwCl (wq [(ta k_3, .inr (8, [.int t_24_0, .int t_24_1, .int t_24_2, .int t_24_3, .int t_24_4, .int t_24_5, .int t_24_6, .int t_24_7, .int t_24_8, .int t_24_9, .int t_24_10, .int t_24_11, .int t_24_12, .int t_24_13, .long t_24_o, .int (nI t_24_z), .ref (ra k_3)])), (h0, .inr (10, [.ref tp, .ref rd, .ref lv, .ref tr, .ref rw, .ref bx, .ref ch, .ref si, .ref dg, .ref pl, .ref pd, .int xz])), (lv, .inr (9, [.ref pl, .int (nI kw), .ref tk, .ref hd, .ref fr, .ref cg])), (tk, .inl (ca 5, 10, .inr (.inr (.inr (.inr (fun j => some (ta j))))))), (pl, .inr (2, [.int (nI kc), .int (nI kl), .int xb, .int (nI kn), .int (nI ko), .ref p5, .ref p6, .ref p7, .ref p8, .ref p9, .ref p10, .ref p11, .ref p12, .ref p13]))] [wx wa [k_3]]) s.heap := hP
        have hD : va_D A (wq [(ta k_3, .inr (8, [.int t_24_0, .int t_24_1, .int t_24_2, .int t_24_3, .int t_24_4, .int t_24_5, .int t_24_6, .int t_24_7, .int t_24_8, .int t_24_9, .int t_24_10, .int t_24_11, .int t_24_12, .int t_24_13, .long t_24_o, .int (nI t_24_z), .ref (ra k_3)])), (h0, .inr (10, [.ref tp, .ref rd, .ref lv, .ref tr, .ref rw, .ref bx, .ref ch, .ref si, .ref dg, .ref pl, .ref pd, .int xz])), (lv, .inr (9, [.ref pl, .int (nI kw), .ref tk, .ref hd, .ref fr, .ref cg])), (tk, .inl (ca 5, 10, .inr (.inr (.inr (.inr (fun j => some (ta j))))))), (pl, .inr (2, [.int (nI kc), .int (nI kl), .int xb, .int (nI kn), .int (nI ko), .ref p5, .ref p6, .ref p7, .ref p8, .ref p9, .ref p10, .ref p11, .ref p12, .ref p13]))] [wx wa [k_3]]) := hD
        refine va_get (D := D) (ci := 8) (v := .int t_24_6) (C := RX8) (T := TX8) (N := 17) hx hb hts iw_X10_task_8 hown hC.1 hP 0 rfl rfl 6 (by decide +kernel) (hts (.fieldLink RX10 151 "FairWheel$Task" "budget" "I") (by decide +kernel)) (fun _ h9 => h9) rfl dX10_task_127 ?_
        obtain ⟨w_25, hw_25, hP, hD⟩ : ∃ w_25, wok ca ta ra w_25 ∧ va_P D vwCl (wq [(h0, .inr (10, [.ref tp, .ref rd, .ref lv, .ref tr, .ref rw, .ref bx, .ref ch, .ref si, .ref dg, .ref pl, .ref pd, .int xz])), (lv, .inr (9, [.ref pl, .int (nI kw), .ref tk, .ref hd, .ref fr, .ref cg])), (tk, .inl (ca 5, 10, .inr (.inr (.inr (.inr (fun j => some (ta j))))))), (pl, .inr (2, [.int (nI kc), .int (nI kl), .int xb, .int (nI kn), .int (nI ko), .ref p5, .ref p6, .ref p7, .ref p8, .ref p9, .ref p10, .ref p11, .ref p12, .ref p13]))] [wx w_25 []]) s.heap ∧ va_D A (wq [(h0, .inr (10, [.ref tp, .ref rd, .ref lv, .ref tr, .ref rw, .ref bx, .ref ch, .ref si, .ref dg, .ref pl, .ref pd, .int xz])), (lv, .inr (9, [.ref pl, .int (nI kw), .ref tk, .ref hd, .ref fr, .ref cg])), (tk, .inl (ca 5, 10, .inr (.inr (.inr (.inr (fun j => some (ta j))))))), (pl, .inr (2, [.int (nI kc), .int (nI kl), .int xb, .int (nI kn), .int (nI ko), .ref p5, .ref p6, .ref p7, .ref p8, .ref p9, .ref p10, .ref p11, .ref p12, .ref p13]))] [wx w_25 []]) := ⟨_, wok_t hw_wa (k := k_3) (by omega) t_24_0 t_24_1 t_24_2 t_24_3 t_24_4 t_24_5 t_24_6 t_24_7 t_24_8 t_24_9 t_24_10 t_24_11 t_24_12 t_24_13 t_24_o t_24_z (by omega), hP.perm (wx_c0 (k := k_3) (by omega) (List.not_mem_nil)), hD.perm (wx_c0 (k := k_3) (by omega) (List.not_mem_nil))⟩
        exact W.iret (v := t_24_6) hx hb hr (fun t ht hW => ⟨⟨t_24_6, w_25, rfl, hw_25, by rw [ht]; exact (hP.perm (sg (wr := []) 5 [0, 1, 2, 3, 4] [] rfl rfl rfl (by decide +kernel))).left, hDA ((hD.perm (sg (wr := []) 5 [0, 1, 2, 3, 4] [] rfl rfl rfl (by decide +kernel))).left)⟩, hS.F ht⟩) hS.2.2 dX10_task_130
      refine (Decidable.em (x2 = 7)).elim (fun c_26 => ?_) (fun c_26 => ?_)
      · refine nt_i 7 c_26 ?_
        refine lv_tableIn (off := 102) (tgt := 131) hx hb dX10_task_29 (by decide +kernel) (by decide +kernel) (by decide +kernel) (by decide +kernel) ?_
        refine lv_aload_n hx hb dX10_task_131 rfl (lv_at hl 0 rfl) ?_
        obtain ⟨t_27_0, t_27_1, t_27_2, t_27_3, t_27_4, t_27_5, t_27_6, t_27_7, t_27_8, t_27_9, t_27_10, t_27_11, t_27_12, t_27_13, t_27_o, t_27_z, ht_27, et_27⟩ := (hw_wa k_3 (by omega)).1
        have hP := hP.perm (wx_o0 (k := k_3) (by omega) (List.not_mem_nil) et_27)
        have hD := hD.perm (wx_o0 (k := k_3) (by omega) (List.not_mem_nil) et_27)
        have hP : va_P D vwCl (wq [(ta k_3, .inr (8, [.int t_27_0, .int t_27_1, .int t_27_2, .int t_27_3, .int t_27_4, .int t_27_5, .int t_27_6, .int t_27_7, .int t_27_8, .int t_27_9, .int t_27_10, .int t_27_11, .int t_27_12, .int t_27_13, .long t_27_o, .int (nI t_27_z), .ref (ra k_3)])), (h0, .inr (10, [.ref tp, .ref rd, .ref lv, .ref tr, .ref rw, .ref bx, .ref ch, .ref si, .ref dg, .ref pl, .ref pd, .int xz])), (lv, .inr (9, [.ref pl, .int (nI kw), .ref tk, .ref hd, .ref fr, .ref cg])), (tk, .inl (ca 5, 10, .inr (.inr (.inr (.inr (fun j => some (ta j))))))), (pl, .inr (2, [.int (nI kc), .int (nI kl), .int xb, .int (nI kn), .int (nI ko), .ref p5, .ref p6, .ref p7, .ref p8, .ref p9, .ref p10, .ref p11, .ref p12, .ref p13]))] [wx wa [k_3]]) s.heap := hP
        have hD : va_D A (wq [(ta k_3, .inr (8, [.int t_27_0, .int t_27_1, .int t_27_2, .int t_27_3, .int t_27_4, .int t_27_5, .int t_27_6, .int t_27_7, .int t_27_8, .int t_27_9, .int t_27_10, .int t_27_11, .int t_27_12, .int t_27_13, .long t_27_o, .int (nI t_27_z), .ref (ra k_3)])), (h0, .inr (10, [.ref tp, .ref rd, .ref lv, .ref tr, .ref rw, .ref bx, .ref ch, .ref si, .ref dg, .ref pl, .ref pd, .int xz])), (lv, .inr (9, [.ref pl, .int (nI kw), .ref tk, .ref hd, .ref fr, .ref cg])), (tk, .inl (ca 5, 10, .inr (.inr (.inr (.inr (fun j => some (ta j))))))), (pl, .inr (2, [.int (nI kc), .int (nI kl), .int xb, .int (nI kn), .int (nI ko), .ref p5, .ref p6, .ref p7, .ref p8, .ref p9, .ref p10, .ref p11, .ref p12, .ref p13]))] [wx wa [k_3]]) := hD
        refine va_get (D := D) (ci := 8) (v := .int t_27_7) (C := RX8) (T := TX8) (N := 17) hx hb hts iw_X10_task_8 hown hC.1 hP 0 rfl rfl 7 (by decide +kernel) (hts (.fieldLink RX10 154 "FairWheel$Task" "deadline" "I") (by decide +kernel)) (fun _ h9 => h9) rfl dX10_task_132 ?_
        obtain ⟨w_28, hw_28, hP, hD⟩ : ∃ w_28, wok ca ta ra w_28 ∧ va_P D vwCl (wq [(h0, .inr (10, [.ref tp, .ref rd, .ref lv, .ref tr, .ref rw, .ref bx, .ref ch, .ref si, .ref dg, .ref pl, .ref pd, .int xz])), (lv, .inr (9, [.ref pl, .int (nI kw), .ref tk, .ref hd, .ref fr, .ref cg])), (tk, .inl (ca 5, 10, .inr (.inr (.inr (.inr (fun j => some (ta j))))))), (pl, .inr (2, [.int (nI kc), .int (nI kl), .int xb, .int (nI kn), .int (nI ko), .ref p5, .ref p6, .ref p7, .ref p8, .ref p9, .ref p10, .ref p11, .ref p12, .ref p13]))] [wx w_28 []]) s.heap ∧ va_D A (wq [(h0, .inr (10, [.ref tp, .ref rd, .ref lv, .ref tr, .ref rw, .ref bx, .ref ch, .ref si, .ref dg, .ref pl, .ref pd, .int xz])), (lv, .inr (9, [.ref pl, .int (nI kw), .ref tk, .ref hd, .ref fr, .ref cg])), (tk, .inl (ca 5, 10, .inr (.inr (.inr (.inr (fun j => some (ta j))))))), (pl, .inr (2, [.int (nI kc), .int (nI kl), .int xb, .int (nI kn), .int (nI ko), .ref p5, .ref p6, .ref p7, .ref p8, .ref p9, .ref p10, .ref p11, .ref p12, .ref p13]))] [wx w_28 []]) := ⟨_, wok_t hw_wa (k := k_3) (by omega) t_27_0 t_27_1 t_27_2 t_27_3 t_27_4 t_27_5 t_27_6 t_27_7 t_27_8 t_27_9 t_27_10 t_27_11 t_27_12 t_27_13 t_27_o t_27_z (by omega), hP.perm (wx_c0 (k := k_3) (by omega) (List.not_mem_nil)), hD.perm (wx_c0 (k := k_3) (by omega) (List.not_mem_nil))⟩
        exact W.iret (v := t_27_7) hx hb hr (fun t ht hW => ⟨⟨t_27_7, w_28, rfl, hw_28, by rw [ht]; exact (hP.perm (sg (wr := []) 5 [0, 1, 2, 3, 4] [] rfl rfl rfl (by decide +kernel))).left, hDA ((hD.perm (sg (wr := []) 5 [0, 1, 2, 3, 4] [] rfl rfl rfl (by decide +kernel))).left)⟩, hS.F ht⟩) hS.2.2 dX10_task_135
      refine (Decidable.em (x2 = 8)).elim (fun c_29 => ?_) (fun c_29 => ?_)
      · refine nt_i 8 c_29 ?_
        refine lv_tableIn (off := 107) (tgt := 136) hx hb dX10_task_29 (by decide +kernel) (by decide +kernel) (by decide +kernel) (by decide +kernel) ?_
        refine lv_aload_n hx hb dX10_task_136 rfl (lv_at hl 0 rfl) ?_
        obtain ⟨t_30_0, t_30_1, t_30_2, t_30_3, t_30_4, t_30_5, t_30_6, t_30_7, t_30_8, t_30_9, t_30_10, t_30_11, t_30_12, t_30_13, t_30_o, t_30_z, ht_30, et_30⟩ := (hw_wa k_3 (by omega)).1
        have hP := hP.perm (wx_o0 (k := k_3) (by omega) (List.not_mem_nil) et_30)
        have hD := hD.perm (wx_o0 (k := k_3) (by omega) (List.not_mem_nil) et_30)
        have hP : va_P D vwCl (wq [(ta k_3, .inr (8, [.int t_30_0, .int t_30_1, .int t_30_2, .int t_30_3, .int t_30_4, .int t_30_5, .int t_30_6, .int t_30_7, .int t_30_8, .int t_30_9, .int t_30_10, .int t_30_11, .int t_30_12, .int t_30_13, .long t_30_o, .int (nI t_30_z), .ref (ra k_3)])), (h0, .inr (10, [.ref tp, .ref rd, .ref lv, .ref tr, .ref rw, .ref bx, .ref ch, .ref si, .ref dg, .ref pl, .ref pd, .int xz])), (lv, .inr (9, [.ref pl, .int (nI kw), .ref tk, .ref hd, .ref fr, .ref cg])), (tk, .inl (ca 5, 10, .inr (.inr (.inr (.inr (fun j => some (ta j))))))), (pl, .inr (2, [.int (nI kc), .int (nI kl), .int xb, .int (nI kn), .int (nI ko), .ref p5, .ref p6, .ref p7, .ref p8, .ref p9, .ref p10, .ref p11, .ref p12, .ref p13]))] [wx wa [k_3]]) s.heap := hP
        have hD : va_D A (wq [(ta k_3, .inr (8, [.int t_30_0, .int t_30_1, .int t_30_2, .int t_30_3, .int t_30_4, .int t_30_5, .int t_30_6, .int t_30_7, .int t_30_8, .int t_30_9, .int t_30_10, .int t_30_11, .int t_30_12, .int t_30_13, .long t_30_o, .int (nI t_30_z), .ref (ra k_3)])), (h0, .inr (10, [.ref tp, .ref rd, .ref lv, .ref tr, .ref rw, .ref bx, .ref ch, .ref si, .ref dg, .ref pl, .ref pd, .int xz])), (lv, .inr (9, [.ref pl, .int (nI kw), .ref tk, .ref hd, .ref fr, .ref cg])), (tk, .inl (ca 5, 10, .inr (.inr (.inr (.inr (fun j => some (ta j))))))), (pl, .inr (2, [.int (nI kc), .int (nI kl), .int xb, .int (nI kn), .int (nI ko), .ref p5, .ref p6, .ref p7, .ref p8, .ref p9, .ref p10, .ref p11, .ref p12, .ref p13]))] [wx wa [k_3]]) := hD
        refine va_get (D := D) (ci := 8) (v := .int t_30_8) (C := RX8) (T := TX8) (N := 17) hx hb hts iw_X10_task_8 hown hC.1 hP 0 rfl rfl 8 (by decide +kernel) (hts (.fieldLink RX10 157 "FairWheel$Task" "error" "I") (by decide +kernel)) (fun _ h9 => h9) rfl dX10_task_137 ?_
        obtain ⟨w_31, hw_31, hP, hD⟩ : ∃ w_31, wok ca ta ra w_31 ∧ va_P D vwCl (wq [(h0, .inr (10, [.ref tp, .ref rd, .ref lv, .ref tr, .ref rw, .ref bx, .ref ch, .ref si, .ref dg, .ref pl, .ref pd, .int xz])), (lv, .inr (9, [.ref pl, .int (nI kw), .ref tk, .ref hd, .ref fr, .ref cg])), (tk, .inl (ca 5, 10, .inr (.inr (.inr (.inr (fun j => some (ta j))))))), (pl, .inr (2, [.int (nI kc), .int (nI kl), .int xb, .int (nI kn), .int (nI ko), .ref p5, .ref p6, .ref p7, .ref p8, .ref p9, .ref p10, .ref p11, .ref p12, .ref p13]))] [wx w_31 []]) s.heap ∧ va_D A (wq [(h0, .inr (10, [.ref tp, .ref rd, .ref lv, .ref tr, .ref rw, .ref bx, .ref ch, .ref si, .ref dg, .ref pl, .ref pd, .int xz])), (lv, .inr (9, [.ref pl, .int (nI kw), .ref tk, .ref hd, .ref fr, .ref cg])), (tk, .inl (ca 5, 10, .inr (.inr (.inr (.inr (fun j => some (ta j))))))), (pl, .inr (2, [.int (nI kc), .int (nI kl), .int xb, .int (nI kn), .int (nI ko), .ref p5, .ref p6, .ref p7, .ref p8, .ref p9, .ref p10, .ref p11, .ref p12, .ref p13]))] [wx w_31 []]) := ⟨_, wok_t hw_wa (k := k_3) (by omega) t_30_0 t_30_1 t_30_2 t_30_3 t_30_4 t_30_5 t_30_6 t_30_7 t_30_8 t_30_9 t_30_10 t_30_11 t_30_12 t_30_13 t_30_o t_30_z (by omega), hP.perm (wx_c0 (k := k_3) (by omega) (List.not_mem_nil)), hD.perm (wx_c0 (k := k_3) (by omega) (List.not_mem_nil))⟩
        exact W.iret (v := t_30_8) hx hb hr (fun t ht hW => ⟨⟨t_30_8, w_31, rfl, hw_31, by rw [ht]; exact (hP.perm (sg (wr := []) 5 [0, 1, 2, 3, 4] [] rfl rfl rfl (by decide +kernel))).left, hDA ((hD.perm (sg (wr := []) 5 [0, 1, 2, 3, 4] [] rfl rfl rfl (by decide +kernel))).left)⟩, hS.F ht⟩) hS.2.2 dX10_task_140
      refine (Decidable.em (x2 = 9)).elim (fun c_32 => ?_) (fun c_32 => ?_)
      · refine nt_i 9 c_32 ?_
        refine lv_tableIn (off := 112) (tgt := 141) hx hb dX10_task_29 (by decide +kernel) (by decide +kernel) (by decide +kernel) (by decide +kernel) ?_
        refine lv_aload_n hx hb dX10_task_141 rfl (lv_at hl 0 rfl) ?_
        obtain ⟨t_33_0, t_33_1, t_33_2, t_33_3, t_33_4, t_33_5, t_33_6, t_33_7, t_33_8, t_33_9, t_33_10, t_33_11, t_33_12, t_33_13, t_33_o, t_33_z, ht_33, et_33⟩ := (hw_wa k_3 (by omega)).1
        have hP := hP.perm (wx_o0 (k := k_3) (by omega) (List.not_mem_nil) et_33)
        have hD := hD.perm (wx_o0 (k := k_3) (by omega) (List.not_mem_nil) et_33)
        have hP : va_P D vwCl (wq [(ta k_3, .inr (8, [.int t_33_0, .int t_33_1, .int t_33_2, .int t_33_3, .int t_33_4, .int t_33_5, .int t_33_6, .int t_33_7, .int t_33_8, .int t_33_9, .int t_33_10, .int t_33_11, .int t_33_12, .int t_33_13, .long t_33_o, .int (nI t_33_z), .ref (ra k_3)])), (h0, .inr (10, [.ref tp, .ref rd, .ref lv, .ref tr, .ref rw, .ref bx, .ref ch, .ref si, .ref dg, .ref pl, .ref pd, .int xz])), (lv, .inr (9, [.ref pl, .int (nI kw), .ref tk, .ref hd, .ref fr, .ref cg])), (tk, .inl (ca 5, 10, .inr (.inr (.inr (.inr (fun j => some (ta j))))))), (pl, .inr (2, [.int (nI kc), .int (nI kl), .int xb, .int (nI kn), .int (nI ko), .ref p5, .ref p6, .ref p7, .ref p8, .ref p9, .ref p10, .ref p11, .ref p12, .ref p13]))] [wx wa [k_3]]) s.heap := hP
        have hD : va_D A (wq [(ta k_3, .inr (8, [.int t_33_0, .int t_33_1, .int t_33_2, .int t_33_3, .int t_33_4, .int t_33_5, .int t_33_6, .int t_33_7, .int t_33_8, .int t_33_9, .int t_33_10, .int t_33_11, .int t_33_12, .int t_33_13, .long t_33_o, .int (nI t_33_z), .ref (ra k_3)])), (h0, .inr (10, [.ref tp, .ref rd, .ref lv, .ref tr, .ref rw, .ref bx, .ref ch, .ref si, .ref dg, .ref pl, .ref pd, .int xz])), (lv, .inr (9, [.ref pl, .int (nI kw), .ref tk, .ref hd, .ref fr, .ref cg])), (tk, .inl (ca 5, 10, .inr (.inr (.inr (.inr (fun j => some (ta j))))))), (pl, .inr (2, [.int (nI kc), .int (nI kl), .int xb, .int (nI kn), .int (nI ko), .ref p5, .ref p6, .ref p7, .ref p8, .ref p9, .ref p10, .ref p11, .ref p12, .ref p13]))] [wx wa [k_3]]) := hD
        refine va_get (D := D) (ci := 8) (v := .int t_33_9) (C := RX8) (T := TX8) (N := 17) hx hb hts iw_X10_task_8 hown hC.1 hP 0 rfl rfl 9 (by decide +kernel) (hts (.fieldLink RX10 160 "FairWheel$Task" "target" "I") (by decide +kernel)) (fun _ h9 => h9) rfl dX10_task_142 ?_
        obtain ⟨w_34, hw_34, hP, hD⟩ : ∃ w_34, wok ca ta ra w_34 ∧ va_P D vwCl (wq [(h0, .inr (10, [.ref tp, .ref rd, .ref lv, .ref tr, .ref rw, .ref bx, .ref ch, .ref si, .ref dg, .ref pl, .ref pd, .int xz])), (lv, .inr (9, [.ref pl, .int (nI kw), .ref tk, .ref hd, .ref fr, .ref cg])), (tk, .inl (ca 5, 10, .inr (.inr (.inr (.inr (fun j => some (ta j))))))), (pl, .inr (2, [.int (nI kc), .int (nI kl), .int xb, .int (nI kn), .int (nI ko), .ref p5, .ref p6, .ref p7, .ref p8, .ref p9, .ref p10, .ref p11, .ref p12, .ref p13]))] [wx w_34 []]) s.heap ∧ va_D A (wq [(h0, .inr (10, [.ref tp, .ref rd, .ref lv, .ref tr, .ref rw, .ref bx, .ref ch, .ref si, .ref dg, .ref pl, .ref pd, .int xz])), (lv, .inr (9, [.ref pl, .int (nI kw), .ref tk, .ref hd, .ref fr, .ref cg])), (tk, .inl (ca 5, 10, .inr (.inr (.inr (.inr (fun j => some (ta j))))))), (pl, .inr (2, [.int (nI kc), .int (nI kl), .int xb, .int (nI kn), .int (nI ko), .ref p5, .ref p6, .ref p7, .ref p8, .ref p9, .ref p10, .ref p11, .ref p12, .ref p13]))] [wx w_34 []]) := ⟨_, wok_t hw_wa (k := k_3) (by omega) t_33_0 t_33_1 t_33_2 t_33_3 t_33_4 t_33_5 t_33_6 t_33_7 t_33_8 t_33_9 t_33_10 t_33_11 t_33_12 t_33_13 t_33_o t_33_z (by omega), hP.perm (wx_c0 (k := k_3) (by omega) (List.not_mem_nil)), hD.perm (wx_c0 (k := k_3) (by omega) (List.not_mem_nil))⟩
        exact W.iret (v := t_33_9) hx hb hr (fun t ht hW => ⟨⟨t_33_9, w_34, rfl, hw_34, by rw [ht]; exact (hP.perm (sg (wr := []) 5 [0, 1, 2, 3, 4] [] rfl rfl rfl (by decide +kernel))).left, hDA ((hD.perm (sg (wr := []) 5 [0, 1, 2, 3, 4] [] rfl rfl rfl (by decide +kernel))).left)⟩, hS.F ht⟩) hS.2.2 dX10_task_145
      refine (Decidable.em (x2 = 10)).elim (fun c_35 => ?_) (fun c_35 => ?_)
      · refine nt_i 10 c_35 ?_
        refine lv_tableIn (off := 117) (tgt := 146) hx hb dX10_task_29 (by decide +kernel) (by decide +kernel) (by decide +kernel) (by decide +kernel) ?_
        refine lv_aload_n hx hb dX10_task_146 rfl (lv_at hl 0 rfl) ?_
        obtain ⟨t_36_0, t_36_1, t_36_2, t_36_3, t_36_4, t_36_5, t_36_6, t_36_7, t_36_8, t_36_9, t_36_10, t_36_11, t_36_12, t_36_13, t_36_o, t_36_z, ht_36, et_36⟩ := (hw_wa k_3 (by omega)).1
        have hP := hP.perm (wx_o0 (k := k_3) (by omega) (List.not_mem_nil) et_36)
        have hD := hD.perm (wx_o0 (k := k_3) (by omega) (List.not_mem_nil) et_36)
        have hP : va_P D vwCl (wq [(ta k_3, .inr (8, [.int t_36_0, .int t_36_1, .int t_36_2, .int t_36_3, .int t_36_4, .int t_36_5, .int t_36_6, .int t_36_7, .int t_36_8, .int t_36_9, .int t_36_10, .int t_36_11, .int t_36_12, .int t_36_13, .long t_36_o, .int (nI t_36_z), .ref (ra k_3)])), (h0, .inr (10, [.ref tp, .ref rd, .ref lv, .ref tr, .ref rw, .ref bx, .ref ch, .ref si, .ref dg, .ref pl, .ref pd, .int xz])), (lv, .inr (9, [.ref pl, .int (nI kw), .ref tk, .ref hd, .ref fr, .ref cg])), (tk, .inl (ca 5, 10, .inr (.inr (.inr (.inr (fun j => some (ta j))))))), (pl, .inr (2, [.int (nI kc), .int (nI kl), .int xb, .int (nI kn), .int (nI ko), .ref p5, .ref p6, .ref p7, .ref p8, .ref p9, .ref p10, .ref p11, .ref p12, .ref p13]))] [wx wa [k_3]]) s.heap := hP
        have hD : va_D A (wq [(ta k_3, .inr (8, [.int t_36_0, .int t_36_1, .int t_36_2, .int t_36_3, .int t_36_4, .int t_36_5, .int t_36_6, .int t_36_7, .int t_36_8, .int t_36_9, .int t_36_10, .int t_36_11, .int t_36_12, .int t_36_13, .long t_36_o, .int (nI t_36_z), .ref (ra k_3)])), (h0, .inr (10, [.ref tp, .ref rd, .ref lv, .ref tr, .ref rw, .ref bx, .ref ch, .ref si, .ref dg, .ref pl, .ref pd, .int xz])), (lv, .inr (9, [.ref pl, .int (nI kw), .ref tk, .ref hd, .ref fr, .ref cg])), (tk, .inl (ca 5, 10, .inr (.inr (.inr (.inr (fun j => some (ta j))))))), (pl, .inr (2, [.int (nI kc), .int (nI kl), .int xb, .int (nI kn), .int (nI ko), .ref p5, .ref p6, .ref p7, .ref p8, .ref p9, .ref p10, .ref p11, .ref p12, .ref p13]))] [wx wa [k_3]]) := hD
        refine va_get (D := D) (ci := 8) (v := .int t_36_10) (C := RX8) (T := TX8) (N := 17) hx hb hts iw_X10_task_8 hown hC.1 hP 0 rfl rfl 10 (by decide +kernel) (hts (.fieldLink RX10 163 "FairWheel$Task" "missed" "I") (by decide +kernel)) (fun _ h9 => h9) rfl dX10_task_147 ?_
        obtain ⟨w_37, hw_37, hP, hD⟩ : ∃ w_37, wok ca ta ra w_37 ∧ va_P D vwCl (wq [(h0, .inr (10, [.ref tp, .ref rd, .ref lv, .ref tr, .ref rw, .ref bx, .ref ch, .ref si, .ref dg, .ref pl, .ref pd, .int xz])), (lv, .inr (9, [.ref pl, .int (nI kw), .ref tk, .ref hd, .ref fr, .ref cg])), (tk, .inl (ca 5, 10, .inr (.inr (.inr (.inr (fun j => some (ta j))))))), (pl, .inr (2, [.int (nI kc), .int (nI kl), .int xb, .int (nI kn), .int (nI ko), .ref p5, .ref p6, .ref p7, .ref p8, .ref p9, .ref p10, .ref p11, .ref p12, .ref p13]))] [wx w_37 []]) s.heap ∧ va_D A (wq [(h0, .inr (10, [.ref tp, .ref rd, .ref lv, .ref tr, .ref rw, .ref bx, .ref ch, .ref si, .ref dg, .ref pl, .ref pd, .int xz])), (lv, .inr (9, [.ref pl, .int (nI kw), .ref tk, .ref hd, .ref fr, .ref cg])), (tk, .inl (ca 5, 10, .inr (.inr (.inr (.inr (fun j => some (ta j))))))), (pl, .inr (2, [.int (nI kc), .int (nI kl), .int xb, .int (nI kn), .int (nI ko), .ref p5, .ref p6, .ref p7, .ref p8, .ref p9, .ref p10, .ref p11, .ref p12, .ref p13]))] [wx w_37 []]) := ⟨_, wok_t hw_wa (k := k_3) (by omega) t_36_0 t_36_1 t_36_2 t_36_3 t_36_4 t_36_5 t_36_6 t_36_7 t_36_8 t_36_9 t_36_10 t_36_11 t_36_12 t_36_13 t_36_o t_36_z (by omega), hP.perm (wx_c0 (k := k_3) (by omega) (List.not_mem_nil)), hD.perm (wx_c0 (k := k_3) (by omega) (List.not_mem_nil))⟩
        exact W.iret (v := t_36_10) hx hb hr (fun t ht hW => ⟨⟨t_36_10, w_37, rfl, hw_37, by rw [ht]; exact (hP.perm (sg (wr := []) 5 [0, 1, 2, 3, 4] [] rfl rfl rfl (by decide +kernel))).left, hDA ((hD.perm (sg (wr := []) 5 [0, 1, 2, 3, 4] [] rfl rfl rfl (by decide +kernel))).left)⟩, hS.F ht⟩) hS.2.2 dX10_task_150
      refine (Decidable.em (x2 = 11)).elim (fun c_38 => ?_) (fun c_38 => ?_)
      · refine nt_i 11 c_38 ?_
        refine lv_tableIn (off := 122) (tgt := 151) hx hb dX10_task_29 (by decide +kernel) (by decide +kernel) (by decide +kernel) (by decide +kernel) ?_
        refine lv_aload_n hx hb dX10_task_151 rfl (lv_at hl 0 rfl) ?_
        obtain ⟨t_39_0, t_39_1, t_39_2, t_39_3, t_39_4, t_39_5, t_39_6, t_39_7, t_39_8, t_39_9, t_39_10, t_39_11, t_39_12, t_39_13, t_39_o, t_39_z, ht_39, et_39⟩ := (hw_wa k_3 (by omega)).1
        have hP := hP.perm (wx_o0 (k := k_3) (by omega) (List.not_mem_nil) et_39)
        have hD := hD.perm (wx_o0 (k := k_3) (by omega) (List.not_mem_nil) et_39)
        have hP : va_P D vwCl (wq [(ta k_3, .inr (8, [.int t_39_0, .int t_39_1, .int t_39_2, .int t_39_3, .int t_39_4, .int t_39_5, .int t_39_6, .int t_39_7, .int t_39_8, .int t_39_9, .int t_39_10, .int t_39_11, .int t_39_12, .int t_39_13, .long t_39_o, .int (nI t_39_z), .ref (ra k_3)])), (h0, .inr (10, [.ref tp, .ref rd, .ref lv, .ref tr, .ref rw, .ref bx, .ref ch, .ref si, .ref dg, .ref pl, .ref pd, .int xz])), (lv, .inr (9, [.ref pl, .int (nI kw), .ref tk, .ref hd, .ref fr, .ref cg])), (tk, .inl (ca 5, 10, .inr (.inr (.inr (.inr (fun j => some (ta j))))))), (pl, .inr (2, [.int (nI kc), .int (nI kl), .int xb, .int (nI kn), .int (nI ko), .ref p5, .ref p6, .ref p7, .ref p8, .ref p9, .ref p10, .ref p11, .ref p12, .ref p13]))] [wx wa [k_3]]) s.heap := hP
        have hD : va_D A (wq [(ta k_3, .inr (8, [.int t_39_0, .int t_39_1, .int t_39_2, .int t_39_3, .int t_39_4, .int t_39_5, .int t_39_6, .int t_39_7, .int t_39_8, .int t_39_9, .int t_39_10, .int t_39_11, .int t_39_12, .int t_39_13, .long t_39_o, .int (nI t_39_z), .ref (ra k_3)])), (h0, .inr (10, [.ref tp, .ref rd, .ref lv, .ref tr, .ref rw, .ref bx, .ref ch, .ref si, .ref dg, .ref pl, .ref pd, .int xz])), (lv, .inr (9, [.ref pl, .int (nI kw), .ref tk, .ref hd, .ref fr, .ref cg])), (tk, .inl (ca 5, 10, .inr (.inr (.inr (.inr (fun j => some (ta j))))))), (pl, .inr (2, [.int (nI kc), .int (nI kl), .int xb, .int (nI kn), .int (nI ko), .ref p5, .ref p6, .ref p7, .ref p8, .ref p9, .ref p10, .ref p11, .ref p12, .ref p13]))] [wx wa [k_3]]) := hD
        refine va_get (D := D) (ci := 8) (v := .int t_39_11) (C := RX8) (T := TX8) (N := 17) hx hb hts iw_X10_task_8 hown hC.1 hP 0 rfl rfl 11 (by decide +kernel) (hts (.fieldLink RX10 166 "FairWheel$Task" "waited" "I") (by decide +kernel)) (fun _ h9 => h9) rfl dX10_task_152 ?_
        obtain ⟨w_40, hw_40, hP, hD⟩ : ∃ w_40, wok ca ta ra w_40 ∧ va_P D vwCl (wq [(h0, .inr (10, [.ref tp, .ref rd, .ref lv, .ref tr, .ref rw, .ref bx, .ref ch, .ref si, .ref dg, .ref pl, .ref pd, .int xz])), (lv, .inr (9, [.ref pl, .int (nI kw), .ref tk, .ref hd, .ref fr, .ref cg])), (tk, .inl (ca 5, 10, .inr (.inr (.inr (.inr (fun j => some (ta j))))))), (pl, .inr (2, [.int (nI kc), .int (nI kl), .int xb, .int (nI kn), .int (nI ko), .ref p5, .ref p6, .ref p7, .ref p8, .ref p9, .ref p10, .ref p11, .ref p12, .ref p13]))] [wx w_40 []]) s.heap ∧ va_D A (wq [(h0, .inr (10, [.ref tp, .ref rd, .ref lv, .ref tr, .ref rw, .ref bx, .ref ch, .ref si, .ref dg, .ref pl, .ref pd, .int xz])), (lv, .inr (9, [.ref pl, .int (nI kw), .ref tk, .ref hd, .ref fr, .ref cg])), (tk, .inl (ca 5, 10, .inr (.inr (.inr (.inr (fun j => some (ta j))))))), (pl, .inr (2, [.int (nI kc), .int (nI kl), .int xb, .int (nI kn), .int (nI ko), .ref p5, .ref p6, .ref p7, .ref p8, .ref p9, .ref p10, .ref p11, .ref p12, .ref p13]))] [wx w_40 []]) := ⟨_, wok_t hw_wa (k := k_3) (by omega) t_39_0 t_39_1 t_39_2 t_39_3 t_39_4 t_39_5 t_39_6 t_39_7 t_39_8 t_39_9 t_39_10 t_39_11 t_39_12 t_39_13 t_39_o t_39_z (by omega), hP.perm (wx_c0 (k := k_3) (by omega) (List.not_mem_nil)), hD.perm (wx_c0 (k := k_3) (by omega) (List.not_mem_nil))⟩
        exact W.iret (v := t_39_11) hx hb hr (fun t ht hW => ⟨⟨t_39_11, w_40, rfl, hw_40, by rw [ht]; exact (hP.perm (sg (wr := []) 5 [0, 1, 2, 3, 4] [] rfl rfl rfl (by decide +kernel))).left, hDA ((hD.perm (sg (wr := []) 5 [0, 1, 2, 3, 4] [] rfl rfl rfl (by decide +kernel))).left)⟩, hS.F ht⟩) hS.2.2 dX10_task_155
      refine (Decidable.em (x2 = 12)).elim (fun c_41 => ?_) (fun c_41 => ?_)
      · refine nt_i 12 c_41 ?_
        refine lv_tableIn (off := 127) (tgt := 156) hx hb dX10_task_29 (by decide +kernel) (by decide +kernel) (by decide +kernel) (by decide +kernel) ?_
        refine lv_aload_n hx hb dX10_task_156 rfl (lv_at hl 0 rfl) ?_
        obtain ⟨t_42_0, t_42_1, t_42_2, t_42_3, t_42_4, t_42_5, t_42_6, t_42_7, t_42_8, t_42_9, t_42_10, t_42_11, t_42_12, t_42_13, t_42_o, t_42_z, ht_42, et_42⟩ := (hw_wa k_3 (by omega)).1
        have hP := hP.perm (wx_o0 (k := k_3) (by omega) (List.not_mem_nil) et_42)
        have hD := hD.perm (wx_o0 (k := k_3) (by omega) (List.not_mem_nil) et_42)
        have hP : va_P D vwCl (wq [(ta k_3, .inr (8, [.int t_42_0, .int t_42_1, .int t_42_2, .int t_42_3, .int t_42_4, .int t_42_5, .int t_42_6, .int t_42_7, .int t_42_8, .int t_42_9, .int t_42_10, .int t_42_11, .int t_42_12, .int t_42_13, .long t_42_o, .int (nI t_42_z), .ref (ra k_3)])), (h0, .inr (10, [.ref tp, .ref rd, .ref lv, .ref tr, .ref rw, .ref bx, .ref ch, .ref si, .ref dg, .ref pl, .ref pd, .int xz])), (lv, .inr (9, [.ref pl, .int (nI kw), .ref tk, .ref hd, .ref fr, .ref cg])), (tk, .inl (ca 5, 10, .inr (.inr (.inr (.inr (fun j => some (ta j))))))), (pl, .inr (2, [.int (nI kc), .int (nI kl), .int xb, .int (nI kn), .int (nI ko), .ref p5, .ref p6, .ref p7, .ref p8, .ref p9, .ref p10, .ref p11, .ref p12, .ref p13]))] [wx wa [k_3]]) s.heap := hP
        have hD : va_D A (wq [(ta k_3, .inr (8, [.int t_42_0, .int t_42_1, .int t_42_2, .int t_42_3, .int t_42_4, .int t_42_5, .int t_42_6, .int t_42_7, .int t_42_8, .int t_42_9, .int t_42_10, .int t_42_11, .int t_42_12, .int t_42_13, .long t_42_o, .int (nI t_42_z), .ref (ra k_3)])), (h0, .inr (10, [.ref tp, .ref rd, .ref lv, .ref tr, .ref rw, .ref bx, .ref ch, .ref si, .ref dg, .ref pl, .ref pd, .int xz])), (lv, .inr (9, [.ref pl, .int (nI kw), .ref tk, .ref hd, .ref fr, .ref cg])), (tk, .inl (ca 5, 10, .inr (.inr (.inr (.inr (fun j => some (ta j))))))), (pl, .inr (2, [.int (nI kc), .int (nI kl), .int xb, .int (nI kn), .int (nI ko), .ref p5, .ref p6, .ref p7, .ref p8, .ref p9, .ref p10, .ref p11, .ref p12, .ref p13]))] [wx wa [k_3]]) := hD
        refine va_get (D := D) (ci := 8) (v := .int t_42_12) (C := RX8) (T := TX8) (N := 17) hx hb hts iw_X10_task_8 hown hC.1 hP 0 rfl rfl 12 (by decide +kernel) (hts (.fieldLink RX10 169 "FairWheel$Task" "longest" "I") (by decide +kernel)) (fun _ h9 => h9) rfl dX10_task_157 ?_
        obtain ⟨w_43, hw_43, hP, hD⟩ : ∃ w_43, wok ca ta ra w_43 ∧ va_P D vwCl (wq [(h0, .inr (10, [.ref tp, .ref rd, .ref lv, .ref tr, .ref rw, .ref bx, .ref ch, .ref si, .ref dg, .ref pl, .ref pd, .int xz])), (lv, .inr (9, [.ref pl, .int (nI kw), .ref tk, .ref hd, .ref fr, .ref cg])), (tk, .inl (ca 5, 10, .inr (.inr (.inr (.inr (fun j => some (ta j))))))), (pl, .inr (2, [.int (nI kc), .int (nI kl), .int xb, .int (nI kn), .int (nI ko), .ref p5, .ref p6, .ref p7, .ref p8, .ref p9, .ref p10, .ref p11, .ref p12, .ref p13]))] [wx w_43 []]) s.heap ∧ va_D A (wq [(h0, .inr (10, [.ref tp, .ref rd, .ref lv, .ref tr, .ref rw, .ref bx, .ref ch, .ref si, .ref dg, .ref pl, .ref pd, .int xz])), (lv, .inr (9, [.ref pl, .int (nI kw), .ref tk, .ref hd, .ref fr, .ref cg])), (tk, .inl (ca 5, 10, .inr (.inr (.inr (.inr (fun j => some (ta j))))))), (pl, .inr (2, [.int (nI kc), .int (nI kl), .int xb, .int (nI kn), .int (nI ko), .ref p5, .ref p6, .ref p7, .ref p8, .ref p9, .ref p10, .ref p11, .ref p12, .ref p13]))] [wx w_43 []]) := ⟨_, wok_t hw_wa (k := k_3) (by omega) t_42_0 t_42_1 t_42_2 t_42_3 t_42_4 t_42_5 t_42_6 t_42_7 t_42_8 t_42_9 t_42_10 t_42_11 t_42_12 t_42_13 t_42_o t_42_z (by omega), hP.perm (wx_c0 (k := k_3) (by omega) (List.not_mem_nil)), hD.perm (wx_c0 (k := k_3) (by omega) (List.not_mem_nil))⟩
        exact W.iret (v := t_42_12) hx hb hr (fun t ht hW => ⟨⟨t_42_12, w_43, rfl, hw_43, by rw [ht]; exact (hP.perm (sg (wr := []) 5 [0, 1, 2, 3, 4] [] rfl rfl rfl (by decide +kernel))).left, hDA ((hD.perm (sg (wr := []) 5 [0, 1, 2, 3, 4] [] rfl rfl rfl (by decide +kernel))).left)⟩, hS.F ht⟩) hS.2.2 dX10_task_160
      refine lv_tableOut (tgt := 161) hx hb dX10_task_29 (by have e0 : x2.toInt ≠ 0 := ne_toInt c_5; have e1 : x2.toInt ≠ 1 := ne_toInt c_8; have e2 : x2.toInt ≠ 2 := ne_toInt c_11; have e3 : x2.toInt ≠ 3 := ne_toInt c_14; have e4 : x2.toInt ≠ 4 := ne_toInt c_17; have e5 : x2.toInt ≠ 5 := ne_toInt c_20; have e6 : x2.toInt ≠ 6 := ne_toInt c_23; have e7 : x2.toInt ≠ 7 := ne_toInt c_26; have e8 : x2.toInt ≠ 8 := ne_toInt c_29; have e9 : x2.toInt ≠ 9 := ne_toInt c_32; have e10 : x2.toInt ≠ 10 := ne_toInt c_35; have e11 : x2.toInt ≠ 11 := ne_toInt c_38; have e12 : x2.toInt ≠ 12 := ne_toInt c_41; omega) (by decide +kernel) ?_
      refine lv_bipush (v := (-2)) hx hb dX10_task_161 (by decide +kernel) ?_
      exact W.iret (v := (-2)) hx hb hr (fun t ht hW => ⟨⟨(-2), wa, rfl, hw_wa, by rw [ht]; exact (hP.perm (sg (wr := []) 5 [0, 1, 2, 3, 4] [] rfl rfl rfl (by decide +kernel))).left, hDA ((hD.perm (sg (wr := []) 5 [0, 1, 2, 3, 4] [] rfl rfl rfl (by decide +kernel))).left)⟩, hS.F ht⟩) hS.2.2 dX10_task_163
    · refine lv_bipush (v := (-2)) hx hb dX10_task_15 (by decide +kernel) ?_
      exact W.iret (v := (-2)) hx hb hr (fun t ht hW => ⟨⟨(-2), wa, rfl, hw_wa, by rw [ht]; exact (hP.perm (sg (wr := []) 5 [0, 1, 2, 3, 4] [] rfl rfl rfl (by decide +kernel))).left, hDA ((hD.perm (sg (wr := []) 5 [0, 1, 2, 3, 4] [] rfl rfl rfl (by decide +kernel))).left)⟩, hS.F ht⟩) hS.2.2 dX10_task_17
theorem iw_X10_place_2 : ∀ w ∈ u_ws RX2 TX2 14, w ∈ wsX10_place := by decide +kernel
theorem iw_X10_place_8 : ∀ w ∈ u_ws RX8 TX8 17, w ∈ wsX10_place := by decide +kernel
theorem iw_X10_place_9 : ∀ w ∈ u_ws RX9 TX9 6, w ∈ wsX10_place := by decide +kernel
theorem iw_X10_place_10 : ∀ w ∈ u_ws RX10 TX10 12, w ∈ wsX10_place := by decide +kernel
set_option maxHeartbeats 4000000 in
set_option maxRecDepth 100000 in
theorem s_X10_place (l : Launch) (D : va_G) (ca : Nat → ClassId) (sz : Nat) (h0 : Nat) (tp : Nat) (rd : Nat) (lv : Nat) (tr : Nat) (rw : Nat) (bx : Nat) (ch : Nat) (si : Nat) (dg : Nat) (pl : Nat) (pd : Nat) (xz : Int32) (kw : Nat) (tk : Nat) (hd : Nat) (fr : Nat) (cg : Nat) (fh : Nat → Int32) (fc : Nat → Int32) (ff : Nat → Int64) (p5 : Nat) (p6 : Nat) (p7 : Nat) (p8 : Nat) (p9 : Nat) (p10 : Nat) (p11 : Nat) (p12 : Nat) (p13 : Nat) (kc : Nat) (kl : Nat) (kn : Nat) (ko : Nat) (xb : Int32) (fp6 : Nat → Int32) (fp7 : Nat → Int32) (fp8 : Nat → Int32) (fp9 : Nat → Int32) (fp10 : Nat → Int32) (fp11 : Nat → Int32) (fp12 : Nat → Int32) (fp13 : Nat → Int32) (x1 : Int32) (wa : Nat → Nat × va_E) (ta : Nat → Nat) (ra : Nat → Nat) (hkw : kw ≤ 2000) (hkn : kn ≤ 10) (hkc : kc ≤ 4) (hkl : kl ≤ 6) (hw_wa : wok ca ta ra wa) (hfh : hok fh) : Met l yX10_place wsX10_place ({ frames := 2, cells := 0, slots := 0, locals := 45 }) (PC [.ref h0, .int x1] sz D ca (wq [(h0, .inr (10, [.ref tp, .ref rd, .ref lv, .ref tr, .ref rw, .ref bx, .ref ch, .ref si, .ref dg, .ref pl, .ref pd, .int xz])), (lv, .inr (9, [.ref pl, .int (nI kw), .ref tk, .ref hd, .ref fr, .ref cg])), (tk, .inl (ca 5, 10, .inr (.inr (.inr (.inr (fun j => some (ta j))))))), (hd, .inl (ca 1, 6, .inl fh)), (fr, .inl (ca 2, 10, .inr (.inl ff))), (cg, .inl (ca 1, 10, .inl fc)), (pl, .inr (2, [.int (nI kc), .int (nI kl), .int xb, .int (nI kn), .int (nI ko), .ref p5, .ref p6, .ref p7, .ref p8, .ref p9, .ref p10, .ref p11, .ref p12, .ref p13])), (p6, .inl (ca 1, 10, .inl fp6)), (p7, .inl (ca 1, 10, .inl fp7)), (p8, .inl (ca 1, 10, .inl fp8)), (p9, .inl (ca 1, 10, .inl fp9)), (p10, .inl (ca 1, 10, .inl fp10)), (p11, .inl (ca 1, 10, .inl fp11)), (p12, .inl (ca 1, 90, .inl fp12)), (p13, .inl (ca 1, 90, .inl fp13))] [wx wa []])) (QI (fun (r : Int32) (u : (Nat → Int32) × (Nat → Int64) × (Nat → Int32) × (Nat → Nat × va_E)) => hok u.1 ∧ wok ca ta ra u.2.2.2) (fun (u : (Nat → Int32) × (Nat → Int64) × (Nat → Int32) × (Nat → Nat × va_E)) => (wq [(h0, .inr (10, [.ref tp, .ref rd, .ref lv, .ref tr, .ref rw, .ref bx, .ref ch, .ref si, .ref dg, .ref pl, .ref pd, .int xz])), (lv, .inr (9, [.ref pl, .int (nI kw), .ref tk, .ref hd, .ref fr, .ref cg])), (tk, .inl (ca 5, 10, .inr (.inr (.inr (.inr (fun j => some (ta j))))))), (hd, .inl (ca 1, 6, .inl u.1)), (fr, .inl (ca 2, 10, .inr (.inl u.2.1))), (cg, .inl (ca 1, 10, .inl u.2.2.1)), (pl, .inr (2, [.int (nI kc), .int (nI kl), .int xb, .int (nI kn), .int (nI ko), .ref p5, .ref p6, .ref p7, .ref p8, .ref p9, .ref p10, .ref p11, .ref p12, .ref p13])), (p6, .inl (ca 1, 10, .inl fp6)), (p7, .inl (ca 1, 10, .inl fp7)), (p8, .inl (ca 1, 10, .inl fp8)), (p9, .inl (ca 1, 10, .inl fp9)), (p10, .inl (ca 1, 10, .inl fp10)), (p11, .inl (ca 1, 10, .inl fp11)), (p12, .inl (ca 1, 90, .inl fp12)), (p13, .inl (ca 1, 90, .inl fp13))] [wx u.2.2.2 []])) (wq [(h0, .inr (10, [.ref tp, .ref rd, .ref lv, .ref tr, .ref rw, .ref bx, .ref ch, .ref si, .ref dg, .ref pl, .ref pd, .int xz])), (lv, .inr (9, [.ref pl, .int (nI kw), .ref tk, .ref hd, .ref fr, .ref cg])), (tk, .inl (ca 5, 10, .inr (.inr (.inr (.inr (fun j => some (ta j))))))), (hd, .inl (ca 1, 6, .inl fh)), (fr, .inl (ca 2, 10, .inr (.inl ff))), (cg, .inl (ca 1, 10, .inl fc)), (pl, .inr (2, [.int (nI kc), .int (nI kl), .int xb, .int (nI kn), .int (nI ko), .ref p5, .ref p6, .ref p7, .ref p8, .ref p9, .ref p10, .ref p11, .ref p12, .ref p13])), (p6, .inl (ca 1, 10, .inl fp6)), (p7, .inl (ca 1, 10, .inl fp7)), (p8, .inl (ca 1, 10, .inl fp8)), (p9, .inl (ca 1, 10, .inl fp9)), (p10, .inl (ca 1, 10, .inl fp10)), (p11, .inl (ca 1, 10, .inl fp11)), (p12, .inl (ca 1, 90, .inl fp12)), (p13, .inl (ca 1, 90, .inl fp13))] [wx wa []]) sz D) 0 0 (va_A (wq [(h0, .inr (10, [.ref tp, .ref rd, .ref lv, .ref tr, .ref rw, .ref bx, .ref ch, .ref si, .ref dg, .ref pl, .ref pd, .int xz])), (lv, .inr (9, [.ref pl, .int (nI kw), .ref tk, .ref hd, .ref fr, .ref cg])), (tk, .inl (ca 5, 10, .inr (.inr (.inr (.inr (fun j => some (ta j))))))), (hd, .inl (ca 1, 6, .inl fh)), (fr, .inl (ca 2, 10, .inr (.inl ff))), (cg, .inl (ca 1, 10, .inl fc)), (pl, .inr (2, [.int (nI kc), .int (nI kl), .int xb, .int (nI kn), .int (nI ko), .ref p5, .ref p6, .ref p7, .ref p8, .ref p9, .ref p10, .ref p11, .ref p12, .ref p13])), (p6, .inl (ca 1, 10, .inl fp6)), (p7, .inl (ca 1, 10, .inl fp7)), (p8, .inl (ca 1, 10, .inl fp8)), (p9, .inl (ca 1, 10, .inl fp9)), (p10, .inl (ca 1, 10, .inl fp10)), (p11, .inl (ca 1, 10, .inl fp11)), (p12, .inl (ca 1, 90, .inl fp12)), (p13, .inl (ca 1, 90, .inl fp13))] [wx wa []]) sz) := by
  refine Met.ofW (cc := cX10_place) (maxL := 2) (ret := (some .int)) (by decide +kernel) rfl ?_
  intro p e s m args below meth c s₁ B hml hv
  obtain ⟨rfl, hsz, hP, hC, hD0⟩ := hv
  have hx := B.exec
  have hb := B.bytes
  have hr := B.returns
  have hts := atoms_spec (ws := wsX10_place) B.pre
  have hown : s.vm.findClass RX10 = some m.cls := findClass_of_methodNamed B.named
  have hlocks := B.notSynchronized
  subst hsz
  have hD := hD0.self (sz := s.heap.size)
  dsimp only [QV, QI, QL, BQ]
  generalize hAe : va_A (wq [(h0, .inr (10, [.ref tp, .ref rd, .ref lv, .ref tr, .ref rw, .ref bx, .ref ch, .ref si, .ref dg, .ref pl, .ref pd, .int xz])), (lv, .inr (9, [.ref pl, .int (nI kw), .ref tk, .ref hd, .ref fr, .ref cg])), (tk, .inl (ca 5, 10, .inr (.inr (.inr (.inr (fun j => some (ta j))))))), (hd, .inl (ca 1, 6, .inl fh)), (fr, .inl (ca 2, 10, .inr (.inl ff))), (cg, .inl (ca 1, 10, .inl fc)), (pl, .inr (2, [.int (nI kc), .int (nI kl), .int xb, .int (nI kn), .int (nI ko), .ref p5, .ref p6, .ref p7, .ref p8, .ref p9, .ref p10, .ref p11, .ref p12, .ref p13])), (p6, .inl (ca 1, 10, .inl fp6)), (p7, .inl (ca 1, 10, .inl fp7)), (p8, .inl (ca 1, 10, .inl fp8)), (p9, .inl (ca 1, 10, .inl fp9)), (p10, .inl (ca 1, 10, .inl fp10)), (p11, .inl (ca 1, 10, .inl fp11)), (p12, .inl (ca 1, 90, .inl fp12)), (p13, .inl (ca 1, 90, .inl fp13))] [wx wa []]) s.heap.size = A at hD ⊢
  have hA : ∀ q : Nat, s.heap.size ≤ q → A q := fun q h => by rw [← hAe]; exact Or.inr h
  have hDA : ∀ {w : va_W}, va_D A w → va_D (va_A (wq [(h0, .inr (10, [.ref tp, .ref rd, .ref lv, .ref tr, .ref rw, .ref bx, .ref ch, .ref si, .ref dg, .ref pl, .ref pd, .int xz])), (lv, .inr (9, [.ref pl, .int (nI kw), .ref tk, .ref hd, .ref fr, .ref cg])), (tk, .inl (ca 5, 10, .inr (.inr (.inr (.inr (fun j => some (ta j))))))), (hd, .inl (ca 1, 6, .inl fh)), (fr, .inl (ca 2, 10, .inr (.inl ff))), (cg, .inl (ca 1, 10, .inl fc)), (pl, .inr (2, [.int (nI kc), .int (nI kl), .int xb, .int (nI kn), .int (nI ko), .ref p5, .ref p6, .ref p7, .ref p8, .ref p9, .ref p10, .ref p11, .ref p12, .ref p13])), (p6, .inl (ca 1, 10, .inl fp6)), (p7, .inl (ca 1, 10, .inl fp7)), (p8, .inl (ca 1, 10, .inl fp8)), (p9, .inl (ca 1, 10, .inl fp9)), (p10, .inl (ca 1, 10, .inl fp10)), (p11, .inl (ca 1, 10, .inl fp11)), (p12, .inl (ca 1, 90, .inl fp12)), (p13, .inl (ca 1, 90, .inl fp13))] [wx wa []]) s.heap.size) w := fun h => by rw [hAe]; exact h
  have hS : va_S A s.heap s.heap [] := va_S.rf
  have hP : va_P D vwCl (wq [(h0, .inr (10, [.ref tp, .ref rd, .ref lv, .ref tr, .ref rw, .ref bx, .ref ch, .ref si, .ref dg, .ref pl, .ref pd, .int xz])), (lv, .inr (9, [.ref pl, .int (nI kw), .ref tk, .ref hd, .ref fr, .ref cg])), (tk, .inl (ca 5, 10, .inr (.inr (.inr (.inr (fun j => some (ta j))))))), (hd, .inl (ca 1, 6, .inl fh)), (fr, .inl (ca 2, 10, .inr (.inl ff))), (cg, .inl (ca 1, 10, .inl fc)), (pl, .inr (2, [.int (nI kc), .int (nI kl), .int xb, .int (nI kn), .int (nI ko), .ref p5, .ref p6, .ref p7, .ref p8, .ref p9, .ref p10, .ref p11, .ref p12, .ref p13])), (p6, .inl (ca 1, 10, .inl fp6)), (p7, .inl (ca 1, 10, .inl fp7)), (p8, .inl (ca 1, 10, .inl fp8)), (p9, .inl (ca 1, 10, .inl fp9)), (p10, .inl (ca 1, 10, .inl fp10)), (p11, .inl (ca 1, 10, .inl fp11)), (p12, .inl (ca 1, 90, .inl fp12)), (p13, .inl (ca 1, 90, .inl fp13))] [wx wa []]) s.heap := hP
  have hl := lv_entry ([.ref h0, .int x1]) (n := 2) (Nat.le_of_ble_eq_true rfl)
  rw [lg_entry_eq]
  generalize (lg_sl ([.ref h0, .int x1]) ++ List.replicate (2 - (lg_sl ([.ref h0, .int x1])).length) Slot.unset).toArray = ls at hl ⊢
  have hl : lv_has ls 2 [(0, .ref h0), (1, .int x1)] := hl
  refine lv_iload_n hx hb dX10_place_0 rfl (lv_at hl 1 rfl) ?_
  refine lv_if_lt (tgt := 31) hx hb dX10_place_1 (by decide +kernel) (fun c_1 => ?_) (fun c_1 => ?_)
  · refine lv_iconst (v := (-1)) hx hb dX10_place_31 (by decide +kernel) ?_
    exact W.iret (v := (-1)) hx hb hr (fun t ht hW => ⟨⟨(-1), (fh, ff, fc, wa), rfl, ⟨hfh, hw_wa⟩, by rw [ht]; exact (hP.perm (sg (wr := []) 16 [0, 1, 2, 3, 4, 5, 6, 7, 8, 9, 10, 11, 12, 13, 14, 15] [] rfl rfl rfl (by decide +kernel))).left, hDA ((hD.perm (sg (wr := []) 16 [0, 1, 2, 3, 4, 5, 6, 7, 8, 9, 10, 11, 12, 13, 14, 15] [] rfl rfl rfl (by decide +kernel))).left)⟩, hS.F ht⟩) hS.2.2 dX10_place_32
  · refine lv_iload_n hx hb dX10_place_4 rfl (lv_at hl 1 rfl) ?_
    refine lv_aload_n hx hb dX10_place_5 rfl (lv_at hl 0 rfl) ?_
    refine va_get (D := D) (ci := 10) (v := .ref pl) (C := RX10) (T := TX10) (N := 12) hx hb hts iw_X10_place_10 hown hC.1 hP 0 rfl rfl 9 (by decide +kernel) (hts (.fieldLink RX10 19 "FairWheel" "plan" "LFairWheel$Plan;") (by decide +kernel)) (fun _ h9 => h9) rfl dX10_place_6 ?_
    refine va_get (D := D) (ci := 2) (v := .int (nI kn)) (C := RX2) (T := TX2) (N := 14) hx hb hts iw_X10_place_2 hown hC.1 hP 6 rfl rfl 3 (by decide +kernel) (hts (.fieldLink RX10 105 "FairWheel$Plan" "count" "I") (by decide +kernel)) (fun _ h9 => h9) rfl dX10_place_9 ?_
    refine lv_icmp_ge (tgt := 31) hx hb dX10_place_12 (by decide +kernel) (fun c_2 => ?_) (fun c_2 => ?_)
    · refine lv_iconst (v := (-1)) hx hb dX10_place_31 (by decide +kernel) ?_
      exact W.iret (v := (-1)) hx hb hr (fun t ht hW => ⟨⟨(-1), (fh, ff, fc, wa), rfl, ⟨hfh, hw_wa⟩, by rw [ht]; exact (hP.perm (sg (wr := []) 16 [0, 1, 2, 3, 4, 5, 6, 7, 8, 9, 10, 11, 12, 13, 14, 15] [] rfl rfl rfl (by decide +kernel))).left, hDA ((hD.perm (sg (wr := []) 16 [0, 1, 2, 3, 4, 5, 6, 7, 8, 9, 10, 11, 12, 13, 14, 15] [] rfl rfl rfl (by decide +kernel))).left)⟩, hS.F ht⟩) hS.2.2 dX10_place_32
    · refine lv_aload_n hx hb dX10_place_15 rfl (lv_at hl 0 rfl) ?_
      refine va_get (D := D) (ci := 10) (v := .ref lv) (C := RX10) (T := TX10) (N := 12) hx hb hts iw_X10_place_10 hown hC.1 hP 0 rfl rfl 2 (by decide +kernel) (hts (.fieldLink RX10 40 "FairWheel" "live" "LFairWheel$Wheel;") (by decide +kernel)) (fun _ h9 => h9) rfl dX10_place_16 ?_
      refine va_get (D := D) (ci := 9) (v := .ref tk) (C := RX9) (T := TX9) (N := 6) hx hb hts iw_X10_place_9 hown hC.1 hP 1 rfl rfl 2 (by decide +kernel) (hts (.fieldLink RX10 127 "FairWheel$Wheel" "tasks" "[LFairWheel$Task;") (by decide +kernel)) (fun _ h9 => h9) rfl dX10_place_19 ?_
      refine lv_iload_n hx hb dX10_place_22 rfl (lv_at hl 1 rfl) ?_
      obtain ⟨k_3, hk_3, rfl⟩ := nI_of c_1
      have nc_2 : ¬ (kn ≤ k_3) := fun h => c_2 ((nI_leI (a := kn) (b := k_3) (by omega) (by omega)).mpr h)
      refine ka_aldq hx hb hC.1 hP 2 5 rfl rfl k_3 rfl (by omega) (by decide +kernel) dX10_place_23 ?_
      refine nt_v (.ref (ta k_3)) rfl ?_
      obtain ⟨t_4_0, t_4_1, t_4_2, t_4_3, t_4_4, t_4_5, t_4_6, t_4_7, t_4_8, t_4_9, t_4_10, t_4_11, t_4_12, t_4_13, t_4_o, t_4_z, ht_4, et_4⟩ := (hw_wa k_3 (by omega)).1
      have hP := hP.perm (wx_o0 (k := k_3) (by omega) (List.not_mem_nil) et_4)
      have hD := hD.perm (wx_o0 (k := k_3) (by omega) (List.not_mem_nil) et_4)
      have hP : va_P D vwCl (wq [(ta k_3, .inr (8, [.int t_4_0, .int t_4_1, .int t_4_2, .int t_4_3, .int t_4_4, .int t_4_5, .int t_4_6, .int t_4_7, .int t_4_8, .int t_4_9, .int t_4_10, .int t_4_11, .int t_4_12, .int t_4_13, .long t_4_o, .int (nI t_4_z), .ref (ra k_3)])), (h0, .inr (10, [.ref tp, .ref rd, .ref lv, .ref tr, .ref rw, .ref bx, .ref ch, .ref si, .ref dg, .ref pl, .ref pd, .int xz])), (lv, .inr (9, [.ref pl, .int (nI kw), .ref tk, .ref hd, .ref fr, .ref cg])), (tk, .inl (ca 5, 10, .inr (.inr (.inr (.inr (fun j => some (ta j))))))), (hd, .inl (ca 1, 6, .inl fh)), (fr, .inl (ca 2, 10, .inr (.inl ff))), (cg, .inl (ca 1, 10, .inl fc)), (pl, .inr (2, [.int (nI kc), .int (nI kl), .int xb, .int (nI kn), .int (nI ko), .ref p5, .ref p6, .ref p7, .ref p8, .ref p9, .ref p10, .ref p11, .ref p12, .ref p13])), (p6, .inl (ca 1, 10, .inl fp6)), (p7, .inl (ca 1, 10, .inl fp7)), (p8, .inl (ca 1, 10, .inl fp8)), (p9, .inl (ca 1, 10, .inl fp9)), (p10, .inl (ca 1, 10, .inl fp10)), (p11, .inl (ca 1, 10, .inl fp11)), (p12, .inl (ca 1, 90, .inl fp12)), (p13, .inl (ca 1, 90, .inl fp13))] [wx wa [k_3]]) s.heap := hP
      have hD : va_D A (wq [(ta k_3, .inr (8, [.int t_4_0, .int t_4_1, .int t_4_2, .int t_4_3, .int t_4_4, .int t_4_5, .int t_4_6, .int t_4_7, .int t_4_8, .int t_4_9, .int t_4_10, .int t_4_11, .int t_4_12, .int t_4_13, .long t_4_o, .int (nI t_4_z), .ref (ra k_3)])), (h0, .inr (10, [.ref tp, .ref rd, .ref lv, .ref tr, .ref rw, .ref bx, .ref ch, .ref si, .ref dg, .ref pl, .ref pd, .int xz])), (lv, .inr (9, [.ref pl, .int (nI kw), .ref tk, .ref hd, .ref fr, .ref cg])), (tk, .inl (ca 5, 10, .inr (.inr (.inr (.inr (fun j => some (ta j))))))), (hd, .inl (ca 1, 6, .inl fh)), (fr, .inl (ca 2, 10, .inr (.inl ff))), (cg, .inl (ca 1, 10, .inl fc)), (pl, .inr (2, [.int (nI kc), .int (nI kl), .int xb, .int (nI kn), .int (nI ko), .ref p5, .ref p6, .ref p7, .ref p8, .ref p9, .ref p10, .ref p11, .ref p12, .ref p13])), (p6, .inl (ca 1, 10, .inl fp6)), (p7, .inl (ca 1, 10, .inl fp7)), (p8, .inl (ca 1, 10, .inl fp8)), (p9, .inl (ca 1, 10, .inl fp9)), (p10, .inl (ca 1, 10, .inl fp10)), (p11, .inl (ca 1, 10, .inl fp11)), (p12, .inl (ca 1, 90, .inl fp12)), (p13, .inl (ca 1, 90, .inl fp13))] [wx wa [k_3]]) := hD
      refine va_get (D := D) (ci := 8) (v := .int t_4_0) (C := RX8) (T := TX8) (N := 17) hx hb hts iw_X10_place_8 hown hC.1 hP 0 rfl rfl 0 (by decide +kernel) (hts (.fieldLink RX10 131 "FairWheel$Task" "phase" "I") (by decide +kernel)) (fun _ h9 => h9) rfl dX10_place_24 ?_
      refine lv_iconst (v := 4) hx hb dX10_place_27 (by decide +kernel) ?_
      refine lv_icmp_ne (tgt := 33) hx hb dX10_place_28 (by decide +kernel) (fun c_5 => ?_) (fun c_5 => ?_)
      · refine lv_aload_n hx hb dX10_place_33 rfl (lv_at hl 0 rfl) ?_
        refine va_get (D := D) (ci := 10) (v := .ref lv) (C := RX10) (T := TX10) (N := 12) hx hb hts iw_X10_place_10 hown hC.1 hP 1 rfl rfl 2 (by decide +kernel) (hts (.fieldLink RX10 40 "FairWheel" "live" "LFairWheel$Wheel;") (by decide +kernel)) (fun _ h9 => h9) rfl dX10_place_34 ?_
        obtain ⟨w_6, hw_6, hP, hD⟩ : ∃ w_6, wok ca ta ra w_6 ∧ va_P D vwCl (wq [(h0, .inr (10, [.ref tp, .ref rd, .ref lv, .ref tr, .ref rw, .ref bx, .ref ch, .ref si, .ref dg, .ref pl, .ref pd, .int xz])), (lv, .inr (9, [.ref pl, .int (nI kw), .ref tk, .ref hd, .ref fr, .ref cg])), (tk, .inl (ca 5, 10, .inr (.inr (.inr (.inr (fun j => some (ta j))))))), (hd, .inl (ca 1, 6, .inl fh)), (fr, .inl (ca 2, 10, .inr (.inl ff))), (cg, .inl (ca 1, 10, .inl fc)), (pl, .inr (2, [.int (nI kc), .int (nI kl), .int xb, .int (nI kn), .int (nI ko), .ref p5, .ref p6, .ref p7, .ref p8, .ref p9, .ref p10, .ref p11, .ref p12, .ref p13])), (p6, .inl (ca 1, 10, .inl fp6)), (p7, .inl (ca 1, 10, .inl fp7)), (p8, .inl (ca 1, 10, .inl fp8)), (p9, .inl (ca 1, 10, .inl fp9)), (p10, .inl (ca 1, 10, .inl fp10)), (p11, .inl (ca 1, 10, .inl fp11)), (p12, .inl (ca 1, 90, .inl fp12)), (p13, .inl (ca 1, 90, .inl fp13))] [wx w_6 []]) s.heap ∧ va_D A (wq [(h0, .inr (10, [.ref tp, .ref rd, .ref lv, .ref tr, .ref rw, .ref bx, .ref ch, .ref si, .ref dg, .ref pl, .ref pd, .int xz])), (lv, .inr (9, [.ref pl, .int (nI kw), .ref tk, .ref hd, .ref fr, .ref cg])), (tk, .inl (ca 5, 10, .inr (.inr (.inr (.inr (fun j => some (ta j))))))), (hd, .inl (ca 1, 6, .inl fh)), (fr, .inl (ca 2, 10, .inr (.inl ff))), (cg, .inl (ca 1, 10, .inl fc)), (pl, .inr (2, [.int (nI kc), .int (nI kl), .int xb, .int (nI kn), .int (nI ko), .ref p5, .ref p6, .ref p7, .ref p8, .ref p9, .ref p10, .ref p11, .ref p12, .ref p13])), (p6, .inl (ca 1, 10, .inl fp6)), (p7, .inl (ca 1, 10, .inl fp7)), (p8, .inl (ca 1, 10, .inl fp8)), (p9, .inl (ca 1, 10, .inl fp9)), (p10, .inl (ca 1, 10, .inl fp10)), (p11, .inl (ca 1, 10, .inl fp11)), (p12, .inl (ca 1, 90, .inl fp12)), (p13, .inl (ca 1, 90, .inl fp13))] [wx w_6 []]) := ⟨_, wok_t hw_wa (k := k_3) (by omega) t_4_0 t_4_1 t_4_2 t_4_3 t_4_4 t_4_5 t_4_6 t_4_7 t_4_8 t_4_9 t_4_10 t_4_11 t_4_12 t_4_13 t_4_o t_4_z (by omega), hP.perm (wx_c0 (k := k_3) (by omega) (List.not_mem_nil)), hD.perm (wx_c0 (k := k_3) (by omega) (List.not_mem_nil))⟩
        have hq_7 : List.Perm (wq [(h0, .inr (10, [.ref tp, .ref rd, .ref lv, .ref tr, .ref rw, .ref bx, .ref ch, .ref si, .ref dg, .ref pl, .ref pd, .int xz])), (lv, .inr (9, [.ref pl, .int (nI kw), .ref tk, .ref hd, .ref fr, .ref cg])), (tk, .inl (ca 5, 10, .inr (.inr (.inr (.inr (fun j => some (ta j))))))), (hd, .inl (ca 1, 6, .inl fh)), (fr, .inl (ca 2, 10, .inr (.inl ff))), (cg, .inl (ca 1, 10, .inl fc)), (pl, .inr (2, [.int (nI kc), .int (nI kl), .int xb, .int (nI kn), .int (nI ko), .ref p5, .ref p6, .ref p7, .ref p8, .ref p9, .ref p10, .ref p11, .ref p12, .ref p13])), (p6, .inl (ca 1, 10, .inl fp6)), (p7, .inl (ca 1, 10, .inl fp7)), (p8, .inl (ca 1, 10, .inl fp8)), (p9, .inl (ca 1, 10, .inl fp9)), (p10, .inl (ca 1, 10, .inl fp10)), (p11, .inl (ca 1, 10, .inl fp11)), (p12, .inl (ca 1, 90, .inl fp12)), (p13, .inl (ca 1, 90, .inl fp13))] [wx w_6 []]) (ap (wq [(lv, .inr (9, [.ref pl, .int (nI kw), .ref tk, .ref hd, .ref fr, .ref cg])), (tk, .inl (ca 5, 10, .inr (.inr (.inr (.inr (fun j => some (ta j))))))), (hd, .inl (ca 1, 6, .inl fh)), (fr, .inl (ca 2, 10, .inr (.inl ff))), (cg, .inl (ca 1, 10, .inl fc)), (pl, .inr (2, [.int (nI kc), .int (nI kl), .int xb, .int (nI kn), .int (nI ko), .ref p5, .ref p6, .ref p7, .ref p8, .ref p9, .ref p10, .ref p11, .ref p12, .ref p13])), (p6, .inl (ca 1, 10, .inl fp6)), (p7, .inl (ca 1, 10, .inl fp7)), (p8, .inl (ca 1, 10, .inl fp8)), (p9, .inl (ca 1, 10, .inl fp9)), (p10, .inl (ca 1, 10, .inl fp10)), (p11, .inl (ca 1, 10, .inl fp11)), (p12, .inl (ca 1, 90, .inl fp12)), (p13, .inl (ca 1, 90, .inl fp13))] [wx w_6 []]) [(h0, .inr (10, [.ref tp, .ref rd, .ref lv, .ref tr, .ref rw, .ref bx, .ref ch, .ref si, .ref dg, .ref pl, .ref pd, .int xz]))]) := sg 16 [1, 2, 3, 4, 5, 6, 7, 8, 9, 10, 11, 12, 13, 14, 15] [0] rfl rfl rfl (by decide +kernel)
        refine kp_v (va_runV (As := []) (rest := []) ⟨hx, hb, hml, hown, hts⟩ (s_X9_lend l D ca s.heap.size lv kw tk hd fr cg pl p5 p6 p7 p8 p9 p10 p11 p12 p13 kc kl kn ko xb fp6 fp7 fp8 fp9 fp10 fp11 fp12 fp13 fh fc ff w_6 ta ra (by omega) (by omega) (by omega) (by omega) hw_6 hfh) (cwV 0 hts gX10_place_X9_lend rfl rfl rfl (by decide +kernel) ⟨(Nat.le_of_ble_eq_true rfl), (Nat.le_of_ble_eq_true rfl)⟩) (PC.preVp (ci := 9) hC hP hD hq_7 rfl rfl) rfl rfl hl.1 rfl (lv_room (Nat.le_of_ble_eq_true rfl)) dX10_place_37 ⟨(Nat.le_of_ble_eq_true rfl), (Nat.le_of_ble_eq_true rfl)⟩) hP hD hS hA hq_7 (fun _ => sg0) (fun u_9 H locs hw_8 hP hD hS => ?_)
        obtain ⟨f_10, f_11, f_12, w_13⟩ := u_9
        obtain ⟨hu_14, hu_15⟩ := hw_8
        have hP : va_P D vwCl (wq [(h0, .inr (10, [.ref tp, .ref rd, .ref lv, .ref tr, .ref rw, .ref bx, .ref ch, .ref si, .ref dg, .ref pl, .ref pd, .int xz])), (lv, .inr (9, [.ref pl, .int (nI kw), .ref tk, .ref hd, .ref fr, .ref cg])), (tk, .inl (ca 5, 10, .inr (.inr (.inr (.inr (fun j => some (ta j))))))), (hd, .inl (ca 1, 6, .inl f_10)), (fr, .inl (ca 2, 10, .inr (.inl f_11))), (cg, .inl (ca 1, 10, .inl f_12)), (pl, .inr (2, [.int (nI kc), .int (nI kl), .int xb, .int (nI kn), .int (nI ko), .ref p5, .ref p6, .ref p7, .ref p8, .ref p9, .ref p10, .ref p11, .ref p12, .ref p13])), (p6, .inl (ca 1, 10, .inl fp6)), (p7, .inl (ca 1, 10, .inl fp7)), (p8, .inl (ca 1, 10, .inl fp8)), (p9, .inl (ca 1, 10, .inl fp9)), (p10, .inl (ca 1, 10, .inl fp10)), (p11, .inl (ca 1, 10, .inl fp11)), (p12, .inl (ca 1, 90, .inl fp12)), (p13, .inl (ca 1, 90, .inl fp13))] [wx w_13 []]) H := hP
        have hD : va_D A (wq [(h0, .inr (10, [.ref tp, .ref rd, .ref lv, .ref tr, .ref rw, .ref bx, .ref ch, .ref si, .ref dg, .ref pl, .ref pd, .int xz])), (lv, .inr (9, [.ref pl, .int (nI kw), .ref tk, .ref hd, .ref fr, .ref cg])), (tk, .inl (ca 5, 10, .inr (.inr (.inr (.inr (fun j => some (ta j))))))), (hd, .inl (ca 1, 6, .inl f_10)), (fr, .inl (ca 2, 10, .inr (.inl f_11))), (cg, .inl (ca 1, 10, .inl f_12)), (pl, .inr (2, [.int (nI kc), .int (nI kl), .int xb, .int (nI kn), .int (nI ko), .ref p5, .ref p6, .ref p7, .ref p8, .ref p9, .ref p10, .ref p11, .ref p12, .ref p13])), (p6, .inl (ca 1, 10, .inl fp6)), (p7, .inl (ca 1, 10, .inl fp7)), (p8, .inl (ca 1, 10, .inl fp8)), (p9, .inl (ca 1, 10, .inl fp9)), (p10, .inl (ca 1, 10, .inl fp10)), (p11, .inl (ca 1, 10, .inl fp11)), (p12, .inl (ca 1, 90, .inl fp12)), (p13, .inl (ca 1, 90, .inl fp13))] [wx w_13 []]) := hD
        refine lv_aload_n hx hb dX10_place_40 rfl (lv_at hl 0 rfl) ?_
        refine va_get (D := D) (ci := 10) (v := .ref lv) (C := RX10) (T := TX10) (N := 12) hx hb hts iw_X10_place_10 hown hC.1 hP 0 rfl rfl 2 (by decide +kernel) (hts (.fieldLink RX10 40 "FairWheel" "live" "LFairWheel$Wheel;") (by decide +kernel)) (fun _ h9 => h9) rfl dX10_place_41 ?_
        refine va_get (D := D) (ci := 9) (v := .ref fr) (C := RX9) (T := TX9) (N := 6) hx hb hts iw_X10_place_9 hown hC.1 hP 1 rfl rfl 4 (by decide +kernel) (hts (.fieldLink RX10 175 "FairWheel$Wheel" "front" "[J") (by decide +kernel)) (fun _ h9 => h9) rfl dX10_place_44 ?_
        refine lv_iload_n hx hb dX10_place_47 rfl (lv_at hl 1 rfl) ?_
        refine ka_lald hx hb hC.1 hP 4 2 rfl rfl k_3 rfl (by omega) (by decide +kernel) dX10_place_48 ?_
        refine lv_topl (fun y_16 ey_16 => ?_)
        refine lv_ldc2 (v := 15) hx hb hown (hts (.constantLong RX10 179 (15)) (by decide +kernel)) dX10_place_49 ?_
        refine lv_land hx hb dX10_place_52 ?_
        refine lv_topl (fun y_17 ey_17 => ?_)
        refine lv_l2i hx hb dX10_place_53 rfl ?_
        refine lv_topi (fun y_18 ey_18 => ?_)
        exact W.iret (v := y_18) hx hb hr (fun t ht hW => ⟨⟨y_18, (f_10, f_11, f_12, w_13), rfl, ⟨hu_14, hu_15⟩, by rw [ht]; exact (hP.perm (sg (wr := []) 16 [0, 1, 2, 3, 4, 5, 6, 7, 8, 9, 10, 11, 12, 13, 14, 15] [] rfl rfl rfl (by decide +kernel))).left, hDA ((hD.perm (sg (wr := []) 16 [0, 1, 2, 3, 4, 5, 6, 7, 8, 9, 10, 11, 12, 13, 14, 15] [] rfl rfl rfl (by decide +kernel))).left)⟩, hS.F ht⟩) hS.2.2 dX10_place_54
      · refine lv_iconst (v := (-1)) hx hb dX10_place_31 (by decide +kernel) ?_
        obtain ⟨w_19, hw_19, hP, hD⟩ : ∃ w_19, wok ca ta ra w_19 ∧ va_P D vwCl (wq [(h0, .inr (10, [.ref tp, .ref rd, .ref lv, .ref tr, .ref rw, .ref bx, .ref ch, .ref si, .ref dg, .ref pl, .ref pd, .int xz])), (lv, .inr (9, [.ref pl, .int (nI kw), .ref tk, .ref hd, .ref fr, .ref cg])), (tk, .inl (ca 5, 10, .inr (.inr (.inr (.inr (fun j => some (ta j))))))), (hd, .inl (ca 1, 6, .inl fh)), (fr, .inl (ca 2, 10, .inr (.inl ff))), (cg, .inl (ca 1, 10, .inl fc)), (pl, .inr (2, [.int (nI kc), .int (nI kl), .int xb, .int (nI kn), .int (nI ko), .ref p5, .ref p6, .ref p7, .ref p8, .ref p9, .ref p10, .ref p11, .ref p12, .ref p13])), (p6, .inl (ca 1, 10, .inl fp6)), (p7, .inl (ca 1, 10, .inl fp7)), (p8, .inl (ca 1, 10, .inl fp8)), (p9, .inl (ca 1, 10, .inl fp9)), (p10, .inl (ca 1, 10, .inl fp10)), (p11, .inl (ca 1, 10, .inl fp11)), (p12, .inl (ca 1, 90, .inl fp12)), (p13, .inl (ca 1, 90, .inl fp13))] [wx w_19 []]) s.heap ∧ va_D A (wq [(h0, .inr (10, [.ref tp, .ref rd, .ref lv, .ref tr, .ref rw, .ref bx, .ref ch, .ref si, .ref dg, .ref pl, .ref pd, .int xz])), (lv, .inr (9, [.ref pl, .int (nI kw), .ref tk, .ref hd, .ref fr, .ref cg])), (tk, .inl (ca 5, 10, .inr (.inr (.inr (.inr (fun j => some (ta j))))))), (hd, .inl (ca 1, 6, .inl fh)), (fr, .inl (ca 2, 10, .inr (.inl ff))), (cg, .inl (ca 1, 10, .inl fc)), (pl, .inr (2, [.int (nI kc), .int (nI kl), .int xb, .int (nI kn), .int (nI ko), .ref p5, .ref p6, .ref p7, .ref p8, .ref p9, .ref p10, .ref p11, .ref p12, .ref p13])), (p6, .inl (ca 1, 10, .inl fp6)), (p7, .inl (ca 1, 10, .inl fp7)), (p8, .inl (ca 1, 10, .inl fp8)), (p9, .inl (ca 1, 10, .inl fp9)), (p10, .inl (ca 1, 10, .inl fp10)), (p11, .inl (ca 1, 10, .inl fp11)), (p12, .inl (ca 1, 90, .inl fp12)), (p13, .inl (ca 1, 90, .inl fp13))] [wx w_19 []]) := ⟨_, wok_t hw_wa (k := k_3) (by omega) t_4_0 t_4_1 t_4_2 t_4_3 t_4_4 t_4_5 t_4_6 t_4_7 t_4_8 t_4_9 t_4_10 t_4_11 t_4_12 t_4_13 t_4_o t_4_z (by omega), hP.perm (wx_c0 (k := k_3) (by omega) (List.not_mem_nil)), hD.perm (wx_c0 (k := k_3) (by omega) (List.not_mem_nil))⟩
        exact W.iret (v := (-1)) hx hb hr (fun t ht hW => ⟨⟨(-1), (fh, ff, fc, w_19), rfl, ⟨hfh, hw_19⟩, by rw [ht]; exact (hP.perm (sg (wr := []) 16 [0, 1, 2, 3, 4, 5, 6, 7, 8, 9, 10, 11, 12, 13, 14, 15] [] rfl rfl rfl (by decide +kernel))).left, hDA ((hD.perm (sg (wr := []) 16 [0, 1, 2, 3, 4, 5, 6, 7, 8, 9, 10, 11, 12, 13, 14, 15] [] rfl rfl rfl (by decide +kernel))).left)⟩, hS.F ht⟩) hS.2.2 dX10_place_32
theorem iw_X10_holder_2 : ∀ w ∈ u_ws RX2 TX2 14, w ∈ wsX10_holder := by decide +kernel
theorem iw_X10_holder_9 : ∀ w ∈ u_ws RX9 TX9 6, w ∈ wsX10_holder := by decide +kernel
theorem iw_X10_holder_10 : ∀ w ∈ u_ws RX10 TX10 12, w ∈ wsX10_holder := by decide +kernel
set_option maxHeartbeats 4000000 in
set_option maxRecDepth 100000 in
theorem s_X10_holder (l : Launch) (D : va_G) (ca : Nat → ClassId) (sz : Nat) (h0 : Nat) (tp : Nat) (rd : Nat) (lv : Nat) (tr : Nat) (rw : Nat) (bx : Nat) (ch : Nat) (si : Nat) (dg : Nat) (pl : Nat) (pd : Nat) (xz : Int32) (kw : Nat) (tk : Nat) (hd : Nat) (fr : Nat) (cg : Nat) (fh : Nat → Int32) (fc : Nat → Int32) (ff : Nat → Int64) (p5 : Nat) (p6 : Nat) (p7 : Nat) (p8 : Nat) (p9 : Nat) (p10 : Nat) (p11 : Nat) (p12 : Nat) (p13 : Nat) (kc : Nat) (kl : Nat) (kn : Nat) (ko : Nat) (xb : Int32) (x1 : Int32) (wa : Nat → Nat × va_E) (ta : Nat → Nat) (ra : Nat → Nat) (hkw : kw ≤ 2000) (hkn : kn ≤ 10) (hkc : kc ≤ 4) (hkl : kl ≤ 6) (hw_wa : wok ca ta ra wa) (hfh : hok fh) : Met l yX10_holder wsX10_holder ({ frames := 0, cells := 0, slots := 0, locals := 0 }) (PC [.ref h0, .int x1] sz D ca (wq [(h0, .inr (10, [.ref tp, .ref rd, .ref lv, .ref tr, .ref rw, .ref bx, .ref ch, .ref si, .ref dg, .ref pl, .ref pd, .int xz])), (lv, .inr (9, [.ref pl, .int (nI kw), .ref tk, .ref hd, .ref fr, .ref cg])), (tk, .inl (ca 5, 10, .inr (.inr (.inr (.inr (fun j => some (ta j))))))), (hd, .inl (ca 1, 6, .inl fh)), (fr, .inl (ca 2, 10, .inr (.inl ff))), (cg, .inl (ca 1, 10, .inl fc)), (pl, .inr (2, [.int (nI kc), .int (nI kl), .int xb, .int (nI kn), .int (nI ko), .ref p5, .ref p6, .ref p7, .ref p8, .ref p9, .ref p10, .ref p11, .ref p12, .ref p13]))] [wx wa []])) (QI (fun (r : Int32) (u : (Nat → Int32) × (Nat → Int64) × (Nat → Int32) × (Nat → Nat × va_E)) => hok u.1 ∧ wok ca ta ra u.2.2.2) (fun (u : (Nat → Int32) × (Nat → Int64) × (Nat → Int32) × (Nat → Nat × va_E)) => (wq [(h0, .inr (10, [.ref tp, .ref rd, .ref lv, .ref tr, .ref rw, .ref bx, .ref ch, .ref si, .ref dg, .ref pl, .ref pd, .int xz])), (lv, .inr (9, [.ref pl, .int (nI kw), .ref tk, .ref hd, .ref fr, .ref cg])), (tk, .inl (ca 5, 10, .inr (.inr (.inr (.inr (fun j => some (ta j))))))), (hd, .inl (ca 1, 6, .inl u.1)), (fr, .inl (ca 2, 10, .inr (.inl u.2.1))), (cg, .inl (ca 1, 10, .inl u.2.2.1)), (pl, .inr (2, [.int (nI kc), .int (nI kl), .int xb, .int (nI kn), .int (nI ko), .ref p5, .ref p6, .ref p7, .ref p8, .ref p9, .ref p10, .ref p11, .ref p12, .ref p13]))] [wx u.2.2.2 []])) (wq [(h0, .inr (10, [.ref tp, .ref rd, .ref lv, .ref tr, .ref rw, .ref bx, .ref ch, .ref si, .ref dg, .ref pl, .ref pd, .int xz])), (lv, .inr (9, [.ref pl, .int (nI kw), .ref tk, .ref hd, .ref fr, .ref cg])), (tk, .inl (ca 5, 10, .inr (.inr (.inr (.inr (fun j => some (ta j))))))), (hd, .inl (ca 1, 6, .inl fh)), (fr, .inl (ca 2, 10, .inr (.inl ff))), (cg, .inl (ca 1, 10, .inl fc)), (pl, .inr (2, [.int (nI kc), .int (nI kl), .int xb, .int (nI kn), .int (nI ko), .ref p5, .ref p6, .ref p7, .ref p8, .ref p9, .ref p10, .ref p11, .ref p12, .ref p13]))] [wx wa []]) sz D) 0 0 (va_A (wq [(h0, .inr (10, [.ref tp, .ref rd, .ref lv, .ref tr, .ref rw, .ref bx, .ref ch, .ref si, .ref dg, .ref pl, .ref pd, .int xz])), (lv, .inr (9, [.ref pl, .int (nI kw), .ref tk, .ref hd, .ref fr, .ref cg])), (tk, .inl (ca 5, 10, .inr (.inr (.inr (.inr (fun j => some (ta j))))))), (hd, .inl (ca 1, 6, .inl fh)), (fr, .inl (ca 2, 10, .inr (.inl ff))), (cg, .inl (ca 1, 10, .inl fc)), (pl, .inr (2, [.int (nI kc), .int (nI kl), .int xb, .int (nI kn), .int (nI ko), .ref p5, .ref p6, .ref p7, .ref p8, .ref p9, .ref p10, .ref p11, .ref p12, .ref p13]))] [wx wa []]) sz) := by
  refine Met.ofW (cc := cX10_holder) (maxL := 2) (ret := (some .int)) (by decide +kernel) rfl ?_
  intro p e s m args below meth c s₁ B hml hv
  obtain ⟨rfl, hsz, hP, hC, hD0⟩ := hv
  have hx := B.exec
  have hb := B.bytes
  have hr := B.returns
  have hts := atoms_spec (ws := wsX10_holder) B.pre
  have hown : s.vm.findClass RX10 = some m.cls := findClass_of_methodNamed B.named
  have hlocks := B.notSynchronized
  subst hsz
  have hD := hD0.self (sz := s.heap.size)
  dsimp only [QV, QI, QL, BQ]
  generalize hAe : va_A (wq [(h0, .inr (10, [.ref tp, .ref rd, .ref lv, .ref tr, .ref rw, .ref bx, .ref ch, .ref si, .ref dg, .ref pl, .ref pd, .int xz])), (lv, .inr (9, [.ref pl, .int (nI kw), .ref tk, .ref hd, .ref fr, .ref cg])), (tk, .inl (ca 5, 10, .inr (.inr (.inr (.inr (fun j => some (ta j))))))), (hd, .inl (ca 1, 6, .inl fh)), (fr, .inl (ca 2, 10, .inr (.inl ff))), (cg, .inl (ca 1, 10, .inl fc)), (pl, .inr (2, [.int (nI kc), .int (nI kl), .int xb, .int (nI kn), .int (nI ko), .ref p5, .ref p6, .ref p7, .ref p8, .ref p9, .ref p10, .ref p11, .ref p12, .ref p13]))] [wx wa []]) s.heap.size = A at hD ⊢
  have hA : ∀ q : Nat, s.heap.size ≤ q → A q := fun q h => by rw [← hAe]; exact Or.inr h
  have hDA : ∀ {w : va_W}, va_D A w → va_D (va_A (wq [(h0, .inr (10, [.ref tp, .ref rd, .ref lv, .ref tr, .ref rw, .ref bx, .ref ch, .ref si, .ref dg, .ref pl, .ref pd, .int xz])), (lv, .inr (9, [.ref pl, .int (nI kw), .ref tk, .ref hd, .ref fr, .ref cg])), (tk, .inl (ca 5, 10, .inr (.inr (.inr (.inr (fun j => some (ta j))))))), (hd, .inl (ca 1, 6, .inl fh)), (fr, .inl (ca 2, 10, .inr (.inl ff))), (cg, .inl (ca 1, 10, .inl fc)), (pl, .inr (2, [.int (nI kc), .int (nI kl), .int xb, .int (nI kn), .int (nI ko), .ref p5, .ref p6, .ref p7, .ref p8, .ref p9, .ref p10, .ref p11, .ref p12, .ref p13]))] [wx wa []]) s.heap.size) w := fun h => by rw [hAe]; exact h
  have hS : va_S A s.heap s.heap [] := va_S.rf
  have hP : va_P D vwCl (wq [(h0, .inr (10, [.ref tp, .ref rd, .ref lv, .ref tr, .ref rw, .ref bx, .ref ch, .ref si, .ref dg, .ref pl, .ref pd, .int xz])), (lv, .inr (9, [.ref pl, .int (nI kw), .ref tk, .ref hd, .ref fr, .ref cg])), (tk, .inl (ca 5, 10, .inr (.inr (.inr (.inr (fun j => some (ta j))))))), (hd, .inl (ca 1, 6, .inl fh)), (fr, .inl (ca 2, 10, .inr (.inl ff))), (cg, .inl (ca 1, 10, .inl fc)), (pl, .inr (2, [.int (nI kc), .int (nI kl), .int xb, .int (nI kn), .int (nI ko), .ref p5, .ref p6, .ref p7, .ref p8, .ref p9, .ref p10, .ref p11, .ref p12, .ref p13]))] [wx wa []]) s.heap := hP
  have hl := lv_entry ([.ref h0, .int x1]) (n := 2) (Nat.le_of_ble_eq_true rfl)
  rw [lg_entry_eq]
  generalize (lg_sl ([.ref h0, .int x1]) ++ List.replicate (2 - (lg_sl ([.ref h0, .int x1])).length) Slot.unset).toArray = ls at hl ⊢
  have hl : lv_has ls 2 [(0, .ref h0), (1, .int x1)] := hl
  refine lv_iload_n hx hb dX10_holder_0 rfl (lv_at hl 1 rfl) ?_
  refine lv_if_lt (tgt := 15) hx hb dX10_holder_1 (by decide +kernel) (fun c_1 => ?_) (fun c_1 => ?_)
  · refine lv_iconst (v := (-1)) hx hb dX10_holder_15 (by decide +kernel) ?_
    refine lv_goto (tgt := 28) hx hb dX10_holder_16 (by decide +kernel) ?_
    exact W.iret (v := (-1)) hx hb hr (fun t ht hW => ⟨⟨(-1), (fh, ff, fc, wa), rfl, ⟨hfh, hw_wa⟩, by rw [ht]; exact (hP.perm (sg (wr := []) 8 [0, 1, 2, 3, 4, 5, 6, 7] [] rfl rfl rfl (by decide +kernel))).left, hDA ((hD.perm (sg (wr := []) 8 [0, 1, 2, 3, 4, 5, 6, 7] [] rfl rfl rfl (by decide +kernel))).left)⟩, hS.F ht⟩) hS.2.2 dX10_holder_28
  · refine lv_iload_n hx hb dX10_holder_4 rfl (lv_at hl 1 rfl) ?_
    refine lv_aload_n hx hb dX10_holder_5 rfl (lv_at hl 0 rfl) ?_
    refine va_get (D := D) (ci := 10) (v := .ref pl) (C := RX10) (T := TX10) (N := 12) hx hb hts iw_X10_holder_10 hown hC.1 hP 0 rfl rfl 9 (by decide +kernel) (hts (.fieldLink RX10 19 "FairWheel" "plan" "LFairWheel$Plan;") (by decide +kernel)) (fun _ h9 => h9) rfl dX10_holder_6 ?_
    refine va_get (D := D) (ci := 2) (v := .int (nI kl)) (C := RX2) (T := TX2) (N := 14) hx hb hts iw_X10_holder_2 hown hC.1 hP 6 rfl rfl 1 (by decide +kernel) (hts (.fieldLink RX10 181 "FairWheel$Plan" "locks" "I") (by decide +kernel)) (fun _ h9 => h9) rfl dX10_holder_9 ?_
    refine lv_icmp_lt (tgt := 19) hx hb dX10_holder_12 (by decide +kernel) (fun c_2 => ?_) (fun c_2 => ?_)
    · refine lv_aload_n hx hb dX10_holder_19 rfl (lv_at hl 0 rfl) ?_
      refine va_get (D := D) (ci := 10) (v := .ref lv) (C := RX10) (T := TX10) (N := 12) hx hb hts iw_X10_holder_10 hown hC.1 hP 0 rfl rfl 2 (by decide +kernel) (hts (.fieldLink RX10 40 "FairWheel" "live" "LFairWheel$Wheel;") (by decide +kernel)) (fun _ h9 => h9) rfl dX10_holder_20 ?_
      refine va_get (D := D) (ci := 9) (v := .ref hd) (C := RX9) (T := TX9) (N := 6) hx hb hts iw_X10_holder_9 hown hC.1 hP 1 rfl rfl 3 (by decide +kernel) (hts (.fieldLink RX10 184 "FairWheel$Wheel" "holders" "[I") (by decide +kernel)) (fun _ h9 => h9) rfl dX10_holder_23 ?_
      refine lv_iload_n hx hb dX10_holder_26 rfl (lv_at hl 1 rfl) ?_
      obtain ⟨k_3, hk_3, rfl⟩ := nI_of c_1
      have nc_2 : k_3 < kl := (nI_ltI (a := k_3) (b := kl) (by omega) (by omega)).mp c_2
      refine ka_iald hx hb hC.1 hP 3 1 rfl rfl k_3 rfl (by omega) (by decide +kernel) dX10_holder_27 ?_
      refine lv_topi (fun y_4 ey_4 => ?_)
      have hy_4 : (y_4 = -1 ∨ ∃ j : Nat, j < 10 ∧ y_4 = nI j) := by rw [ey_4]; exact hfh k_3 (by omega)
      exact W.iret (v := y_4) hx hb hr (fun t ht hW => ⟨⟨y_4, (fh, ff, fc, wa), rfl, ⟨hfh, hw_wa⟩, by rw [ht]; exact (hP.perm (sg (wr := []) 8 [0, 1, 2, 3, 4, 5, 6, 7] [] rfl rfl rfl (by decide +kernel))).left, hDA ((hD.perm (sg (wr := []) 8 [0, 1, 2, 3, 4, 5, 6, 7] [] rfl rfl rfl (by decide +kernel))).left)⟩, hS.F ht⟩) hS.2.2 dX10_holder_28
    · refine lv_iconst (v := (-1)) hx hb dX10_holder_15 (by decide +kernel) ?_
      refine lv_goto (tgt := 28) hx hb dX10_holder_16 (by decide +kernel) ?_
      exact W.iret (v := (-1)) hx hb hr (fun t ht hW => ⟨⟨(-1), (fh, ff, fc, wa), rfl, ⟨hfh, hw_wa⟩, by rw [ht]; exact (hP.perm (sg (wr := []) 8 [0, 1, 2, 3, 4, 5, 6, 7] [] rfl rfl rfl (by decide +kernel))).left, hDA ((hD.perm (sg (wr := []) 8 [0, 1, 2, 3, 4, 5, 6, 7] [] rfl rfl rfl (by decide +kernel))).left)⟩, hS.F ht⟩) hS.2.2 dX10_holder_28
theorem iw_X10_waits_2 : ∀ w ∈ u_ws RX2 TX2 14, w ∈ wsX10_waits := by decide +kernel
theorem iw_X10_waits_9 : ∀ w ∈ u_ws RX9 TX9 6, w ∈ wsX10_waits := by decide +kernel
theorem iw_X10_waits_10 : ∀ w ∈ u_ws RX10 TX10 12, w ∈ wsX10_waits := by decide +kernel
set_option maxHeartbeats 4000000 in
set_option maxRecDepth 100000 in
theorem s_X10_waits (l : Launch) (D : va_G) (ca : Nat → ClassId) (sz : Nat) (h0 : Nat) (tp : Nat) (rd : Nat) (lv : Nat) (tr : Nat) (rw : Nat) (bx : Nat) (ch : Nat) (si : Nat) (dg : Nat) (pl : Nat) (pd : Nat) (xz : Int32) (kw : Nat) (tk : Nat) (hd : Nat) (fr : Nat) (cg : Nat) (p5 : Nat) (p6 : Nat) (p7 : Nat) (p8 : Nat) (p9 : Nat) (p10 : Nat) (p11 : Nat) (p12 : Nat) (p13 : Nat) (kc : Nat) (kl : Nat) (kn : Nat) (ko : Nat) (xb : Int32) (x1 : Int32) (wa : Nat → Nat × va_E) (ta : Nat → Nat) (ra : Nat → Nat) (hkw : kw ≤ 2000) (hkn : kn ≤ 10) (hkc : kc ≤ 4) (hkl : kl ≤ 6) (hw_wa : wok ca ta ra wa) : Met l yX10_waits wsX10_waits ({ frames := 1, cells := 0, slots := 0, locals := 21 }) (PC [.ref h0, .int x1] sz D ca (wq [(h0, .inr (10, [.ref tp, .ref rd, .ref lv, .ref tr, .ref rw, .ref bx, .ref ch, .ref si, .ref dg, .ref pl, .ref pd, .int xz])), (lv, .inr (9, [.ref pl, .int (nI kw), .ref tk, .ref hd, .ref fr, .ref cg])), (tk, .inl (ca 5, 10, .inr (.inr (.inr (.inr (fun j => some (ta j))))))), (pl, .inr (2, [.int (nI kc), .int (nI kl), .int xb, .int (nI kn), .int (nI ko), .ref p5, .ref p6, .ref p7, .ref p8, .ref p9, .ref p10, .ref p11, .ref p12, .ref p13]))] [wx wa []])) (QI (fun (r : Int32) (u : (Nat → Nat × va_E)) => wok ca ta ra u) (fun (u : (Nat → Nat × va_E)) => (wq [(h0, .inr (10, [.ref tp, .ref rd, .ref lv, .ref tr, .ref rw, .ref bx, .ref ch, .ref si, .ref dg, .ref pl, .ref pd, .int xz])), (lv, .inr (9, [.ref pl, .int (nI kw), .ref tk, .ref hd, .ref fr, .ref cg])), (tk, .inl (ca 5, 10, .inr (.inr (.inr (.inr (fun j => some (ta j))))))), (pl, .inr (2, [.int (nI kc), .int (nI kl), .int xb, .int (nI kn), .int (nI ko), .ref p5, .ref p6, .ref p7, .ref p8, .ref p9, .ref p10, .ref p11, .ref p12, .ref p13]))] [wx u []])) (wq [(h0, .inr (10, [.ref tp, .ref rd, .ref lv, .ref tr, .ref rw, .ref bx, .ref ch, .ref si, .ref dg, .ref pl, .ref pd, .int xz])), (lv, .inr (9, [.ref pl, .int (nI kw), .ref tk, .ref hd, .ref fr, .ref cg])), (tk, .inl (ca 5, 10, .inr (.inr (.inr (.inr (fun j => some (ta j))))))), (pl, .inr (2, [.int (nI kc), .int (nI kl), .int xb, .int (nI kn), .int (nI ko), .ref p5, .ref p6, .ref p7, .ref p8, .ref p9, .ref p10, .ref p11, .ref p12, .ref p13]))] [wx wa []]) sz D) 0 0 (va_A (wq [(h0, .inr (10, [.ref tp, .ref rd, .ref lv, .ref tr, .ref rw, .ref bx, .ref ch, .ref si, .ref dg, .ref pl, .ref pd, .int xz])), (lv, .inr (9, [.ref pl, .int (nI kw), .ref tk, .ref hd, .ref fr, .ref cg])), (tk, .inl (ca 5, 10, .inr (.inr (.inr (.inr (fun j => some (ta j))))))), (pl, .inr (2, [.int (nI kc), .int (nI kl), .int xb, .int (nI kn), .int (nI ko), .ref p5, .ref p6, .ref p7, .ref p8, .ref p9, .ref p10, .ref p11, .ref p12, .ref p13]))] [wx wa []]) sz) := by
  refine Met.ofW (cc := cX10_waits) (maxL := 4) (ret := (some .int)) (by decide +kernel) rfl ?_
  intro p e s m args below meth c s₁ B hml hv
  obtain ⟨rfl, hsz, hP, hC, hD0⟩ := hv
  have hx := B.exec
  have hb := B.bytes
  have hr := B.returns
  have hts := atoms_spec (ws := wsX10_waits) B.pre
  have hown : s.vm.findClass RX10 = some m.cls := findClass_of_methodNamed B.named
  have hlocks := B.notSynchronized
  subst hsz
  have hD := hD0.self (sz := s.heap.size)
  dsimp only [QV, QI, QL, BQ]
  generalize hAe : va_A (wq [(h0, .inr (10, [.ref tp, .ref rd, .ref lv, .ref tr, .ref rw, .ref bx, .ref ch, .ref si, .ref dg, .ref pl, .ref pd, .int xz])), (lv, .inr (9, [.ref pl, .int (nI kw), .ref tk, .ref hd, .ref fr, .ref cg])), (tk, .inl (ca 5, 10, .inr (.inr (.inr (.inr (fun j => some (ta j))))))), (pl, .inr (2, [.int (nI kc), .int (nI kl), .int xb, .int (nI kn), .int (nI ko), .ref p5, .ref p6, .ref p7, .ref p8, .ref p9, .ref p10, .ref p11, .ref p12, .ref p13]))] [wx wa []]) s.heap.size = A at hD ⊢
  have hA : ∀ q : Nat, s.heap.size ≤ q → A q := fun q h => by rw [← hAe]; exact Or.inr h
  have hDA : ∀ {w : va_W}, va_D A w → va_D (va_A (wq [(h0, .inr (10, [.ref tp, .ref rd, .ref lv, .ref tr, .ref rw, .ref bx, .ref ch, .ref si, .ref dg, .ref pl, .ref pd, .int xz])), (lv, .inr (9, [.ref pl, .int (nI kw), .ref tk, .ref hd, .ref fr, .ref cg])), (tk, .inl (ca 5, 10, .inr (.inr (.inr (.inr (fun j => some (ta j))))))), (pl, .inr (2, [.int (nI kc), .int (nI kl), .int xb, .int (nI kn), .int (nI ko), .ref p5, .ref p6, .ref p7, .ref p8, .ref p9, .ref p10, .ref p11, .ref p12, .ref p13]))] [wx wa []]) s.heap.size) w := fun h => by rw [hAe]; exact h
  have hS : va_S A s.heap s.heap [] := va_S.rf
  have hP : va_P D vwCl (wq [(h0, .inr (10, [.ref tp, .ref rd, .ref lv, .ref tr, .ref rw, .ref bx, .ref ch, .ref si, .ref dg, .ref pl, .ref pd, .int xz])), (lv, .inr (9, [.ref pl, .int (nI kw), .ref tk, .ref hd, .ref fr, .ref cg])), (tk, .inl (ca 5, 10, .inr (.inr (.inr (.inr (fun j => some (ta j))))))), (pl, .inr (2, [.int (nI kc), .int (nI kl), .int xb, .int (nI kn), .int (nI ko), .ref p5, .ref p6, .ref p7, .ref p8, .ref p9, .ref p10, .ref p11, .ref p12, .ref p13]))] [wx wa []]) s.heap := hP
  have hl := lv_entry ([.ref h0, .int x1]) (n := 4) (Nat.le_of_ble_eq_true rfl)
  rw [lg_entry_eq]
  generalize (lg_sl ([.ref h0, .int x1]) ++ List.replicate (4 - (lg_sl ([.ref h0, .int x1])).length) Slot.unset).toArray = ls at hl ⊢
  have hl : lv_has ls 4 [(0, .ref h0), (1, .int x1)] := hl
  refine lv_iload_n hx hb dX10_waits_0 rfl (lv_at hl 1 rfl) ?_
  refine lv_if_lt (tgt := 15) hx hb dX10_waits_1 (by decide +kernel) (fun c_1 => ?_) (fun c_1 => ?_)
  · refine lv_iconst (v := (-1)) hx hb dX10_waits_15 (by decide +kernel) ?_
    exact W.iret (v := (-1)) hx hb hr (fun t ht hW => ⟨⟨(-1), wa, rfl, hw_wa, by rw [ht]; exact (hP.perm (sg (wr := []) 5 [0, 1, 2, 3, 4] [] rfl rfl rfl (by decide +kernel))).left, hDA ((hD.perm (sg (wr := []) 5 [0, 1, 2, 3, 4] [] rfl rfl rfl (by decide +kernel))).left)⟩, hS.F ht⟩) hS.2.2 dX10_waits_16
  · refine lv_iload_n hx hb dX10_waits_4 rfl (lv_at hl 1 rfl) ?_
    refine lv_aload_n hx hb dX10_waits_5 rfl (lv_at hl 0 rfl) ?_
    refine va_get (D := D) (ci := 10) (v := .ref pl) (C := RX10) (T := TX10) (N := 12) hx hb hts iw_X10_waits_10 hown hC.1 hP 0 rfl rfl 9 (by decide +kernel) (hts (.fieldLink RX10 19 "FairWheel" "plan" "LFairWheel$Plan;") (by decide +kernel)) (fun _ h9 => h9) rfl dX10_waits_6 ?_
    refine va_get (D := D) (ci := 2) (v := .int (nI kl)) (C := RX2) (T := TX2) (N := 14) hx hb hts iw_X10_waits_2 hown hC.1 hP 3 rfl rfl 1 (by decide +kernel) (hts (.fieldLink RX10 181 "FairWheel$Plan" "locks" "I") (by decide +kernel)) (fun _ h9 => h9) rfl dX10_waits_9 ?_
    refine lv_icmp_lt (tgt := 17) hx hb dX10_waits_12 (by decide +kernel) (fun c_2 => ?_) (fun c_2 => ?_)
    · refine lv_iconst (v := 0) hx hb dX10_waits_17 (by decide +kernel) ?_
      refine lv_istore_n (lv' := [(2, .int 0), (0, .ref h0), (1, .int x1)]) hx hb dX10_waits_18 rfl hl (by decide +kernel) rfl (fun ls hl => ?_)
      refine lv_iconst (v := 0) hx hb dX10_waits_19 (by decide +kernel) ?_
      refine lv_istore_n (lv' := [(3, .int 0), (2, .int 0), (0, .ref h0), (1, .int x1)]) hx hb dX10_waits_20 rfl hl (by decide +kernel) rfl (fun ls hl => ?_)
      refine lp_ind (I := fun (n : Nat) H locs ls => ∃ (ji : Nat) (jb : Int32) (jw_3 : Nat → Nat × va_E), ji ≤ kn ∧ ji + n = kn + 1 ∧ wok ca ta ra jw_3 ∧ lv_has ls 4 [(3, .int (nI ji)), (2, .int jb), (0, .ref h0), (1, .int x1)] ∧ va_P D vwCl (wq [(h0, .inr (10, [.ref tp, .ref rd, .ref lv, .ref tr, .ref rw, .ref bx, .ref ch, .ref si, .ref dg, .ref pl, .ref pd, .int xz])), (lv, .inr (9, [.ref pl, .int (nI kw), .ref tk, .ref hd, .ref fr, .ref cg])), (tk, .inl (ca 5, 10, .inr (.inr (.inr (.inr (fun j => some (ta j))))))), (pl, .inr (2, [.int (nI kc), .int (nI kl), .int xb, .int (nI kn), .int (nI ko), .ref p5, .ref p6, .ref p7, .ref p8, .ref p9, .ref p10, .ref p11, .ref p12, .ref p13]))] [wx jw_3 []]) H ∧ va_D A (wq [(h0, .inr (10, [.ref tp, .ref rd, .ref lv, .ref tr, .ref rw, .ref bx, .ref ch, .ref si, .ref dg, .ref pl, .ref pd, .int xz])), (lv, .inr (9, [.ref pl, .int (nI kw), .ref tk, .ref hd, .ref fr, .ref cg])), (tk, .inl (ca 5, 10, .inr (.inr (.inr (.inr (fun j => some (ta j))))))), (pl, .inr (2, [.int (nI kc), .int (nI kl), .int xb, .int (nI kn), .int (nI ko), .ref p5, .ref p6, .ref p7, .ref p8, .ref p9, .ref p10, .ref p11, .ref p12, .ref p13]))] [wx jw_3 []]) ∧ va_S A s.heap H locs) (Wf := fun H locs ls => W p l e _ s m _ below meth c H locs _ _ _ (F0 m 21 ls [])) (kn + 1) ⟨0, 0, wa, (by omega), (by omega), hw_wa, hl, hP, hD, hS⟩ ?_ ?_
      · intro H locs ls hI
        obtain ⟨ji, jb, jw_3, hji, hmji, hjw_3, -⟩ := hI
        omega
      intro n ih_4 H locs ls hI
      obtain ⟨ji, jb, jw_3, hji, hmji, hjw_3, hl, hP, hD, hS⟩ := hI
      refine lv_iload_n hx hb dX10_waits_21 rfl (lv_at hl 0 rfl) ?_
      refine lv_aload_n hx hb dX10_waits_22 rfl (lv_at hl 2 rfl) ?_
      refine va_get (D := D) (ci := 10) (v := .ref pl) (C := RX10) (T := TX10) (N := 12) hx hb hts iw_X10_waits_10 hown hC.1 hP 0 rfl rfl 9 (by decide +kernel) (hts (.fieldLink RX10 19 "FairWheel" "plan" "LFairWheel$Plan;") (by decide +kernel)) (fun _ h9 => h9) rfl dX10_waits_23 ?_
      refine va_get (D := D) (ci := 2) (v := .int (nI kn)) (C := RX2) (T := TX2) (N := 14) hx hb hts iw_X10_waits_2 hown hC.1 hP 3 rfl rfl 3 (by decide +kernel) (hts (.fieldLink RX10 105 "FairWheel$Plan" "count" "I") (by decide +kernel)) (fun _ h9 => h9) rfl dX10_waits_26 ?_
      refine lv_icmp_ge (tgt := 60) hx hb dX10_waits_29 (by decide +kernel) (fun c_5 => ?_) (fun c_5 => ?_)
      · have nc_5 : kn ≤ ji := (nI_leI (a := kn) (b := ji) (by omega) (by omega)).mp c_5
        refine lv_iload_n hx hb dX10_waits_60 rfl (lv_at hl 1 rfl) ?_
        exact W.iret (v := jb) hx hb hr (fun t ht hW => ⟨⟨jb, jw_3, rfl, hjw_3, by rw [ht]; exact (hP.perm (sg (wr := []) 5 [0, 1, 2, 3, 4] [] rfl rfl rfl (by decide +kernel))).left, hDA ((hD.perm (sg (wr := []) 5 [0, 1, 2, 3, 4] [] rfl rfl rfl (by decide +kernel))).left)⟩, hS.F ht⟩) hS.2.2 dX10_waits_61
      · have nc_5 : ¬ (kn ≤ ji) := fun h => c_5 ((nI_leI (a := kn) (b := ji) (by omega) (by omega)).mpr h)
        refine lv_aload_n hx hb dX10_waits_32 rfl (lv_at hl 2 rfl) ?_
        refine va_get (D := D) (ci := 10) (v := .ref lv) (C := RX10) (T := TX10) (N := 12) hx hb hts iw_X10_waits_10 hown hC.1 hP 0 rfl rfl 2 (by decide +kernel) (hts (.fieldLink RX10 40 "FairWheel" "live" "LFairWheel$Wheel;") (by decide +kernel)) (fun _ h9 => h9) rfl dX10_waits_33 ?_
        refine va_get (D := D) (ci := 9) (v := .ref tk) (C := RX9) (T := TX9) (N := 6) hx hb hts iw_X10_waits_9 hown hC.1 hP 1 rfl rfl 2 (by decide +kernel) (hts (.fieldLink RX10 127 "FairWheel$Wheel" "tasks" "[LFairWheel$Task;") (by decide +kernel)) (fun _ h9 => h9) rfl dX10_waits_36 ?_
        refine lv_iload_n hx hb dX10_waits_39 rfl (lv_at hl 0 rfl) ?_
        refine ka_aldq hx hb hC.1 hP 2 5 rfl rfl ji rfl (by omega) (by decide +kernel) dX10_waits_40 ?_
        refine nt_v (.ref (ta ji)) rfl ?_
        refine lv_iload_n hx hb dX10_waits_41 rfl (lv_at hl 3 rfl) ?_
        obtain ⟨t_6_0, t_6_1, t_6_2, t_6_3, t_6_4, t_6_5, t_6_6, t_6_7, t_6_8, t_6_9, t_6_10, t_6_11, t_6_12, t_6_13, t_6_o, t_6_z, ht_6, et_6⟩ := (hjw_3 ji (by omega)).1
        have hP := hP.perm (wx_o0 (k := ji) (by omega) (List.not_mem_nil) et_6)
        have hD := hD.perm (wx_o0 (k := ji) (by omega) (List.not_mem_nil) et_6)
        have hP : va_P D vwCl (wq [(ta ji, .inr (8, [.int t_6_0, .int t_6_1, .int t_6_2, .int t_6_3, .int t_6_4, .int t_6_5, .int t_6_6, .int t_6_7, .int t_6_8, .int t_6_9, .int t_6_10, .int t_6_11, .int t_6_12, .int t_6_13, .long t_6_o, .int (nI t_6_z), .ref (ra ji)])), (h0, .inr (10, [.ref tp, .ref rd, .ref lv, .ref tr, .ref rw, .ref bx, .ref ch, .ref si, .ref dg, .ref pl, .ref pd, .int xz])), (lv, .inr (9, [.ref pl, .int (nI kw), .ref tk, .ref hd, .ref fr, .ref cg])), (tk, .inl (ca 5, 10, .inr (.inr (.inr (.inr (fun j => some (ta j))))))), (pl, .inr (2, [.int (nI kc), .int (nI kl), .int xb, .int (nI kn), .int (nI ko), .ref p5, .ref p6, .ref p7, .ref p8, .ref p9, .ref p10, .ref p11, .ref p12, .ref p13]))] [wx jw_3 [ji]]) H := hP
        have hD : va_D A (wq [(ta ji, .inr (8, [.int t_6_0, .int t_6_1, .int t_6_2, .int t_6_3, .int t_6_4, .int t_6_5, .int t_6_6, .int t_6_7, .int t_6_8, .int t_6_9, .int t_6_10, .int t_6_11, .int t_6_12, .int t_6_13, .long t_6_o, .int (nI t_6_z), .ref (ra ji)])), (h0, .inr (10, [.ref tp, .ref rd, .ref lv, .ref tr, .ref rw, .ref bx, .ref ch, .ref si, .ref dg, .ref pl, .ref pd, .int xz])), (lv, .inr (9, [.ref pl, .int (nI kw), .ref tk, .ref hd, .ref fr, .ref cg])), (tk, .inl (ca 5, 10, .inr (.inr (.inr (.inr (fun j => some (ta j))))))), (pl, .inr (2, [.int (nI kc), .int (nI kl), .int xb, .int (nI kn), .int (nI ko), .ref p5, .ref p6, .ref p7, .ref p8, .ref p9, .ref p10, .ref p11, .ref p12, .ref p13]))] [wx jw_3 [ji]]) := hD
        have hq_7 : List.Perm (wq [(ta ji, .inr (8, [.int t_6_0, .int t_6_1, .int t_6_2, .int t_6_3, .int t_6_4, .int t_6_5, .int t_6_6, .int t_6_7, .int t_6_8, .int t_6_9, .int t_6_10, .int t_6_11, .int t_6_12, .int t_6_13, .long t_6_o, .int (nI t_6_z), .ref (ra ji)])), (h0, .inr (10, [.ref tp, .ref rd, .ref lv, .ref tr, .ref rw, .ref bx, .ref ch, .ref si, .ref dg, .ref pl, .ref pd, .int xz])), (lv, .inr (9, [.ref pl, .int (nI kw), .ref tk, .ref hd, .ref fr, .ref cg])), (tk, .inl (ca 5, 10, .inr (.inr (.inr (.inr (fun j => some (ta j))))))), (pl, .inr (2, [.int (nI kc), .int (nI kl), .int xb, .int (nI kn), .int (nI ko), .ref p5, .ref p6, .ref p7, .ref p8, .ref p9, .ref p10, .ref p11, .ref p12, .ref p13]))] [wx jw_3 [ji]]) (ap [(ta ji, .inr (8, [.int t_6_0, .int t_6_1, .int t_6_2, .int t_6_3, .int t_6_4, .int t_6_5, .int t_6_6, .int t_6_7, .int t_6_8, .int t_6_9, .int t_6_10, .int t_6_11, .int t_6_12, .int t_6_13, .long t_6_o, .int (nI t_6_z), .ref (ra ji)]))] (wq [(h0, .inr (10, [.ref tp, .ref rd, .ref lv, .ref tr, .ref rw, .ref bx, .ref ch, .ref si, .ref dg, .ref pl, .ref pd, .int xz])), (lv, .inr (9, [.ref pl, .int (nI kw), .ref tk, .ref hd, .ref fr, .ref cg])), (tk, .inl (ca 5, 10, .inr (.inr (.inr (.inr (fun j => some (ta j))))))), (pl, .inr (2, [.int (nI kc), .int (nI kl), .int xb, .int (nI kn), .int (nI ko), .ref p5, .ref p6, .ref p7, .ref p8, .ref p9, .ref p10, .ref p11, .ref p12, .ref p13]))] [wx jw_3 [ji]])) := sg 6 [0] [1, 2, 3, 4, 5] rfl rfl rfl (by decide +kernel)
        refine kp_i (va_runV (As := [.int x1]) (rest := []) ⟨hx, hb, hml, hown, hts⟩ (s_X8_isLockedFor l D ca H.size (ta ji) t_6_0 t_6_1 t_6_2 t_6_3 t_6_4 t_6_5 t_6_6 t_6_7 t_6_8 t_6_9 t_6_10 t_6_11 t_6_12 t_6_13 t_6_o t_6_z (ra ji) x1) (cwV 1 hts gX10_waits_X8_isLockedFor rfl rfl rfl (by decide +kernel) ⟨(Nat.le_of_ble_eq_true rfl), (Nat.le_of_ble_eq_true rfl)⟩) (PC.preVp (ci := 8) hC hP hD hq_7 rfl rfl) rfl rfl hl.1 rfl (lv_room (Nat.le_of_ble_eq_true rfl)) dX10_waits_42 ⟨(Nat.le_of_ble_eq_true rfl), (Nat.le_of_ble_eq_true rfl)⟩) hP hD hS hA hq_7 (fun _ => sg1) (fun r_8 u_10 H locs hw_9 hP hD hS => ?_)
        have hu_11 := hw_9
        have hP : va_P D vwCl (wq [(h0, .inr (10, [.ref tp, .ref rd, .ref lv, .ref tr, .ref rw, .ref bx, .ref ch, .ref si, .ref dg, .ref pl, .ref pd, .int xz])), (lv, .inr (9, [.ref pl, .int (nI kw), .ref tk, .ref hd, .ref fr, .ref cg])), (tk, .inl (ca 5, 10, .inr (.inr (.inr (.inr (fun j => some (ta j))))))), (pl, .inr (2, [.int (nI kc), .int (nI kl), .int xb, .int (nI kn), .int (nI ko), .ref p5, .ref p6, .ref p7, .ref p8, .ref p9, .ref p10, .ref p11, .ref p12, .ref p13])), (ta ji, .inr (8, [.int t_6_0, .int t_6_1, .int t_6_2, .int t_6_3, .int t_6_4, .int t_6_5, .int t_6_6, .int t_6_7, .int t_6_8, .int t_6_9, .int t_6_10, .int t_6_11, .int t_6_12, .int t_6_13, .long t_6_o, .int (nI t_6_z), .ref (ra ji)]))] [wx jw_3 [ji]]) H := hP
        have hD : va_D A (wq [(h0, .inr (10, [.ref tp, .ref rd, .ref lv, .ref tr, .ref rw, .ref bx, .ref ch, .ref si, .ref dg, .ref pl, .ref pd, .int xz])), (lv, .inr (9, [.ref pl, .int (nI kw), .ref tk, .ref hd, .ref fr, .ref cg])), (tk, .inl (ca 5, 10, .inr (.inr (.inr (.inr (fun j => some (ta j))))))), (pl, .inr (2, [.int (nI kc), .int (nI kl), .int xb, .int (nI kn), .int (nI ko), .ref p5, .ref p6, .ref p7, .ref p8, .ref p9, .ref p10, .ref p11, .ref p12, .ref p13])), (ta ji, .inr (8, [.int t_6_0, .int t_6_1, .int t_6_2, .int t_6_3, .int t_6_4, .int t_6_5, .int t_6_6, .int t_6_7, .int t_6_8, .int t_6_9, .int t_6_10, .int t_6_11, .int t_6_12, .int t_6_13, .long t_6_o, .int (nI t_6_z), .ref (ra ji)]))] [wx jw_3 [ji]]) := hD
        refine lv_if_eq (tgt := 54) hx hb dX10_waits_45 (by decide +kernel) (fun c_12 => ?_) (fun c_12 => ?_)
        · refine lv_iinc (v := nI (ji + 1)) (lv' := [(3, .int (nI (ji + 1))), (2, .int jb), (0, .ref h0), (1, .int x1)]) hx hb dX10_waits_54 hl (k := 0) rfl (nI_1 _) (by decide +kernel) rfl (fun ls hl => ?_)
          refine lv_goto (tgt := 21) hx hb dX10_waits_57 (by decide +kernel) ?_
          obtain ⟨w_13, hw_13, hP, hD⟩ : ∃ w_13, wok ca ta ra w_13 ∧ va_P D vwCl (wq [(h0, .inr (10, [.ref tp, .ref rd, .ref lv, .ref tr, .ref rw, .ref bx, .ref ch, .ref si, .ref dg, .ref pl, .ref pd, .int xz])), (lv, .inr (9, [.ref pl, .int (nI kw), .ref tk, .ref hd, .ref fr, .ref cg])), (tk, .inl (ca 5, 10, .inr (.inr (.inr (.inr (fun j => some (ta j))))))), (pl, .inr (2, [.int (nI kc), .int (nI kl), .int xb, .int (nI kn), .int (nI ko), .ref p5, .ref p6, .ref p7, .ref p8, .ref p9, .ref p10, .ref p11, .ref p12, .ref p13]))] [wx w_13 []]) H ∧ va_D A (wq [(h0, .inr (10, [.ref tp, .ref rd, .ref lv, .ref tr, .ref rw, .ref bx, .ref ch, .ref si, .ref dg, .ref pl, .ref pd, .int xz])), (lv, .inr (9, [.ref pl, .int (nI kw), .ref tk, .ref hd, .ref fr, .ref cg])), (tk, .inl (ca 5, 10, .inr (.inr (.inr (.inr (fun j => some (ta j))))))), (pl, .inr (2, [.int (nI kc), .int (nI kl), .int xb, .int (nI kn), .int (nI ko), .ref p5, .ref p6, .ref p7, .ref p8, .ref p9, .ref p10, .ref p11, .ref p12, .ref p13]))] [wx w_13 []]) := ⟨_, wok_t hjw_3 (k := ji) (by omega) t_6_0 t_6_1 t_6_2 t_6_3 t_6_4 t_6_5 t_6_6 t_6_7 t_6_8 t_6_9 t_6_10 t_6_11 t_6_12 t_6_13 t_6_o t_6_z (by omega), (hP.perm (sg_w (wn := (wq [(ta ji, .inr (8, [.int t_6_0, .int t_6_1, .int t_6_2, .int t_6_3, .int t_6_4, .int t_6_5, .int t_6_6, .int t_6_7, .int t_6_8, .int t_6_9, .int t_6_10, .int t_6_11, .int t_6_12, .int t_6_13, .long t_6_o, .int (nI t_6_z), .ref (ra ji)])), (h0, .inr (10, [.ref tp, .ref rd, .ref lv, .ref tr, .ref rw, .ref bx, .ref ch, .ref si, .ref dg, .ref pl, .ref pd, .int xz])), (lv, .inr (9, [.ref pl, .int (nI kw), .ref tk, .ref hd, .ref fr, .ref cg])), (tk, .inl (ca 5, 10, .inr (.inr (.inr (.inr (fun j => some (ta j))))))), (pl, .inr (2, [.int (nI kc), .int (nI kl), .int xb, .int (nI kn), .int (nI ko), .ref p5, .ref p6, .ref p7, .ref p8, .ref p9, .ref p10, .ref p11, .ref p12, .ref p13]))] [wx jw_3 [ji]])) 6 [4, 0, 1, 2, 3, 5] rfl rfl (by decide +kernel))).perm (wx_c0 (k := ji) (by omega) (List.not_mem_nil)), (hD.perm (sg_w (wn := (wq [(ta ji, .inr (8, [.int t_6_0, .int t_6_1, .int t_6_2, .int t_6_3, .int t_6_4, .int t_6_5, .int t_6_6, .int t_6_7, .int t_6_8, .int t_6_9, .int t_6_10, .int t_6_11, .int t_6_12, .int t_6_13, .long t_6_o, .int (nI t_6_z), .ref (ra ji)])), (h0, .inr (10, [.ref tp, .ref rd, .ref lv, .ref tr, .ref rw, .ref bx, .ref ch, .ref si, .ref dg, .ref pl, .ref pd, .int xz])), (lv, .inr (9, [.ref pl, .int (nI kw), .ref tk, .ref hd, .ref fr, .ref cg])), (tk, .inl (ca 5, 10, .inr (.inr (.inr (.inr (fun j => some (ta j))))))), (pl, .inr (2, [.int (nI kc), .int (nI kl), .int xb, .int (nI kn), .int (nI ko), .ref p5, .ref p6, .ref p7, .ref p8, .ref p9, .ref p10, .ref p11, .ref p12, .ref p13]))] [wx jw_3 [ji]])) 6 [4, 0, 1, 2, 3, 5] rfl rfl (by decide +kernel))).perm (wx_c0 (k := ji) (by omega) (List.not_mem_nil))⟩
          exact ih_4 _ _ _ ⟨(ji + 1), jb, w_13, (by omega), (by omega), hw_13, lv_sub hl [0, 1, 2, 3] rfl, hP, hD, hS⟩
        · refine lv_iload_n hx hb dX10_waits_48 rfl (lv_at hl 1 rfl) ?_
          refine lv_iconst (v := 1) hx hb dX10_waits_49 (by decide +kernel) ?_
          refine lv_iload_n hx hb dX10_waits_50 rfl (lv_at hl 0 rfl) ?_
          refine lv_ishl hx hb dX10_waits_51 ?_
          refine lv_topi (fun y_14 ey_14 => ?_)
          refine lv_ior hx hb dX10_waits_52 ?_
          refine lv_topi (fun y_15 ey_15 => ?_)
          refine lv_istore_n (lv' := [(2, .int y_15), (3, .int (nI ji)), (0, .ref h0), (1, .int x1)]) hx hb dX10_waits_53 rfl hl (by decide +kernel) rfl (fun ls hl => ?_)
          refine lv_iinc (v := nI (ji + 1)) (lv' := [(3, .int (nI (ji + 1))), (2, .int y_15), (0, .ref h0), (1, .int x1)]) hx hb dX10_waits_54 hl (k := 1) rfl (nI_1 _) (by decide +kernel) rfl (fun ls hl => ?_)
          refine lv_goto (tgt := 21) hx hb dX10_waits_57 (by decide +kernel) ?_
          obtain ⟨w_16, hw_16, hP, hD⟩ : ∃ w_16, wok ca ta ra w_16 ∧ va_P D vwCl (wq [(h0, .inr (10, [.ref tp, .ref rd, .ref lv, .ref tr, .ref rw, .ref bx, .ref ch, .ref si, .ref dg, .ref pl, .ref pd, .int xz])), (lv, .inr (9, [.ref pl, .int (nI kw), .ref tk, .ref hd, .ref fr, .ref cg])), (tk, .inl (ca 5, 10, .inr (.inr (.inr (.inr (fun j => some (ta j))))))), (pl, .inr (2, [.int (nI kc), .int (nI kl), .int xb, .int (nI kn), .int (nI ko), .ref p5, .ref p6, .ref p7, .ref p8, .ref p9, .ref p10, .ref p11, .ref p12, .ref p13]))] [wx w_16 []]) H ∧ va_D A (wq [(h0, .inr (10, [.ref tp, .ref rd, .ref lv, .ref tr, .ref rw, .ref bx, .ref ch, .ref si, .ref dg, .ref pl, .ref pd, .int xz])), (lv, .inr (9, [.ref pl, .int (nI kw), .ref tk, .ref hd, .ref fr, .ref cg])), (tk, .inl (ca 5, 10, .inr (.inr (.inr (.inr (fun j => some (ta j))))))), (pl, .inr (2, [.int (nI kc), .int (nI kl), .int xb, .int (nI kn), .int (nI ko), .ref p5, .ref p6, .ref p7, .ref p8, .ref p9, .ref p10, .ref p11, .ref p12, .ref p13]))] [wx w_16 []]) := ⟨_, wok_t hjw_3 (k := ji) (by omega) t_6_0 t_6_1 t_6_2 t_6_3 t_6_4 t_6_5 t_6_6 t_6_7 t_6_8 t_6_9 t_6_10 t_6_11 t_6_12 t_6_13 t_6_o t_6_z (by omega), (hP.perm (sg_w (wn := (wq [(ta ji, .inr (8, [.int t_6_0, .int t_6_1, .int t_6_2, .int t_6_3, .int t_6_4, .int t_6_5, .int t_6_6, .int t_6_7, .int t_6_8, .int t_6_9, .int t_6_10, .int t_6_11, .int t_6_12, .int t_6_13, .long t_6_o, .int (nI t_6_z), .ref (ra ji)])), (h0, .inr (10, [.ref tp, .ref rd, .ref lv, .ref tr, .ref rw, .ref bx, .ref ch, .ref si, .ref dg, .ref pl, .ref pd, .int xz])), (lv, .inr (9, [.ref pl, .int (nI kw), .ref tk, .ref hd, .ref fr, .ref cg])), (tk, .inl (ca 5, 10, .inr (.inr (.inr (.inr (fun j => some (ta j))))))), (pl, .inr (2, [.int (nI kc), .int (nI kl), .int xb, .int (nI kn), .int (nI ko), .ref p5, .ref p6, .ref p7, .ref p8, .ref p9, .ref p10, .ref p11, .ref p12, .ref p13]))] [wx jw_3 [ji]])) 6 [4, 0, 1, 2, 3, 5] rfl rfl (by decide +kernel))).perm (wx_c0 (k := ji) (by omega) (List.not_mem_nil)), (hD.perm (sg_w (wn := (wq [(ta ji, .inr (8, [.int t_6_0, .int t_6_1, .int t_6_2, .int t_6_3, .int t_6_4, .int t_6_5, .int t_6_6, .int t_6_7, .int t_6_8, .int t_6_9, .int t_6_10, .int t_6_11, .int t_6_12, .int t_6_13, .long t_6_o, .int (nI t_6_z), .ref (ra ji)])), (h0, .inr (10, [.ref tp, .ref rd, .ref lv, .ref tr, .ref rw, .ref bx, .ref ch, .ref si, .ref dg, .ref pl, .ref pd, .int xz])), (lv, .inr (9, [.ref pl, .int (nI kw), .ref tk, .ref hd, .ref fr, .ref cg])), (tk, .inl (ca 5, 10, .inr (.inr (.inr (.inr (fun j => some (ta j))))))), (pl, .inr (2, [.int (nI kc), .int (nI kl), .int xb, .int (nI kn), .int (nI ko), .ref p5, .ref p6, .ref p7, .ref p8, .ref p9, .ref p10, .ref p11, .ref p12, .ref p13]))] [wx jw_3 [ji]])) 6 [4, 0, 1, 2, 3, 5] rfl rfl (by decide +kernel))).perm (wx_c0 (k := ji) (by omega) (List.not_mem_nil))⟩
          exact ih_4 _ _ _ ⟨(ji + 1), y_15, w_16, (by omega), (by omega), hw_16, lv_sub hl [0, 1, 2, 3] rfl, hP, hD, hS⟩
    · refine lv_iconst (v := (-1)) hx hb dX10_waits_15 (by decide +kernel) ?_
      exact W.iret (v := (-1)) hx hb hr (fun t ht hW => ⟨⟨(-1), wa, rfl, hw_wa, by rw [ht]; exact (hP.perm (sg (wr := []) 5 [0, 1, 2, 3, 4] [] rfl rfl rfl (by decide +kernel))).left, hDA ((hD.perm (sg (wr := []) 5 [0, 1, 2, 3, 4] [] rfl rfl rfl (by decide +kernel))).left)⟩, hS.F ht⟩) hS.2.2 dX10_waits_16
theorem iw_X10_ring_2 : ∀ w ∈ u_ws RX2 TX2 14, w ∈ wsX10_ring := by decide +kernel
theorem iw_X10_ring_8 : ∀ w ∈ u_ws RX8 TX8 17, w ∈ wsX10_ring := by decide +kernel
theorem iw_X10_ring_9 : ∀ w ∈ u_ws RX9 TX9 6, w ∈ wsX10_ring := by decide +kernel
theorem iw_X10_ring_10 : ∀ w ∈ u_ws RX10 TX10 12, w ∈ wsX10_ring := by decide +kernel
set_option maxHeartbeats 4000000 in
set_option maxRecDepth 100000 in
theorem s_X10_ring (l : Launch) (D : va_G) (ca : Nat → ClassId) (sz : Nat) (h0 : Nat) (tp : Nat) (rd : Nat) (lv : Nat) (tr : Nat) (rw : Nat) (bx : Nat) (ch : Nat) (si : Nat) (dg : Nat) (pl : Nat) (pd : Nat) (xz : Int32) (kw : Nat) (tk : Nat) (hd : Nat) (fr : Nat) (cg : Nat) (p5 : Nat) (p6 : Nat) (p7 : Nat) (p8 : Nat) (p9 : Nat) (p10 : Nat) (p11 : Nat) (p12 : Nat) (p13 : Nat) (kc : Nat) (kl : Nat) (kn : Nat) (ko : Nat) (xb : Int32) (x1 : Int32) (x2 : Int32) (wa : Nat → Nat × va_E) (ta : Nat → Nat) (ra : Nat → Nat) (hkw : kw ≤ 2000) (hkn : kn ≤ 10) (hkc : kc ≤ 4) (hkl : kl ≤ 6) (hw_wa : wok ca ta ra wa) : Met l yX10_ring wsX10_ring ({ frames := 0, cells := 0, slots := 0, locals := 0 }) (PC [.ref h0, .int x1, .int x2] sz D ca (wq [(h0, .inr (10, [.ref tp, .ref rd, .ref lv, .ref tr, .ref rw, .ref bx, .ref ch, .ref si, .ref dg, .ref pl, .ref pd, .int xz])), (lv, .inr (9, [.ref pl, .int (nI kw), .ref tk, .ref hd, .ref fr, .ref cg])), (tk, .inl (ca 5, 10, .inr (.inr (.inr (.inr (fun j => some (ta j))))))), (pl, .inr (2, [.int (nI kc), .int (nI kl), .int xb, .int (nI kn), .int (nI ko), .ref p5, .ref p6, .ref p7, .ref p8, .ref p9, .ref p10, .ref p11, .ref p12, .ref p13]))] [wx wa []])) (QI (fun (r : Int32) (u : (Nat → Nat × va_E)) => wok ca ta ra u) (fun (u : (Nat → Nat × va_E)) => (wq [(h0, .inr (10, [.ref tp, .ref rd, .ref lv, .ref tr, .ref rw, .ref bx, .ref ch, .ref si, .ref dg, .ref pl, .ref pd, .int xz])), (lv, .inr (9, [.ref pl, .int (nI kw), .ref tk, .ref hd, .ref fr, .ref cg])), (tk, .inl (ca 5, 10, .inr (.inr (.inr (.inr (fun j => some (ta j))))))), (pl, .inr (2, [.int (nI kc), .int (nI kl), .int xb, .int (nI kn), .int (nI ko), .ref p5, .ref p6, .ref p7, .ref p8, .ref p9, .ref p10, .ref p11, .ref p12, .ref p13]))] [wx u []])) (wq [(h0, .inr (10, [.ref tp, .ref rd, .ref lv, .ref tr, .ref rw, .ref bx, .ref ch, .ref si, .ref dg, .ref pl, .ref pd, .int xz])), (lv, .inr (9, [.ref pl, .int (nI kw), .ref tk, .ref hd, .ref fr, .ref cg])), (tk, .inl (ca 5, 10, .inr (.inr (.inr (.inr (fun j => some (ta j))))))), (pl, .inr (2, [.int (nI kc), .int (nI kl), .int xb, .int (nI kn), .int (nI ko), .ref p5, .ref p6, .ref p7, .ref p8, .ref p9, .ref p10, .ref p11, .ref p12, .ref p13]))] [wx wa []]) sz D) 0 0 (va_A (wq [(h0, .inr (10, [.ref tp, .ref rd, .ref lv, .ref tr, .ref rw, .ref bx, .ref ch, .ref si, .ref dg, .ref pl, .ref pd, .int xz])), (lv, .inr (9, [.ref pl, .int (nI kw), .ref tk, .ref hd, .ref fr, .ref cg])), (tk, .inl (ca 5, 10, .inr (.inr (.inr (.inr (fun j => some (ta j))))))), (pl, .inr (2, [.int (nI kc), .int (nI kl), .int xb, .int (nI kn), .int (nI ko), .ref p5, .ref p6, .ref p7, .ref p8, .ref p9, .ref p10, .ref p11, .ref p12, .ref p13]))] [wx wa []]) sz) := by
  refine Met.ofW (cc := cX10_ring) (maxL := 4) (ret := (some .int)) (by decide +kernel) rfl ?_
  intro p e s m args below meth c s₁ B hml hv
  obtain ⟨rfl, hsz, hP, hC, hD0⟩ := hv
  have hx := B.exec
  have hb := B.bytes
  have hr := B.returns
  have hts := atoms_spec (ws := wsX10_ring) B.pre
  have hown : s.vm.findClass RX10 = some m.cls := findClass_of_methodNamed B.named
  have hlocks := B.notSynchronized
  subst hsz
  have hD := hD0.self (sz := s.heap.size)
  dsimp only [QV, QI, QL, BQ]
  generalize hAe : va_A (wq [(h0, .inr (10, [.ref tp, .ref rd, .ref lv, .ref tr, .ref rw, .ref bx, .ref ch, .ref si, .ref dg, .ref pl, .ref pd, .int xz])), (lv, .inr (9, [.ref pl, .int (nI kw), .ref tk, .ref hd, .ref fr, .ref cg])), (tk, .inl (ca 5, 10, .inr (.inr (.inr (.inr (fun j => some (ta j))))))), (pl, .inr (2, [.int (nI kc), .int (nI kl), .int xb, .int (nI kn), .int (nI ko), .ref p5, .ref p6, .ref p7, .ref p8, .ref p9, .ref p10, .ref p11, .ref p12, .ref p13]))] [wx wa []]) s.heap.size = A at hD ⊢
  have hA : ∀ q : Nat, s.heap.size ≤ q → A q := fun q h => by rw [← hAe]; exact Or.inr h
  have hDA : ∀ {w : va_W}, va_D A w → va_D (va_A (wq [(h0, .inr (10, [.ref tp, .ref rd, .ref lv, .ref tr, .ref rw, .ref bx, .ref ch, .ref si, .ref dg, .ref pl, .ref pd, .int xz])), (lv, .inr (9, [.ref pl, .int (nI kw), .ref tk, .ref hd, .ref fr, .ref cg])), (tk, .inl (ca 5, 10, .inr (.inr (.inr (.inr (fun j => some (ta j))))))), (pl, .inr (2, [.int (nI kc), .int (nI kl), .int xb, .int (nI kn), .int (nI ko), .ref p5, .ref p6, .ref p7, .ref p8, .ref p9, .ref p10, .ref p11, .ref p12, .ref p13]))] [wx wa []]) s.heap.size) w := fun h => by rw [hAe]; exact h
  have hS : va_S A s.heap s.heap [] := va_S.rf
  have hP : va_P D vwCl (wq [(h0, .inr (10, [.ref tp, .ref rd, .ref lv, .ref tr, .ref rw, .ref bx, .ref ch, .ref si, .ref dg, .ref pl, .ref pd, .int xz])), (lv, .inr (9, [.ref pl, .int (nI kw), .ref tk, .ref hd, .ref fr, .ref cg])), (tk, .inl (ca 5, 10, .inr (.inr (.inr (.inr (fun j => some (ta j))))))), (pl, .inr (2, [.int (nI kc), .int (nI kl), .int xb, .int (nI kn), .int (nI ko), .ref p5, .ref p6, .ref p7, .ref p8, .ref p9, .ref p10, .ref p11, .ref p12, .ref p13]))] [wx wa []]) s.heap := hP
  have hl := lv_entry ([.ref h0, .int x1, .int x2]) (n := 4) (Nat.le_of_ble_eq_true rfl)
  rw [lg_entry_eq]
  generalize (lg_sl ([.ref h0, .int x1, .int x2]) ++ List.replicate (4 - (lg_sl ([.ref h0, .int x1, .int x2])).length) Slot.unset).toArray = ls at hl ⊢
  have hl : lv_has ls 4 [(0, .ref h0), (1, .int x1), (2, .int x2)] := hl
  refine lv_iload_n hx hb dX10_ring_0 rfl (lv_at hl 1 rfl) ?_
  refine lv_if_lt (tgt := 15) hx hb dX10_ring_1 (by decide +kernel) (fun c_1 => ?_) (fun c_1 => ?_)
  · refine lv_iconst (v := (-1)) hx hb dX10_ring_15 (by decide +kernel) ?_
    exact W.iret (v := (-1)) hx hb hr (fun t ht hW => ⟨⟨(-1), wa, rfl, hw_wa, by rw [ht]; exact (hP.perm (sg (wr := []) 5 [0, 1, 2, 3, 4] [] rfl rfl rfl (by decide +kernel))).left, hDA ((hD.perm (sg (wr := []) 5 [0, 1, 2, 3, 4] [] rfl rfl rfl (by decide +kernel))).left)⟩, hS.F ht⟩) hS.2.2 dX10_ring_16
  · refine lv_iload_n hx hb dX10_ring_4 rfl (lv_at hl 1 rfl) ?_
    refine lv_aload_n hx hb dX10_ring_5 rfl (lv_at hl 0 rfl) ?_
    refine va_get (D := D) (ci := 10) (v := .ref pl) (C := RX10) (T := TX10) (N := 12) hx hb hts iw_X10_ring_10 hown hC.1 hP 0 rfl rfl 9 (by decide +kernel) (hts (.fieldLink RX10 19 "FairWheel" "plan" "LFairWheel$Plan;") (by decide +kernel)) (fun _ h9 => h9) rfl dX10_ring_6 ?_
    refine va_get (D := D) (ci := 2) (v := .int (nI kn)) (C := RX2) (T := TX2) (N := 14) hx hb hts iw_X10_ring_2 hown hC.1 hP 3 rfl rfl 3 (by decide +kernel) (hts (.fieldLink RX10 105 "FairWheel$Plan" "count" "I") (by decide +kernel)) (fun _ h9 => h9) rfl dX10_ring_9 ?_
    refine lv_icmp_lt (tgt := 17) hx hb dX10_ring_12 (by decide +kernel) (fun c_2 => ?_) (fun c_2 => ?_)
    · refine lv_aload_n hx hb dX10_ring_17 rfl (lv_at hl 0 rfl) ?_
      refine va_get (D := D) (ci := 10) (v := .ref lv) (C := RX10) (T := TX10) (N := 12) hx hb hts iw_X10_ring_10 hown hC.1 hP 0 rfl rfl 2 (by decide +kernel) (hts (.fieldLink RX10 40 "FairWheel" "live" "LFairWheel$Wheel;") (by decide +kernel)) (fun _ h9 => h9) rfl dX10_ring_18 ?_
      refine va_get (D := D) (ci := 9) (v := .ref tk) (C := RX9) (T := TX9) (N := 6) hx hb hts iw_X10_ring_9 hown hC.1 hP 1 rfl rfl 2 (by decide +kernel) (hts (.fieldLink RX10 127 "FairWheel$Wheel" "tasks" "[LFairWheel$Task;") (by decide +kernel)) (fun _ h9 => h9) rfl dX10_ring_21 ?_
      refine lv_iload_n hx hb dX10_ring_24 rfl (lv_at hl 1 rfl) ?_
      obtain ⟨k_3, hk_3, rfl⟩ := nI_of c_1
      have nc_2 : k_3 < kn := (nI_ltI (a := k_3) (b := kn) (by omega) (by omega)).mp c_2
      refine ka_aldq hx hb hC.1 hP 2 5 rfl rfl k_3 rfl (by omega) (by decide +kernel) dX10_ring_25 ?_
      refine nt_v (.ref (ta k_3)) rfl ?_
      refine lv_astore_n (lv' := [(3, .ref (ta k_3)), (0, .ref h0), (1, .int (nI k_3)), (2, .int x2)]) hx hb dX10_ring_26 rfl hl (by decide +kernel) rfl (fun ls hl => ?_)
      refine lv_iload_n hx hb dX10_ring_27 rfl (lv_at hl 3 rfl) ?_
      refine lv_if_lt (tgt := 39) hx hb dX10_ring_28 (by decide +kernel) (fun c_4 => ?_) (fun c_4 => ?_)
      · refine lv_iconst (v := (-1)) hx hb dX10_ring_39 (by decide +kernel) ?_
        refine lv_goto (tgt := 49) hx hb dX10_ring_40 (by decide +kernel) ?_
        exact W.iret (v := (-1)) hx hb hr (fun t ht hW => ⟨⟨(-1), wa, rfl, hw_wa, by rw [ht]; exact (hP.perm (sg (wr := []) 5 [0, 1, 2, 3, 4] [] rfl rfl rfl (by decide +kernel))).left, hDA ((hD.perm (sg (wr := []) 5 [0, 1, 2, 3, 4] [] rfl rfl rfl (by decide +kernel))).left)⟩, hS.F ht⟩) hS.2.2 dX10_ring_49
      · refine lv_iload_n hx hb dX10_ring_31 rfl (lv_at hl 3 rfl) ?_
        refine lv_aload_n hx hb dX10_ring_32 rfl (lv_at hl 0 rfl) ?_
        obtain ⟨t_5_0, t_5_1, t_5_2, t_5_3, t_5_4, t_5_5, t_5_6, t_5_7, t_5_8, t_5_9, t_5_10, t_5_11, t_5_12, t_5_13, t_5_o, t_5_z, ht_5, et_5⟩ := (hw_wa k_3 (by omega)).1
        have hP := hP.perm (wx_o0 (k := k_3) (by omega) (List.not_mem_nil) et_5)
        have hD := hD.perm (wx_o0 (k := k_3) (by omega) (List.not_mem_nil) et_5)
        have hP : va_P D vwCl (wq [(ta k_3, .inr (8, [.int t_5_0, .int t_5_1, .int t_5_2, .int t_5_3, .int t_5_4, .int t_5_5, .int t_5_6, .int t_5_7, .int t_5_8, .int t_5_9, .int t_5_10, .int t_5_11, .int t_5_12, .int t_5_13, .long t_5_o, .int (nI t_5_z), .ref (ra k_3)])), (h0, .inr (10, [.ref tp, .ref rd, .ref lv, .ref tr, .ref rw, .ref bx, .ref ch, .ref si, .ref dg, .ref pl, .ref pd, .int xz])), (lv, .inr (9, [.ref pl, .int (nI kw), .ref tk, .ref hd, .ref fr, .ref cg])), (tk, .inl (ca 5, 10, .inr (.inr (.inr (.inr (fun j => some (ta j))))))), (pl, .inr (2, [.int (nI kc), .int (nI kl), .int xb, .int (nI kn), .int (nI ko), .ref p5, .ref p6, .ref p7, .ref p8, .ref p9, .ref p10, .ref p11, .ref p12, .ref p13]))] [wx wa [k_3]]) s.heap := hP
        have hD : va_D A (wq [(ta k_3, .inr (8, [.int t_5_0, .int t_5_1, .int t_5_2, .int t_5_3, .int t_5_4, .int t_5_5, .int t_5_6, .int t_5_7, .int t_5_8, .int t_5_9, .int t_5_10, .int t_5_11, .int t_5_12, .int t_5_13, .long t_5_o, .int (nI t_5_z), .ref (ra k_3)])), (h0, .inr (10, [.ref tp, .ref rd, .ref lv, .ref tr, .ref rw, .ref bx, .ref ch, .ref si, .ref dg, .ref pl, .ref pd, .int xz])), (lv, .inr (9, [.ref pl, .int (nI kw), .ref tk, .ref hd, .ref fr, .ref cg])), (tk, .inl (ca 5, 10, .inr (.inr (.inr (.inr (fun j => some (ta j))))))), (pl, .inr (2, [.int (nI kc), .int (nI kl), .int xb, .int (nI kn), .int (nI ko), .ref p5, .ref p6, .ref p7, .ref p8, .ref p9, .ref p10, .ref p11, .ref p12, .ref p13]))] [wx wa [k_3]]) := hD
        refine va_get (D := D) (ci := 8) (v := .int (nI t_5_z)) (C := RX8) (T := TX8) (N := 17) hx hb hts iw_X10_ring_8 hown hC.1 hP 0 rfl rfl 15 (by decide +kernel) (hts (.fieldLink RX10 191 "FairWheel$Task" "ringSize" "I") (by decide +kernel)) (fun _ h9 => h9) rfl dX10_ring_33 ?_
        refine lv_icmp_lt (tgt := 43) hx hb dX10_ring_36 (by decide +kernel) (fun c_6 => ?_) (fun c_6 => ?_)
        · refine lv_aload_n hx hb dX10_ring_43 rfl (lv_at hl 0 rfl) ?_
          refine va_get (D := D) (ci := 8) (v := .ref (ra k_3)) (C := RX8) (T := TX8) (N := 17) hx hb hts iw_X10_ring_8 hown hC.1 hP 0 rfl rfl 16 (by decide +kernel) (hts (.fieldLink RX10 194 "FairWheel$Task" "ringOf" "[I") (by decide +kernel)) (fun _ h9 => h9) rfl dX10_ring_44 ?_
          refine lv_iload_n hx hb dX10_ring_47 rfl (lv_at hl 3 rfl) ?_
          obtain ⟨t_7_f, et_7⟩ := (hw_wa k_3 (by omega)).2
          have hP := hP.perm (wx_o0 (k := (10 + k_3)) (by omega) (fun h => by have := List.mem_singleton.mp h; omega) et_7)
          have hD := hD.perm (wx_o0 (k := (10 + k_3)) (by omega) (fun h => by have := List.mem_singleton.mp h; omega) et_7)
          have hP : va_P D vwCl (wq [(ra k_3, .inl (ca 1, 10, .inl t_7_f)), (ta k_3, .inr (8, [.int t_5_0, .int t_5_1, .int t_5_2, .int t_5_3, .int t_5_4, .int t_5_5, .int t_5_6, .int t_5_7, .int t_5_8, .int t_5_9, .int t_5_10, .int t_5_11, .int t_5_12, .int t_5_13, .long t_5_o, .int (nI t_5_z), .ref (ra k_3)])), (h0, .inr (10, [.ref tp, .ref rd, .ref lv, .ref tr, .ref rw, .ref bx, .ref ch, .ref si, .ref dg, .ref pl, .ref pd, .int xz])), (lv, .inr (9, [.ref pl, .int (nI kw), .ref tk, .ref hd, .ref fr, .ref cg])), (tk, .inl (ca 5, 10, .inr (.inr (.inr (.inr (fun j => some (ta j))))))), (pl, .inr (2, [.int (nI kc), .int (nI kl), .int xb, .int (nI kn), .int (nI ko), .ref p5, .ref p6, .ref p7, .ref p8, .ref p9, .ref p10, .ref p11, .ref p12, .ref p13]))] [wx wa [(10 + k_3), k_3]]) s.heap := hP
          have hD : va_D A (wq [(ra k_3, .inl (ca 1, 10, .inl t_7_f)), (ta k_3, .inr (8, [.int t_5_0, .int t_5_1, .int t_5_2, .int t_5_3, .int t_5_4, .int t_5_5, .int t_5_6, .int t_5_7, .int t_5_8, .int t_5_9, .int t_5_10, .int t_5_11, .int t_5_12, .int t_5_13, .long t_5_o, .int (nI t_5_z), .ref (ra k_3)])), (h0, .inr (10, [.ref tp, .ref rd, .ref lv, .ref tr, .ref rw, .ref bx, .ref ch, .ref si, .ref dg, .ref pl, .ref pd, .int xz])), (lv, .inr (9, [.ref pl, .int (nI kw), .ref tk, .ref hd, .ref fr, .ref cg])), (tk, .inl (ca 5, 10, .inr (.inr (.inr (.inr (fun j => some (ta j))))))), (pl, .inr (2, [.int (nI kc), .int (nI kl), .int xb, .int (nI kn), .int (nI ko), .ref p5, .ref p6, .ref p7, .ref p8, .ref p9, .ref p10, .ref p11, .ref p12, .ref p13]))] [wx wa [(10 + k_3), k_3]]) := hD
          obtain ⟨k_8, hk_8, rfl⟩ := nI_of c_4
          have nc_6 : k_8 < t_5_z := (nI_ltI (a := k_8) (b := t_5_z) (by omega) (by omega)).mp c_6
          refine ka_iald hx hb hC.1 hP 0 1 rfl rfl k_8 rfl (by omega) (by decide +kernel) dX10_ring_48 ?_
          refine lv_topi (fun y_9 ey_9 => ?_)
          obtain ⟨w_10, hw_10, hP, hD⟩ : ∃ w_10, wok ca ta ra w_10 ∧ va_P D vwCl (wq [(ta k_3, .inr (8, [.int t_5_0, .int t_5_1, .int t_5_2, .int t_5_3, .int t_5_4, .int t_5_5, .int t_5_6, .int t_5_7, .int t_5_8, .int t_5_9, .int t_5_10, .int t_5_11, .int t_5_12, .int t_5_13, .long t_5_o, .int (nI t_5_z), .ref (ra k_3)])), (h0, .inr (10, [.ref tp, .ref rd, .ref lv, .ref tr, .ref rw, .ref bx, .ref ch, .ref si, .ref dg, .ref pl, .ref pd, .int xz])), (lv, .inr (9, [.ref pl, .int (nI kw), .ref tk, .ref hd, .ref fr, .ref cg])), (tk, .inl (ca 5, 10, .inr (.inr (.inr (.inr (fun j => some (ta j))))))), (pl, .inr (2, [.int (nI kc), .int (nI kl), .int xb, .int (nI kn), .int (nI ko), .ref p5, .ref p6, .ref p7, .ref p8, .ref p9, .ref p10, .ref p11, .ref p12, .ref p13]))] [wx w_10 [k_3]]) s.heap ∧ va_D A (wq [(ta k_3, .inr (8, [.int t_5_0, .int t_5_1, .int t_5_2, .int t_5_3, .int t_5_4, .int t_5_5, .int t_5_6, .int t_5_7, .int t_5_8, .int t_5_9, .int t_5_10, .int t_5_11, .int t_5_12, .int t_5_13, .long t_5_o, .int (nI t_5_z), .ref (ra k_3)])), (h0, .inr (10, [.ref tp, .ref rd, .ref lv, .ref tr, .ref rw, .ref bx, .ref ch, .ref si, .ref dg, .ref pl, .ref pd, .int xz])), (lv, .inr (9, [.ref pl, .int (nI kw), .ref tk, .ref hd, .ref fr, .ref cg])), (tk, .inl (ca 5, 10, .inr (.inr (.inr (.inr (fun j => some (ta j))))))), (pl, .inr (2, [.int (nI kc), .int (nI kl), .int xb, .int (nI kn), .int (nI ko), .ref p5, .ref p6, .ref p7, .ref p8, .ref p9, .ref p10, .ref p11, .ref p12, .ref p13]))] [wx w_10 [k_3]]) := ⟨_, wok_r hw_wa (k := k_3) (by omega) t_7_f, hP.perm (wx_c0 (k := (10 + k_3)) (by omega) (fun h => by have := List.mem_singleton.mp h; omega)), hD.perm (wx_c0 (k := (10 + k_3)) (by omega) (fun h => by have := List.mem_singleton.mp h; omega))⟩
          obtain ⟨w_11, hw_11, hP, hD⟩ : ∃ w_11, wok ca ta ra w_11 ∧ va_P D vwCl (wq [(h0, .inr (10, [.ref tp, .ref rd, .ref lv, .ref tr, .ref rw, .ref bx, .ref ch, .ref si, .ref dg, .ref pl, .ref pd, .int xz])), (lv, .inr (9, [.ref pl, .int (nI kw), .ref tk, .ref hd, .ref fr, .ref cg])), (tk, .inl (ca 5, 10, .inr (.inr (.inr (.inr (fun j => some (ta j))))))), (pl, .inr (2, [.int (nI kc), .int (nI kl), .int xb, .int (nI kn), .int (nI ko), .ref p5, .ref p6, .ref p7, .ref p8, .ref p9, .ref p10, .ref p11, .ref p12, .ref p13]))] [wx w_11 []]) s.heap ∧ va_D A (wq [(h0, .inr (10, [.ref tp, .ref rd, .ref lv, .ref tr, .ref rw, .ref bx, .ref ch, .ref si, .ref dg, .ref pl, .ref pd, .int xz])), (lv, .inr (9, [.ref pl, .int (nI kw), .ref tk, .ref hd, .ref fr, .ref cg])), (tk, .inl (ca 5, 10, .inr (.inr (.inr (.inr (fun j => some (ta j))))))), (pl, .inr (2, [.int (nI kc), .int (nI kl), .int xb, .int (nI kn), .int (nI ko), .ref p5, .ref p6, .ref p7, .ref p8, .ref p9, .ref p10, .ref p11, .ref p12, .ref p13]))] [wx w_11 []]) := ⟨_, wok_t hw_10 (k := k_3) (by omega) t_5_0 t_5_1 t_5_2 t_5_3 t_5_4 t_5_5 t_5_6 t_5_7 t_5_8 t_5_9 t_5_10 t_5_11 t_5_12 t_5_13 t_5_o t_5_z (by omega), hP.perm (wx_c0 (k := k_3) (by omega) (List.not_mem_nil)), hD.perm (wx_c0 (k := k_3) (by omega) (List.not_mem_nil))⟩
          exact W.iret (v := y_9) hx hb hr (fun t ht hW => ⟨⟨y_9, w_11, rfl, hw_11, by rw [ht]; exact (hP.perm (sg (wr := []) 5 [0, 1, 2, 3, 4] [] rfl rfl rfl (by decide +kernel))).left, hDA ((hD.perm (sg (wr := []) 5 [0, 1, 2, 3, 4] [] rfl rfl rfl (by decide +kernel))).left)⟩, hS.F ht⟩) hS.2.2 dX10_ring_49
        · refine lv_iconst (v := (-1)) hx hb dX10_ring_39 (by decide +kernel) ?_
          refine lv_goto (tgt := 49) hx hb dX10_ring_40 (by decide +kernel) ?_
          obtain ⟨w_12, hw_12, hP, hD⟩ : ∃ w_12, wok ca ta ra w_12 ∧ va_P D vwCl (wq [(h0, .inr (10, [.ref tp, .ref rd, .ref lv, .ref tr, .ref rw, .ref bx, .ref ch, .ref si, .ref dg, .ref pl, .ref pd, .int xz])), (lv, .inr (9, [.ref pl, .int (nI kw), .ref tk, .ref hd, .ref fr, .ref cg])), (tk, .inl (ca 5, 10, .inr (.inr (.inr (.inr (fun j => some (ta j))))))), (pl, .inr (2, [.int (nI kc), .int (nI kl), .int xb, .int (nI kn), .int (nI ko), .ref p5, .ref p6, .ref p7, .ref p8, .ref p9, .ref p10, .ref p11, .ref p12, .ref p13]))] [wx w_12 []]) s.heap ∧ va_D A (wq [(h0, .inr (10, [.ref tp, .ref rd, .ref lv, .ref tr, .ref rw, .ref bx, .ref ch, .ref si, .ref dg, .ref pl, .ref pd, .int xz])), (lv, .inr (9, [.ref pl, .int (nI kw), .ref tk, .ref hd, .ref fr, .ref cg])), (tk, .inl (ca 5, 10, .inr (.inr (.inr (.inr (fun j => some (ta j))))))), (pl, .inr (2, [.int (nI kc), .int (nI kl), .int xb, .int (nI kn), .int (nI ko), .ref p5, .ref p6, .ref p7, .ref p8, .ref p9, .ref p10, .ref p11, .ref p12, .ref p13]))] [wx w_12 []]) := ⟨_, wok_t hw_wa (k := k_3) (by omega) t_5_0 t_5_1 t_5_2 t_5_3 t_5_4 t_5_5 t_5_6 t_5_7 t_5_8 t_5_9 t_5_10 t_5_11 t_5_12 t_5_13 t_5_o t_5_z (by omega), hP.perm (wx_c0 (k := k_3) (by omega) (List.not_mem_nil)), hD.perm (wx_c0 (k := k_3) (by omega) (List.not_mem_nil))⟩
          exact W.iret (v := (-1)) hx hb hr (fun t ht hW => ⟨⟨(-1), w_12, rfl, hw_12, by rw [ht]; exact (hP.perm (sg (wr := []) 5 [0, 1, 2, 3, 4] [] rfl rfl rfl (by decide +kernel))).left, hDA ((hD.perm (sg (wr := []) 5 [0, 1, 2, 3, 4] [] rfl rfl rfl (by decide +kernel))).left)⟩, hS.F ht⟩) hS.2.2 dX10_ring_49
    · refine lv_iconst (v := (-1)) hx hb dX10_ring_15 (by decide +kernel) ?_
      exact W.iret (v := (-1)) hx hb hr (fun t ht hW => ⟨⟨(-1), wa, rfl, hw_wa, by rw [ht]; exact (hP.perm (sg (wr := []) 5 [0, 1, 2, 3, 4] [] rfl rfl rfl (by decide +kernel))).left, hDA ((hD.perm (sg (wr := []) 5 [0, 1, 2, 3, 4] [] rfl rfl rfl (by decide +kernel))).left)⟩, hS.F ht⟩) hS.2.2 dX10_ring_16
theorem iw_X10_share_8 : ∀ w ∈ u_ws RX8 TX8 17, w ∈ wsX10_share := by decide +kernel
theorem iw_X10_share_9 : ∀ w ∈ u_ws RX9 TX9 6, w ∈ wsX10_share := by decide +kernel
theorem iw_X10_share_10 : ∀ w ∈ u_ws RX10 TX10 12, w ∈ wsX10_share := by decide +kernel
set_option maxHeartbeats 4000000 in
set_option maxRecDepth 100000 in
theorem s_X10_share (l : Launch) (D : va_G) (ca : Nat → ClassId) (sz : Nat) (h0 : Nat) (tp : Nat) (rd : Nat) (lv : Nat) (tr : Nat) (rw : Nat) (bx : Nat) (ch : Nat) (si : Nat) (dg : Nat) (pl : Nat) (pd : Nat) (xz : Int32) (kw : Nat) (tk : Nat) (hd : Nat) (fr : Nat) (cg : Nat) (p5 : Nat) (p6 : Nat) (p7 : Nat) (p8 : Nat) (p9 : Nat) (p10 : Nat) (p11 : Nat) (p12 : Nat) (p13 : Nat) (kc : Nat) (kl : Nat) (kn : Nat) (ko : Nat) (xb : Int32) (x1 : Int32) (x2 : Int32) (wa : Nat → Nat × va_E) (ta : Nat → Nat) (ra : Nat → Nat) (hkw : kw ≤ 2000) (hkn : kn ≤ 10) (hkc : kc ≤ 4) (hkl : kl ≤ 6) (hw_wa : wok ca ta ra wa) : Met l yX10_share wsX10_share ({ frames := 1, cells := 0, slots := 0, locals := 21 }) (PC [.ref h0, .int x1, .int x2] sz D ca (wq [(h0, .inr (10, [.ref tp, .ref rd, .ref lv, .ref tr, .ref rw, .ref bx, .ref ch, .ref si, .ref dg, .ref pl, .ref pd, .int xz])), (lv, .inr (9, [.ref pl, .int (nI kw), .ref tk, .ref hd, .ref fr, .ref cg])), (tk, .inl (ca 5, 10, .inr (.inr (.inr (.inr (fun j => some (ta j))))))), (pl, .inr (2, [.int (nI kc), .int (nI kl), .int xb, .int (nI kn), .int (nI ko), .ref p5, .ref p6, .ref p7, .ref p8, .ref p9, .ref p10, .ref p11, .ref p12, .ref p13]))] [wx wa []])) (QI (fun (r : Int32) (u : (Nat → Nat × va_E)) => wok ca ta ra u) (fun (u : (Nat → Nat × va_E)) => (wq [(h0, .inr (10, [.ref tp, .ref rd, .ref lv, .ref tr, .ref rw, .ref bx, .ref ch, .ref si, .ref dg, .ref pl, .ref pd, .int xz])), (lv, .inr (9, [.ref pl, .int (nI kw), .ref tk, .ref hd, .ref fr, .ref cg])), (tk, .inl (ca 5, 10, .inr (.inr (.inr (.inr (fun j => some (ta j))))))), (pl, .inr (2, [.int (nI kc), .int (nI kl), .int xb, .int (nI kn), .int (nI ko), .ref p5, .ref p6, .ref p7, .ref p8, .ref p9, .ref p10, .ref p11, .ref p12, .ref p13]))] [wx u []])) (wq [(h0, .inr (10, [.ref tp, .ref rd, .ref lv, .ref tr, .ref rw, .ref bx, .ref ch, .ref si, .ref dg, .ref pl, .ref pd, .int xz])), (lv, .inr (9, [.ref pl, .int (nI kw), .ref tk, .ref hd, .ref fr, .ref cg])), (tk, .inl (ca 5, 10, .inr (.inr (.inr (.inr (fun j => some (ta j))))))), (pl, .inr (2, [.int (nI kc), .int (nI kl), .int xb, .int (nI kn), .int (nI ko), .ref p5, .ref p6, .ref p7, .ref p8, .ref p9, .ref p10, .ref p11, .ref p12, .ref p13]))] [wx wa []]) sz D) 0 0 (va_A (wq [(h0, .inr (10, [.ref tp, .ref rd, .ref lv, .ref tr, .ref rw, .ref bx, .ref ch, .ref si, .ref dg, .ref pl, .ref pd, .int xz])), (lv, .inr (9, [.ref pl, .int (nI kw), .ref tk, .ref hd, .ref fr, .ref cg])), (tk, .inl (ca 5, 10, .inr (.inr (.inr (.inr (fun j => some (ta j))))))), (pl, .inr (2, [.int (nI kc), .int (nI kl), .int xb, .int (nI kn), .int (nI ko), .ref p5, .ref p6, .ref p7, .ref p8, .ref p9, .ref p10, .ref p11, .ref p12, .ref p13]))] [wx wa []]) sz) := by
  refine Met.ofW (cc := cX10_share) (maxL := 4) (ret := (some .int)) (by decide +kernel) rfl ?_
  intro p e s m args below meth c s₁ B hml hv
  obtain ⟨rfl, hsz, hP, hC, hD0⟩ := hv
  have hx := B.exec
  have hb := B.bytes
  have hr := B.returns
  have hts := atoms_spec (ws := wsX10_share) B.pre
  have hown : s.vm.findClass RX10 = some m.cls := findClass_of_methodNamed B.named
  have hlocks := B.notSynchronized
  subst hsz
  have hD := hD0.self (sz := s.heap.size)
  dsimp only [QV, QI, QL, BQ]
  generalize hAe : va_A (wq [(h0, .inr (10, [.ref tp, .ref rd, .ref lv, .ref tr, .ref rw, .ref bx, .ref ch, .ref si, .ref dg, .ref pl, .ref pd, .int xz])), (lv, .inr (9, [.ref pl, .int (nI kw), .ref tk, .ref hd, .ref fr, .ref cg])), (tk, .inl (ca 5, 10, .inr (.inr (.inr (.inr (fun j => some (ta j))))))), (pl, .inr (2, [.int (nI kc), .int (nI kl), .int xb, .int (nI kn), .int (nI ko), .ref p5, .ref p6, .ref p7, .ref p8, .ref p9, .ref p10, .ref p11, .ref p12, .ref p13]))] [wx wa []]) s.heap.size = A at hD ⊢
  have hA : ∀ q : Nat, s.heap.size ≤ q → A q := fun q h => by rw [← hAe]; exact Or.inr h
  have hDA : ∀ {w : va_W}, va_D A w → va_D (va_A (wq [(h0, .inr (10, [.ref tp, .ref rd, .ref lv, .ref tr, .ref rw, .ref bx, .ref ch, .ref si, .ref dg, .ref pl, .ref pd, .int xz])), (lv, .inr (9, [.ref pl, .int (nI kw), .ref tk, .ref hd, .ref fr, .ref cg])), (tk, .inl (ca 5, 10, .inr (.inr (.inr (.inr (fun j => some (ta j))))))), (pl, .inr (2, [.int (nI kc), .int (nI kl), .int xb, .int (nI kn), .int (nI ko), .ref p5, .ref p6, .ref p7, .ref p8, .ref p9, .ref p10, .ref p11, .ref p12, .ref p13]))] [wx wa []]) s.heap.size) w := fun h => by rw [hAe]; exact h
  have hS : va_S A s.heap s.heap [] := va_S.rf
  have hP : va_P D vwCl (wq [(h0, .inr (10, [.ref tp, .ref rd, .ref lv, .ref tr, .ref rw, .ref bx, .ref ch, .ref si, .ref dg, .ref pl, .ref pd, .int xz])), (lv, .inr (9, [.ref pl, .int (nI kw), .ref tk, .ref hd, .ref fr, .ref cg])), (tk, .inl (ca 5, 10, .inr (.inr (.inr (.inr (fun j => some (ta j))))))), (pl, .inr (2, [.int (nI kc), .int (nI kl), .int xb, .int (nI kn), .int (nI ko), .ref p5, .ref p6, .ref p7, .ref p8, .ref p9, .ref p10, .ref p11, .ref p12, .ref p13]))] [wx wa []]) s.heap := hP
  have hl := lv_entry ([.ref h0, .int x1, .int x2]) (n := 4) (Nat.le_of_ble_eq_true rfl)
  rw [lg_entry_eq]
  generalize (lg_sl ([.ref h0, .int x1, .int x2]) ++ List.replicate (4 - (lg_sl ([.ref h0, .int x1, .int x2])).length) Slot.unset).toArray = ls at hl ⊢
  have hl : lv_has ls 4 [(0, .ref h0), (1, .int x1), (2, .int x2)] := hl
  refine lv_aload_n hx hb dX10_share_0 rfl (lv_at hl 0 rfl) ?_
  refine lv_iload_n hx hb dX10_share_1 rfl (lv_at hl 1 rfl) ?_
  have hq_1 : List.Perm (wq [(h0, .inr (10, [.ref tp, .ref rd, .ref lv, .ref tr, .ref rw, .ref bx, .ref ch, .ref si, .ref dg, .ref pl, .ref pd, .int xz])), (lv, .inr (9, [.ref pl, .int (nI kw), .ref tk, .ref hd, .ref fr, .ref cg])), (tk, .inl (ca 5, 10, .inr (.inr (.inr (.inr (fun j => some (ta j))))))), (pl, .inr (2, [.int (nI kc), .int (nI kl), .int xb, .int (nI kn), .int (nI ko), .ref p5, .ref p6, .ref p7, .ref p8, .ref p9, .ref p10, .ref p11, .ref p12, .ref p13]))] [wx wa []]) (ap (wq [(h0, .inr (10, [.ref tp, .ref rd, .ref lv, .ref tr, .ref rw, .ref bx, .ref ch, .ref si, .ref dg, .ref pl, .ref pd, .int xz])), (lv, .inr (9, [.ref pl, .int (nI kw), .ref tk, .ref hd, .ref fr, .ref cg])), (tk, .inl (ca 5, 10, .inr (.inr (.inr (.inr (fun j => some (ta j))))))), (pl, .inr (2, [.int (nI kc), .int (nI kl), .int xb, .int (nI kn), .int (nI ko), .ref p5, .ref p6, .ref p7, .ref p8, .ref p9, .ref p10, .ref p11, .ref p12, .ref p13]))] [wx wa []]) []) := sg 5 [0, 1, 2, 3, 4] [] rfl rfl rfl (by decide +kernel)
  refine kp_i (va_runV (As := [.int x1]) (rest := []) ⟨hx, hb, hml, hown, hts⟩ (s_X10_isGone l D ca s.heap.size h0 tp rd lv tr rw bx ch si dg pl pd xz kw tk hd fr cg p5 p6 p7 p8 p9 p10 p11 p12 p13 kc kl kn ko xb x1 wa ta ra (by omega) (by omega) (by omega) (by omega) hw_wa) (cwV 1 hts gX10_share_X10_isGone rfl rfl rfl (by decide +kernel) ⟨(Nat.le_of_ble_eq_true rfl), (Nat.le_of_ble_eq_true rfl)⟩) (PC.preVp (ci := 10) hC hP hD hq_1 rfl rfl) rfl rfl hl.1 rfl (lv_room (Nat.le_of_ble_eq_true rfl)) dX10_share_2 ⟨(Nat.le_of_ble_eq_true rfl), (Nat.le_of_ble_eq_true rfl)⟩) hP hD hS hA hq_1 (fun _ => sg0) (fun r_2 u_4 H locs hw_3 hP hD hS => ?_)
  obtain ⟨w_5, rfl⟩ : ∃ z, z = u_4 := ⟨_, rfl⟩
  obtain ⟨hu_6, hu_7⟩ := hw_3
  have hP : va_P D vwCl (wq [(h0, .inr (10, [.ref tp, .ref rd, .ref lv, .ref tr, .ref rw, .ref bx, .ref ch, .ref si, .ref dg, .ref pl, .ref pd, .int xz])), (lv, .inr (9, [.ref pl, .int (nI kw), .ref tk, .ref hd, .ref fr, .ref cg])), (tk, .inl (ca 5, 10, .inr (.inr (.inr (.inr (fun j => some (ta j))))))), (pl, .inr (2, [.int (nI kc), .int (nI kl), .int xb, .int (nI kn), .int (nI ko), .ref p5, .ref p6, .ref p7, .ref p8, .ref p9, .ref p10, .ref p11, .ref p12, .ref p13]))] [wx w_5 []]) H := hP
  have hD : va_D A (wq [(h0, .inr (10, [.ref tp, .ref rd, .ref lv, .ref tr, .ref rw, .ref bx, .ref ch, .ref si, .ref dg, .ref pl, .ref pd, .int xz])), (lv, .inr (9, [.ref pl, .int (nI kw), .ref tk, .ref hd, .ref fr, .ref cg])), (tk, .inl (ca 5, 10, .inr (.inr (.inr (.inr (fun j => some (ta j))))))), (pl, .inr (2, [.int (nI kc), .int (nI kl), .int xb, .int (nI kn), .int (nI ko), .ref p5, .ref p6, .ref p7, .ref p8, .ref p9, .ref p10, .ref p11, .ref p12, .ref p13]))] [wx w_5 []]) := hD
  refine lv_if_ne (tgt := 20) hx hb dX10_share_5 (by decide +kernel) (fun c_8 => ?_) (fun c_8 => ?_)
  · refine lv_iconst (v := (-1)) hx hb dX10_share_20 (by decide +kernel) ?_
    exact W.iret (v := (-1)) hx hb hr (fun t ht hW => ⟨⟨(-1), w_5, rfl, hu_7, by rw [ht]; exact (hP.perm (sg (wr := []) 5 [0, 1, 2, 3, 4] [] rfl rfl rfl (by decide +kernel))).left, hDA ((hD.perm (sg (wr := []) 5 [0, 1, 2, 3, 4] [] rfl rfl rfl (by decide +kernel))).left)⟩, hS.F ht⟩) hS.2.2 dX10_share_21
  · obtain ⟨-, k_9, hk_9, rfl⟩ := hu_6.resolve_left (fun h => absurd (c_8.symm.trans h) (by decide +kernel))
    refine lv_iload_n hx hb dX10_share_8 rfl (lv_at hl 2 rfl) ?_
    refine lv_iconst (v := 1) hx hb dX10_share_9 (by decide +kernel) ?_
    refine lv_icmp_lt (tgt := 20) hx hb dX10_share_10 (by decide +kernel) (fun c_10 => ?_) (fun c_10 => ?_)
    · refine lv_iconst (v := (-1)) hx hb dX10_share_20 (by decide +kernel) ?_
      exact W.iret (v := (-1)) hx hb hr (fun t ht hW => ⟨⟨(-1), w_5, rfl, hu_7, by rw [ht]; exact (hP.perm (sg (wr := []) 5 [0, 1, 2, 3, 4] [] rfl rfl rfl (by decide +kernel))).left, hDA ((hD.perm (sg (wr := []) 5 [0, 1, 2, 3, 4] [] rfl rfl rfl (by decide +kernel))).left)⟩, hS.F ht⟩) hS.2.2 dX10_share_21
    · refine lv_iload_n hx hb dX10_share_13 rfl (lv_at hl 2 rfl) ?_
      refine lv_sipush (v := 999) hx hb dX10_share_14 (by decide +kernel) ?_
      refine lv_icmp_le (tgt := 22) hx hb dX10_share_17 (by decide +kernel) (fun c_11 => ?_) (fun c_11 => ?_)
      · refine lv_aload_n hx hb dX10_share_22 rfl (lv_at hl 0 rfl) ?_
        refine va_get (D := D) (ci := 10) (v := .ref lv) (C := RX10) (T := TX10) (N := 12) hx hb hts iw_X10_share_10 hown hC.1 hP 0 rfl rfl 2 (by decide +kernel) (hts (.fieldLink RX10 40 "FairWheel" "live" "LFairWheel$Wheel;") (by decide +kernel)) (fun _ h9 => h9) rfl dX10_share_23 ?_
        refine va_get (D := D) (ci := 9) (v := .ref tk) (C := RX9) (T := TX9) (N := 6) hx hb hts iw_X10_share_9 hown hC.1 hP 1 rfl rfl 2 (by decide +kernel) (hts (.fieldLink RX10 127 "FairWheel$Wheel" "tasks" "[LFairWheel$Task;") (by decide +kernel)) (fun _ h9 => h9) rfl dX10_share_26 ?_
        refine lv_iload_n hx hb dX10_share_29 rfl (lv_at hl 1 rfl) ?_
        refine ka_aldq hx hb hC.1 hP 2 5 rfl rfl k_9 rfl (by omega) (by decide +kernel) dX10_share_30 ?_
        refine nt_v (.ref (ta k_9)) rfl ?_
        obtain ⟨t_12_0, t_12_1, t_12_2, t_12_3, t_12_4, t_12_5, t_12_6, t_12_7, t_12_8, t_12_9, t_12_10, t_12_11, t_12_12, t_12_13, t_12_o, t_12_z, ht_12, et_12⟩ := (hu_7 k_9 (by omega)).1
        have hP := hP.perm (wx_o0 (k := k_9) (by omega) (List.not_mem_nil) et_12)
        have hD := hD.perm (wx_o0 (k := k_9) (by omega) (List.not_mem_nil) et_12)
        have hP : va_P D vwCl (wq [(ta k_9, .inr (8, [.int t_12_0, .int t_12_1, .int t_12_2, .int t_12_3, .int t_12_4, .int t_12_5, .int t_12_6, .int t_12_7, .int t_12_8, .int t_12_9, .int t_12_10, .int t_12_11, .int t_12_12, .int t_12_13, .long t_12_o, .int (nI t_12_z), .ref (ra k_9)])), (h0, .inr (10, [.ref tp, .ref rd, .ref lv, .ref tr, .ref rw, .ref bx, .ref ch, .ref si, .ref dg, .ref pl, .ref pd, .int xz])), (lv, .inr (9, [.ref pl, .int (nI kw), .ref tk, .ref hd, .ref fr, .ref cg])), (tk, .inl (ca 5, 10, .inr (.inr (.inr (.inr (fun j => some (ta j))))))), (pl, .inr (2, [.int (nI kc), .int (nI kl), .int xb, .int (nI kn), .int (nI ko), .ref p5, .ref p6, .ref p7, .ref p8, .ref p9, .ref p10, .ref p11, .ref p12, .ref p13]))] [wx w_5 [k_9]]) H := hP
        have hD : va_D A (wq [(ta k_9, .inr (8, [.int t_12_0, .int t_12_1, .int t_12_2, .int t_12_3, .int t_12_4, .int t_12_5, .int t_12_6, .int t_12_7, .int t_12_8, .int t_12_9, .int t_12_10, .int t_12_11, .int t_12_12, .int t_12_13, .long t_12_o, .int (nI t_12_z), .ref (ra k_9)])), (h0, .inr (10, [.ref tp, .ref rd, .ref lv, .ref tr, .ref rw, .ref bx, .ref ch, .ref si, .ref dg, .ref pl, .ref pd, .int xz])), (lv, .inr (9, [.ref pl, .int (nI kw), .ref tk, .ref hd, .ref fr, .ref cg])), (tk, .inl (ca 5, 10, .inr (.inr (.inr (.inr (fun j => some (ta j))))))), (pl, .inr (2, [.int (nI kc), .int (nI kl), .int xb, .int (nI kn), .int (nI ko), .ref p5, .ref p6, .ref p7, .ref p8, .ref p9, .ref p10, .ref p11, .ref p12, .ref p13]))] [wx w_5 [k_9]]) := hD
        refine va_get (D := D) (ci := 8) (v := .int t_12_5) (C := RX8) (T := TX8) (N := 17) hx hb hts iw_X10_share_8 hown hC.1 hP 0 rfl rfl 5 (by decide +kernel) (hts (.fieldLink RX10 148 "FairWheel$Task" "weight" "I") (by decide +kernel)) (fun _ h9 => h9) rfl dX10_share_31 ?_
        refine lv_istore_n (lv' := [(3, .int t_12_5), (0, .ref h0), (1, .int (nI k_9)), (2, .int x2)]) hx hb dX10_share_34 rfl hl (by decide +kernel) rfl (fun ls hl => ?_)
        refine lv_aload_n hx hb dX10_share_35 rfl (lv_at hl 1 rfl) ?_
        refine va_get (D := D) (ci := 10) (v := .ref lv) (C := RX10) (T := TX10) (N := 12) hx hb hts iw_X10_share_10 hown hC.1 hP 1 rfl rfl 2 (by decide +kernel) (hts (.fieldLink RX10 40 "FairWheel" "live" "LFairWheel$Wheel;") (by decide +kernel)) (fun _ h9 => h9) rfl dX10_share_36 ?_
        refine va_get (D := D) (ci := 9) (v := .ref tk) (C := RX9) (T := TX9) (N := 6) hx hb hts iw_X10_share_9 hown hC.1 hP 2 rfl rfl 2 (by decide +kernel) (hts (.fieldLink RX10 127 "FairWheel$Wheel" "tasks" "[LFairWheel$Task;") (by decide +kernel)) (fun _ h9 => h9) rfl dX10_share_39 ?_
        refine lv_iload_n hx hb dX10_share_42 rfl (lv_at hl 2 rfl) ?_
        refine ka_aldq hx hb hC.1 hP 3 5 rfl rfl k_9 rfl (by omega) (by decide +kernel) dX10_share_43 ?_
        refine nt_v (.ref (ta k_9)) rfl ?_
        refine lv_iload_n hx hb dX10_share_44 rfl (lv_at hl 3 rfl) ?_
        refine va_put (D := D) (ci := 8) (v := .int x2) (ty := .int) (C := RX8) (T := TX8) (N := 17) hx hb hts iw_X10_share_8 tyX8 tyX8_ok nmX8 hown hC.1 hP hD hS 0 rfl rfl 5 (by decide +kernel) (hts (.fieldLink RX10 148 "FairWheel$Task" "weight" "I") (by decide +kernel)) (fun _ h9 => h9) rfl (by decide +kernel) rfl rfl (Nat.le_of_ble_eq_true rfl) dX10_share_45 (fun H locs hP hD hS => ?_)
        have hP : va_P D vwCl (wq [(ta k_9, .inr (8, [.int t_12_0, .int t_12_1, .int t_12_2, .int t_12_3, .int t_12_4, .int x2, .int t_12_6, .int t_12_7, .int t_12_8, .int t_12_9, .int t_12_10, .int t_12_11, .int t_12_12, .int t_12_13, .long t_12_o, .int (nI t_12_z), .ref (ra k_9)])), (h0, .inr (10, [.ref tp, .ref rd, .ref lv, .ref tr, .ref rw, .ref bx, .ref ch, .ref si, .ref dg, .ref pl, .ref pd, .int xz])), (lv, .inr (9, [.ref pl, .int (nI kw), .ref tk, .ref hd, .ref fr, .ref cg])), (tk, .inl (ca 5, 10, .inr (.inr (.inr (.inr (fun j => some (ta j))))))), (pl, .inr (2, [.int (nI kc), .int (nI kl), .int xb, .int (nI kn), .int (nI ko), .ref p5, .ref p6, .ref p7, .ref p8, .ref p9, .ref p10, .ref p11, .ref p12, .ref p13]))] [wx w_5 [k_9]]) H := hP
        have hD : va_D A (wq [(ta k_9, .inr (8, [.int t_12_0, .int t_12_1, .int t_12_2, .int t_12_3, .int t_12_4, .int x2, .int t_12_6, .int t_12_7, .int t_12_8, .int t_12_9, .int t_12_10, .int t_12_11, .int t_12_12, .int t_12_13, .long t_12_o, .int (nI t_12_z), .ref (ra k_9)])), (h0, .inr (10, [.ref tp, .ref rd, .ref lv, .ref tr, .ref rw, .ref bx, .ref ch, .ref si, .ref dg, .ref pl, .ref pd, .int xz])), (lv, .inr (9, [.ref pl, .int (nI kw), .ref tk, .ref hd, .ref fr, .ref cg])), (tk, .inl (ca 5, 10, .inr (.inr (.inr (.inr (fun j => some (ta j))))))), (pl, .inr (2, [.int (nI kc), .int (nI kl), .int xb, .int (nI kn), .int (nI ko), .ref p5, .ref p6, .ref p7, .ref p8, .ref p9, .ref p10, .ref p11, .ref p12, .ref p13]))] [wx w_5 [k_9]]) := hD
        refine lv_iload_n hx hb dX10_share_48 rfl (lv_at hl 0 rfl) ?_
        obtain ⟨w_13, hw_13, hP, hD⟩ : ∃ w_13, wok ca ta ra w_13 ∧ va_P D vwCl (wq [(h0, .inr (10, [.ref tp, .ref rd, .ref lv, .ref tr, .ref rw, .ref bx, .ref ch, .ref si, .ref dg, .ref pl, .ref pd, .int xz])), (lv, .inr (9, [.ref pl, .int (nI kw), .ref tk, .ref hd, .ref fr, .ref cg])), (tk, .inl (ca 5, 10, .inr (.inr (.inr (.inr (fun j => some (ta j))))))), (pl, .inr (2, [.int (nI kc), .int (nI kl), .int xb, .int (nI kn), .int (nI ko), .ref p5, .ref p6, .ref p7, .ref p8, .ref p9, .ref p10, .ref p11, .ref p12, .ref p13]))] [wx w_13 []]) H ∧ va_D A (wq [(h0, .inr (10, [.ref tp, .ref rd, .ref lv, .ref tr, .ref rw, .ref bx, .ref ch, .ref si, .ref dg, .ref pl, .ref pd, .int xz])), (lv, .inr (9, [.ref pl, .int (nI kw), .ref tk, .ref hd, .ref fr, .ref cg])), (tk, .inl (ca 5, 10, .inr (.inr (.inr (.inr (fun j => some (ta j))))))), (pl, .inr (2, [.int (nI kc), .int (nI kl), .int xb, .int (nI kn), .int (nI ko), .ref p5, .ref p6, .ref p7, .ref p8, .ref p9, .ref p10, .ref p11, .ref p12, .ref p13]))] [wx w_13 []]) := ⟨_, wok_t hu_7 (k := k_9) (by omega) t_12_0 t_12_1 t_12_2 t_12_3 t_12_4 x2 t_12_6 t_12_7 t_12_8 t_12_9 t_12_10 t_12_11 t_12_12 t_12_13 t_12_o t_12_z (by omega), hP.perm (wx_c0 (k := k_9) (by omega) (List.not_mem_nil)), hD.perm (wx_c0 (k := k_9) (by omega) (List.not_mem_nil))⟩
        exact W.iret (v := t_12_5) hx hb hr (fun t ht hW => ⟨⟨t_12_5, w_13, rfl, hw_13, by rw [ht]; exact (hP.perm (sg (wr := []) 5 [0, 1, 2, 3, 4] [] rfl rfl rfl (by decide +kernel))).left, hDA ((hD.perm (sg (wr := []) 5 [0, 1, 2, 3, 4] [] rfl rfl rfl (by decide +kernel))).left)⟩, hS.F ht⟩) hS.2.2 dX10_share_49
      · refine lv_iconst (v := (-1)) hx hb dX10_share_20 (by decide +kernel) ?_
        exact W.iret (v := (-1)) hx hb hr (fun t ht hW => ⟨⟨(-1), w_5, rfl, hu_7, by rw [ht]; exact (hP.perm (sg (wr := []) 5 [0, 1, 2, 3, 4] [] rfl rfl rfl (by decide +kernel))).left, hDA ((hD.perm (sg (wr := []) 5 [0, 1, 2, 3, 4] [] rfl rfl rfl (by decide +kernel))).left)⟩, hS.F ht⟩) hS.2.2 dX10_share_21
theorem iw_X10_countAlive_2 : ∀ w ∈ u_ws RX2 TX2 14, w ∈ wsX10_countAlive := by decide +kernel
theorem iw_X10_countAlive_8 : ∀ w ∈ u_ws RX8 TX8 17, w ∈ wsX10_countAlive := by decide +kernel
theorem iw_X10_countAlive_9 : ∀ w ∈ u_ws RX9 TX9 6, w ∈ wsX10_countAlive := by decide +kernel
theorem iw_X10_countAlive_10 : ∀ w ∈ u_ws RX10 TX10 12, w ∈ wsX10_countAlive := by decide +kernel
set_option maxHeartbeats 4000000 in
set_option maxRecDepth 100000 in
theorem s_X10_countAlive (l : Launch) (D : va_G) (ca : Nat → ClassId) (sz : Nat) (h0 : Nat) (tp : Nat) (rd : Nat) (lv : Nat) (tr : Nat) (rw : Nat) (bx : Nat) (ch : Nat) (si : Nat) (dg : Nat) (pl : Nat) (pd : Nat) (xz : Int32) (kw : Nat) (tk : Nat) (hd : Nat) (fr : Nat) (cg : Nat) (p5 : Nat) (p6 : Nat) (p7 : Nat) (p8 : Nat) (p9 : Nat) (p10 : Nat) (p11 : Nat) (p12 : Nat) (p13 : Nat) (kc : Nat) (kl : Nat) (kn : Nat) (ko : Nat) (xb : Int32) (wa : Nat → Nat × va_E) (ta : Nat → Nat) (ra : Nat → Nat) (hkw : kw ≤ 2000) (hkn : kn ≤ 10) (hkc : kc ≤ 4) (hkl : kl ≤ 6) (hw_wa : wok ca ta ra wa) : Met l yX10_countAlive wsX10_countAlive ({ frames := 0, cells := 0, slots := 0, locals := 0 }) (PC [.ref h0] sz D ca (wq [(h0, .inr (10, [.ref tp, .ref rd, .ref lv, .ref tr, .ref rw, .ref bx, .ref ch, .ref si, .ref dg, .ref pl, .ref pd, .int xz])), (lv, .inr (9, [.ref pl, .int (nI kw), .ref tk, .ref hd, .ref fr, .ref cg])), (tk, .inl (ca 5, 10, .inr (.inr (.inr (.inr (fun j => some (ta j))))))), (pl, .inr (2, [.int (nI kc), .int (nI kl), .int xb, .int (nI kn), .int (nI ko), .ref p5, .ref p6, .ref p7, .ref p8, .ref p9, .ref p10, .ref p11, .ref p12, .ref p13]))] [wx wa []])) (QI (fun (r : Int32) (u : (Nat → Nat × va_E)) => wok ca ta ra u) (fun (u : (Nat → Nat × va_E)) => (wq [(h0, .inr (10, [.ref tp, .ref rd, .ref lv, .ref tr, .ref rw, .ref bx, .ref ch, .ref si, .ref dg, .ref pl, .ref pd, .int xz])), (lv, .inr (9, [.ref pl, .int (nI kw), .ref tk, .ref hd, .ref fr, .ref cg])), (tk, .inl (ca 5, 10, .inr (.inr (.inr (.inr (fun j => some (ta j))))))), (pl, .inr (2, [.int (nI kc), .int (nI kl), .int xb, .int (nI kn), .int (nI ko), .ref p5, .ref p6, .ref p7, .ref p8, .ref p9, .ref p10, .ref p11, .ref p12, .ref p13]))] [wx u []])) (wq [(h0, .inr (10, [.ref tp, .ref rd, .ref lv, .ref tr, .ref rw, .ref bx, .ref ch, .ref si, .ref dg, .ref pl, .ref pd, .int xz])), (lv, .inr (9, [.ref pl, .int (nI kw), .ref tk, .ref hd, .ref fr, .ref cg])), (tk, .inl (ca 5, 10, .inr (.inr (.inr (.inr (fun j => some (ta j))))))), (pl, .inr (2, [.int (nI kc), .int (nI kl), .int xb, .int (nI kn), .int (nI ko), .ref p5, .ref p6, .ref p7, .ref p8, .ref p9, .ref p10, .ref p11, .ref p12, .ref p13]))] [wx wa []]) sz D) 0 0 (va_A (wq [(h0, .inr (10, [.ref tp, .ref rd, .ref lv, .ref tr, .ref rw, .ref bx, .ref ch, .ref si, .ref dg, .ref pl, .ref pd, .int xz])), (lv, .inr (9, [.ref pl, .int (nI kw), .ref tk, .ref hd, .ref fr, .ref cg])), (tk, .inl (ca 5, 10, .inr (.inr (.inr (.inr (fun j => some (ta j))))))), (pl, .inr (2, [.int (nI kc), .int (nI kl), .int xb, .int (nI kn), .int (nI ko), .ref p5, .ref p6, .ref p7, .ref p8, .ref p9, .ref p10, .ref p11, .ref p12, .ref p13]))] [wx wa []]) sz) := by
  refine Met.ofW (cc := cX10_countAlive) (maxL := 3) (ret := (some .int)) (by decide +kernel) rfl ?_
  intro p e s m args below meth c s₁ B hml hv
  obtain ⟨rfl, hsz, hP, hC, hD0⟩ := hv
  have hx := B.exec
  have hb := B.bytes
  have hr := B.returns
  have hts := atoms_spec (ws := wsX10_countAlive) B.pre
  have hown : s.vm.findClass RX10 = some m.cls := findClass_of_methodNamed B.named
  have hlocks := B.notSynchronized
  subst hsz
  have hD := hD0.self (sz := s.heap.size)
  dsimp only [QV, QI, QL, BQ]
  generalize hAe : va_A (wq [(h0, .inr (10, [.ref tp, .ref rd, .ref lv, .ref tr, .ref rw, .ref bx, .ref ch, .ref si, .ref dg, .ref pl, .ref pd, .int xz])), (lv, .inr (9, [.ref pl, .int (nI kw), .ref tk, .ref hd, .ref fr, .ref cg])), (tk, .inl (ca 5, 10, .inr (.inr (.inr (.inr (fun j => some (ta j))))))), (pl, .inr (2, [.int (nI kc), .int (nI kl), .int xb, .int (nI kn), .int (nI ko), .ref p5, .ref p6, .ref p7, .ref p8, .ref p9, .ref p10, .ref p11, .ref p12, .ref p13]))] [wx wa []]) s.heap.size = A at hD ⊢
  have hA : ∀ q : Nat, s.heap.size ≤ q → A q := fun q h => by rw [← hAe]; exact Or.inr h
  have hDA : ∀ {w : va_W}, va_D A w → va_D (va_A (wq [(h0, .inr (10, [.ref tp, .ref rd, .ref lv, .ref tr, .ref rw, .ref bx, .ref ch, .ref si, .ref dg, .ref pl, .ref pd, .int xz])), (lv, .inr (9, [.ref pl, .int (nI kw), .ref tk, .ref hd, .ref fr, .ref cg])), (tk, .inl (ca 5, 10, .inr (.inr (.inr (.inr (fun j => some (ta j))))))), (pl, .inr (2, [.int (nI kc), .int (nI kl), .int xb, .int (nI kn), .int (nI ko), .ref p5, .ref p6, .ref p7, .ref p8, .ref p9, .ref p10, .ref p11, .ref p12, .ref p13]))] [wx wa []]) s.heap.size) w := fun h => by rw [hAe]; exact h
  have hS : va_S A s.heap s.heap [] := va_S.rf
  have hP : va_P D vwCl (wq [(h0, .inr (10, [.ref tp, .ref rd, .ref lv, .ref tr, .ref rw, .ref bx, .ref ch, .ref si, .ref dg, .ref pl, .ref pd, .int xz])), (lv, .inr (9, [.ref pl, .int (nI kw), .ref tk, .ref hd, .ref fr, .ref cg])), (tk, .inl (ca 5, 10, .inr (.inr (.inr (.inr (fun j => some (ta j))))))), (pl, .inr (2, [.int (nI kc), .int (nI kl), .int xb, .int (nI kn), .int (nI ko), .ref p5, .ref p6, .ref p7, .ref p8, .ref p9, .ref p10, .ref p11, .ref p12, .ref p13]))] [wx wa []]) s.heap := hP
  have hl := lv_entry ([.ref h0]) (n := 3) (Nat.le_of_ble_eq_true rfl)
  rw [lg_entry_eq]
  generalize (lg_sl ([.ref h0]) ++ List.replicate (3 - (lg_sl ([.ref h0])).length) Slot.unset).toArray = ls at hl ⊢
  have hl : lv_has ls 3 [(0, .ref h0)] := hl
  refine lv_iconst (v := 0) hx hb dX10_countAlive_0 (by decide +kernel) ?_
  refine lv_istore_n (lv' := [(1, .int 0), (0, .ref h0)]) hx hb dX10_countAlive_1 rfl hl (by decide +kernel) rfl (fun ls hl => ?_)
  refine lv_iconst (v := 0) hx hb dX10_countAlive_2 (by decide +kernel) ?_
  refine lv_istore_n (lv' := [(2, .int 0), (1, .int 0), (0, .ref h0)]) hx hb dX10_countAlive_3 rfl hl (by decide +kernel) rfl (fun ls hl => ?_)
  refine lp_ind (I := fun (n : Nat) H locs ls => ∃ (ji : Nat) (jb : Int32) (jw_1 : Nat → Nat × va_E), ji ≤ kn ∧ ji + n = kn + 1 ∧ wok ca ta ra jw_1 ∧ lv_has ls 3 [(2, .int (nI ji)), (1, .int jb), (0, .ref h0)] ∧ va_P D vwCl (wq [(h0, .inr (10, [.ref tp, .ref rd, .ref lv, .ref tr, .ref rw, .ref bx, .ref ch, .ref si, .ref dg, .ref pl, .ref pd, .int xz])), (lv, .inr (9, [.ref pl, .int (nI kw), .ref tk, .ref hd, .ref fr, .ref cg])), (tk, .inl (ca 5, 10, .inr (.inr (.inr (.inr (fun j => some (ta j))))))), (pl, .inr (2, [.int (nI kc), .int (nI kl), .int xb, .int (nI kn), .int (nI ko), .ref p5, .ref p6, .ref p7, .ref p8, .ref p9, .ref p10, .ref p11, .ref p12, .ref p13]))] [wx jw_1 []]) H ∧ va_D A (wq [(h0, .inr (10, [.ref tp, .ref rd, .ref lv, .ref tr, .ref rw, .ref bx, .ref ch, .ref si, .ref dg, .ref pl, .ref pd, .int xz])), (lv, .inr (9, [.ref pl, .int (nI kw), .ref tk, .ref hd, .ref fr, .ref cg])), (tk, .inl (ca 5, 10, .inr (.inr (.inr (.inr (fun j => some (ta j))))))), (pl, .inr (2, [.int (nI kc), .int (nI kl), .int xb, .int (nI kn), .int (nI ko), .ref p5, .ref p6, .ref p7, .ref p8, .ref p9, .ref p10, .ref p11, .ref p12, .ref p13]))] [wx jw_1 []]) ∧ va_S A s.heap H locs) (Wf := fun H locs ls => W p l e _ s m _ below meth c H locs _ _ _ (F0 m 4 ls [])) (kn + 1) ⟨0, 0, wa, (by omega), (by omega), hw_wa, hl, hP, hD, hS⟩ ?_ ?_
  · intro H locs ls hI
    obtain ⟨ji, jb, jw_1, hji, hmji, hjw_1, -⟩ := hI
    omega
  intro n ih_2 H locs ls hI
  obtain ⟨ji, jb, jw_1, hji, hmji, hjw_1, hl, hP, hD, hS⟩ := hI
  refine lv_iload_n hx hb dX10_countAlive_4 rfl (lv_at hl 0 rfl) ?_
  refine lv_aload_n hx hb dX10_countAlive_5 rfl (lv_at hl 2 rfl) ?_
  refine va_get (D := D) (ci := 10) (v := .ref pl) (C := RX10) (T := TX10) (N := 12) hx hb hts iw_X10_countAlive_10 hown hC.1 hP 0 rfl rfl 9 (by decide +kernel) (hts (.fieldLink RX10 19 "FairWheel" "plan" "LFairWheel$Plan;") (by decide +kernel)) (fun _ h9 => h9) rfl dX10_countAlive_6 ?_
  refine va_get (D := D) (ci := 2) (v := .int (nI kn)) (C := RX2) (T := TX2) (N := 14) hx hb hts iw_X10_countAlive_2 hown hC.1 hP 3 rfl rfl 3 (by decide +kernel) (hts (.fieldLink RX10 105 "FairWheel$Plan" "count" "I") (by decide +kernel)) (fun _ h9 => h9) rfl dX10_countAlive_9 ?_
  refine lv_icmp_ge (tgt := 40) hx hb dX10_countAlive_12 (by decide +kernel) (fun c_3 => ?_) (fun c_3 => ?_)
  · have nc_3 : kn ≤ ji := (nI_leI (a := kn) (b := ji) (by omega) (by omega)).mp c_3
    refine lv_iload_n hx hb dX10_countAlive_40 rfl (lv_at hl 1 rfl) ?_
    exact W.iret (v := jb) hx hb hr (fun t ht hW => ⟨⟨jb, jw_1, rfl, hjw_1, by rw [ht]; exact (hP.perm (sg (wr := []) 5 [0, 1, 2, 3, 4] [] rfl rfl rfl (by decide +kernel))).left, hDA ((hD.perm (sg (wr := []) 5 [0, 1, 2, 3, 4] [] rfl rfl rfl (by decide +kernel))).left)⟩, hS.F ht⟩) hS.2.2 dX10_countAlive_41
  · have nc_3 : ¬ (kn ≤ ji) := fun h => c_3 ((nI_leI (a := kn) (b := ji) (by omega) (by omega)).mpr h)
    refine lv_aload_n hx hb dX10_countAlive_15 rfl (lv_at hl 2 rfl) ?_
    refine va_get (D := D) (ci := 10) (v := .ref lv) (C := RX10) (T := TX10) (N := 12) hx hb hts iw_X10_countAlive_10 hown hC.1 hP 0 rfl rfl 2 (by decide +kernel) (hts (.fieldLink RX10 40 "FairWheel" "live" "LFairWheel$Wheel;") (by decide +kernel)) (fun _ h9 => h9) rfl dX10_countAlive_16 ?_
    refine va_get (D := D) (ci := 9) (v := .ref tk) (C := RX9) (T := TX9) (N := 6) hx hb hts iw_X10_countAlive_9 hown hC.1 hP 1 rfl rfl 2 (by decide +kernel) (hts (.fieldLink RX10 127 "FairWheel$Wheel" "tasks" "[LFairWheel$Task;") (by decide +kernel)) (fun _ h9 => h9) rfl dX10_countAlive_19 ?_
    refine lv_iload_n hx hb dX10_countAlive_22 rfl (lv_at hl 0 rfl) ?_
    refine ka_aldq hx hb hC.1 hP 2 5 rfl rfl ji rfl (by omega) (by decide +kernel) dX10_countAlive_23 ?_
    refine nt_v (.ref (ta ji)) rfl ?_
    obtain ⟨t_4_0, t_4_1, t_4_2, t_4_3, t_4_4, t_4_5, t_4_6, t_4_7, t_4_8, t_4_9, t_4_10, t_4_11, t_4_12, t_4_13, t_4_o, t_4_z, ht_4, et_4⟩ := (hjw_1 ji (by omega)).1
    have hP := hP.perm (wx_o0 (k := ji) (by omega) (List.not_mem_nil) et_4)
    have hD := hD.perm (wx_o0 (k := ji) (by omega) (List.not_mem_nil) et_4)
    have hP : va_P D vwCl (wq [(ta ji, .inr (8, [.int t_4_0, .int t_4_1, .int t_4_2, .int t_4_3, .int t_4_4, .int t_4_5, .int t_4_6, .int t_4_7, .int t_4_8, .int t_4_9, .int t_4_10, .int t_4_11, .int t_4_12, .int t_4_13, .long t_4_o, .int (nI t_4_z), .ref (ra ji)])), (h0, .inr (10, [.ref tp, .ref rd, .ref lv, .ref tr, .ref rw, .ref bx, .ref ch, .ref si, .ref dg, .ref pl, .ref pd, .int xz])), (lv, .inr (9, [.ref pl, .int (nI kw), .ref tk, .ref hd, .ref fr, .ref cg])), (tk, .inl (ca 5, 10, .inr (.inr (.inr (.inr (fun j => some (ta j))))))), (pl, .inr (2, [.int (nI kc), .int (nI kl), .int xb, .int (nI kn), .int (nI ko), .ref p5, .ref p6, .ref p7, .ref p8, .ref p9, .ref p10, .ref p11, .ref p12, .ref p13]))] [wx jw_1 [ji]]) H := hP
    have hD : va_D A (wq [(ta ji, .inr (8, [.int t_4_0, .int t_4_1, .int t_4_2, .int t_4_3, .int t_4_4, .int t_4_5, .int t_4_6, .int t_4_7, .int t_4_8, .int t_4_9, .int t_4_10, .int t_4_11, .int t_4_12, .int t_4_13, .long t_4_o, .int (nI t_4_z), .ref (ra ji)])), (h0, .inr (10, [.ref tp, .ref rd, .ref lv, .ref tr, .ref rw, .ref bx, .ref ch, .ref si, .ref dg, .ref pl, .ref pd, .int xz])), (lv, .inr (9, [.ref pl, .int (nI kw), .ref tk, .ref hd, .ref fr, .ref cg])), (tk, .inl (ca 5, 10, .inr (.inr (.inr (.inr (fun j => some (ta j))))))), (pl, .inr (2, [.int (nI kc), .int (nI kl), .int xb, .int (nI kn), .int (nI ko), .ref p5, .ref p6, .ref p7, .ref p8, .ref p9, .ref p10, .ref p11, .ref p12, .ref p13]))] [wx jw_1 [ji]]) := hD
    refine va_get (D := D) (ci := 8) (v := .int t_4_0) (C := RX8) (T := TX8) (N := 17) hx hb hts iw_X10_countAlive_8 hown hC.1 hP 0 rfl rfl 0 (by decide +kernel) (hts (.fieldLink RX10 131 "FairWheel$Task" "phase" "I") (by decide +kernel)) (fun _ h9 => h9) rfl dX10_countAlive_24 ?_
    refine lv_iconst (v := 4) hx hb dX10_countAlive_27 (by decide +kernel) ?_
    refine lv_icmp_eq (tgt := 34) hx hb dX10_countAlive_28 (by decide +kernel) (fun c_5 => ?_) (fun c_5 => ?_)
    · refine lv_iinc (v := nI (ji + 1)) (lv' := [(2, .int (nI (ji + 1))), (1, .int jb), (0, .ref h0)]) hx hb dX10_countAlive_34 hl (k := 0) rfl (nI_1 _) (by decide +kernel) rfl (fun ls hl => ?_)
      refine lv_goto (tgt := 4) hx hb dX10_countAlive_37 (by decide +kernel) ?_
      obtain ⟨w_6, hw_6, hP, hD⟩ : ∃ w_6, wok ca ta ra w_6 ∧ va_P D vwCl (wq [(h0, .inr (10, [.ref tp, .ref rd, .ref lv, .ref tr, .ref rw, .ref bx, .ref ch, .ref si, .ref dg, .ref pl, .ref pd, .int xz])), (lv, .inr (9, [.ref pl, .int (nI kw), .ref tk, .ref hd, .ref fr, .ref cg])), (tk, .inl (ca 5, 10, .inr (.inr (.inr (.inr (fun j => some (ta j))))))), (pl, .inr (2, [.int (nI kc), .int (nI kl), .int xb, .int (nI kn), .int (nI ko), .ref p5, .ref p6, .ref p7, .ref p8, .ref p9, .ref p10, .ref p11, .ref p12, .ref p13]))] [wx w_6 []]) H ∧ va_D A (wq [(h0, .inr (10, [.ref tp, .ref rd, .ref lv, .ref tr, .ref rw, .ref bx, .ref ch, .ref si, .ref dg, .ref pl, .ref pd, .int xz])), (lv, .inr (9, [.ref pl, .int (nI kw), .ref tk, .ref hd, .ref fr, .ref cg])), (tk, .inl (ca 5, 10, .inr (.inr (.inr (.inr (fun j => some (ta j))))))), (pl, .inr (2, [.int (nI kc), .int (nI kl), .int xb, .int (nI kn), .int (nI ko), .ref p5, .ref p6, .ref p7, .ref p8, .ref p9, .ref p10, .ref p11, .ref p12, .ref p13]))] [wx w_6 []]) := ⟨_, wok_t hjw_1 (k := ji) (by omega) t_4_0 t_4_1 t_4_2 t_4_3 t_4_4 t_4_5 t_4_6 t_4_7 t_4_8 t_4_9 t_4_10 t_4_11 t_4_12 t_4_13 t_4_o t_4_z (by omega), hP.perm (wx_c0 (k := ji) (by omega) (List.not_mem_nil)), hD.perm (wx_c0 (k := ji) (by omega) (List.not_mem_nil))⟩
      exact ih_2 _ _ _ ⟨(ji + 1), jb, w_6, (by omega), (by omega), hw_6, lv_sub hl [0, 1, 2] rfl, hP, hD, hS⟩
    · obtain ⟨y_7, ey_7⟩ : ∃ z : Int32, z = jb + Int32.ofInt (1) := ⟨_, rfl⟩
      refine lv_iinc (v := y_7) (lv' := [(1, .int y_7), (2, .int (nI ji)), (0, .ref h0)]) hx hb dX10_countAlive_31 hl (k := 1) rfl ey_7.symm (by decide +kernel) rfl (fun ls hl => ?_)
      refine lv_iinc (v := nI (ji + 1)) (lv' := [(2, .int (nI (ji + 1))), (1, .int y_7), (0, .ref h0)]) hx hb dX10_countAlive_34 hl (k := 1) rfl (nI_1 _) (by decide +kernel) rfl (fun ls hl => ?_)
      refine lv_goto (tgt := 4) hx hb dX10_countAlive_37 (by decide +kernel) ?_
      obtain ⟨w_8, hw_8, hP, hD⟩ : ∃ w_8, wok ca ta ra w_8 ∧ va_P D vwCl (wq [(h0, .inr (10, [.ref tp, .ref rd, .ref lv, .ref tr, .ref rw, .ref bx, .ref ch, .ref si, .ref dg, .ref pl, .ref pd, .int xz])), (lv, .inr (9, [.ref pl, .int (nI kw), .ref tk, .ref hd, .ref fr, .ref cg])), (tk, .inl (ca 5, 10, .inr (.inr (.inr (.inr (fun j => some (ta j))))))), (pl, .inr (2, [.int (nI kc), .int (nI kl), .int xb, .int (nI kn), .int (nI ko), .ref p5, .ref p6, .ref p7, .ref p8, .ref p9, .ref p10, .ref p11, .ref p12, .ref p13]))] [wx w_8 []]) H ∧ va_D A (wq [(h0, .inr (10, [.ref tp, .ref rd, .ref lv, .ref tr, .ref rw, .ref bx, .ref ch, .ref si, .ref dg, .ref pl, .ref pd, .int xz])), (lv, .inr (9, [.ref pl, .int (nI kw), .ref tk, .ref hd, .ref fr, .ref cg])), (tk, .inl (ca 5, 10, .inr (.inr (.inr (.inr (fun j => some (ta j))))))), (pl, .inr (2, [.int (nI kc), .int (nI kl), .int xb, .int (nI kn), .int (nI ko), .ref p5, .ref p6, .ref p7, .ref p8, .ref p9, .ref p10, .ref p11, .ref p12, .ref p13]))] [wx w_8 []]) := ⟨_, wok_t hjw_1 (k := ji) (by omega) t_4_0 t_4_1 t_4_2 t_4_3 t_4_4 t_4_5 t_4_6 t_4_7 t_4_8 t_4_9 t_4_10 t_4_11 t_4_12 t_4_13 t_4_o t_4_z (by omega), hP.perm (wx_c0 (k := ji) (by omega) (List.not_mem_nil)), hD.perm (wx_c0 (k := ji) (by omega) (List.not_mem_nil))⟩
      exact ih_2 _ _ _ ⟨(ji + 1), y_7, w_8, (by omega), (by omega), hw_8, lv_sub hl [0, 1, 2] rfl, hP, hD, hS⟩
theorem iw_X10_load_2 : ∀ w ∈ u_ws RX2 TX2 14, w ∈ wsX10_load := by decide +kernel
theorem iw_X10_load_8 : ∀ w ∈ u_ws RX8 TX8 17, w ∈ wsX10_load := by decide +kernel
theorem iw_X10_load_9 : ∀ w ∈ u_ws RX9 TX9 6, w ∈ wsX10_load := by decide +kernel
theorem iw_X10_load_10 : ∀ w ∈ u_ws RX10 TX10 12, w ∈ wsX10_load := by decide +kernel
set_option maxHeartbeats 4000000 in
set_option maxRecDepth 100000 in
theorem s_X10_load (l : Launch) (D : va_G) (ca : Nat → ClassId) (sz : Nat) (h0 : Nat) (tp : Nat) (rd : Nat) (lv : Nat) (tr : Nat) (rw : Nat) (bx : Nat) (ch : Nat) (si : Nat) (dg : Nat) (pl : Nat) (pd : Nat) (xz : Int32) (kw : Nat) (tk : Nat) (hd : Nat) (fr : Nat) (cg : Nat) (p5 : Nat) (p6 : Nat) (p7 : Nat) (p8 : Nat) (p9 : Nat) (p10 : Nat) (p11 : Nat) (p12 : Nat) (p13 : Nat) (kc : Nat) (kl : Nat) (kn : Nat) (ko : Nat) (xb : Int32) (fp6 : Nat → Int32) (fp8 : Nat → Int32) (fp9 : Nat → Int32) (x1 : Int32) (wa : Nat → Nat × va_E) (ta : Nat → Nat) (ra : Nat → Nat) (hkw : kw ≤ 2000) (hkn : kn ≤ 10) (hkc : kc ≤ 4) (hkl : kl ≤ 6) (hw_wa : wok ca ta ra wa) : Met l yX10_load wsX10_load ({ frames := 1, cells := 0, slots := 0, locals := 30 }) (PC [.ref h0, .int x1] sz D ca (wq [(h0, .inr (10, [.ref tp, .ref rd, .ref lv, .ref tr, .ref rw, .ref bx, .ref ch, .ref si, .ref dg, .ref pl, .ref pd, .int xz])), (lv, .inr (9, [.ref pl, .int (nI kw), .ref tk, .ref hd, .ref fr, .ref cg])), (tk, .inl (ca 5, 10, .inr (.inr (.inr (.inr (fun j => some (ta j))))))), (pl, .inr (2, [.int (nI kc), .int (nI kl), .int xb, .int (nI kn), .int (nI ko), .ref p5, .ref p6, .ref p7, .ref p8, .ref p9, .ref p10, .ref p11, .ref p12, .ref p13])), (p6, .inl (ca 1, 10, .inl fp6)), (p8, .inl (ca 1, 10, .inl fp8)), (p9, .inl (ca 1, 10, .inl fp9))] [wx wa []])) (QL (fun (r : Int64) (u : (Nat → Nat × va_E)) => wok ca ta ra u) (fun (u : (Nat → Nat × va_E)) => (wq [(h0, .inr (10, [.ref tp, .ref rd, .ref lv, .ref tr, .ref rw, .ref bx, .ref ch, .ref si, .ref dg, .ref pl, .ref pd, .int xz])), (lv, .inr (9, [.ref pl, .int (nI kw), .ref tk, .ref hd, .ref fr, .ref cg])), (tk, .inl (ca 5, 10, .inr (.inr (.inr (.inr (fun j => some (ta j))))))), (pl, .inr (2, [.int (nI kc), .int (nI kl), .int xb, .int (nI kn), .int (nI ko), .ref p5, .ref p6, .ref p7, .ref p8, .ref p9, .ref p10, .ref p11, .ref p12, .ref p13])), (p6, .inl (ca 1, 10, .inl fp6)), (p8, .inl (ca 1, 10, .inl fp8)), (p9, .inl (ca 1, 10, .inl fp9))] [wx u []])) (wq [(h0, .inr (10, [.ref tp, .ref rd, .ref lv, .ref tr, .ref rw, .ref bx, .ref ch, .ref si, .ref dg, .ref pl, .ref pd, .int xz])), (lv, .inr (9, [.ref pl, .int (nI kw), .ref tk, .ref hd, .ref fr, .ref cg])), (tk, .inl (ca 5, 10, .inr (.inr (.inr (.inr (fun j => some (ta j))))))), (pl, .inr (2, [.int (nI kc), .int (nI kl), .int xb, .int (nI kn), .int (nI ko), .ref p5, .ref p6, .ref p7, .ref p8, .ref p9, .ref p10, .ref p11, .ref p12, .ref p13])), (p6, .inl (ca 1, 10, .inl fp6)), (p8, .inl (ca 1, 10, .inl fp8)), (p9, .inl (ca 1, 10, .inl fp9))] [wx wa []]) sz D) 0 0 (va_A (wq [(h0, .inr (10, [.ref tp, .ref rd, .ref lv, .ref tr, .ref rw, .ref bx, .ref ch, .ref si, .ref dg, .ref pl, .ref pd, .int xz])), (lv, .inr (9, [.ref pl, .int (nI kw), .ref tk, .ref hd, .ref fr, .ref cg])), (tk, .inl (ca 5, 10, .inr (.inr (.inr (.inr (fun j => some (ta j))))))), (pl, .inr (2, [.int (nI kc), .int (nI kl), .int xb, .int (nI kn), .int (nI ko), .ref p5, .ref p6, .ref p7, .ref p8, .ref p9, .ref p10, .ref p11, .ref p12, .ref p13])), (p6, .inl (ca 1, 10, .inl fp6)), (p8, .inl (ca 1, 10, .inl fp8)), (p9, .inl (ca 1, 10, .inl fp9))] [wx wa []]) sz) := by
  refine Met.ofW (cc := cX10_load) (maxL := 9) (ret := (some .long)) (by decide +kernel) rfl ?_
  intro p e s m args below meth c s₁ B hml hv
  obtain ⟨rfl, hsz, hP, hC, hD0⟩ := hv
  have hx := B.exec
  have hb := B.bytes
  have hr := B.returns
  have hts := atoms_spec (ws := wsX10_load) B.pre
  have hown : s.vm.findClass RX10 = some m.cls := findClass_of_methodNamed B.named
  have hlocks := B.notSynchronized
  subst hsz
  have hD := hD0.self (sz := s.heap.size)
  dsimp only [QV, QI, QL, BQ]
  generalize hAe : va_A (wq [(h0, .inr (10, [.ref tp, .ref rd, .ref lv, .ref tr, .ref rw, .ref bx, .ref ch, .ref si, .ref dg, .ref pl, .ref pd, .int xz])), (lv, .inr (9, [.ref pl, .int (nI kw), .ref tk, .ref hd, .ref fr, .ref cg])), (tk, .inl (ca 5, 10, .inr (.inr (.inr (.inr (fun j => some (ta j))))))), (pl, .inr (2, [.int (nI kc), .int (nI kl), .int xb, .int (nI kn), .int (nI ko), .ref p5, .ref p6, .ref p7, .ref p8, .ref p9, .ref p10, .ref p11, .ref p12, .ref p13])), (p6, .inl (ca 1, 10, .inl fp6)), (p8, .inl (ca 1, 10, .inl fp8)), (p9, .inl (ca 1, 10, .inl fp9))] [wx wa []]) s.heap.size = A at hD ⊢
  have hA : ∀ q : Nat, s.heap.size ≤ q → A q := fun q h => by rw [← hAe]; exact Or.inr h
  have hDA : ∀ {w : va_W}, va_D A w → va_D (va_A (wq [(h0, .inr (10, [.ref tp, .ref rd, .ref lv, .ref tr, .ref rw, .ref bx, .ref ch, .ref si, .ref dg, .ref pl, .ref pd, .int xz])), (lv, .inr (9, [.ref pl, .int (nI kw), .ref tk, .ref hd, .ref fr, .ref cg])), (tk, .inl (ca 5, 10, .inr (.inr (.inr (.inr (fun j => some (ta j))))))), (pl, .inr (2, [.int (nI kc), .int (nI kl), .int xb, .int (nI kn), .int (nI ko), .ref p5, .ref p6, .ref p7, .ref p8, .ref p9, .ref p10, .ref p11, .ref p12, .ref p13])), (p6, .inl (ca 1, 10, .inl fp6)), (p8, .inl (ca 1, 10, .inl fp8)), (p9, .inl (ca 1, 10, .inl fp9))] [wx wa []]) s.heap.size) w := fun h => by rw [hAe]; exact h
  have hS : va_S A s.heap s.heap [] := va_S.rf
  have hP : va_P D vwCl (wq [(h0, .inr (10, [.ref tp, .ref rd, .ref lv, .ref tr, .ref rw, .ref bx, .ref ch, .ref si, .ref dg, .ref pl, .ref pd, .int xz])), (lv, .inr (9, [.ref pl, .int (nI kw), .ref tk, .ref hd, .ref fr, .ref cg])), (tk, .inl (ca 5, 10, .inr (.inr (.inr (.inr (fun j => some (ta j))))))), (pl, .inr (2, [.int (nI kc), .int (nI kl), .int xb, .int (nI kn), .int (nI ko), .ref p5, .ref p6, .ref p7, .ref p8, .ref p9, .ref p10, .ref p11, .ref p12, .ref p13])), (p6, .inl (ca 1, 10, .inl fp6)), (p8, .inl (ca 1, 10, .inl fp8)), (p9, .inl (ca 1, 10, .inl fp9))] [wx wa []]) s.heap := hP
  have hl := lv_entry ([.ref h0, .int x1]) (n := 9) (Nat.le_of_ble_eq_true rfl)
  rw [lg_entry_eq]
  generalize (lg_sl ([.ref h0, .int x1]) ++ List.replicate (9 - (lg_sl ([.ref h0, .int x1])).length) Slot.unset).toArray = ls at hl ⊢
  have hl : lv_has ls 9 [(0, .ref h0), (1, .int x1)] := hl
  refine lv_iload_n hx hb dX10_load_0 rfl (lv_at hl 1 rfl) ?_
  refine lv_if_eq (tgt := 13) hx hb dX10_load_1 (by decide +kernel) (fun c_1 => ?_) (fun c_1 => ?_)
  · refine lv_lconst (v := 0) hx hb dX10_load_13 (by decide +kernel) ?_
    refine lv_lstore_n (lv' := [(2, .long 0), (0, .ref h0), (1, .int x1)]) hx hb dX10_load_14 rfl hl (by decide +kernel) rfl (fun ls hl => ?_)
    refine lv_lconst (v := 1) hx hb dX10_load_15 (by decide +kernel) ?_
    refine lv_lstore (lv' := [(4, .long 1), (2, .long 0), (0, .ref h0), (1, .int x1)]) hx hb dX10_load_16 hl (by decide +kernel) rfl (fun ls hl => ?_)
    refine lv_iconst (v := 0) hx hb dX10_load_18 (by decide +kernel) ?_
    refine lv_istore (lv' := [(6, .int 0), (4, .long 1), (2, .long 0), (0, .ref h0), (1, .int x1)]) hx hb dX10_load_19 hl (by decide +kernel) rfl (fun ls hl => ?_)
    refine lp_ind (I := fun (n : Nat) H locs ls => ∃ (ji : Nat) (ju : Int64) (jl : Int64) (jw_2 : Nat → Nat × va_E), ji ≤ kn ∧ ji + n = kn + 1 ∧ wok ca ta ra jw_2 ∧ lv_has ls 9 [(6, .int (nI ji)), (4, .long jl), (2, .long ju), (0, .ref h0), (1, .int x1)] ∧ va_P D vwCl (wq [(h0, .inr (10, [.ref tp, .ref rd, .ref lv, .ref tr, .ref rw, .ref bx, .ref ch, .ref si, .ref dg, .ref pl, .ref pd, .int xz])), (lv, .inr (9, [.ref pl, .int (nI kw), .ref tk, .ref hd, .ref fr, .ref cg])), (tk, .inl (ca 5, 10, .inr (.inr (.inr (.inr (fun j => some (ta j))))))), (pl, .inr (2, [.int (nI kc), .int (nI kl), .int xb, .int (nI kn), .int (nI ko), .ref p5, .ref p6, .ref p7, .ref p8, .ref p9, .ref p10, .ref p11, .ref p12, .ref p13])), (p6, .inl (ca 1, 10, .inl fp6)), (p8, .inl (ca 1, 10, .inl fp8)), (p9, .inl (ca 1, 10, .inl fp9))] [wx jw_2 []]) H ∧ va_D A (wq [(h0, .inr (10, [.ref tp, .ref rd, .ref lv, .ref tr, .ref rw, .ref bx, .ref ch, .ref si, .ref dg, .ref pl, .ref pd, .int xz])), (lv, .inr (9, [.ref pl, .int (nI kw), .ref tk, .ref hd, .ref fr, .ref cg])), (tk, .inl (ca 5, 10, .inr (.inr (.inr (.inr (fun j => some (ta j))))))), (pl, .inr (2, [.int (nI kc), .int (nI kl), .int xb, .int (nI kn), .int (nI ko), .ref p5, .ref p6, .ref p7, .ref p8, .ref p9, .ref p10, .ref p11, .ref p12, .ref p13])), (p6, .inl (ca 1, 10, .inl fp6)), (p8, .inl (ca 1, 10, .inl fp8)), (p9, .inl (ca 1, 10, .inl fp9))] [wx jw_2 []]) ∧ va_S A s.heap H locs) (Wf := fun H locs ls => W p l e _ s m _ below meth c H locs _ _ _ (F0 m 21 ls [])) (kn + 1) ⟨0, 0, 1, wa, (by omega), (by omega), hw_wa, hl, hP, hD, hS⟩ ?_ ?_
    · intro H locs ls hI
      obtain ⟨ji, ju, jl, jw_2, hji, hmji, hjw_2, -⟩ := hI
      omega
    intro n ih_3 H locs ls hI
    obtain ⟨ji, ju, jl, jw_2, hji, hmji, hjw_2, hl, hP, hD, hS⟩ := hI
    refine lv_iload hx hb dX10_load_21 (lv_at hl 0 rfl) ?_
    refine lv_aload_n hx hb dX10_load_23 rfl (lv_at hl 3 rfl) ?_
    refine va_get (D := D) (ci := 10) (v := .ref pl) (C := RX10) (T := TX10) (N := 12) hx hb hts iw_X10_load_10 hown hC.1 hP 0 rfl rfl 9 (by decide +kernel) (hts (.fieldLink RX10 19 "FairWheel" "plan" "LFairWheel$Plan;") (by decide +kernel)) (fun _ h9 => h9) rfl dX10_load_24 ?_
    refine va_get (D := D) (ci := 2) (v := .int (nI kn)) (C := RX2) (T := TX2) (N := 14) hx hb hts iw_X10_load_2 hown hC.1 hP 3 rfl rfl 3 (by decide +kernel) (hts (.fieldLink RX10 105 "FairWheel$Plan" "count" "I") (by decide +kernel)) (fun _ h9 => h9) rfl dX10_load_27 ?_
    refine lv_icmp_ge (tgt := 140) hx hb dX10_load_30 (by decide +kernel) (fun c_4 => ?_) (fun c_4 => ?_)
    · have nc_4 : kn ≤ ji := (nI_leI (a := kn) (b := ji) (by omega) (by omega)).mp c_4
      refine lv_iload_n hx hb dX10_load_140 rfl (lv_at hl 4 rfl) ?_
      refine lv_if_ne (tgt := 148) hx hb dX10_load_141 (by decide +kernel) (fun c_5 => absurd c_1 c_5) (fun c_5 => ?_)
      refine lv_lload_n hx hb dX10_load_144 rfl (lv_at hl 2 rfl) ?_
      refine lv_goto (tgt := 150) hx hb dX10_load_145 (by decide +kernel) ?_
      exact W.lret (v := ju) hx hb hr (fun t ht hW => ⟨⟨ju, jw_2, rfl, hjw_2, by rw [ht]; exact (hP.perm (sg (wr := []) 8 [0, 1, 2, 3, 4, 5, 6, 7] [] rfl rfl rfl (by decide +kernel))).left, hDA ((hD.perm (sg (wr := []) 8 [0, 1, 2, 3, 4, 5, 6, 7] [] rfl rfl rfl (by decide +kernel))).left)⟩, hS.F ht⟩) hS.2.2 dX10_load_150
    · have nc_4 : ¬ (kn ≤ ji) := fun h => c_4 ((nI_leI (a := kn) (b := ji) (by omega) (by omega)).mpr h)
      refine lv_aload_n hx hb dX10_load_33 rfl (lv_at hl 3 rfl) ?_
      refine va_get (D := D) (ci := 10) (v := .ref pl) (C := RX10) (T := TX10) (N := 12) hx hb hts iw_X10_load_10 hown hC.1 hP 0 rfl rfl 9 (by decide +kernel) (hts (.fieldLink RX10 19 "FairWheel" "plan" "LFairWheel$Plan;") (by decide +kernel)) (fun _ h9 => h9) rfl dX10_load_34 ?_
      refine lv_iload hx hb dX10_load_37 (lv_at hl 0 rfl) ?_
      have hq_6 : List.Perm (wq [(h0, .inr (10, [.ref tp, .ref rd, .ref lv, .ref tr, .ref rw, .ref bx, .ref ch, .ref si, .ref dg, .ref pl, .ref pd, .int xz])), (lv, .inr (9, [.ref pl, .int (nI kw), .ref tk, .ref hd, .ref fr, .ref cg])), (tk, .inl (ca 5, 10, .inr (.inr (.inr (.inr (fun j => some (ta j))))))), (pl, .inr (2, [.int (nI kc), .int (nI kl), .int xb, .int (nI kn), .int (nI ko), .ref p5, .ref p6, .ref p7, .ref p8, .ref p9, .ref p10, .ref p11, .ref p12, .ref p13])), (p6, .inl (ca 1, 10, .inl fp6)), (p8, .inl (ca 1, 10, .inl fp8)), (p9, .inl (ca 1, 10, .inl fp9))] [wx jw_2 []]) (ap [(pl, .inr (2, [.int (nI kc), .int (nI kl), .int xb, .int (nI kn), .int (nI ko), .ref p5, .ref p6, .ref p7, .ref p8, .ref p9, .ref p10, .ref p11, .ref p12, .ref p13])), (p6, .inl (ca 1, 10, .inl fp6))] (wq [(h0, .inr (10, [.ref tp, .ref rd, .ref lv, .ref tr, .ref rw, .ref bx, .ref ch, .ref si, .ref dg, .ref pl, .ref pd, .int xz])), (lv, .inr (9, [.ref pl, .int (nI kw), .ref tk, .ref hd, .ref fr, .ref cg])), (tk, .inl (ca 5, 10, .inr (.inr (.inr (.inr (fun j => some (ta j))))))), (p8, .inl (ca 1, 10, .inl fp8)), (p9, .inl (ca 1, 10, .inl fp9))] [wx jw_2 []])) := sg 8 [3, 4] [0, 1, 2, 5, 6, 7] rfl rfl rfl (by decide +kernel)
      refine kp_i (va_runV (As := [.int (nI ji)]) (rest := []) ⟨hx, hb, hml, hown, hts⟩ (s_X2_isBudgeted l D ca H.size pl p5 p6 p7 p8 p9 p10 p11 p12 p13 kc kl kn ko xb fp6 ji (by omega)) (cwV 1 hts gX10_load_X2_isBudgeted rfl rfl rfl (by decide +kernel) ⟨(Nat.le_of_ble_eq_true rfl), (Nat.le_of_ble_eq_true rfl)⟩) (PC.preVp (ci := 2) hC hP hD hq_6 rfl rfl) rfl rfl hl.1 rfl (lv_room (Nat.le_of_ble_eq_true rfl)) dX10_load_39 ⟨(Nat.le_of_ble_eq_true rfl), (Nat.le_of_ble_eq_true rfl)⟩) hP hD hS hA hq_6 (fun _ => sg1) (fun r_7 u_9 H locs hw_8 hP hD hS => ?_)
      have hu_10 := hw_8
      have hP : va_P D vwCl (wq [(h0, .inr (10, [.ref tp, .ref rd, .ref lv, .ref tr, .ref rw, .ref bx, .ref ch, .ref si, .ref dg, .ref pl, .ref pd, .int xz])), (lv, .inr (9, [.ref pl, .int (nI kw), .ref tk, .ref hd, .ref fr, .ref cg])), (tk, .inl (ca 5, 10, .inr (.inr (.inr (.inr (fun j => some (ta j))))))), (p8, .inl (ca 1, 10, .inl fp8)), (p9, .inl (ca 1, 10, .inl fp9)), (pl, .inr (2, [.int (nI kc), .int (nI kl), .int xb, .int (nI kn), .int (nI ko), .ref p5, .ref p6, .ref p7, .ref p8, .ref p9, .ref p10, .ref p11, .ref p12, .ref p13])), (p6, .inl (ca 1, 10, .inl fp6))] [wx jw_2 []]) H := hP
      have hD : va_D A (wq [(h0, .inr (10, [.ref tp, .ref rd, .ref lv, .ref tr, .ref rw, .ref bx, .ref ch, .ref si, .ref dg, .ref pl, .ref pd, .int xz])), (lv, .inr (9, [.ref pl, .int (nI kw), .ref tk, .ref hd, .ref fr, .ref cg])), (tk, .inl (ca 5, 10, .inr (.inr (.inr (.inr (fun j => some (ta j))))))), (p8, .inl (ca 1, 10, .inl fp8)), (p9, .inl (ca 1, 10, .inl fp9)), (pl, .inr (2, [.int (nI kc), .int (nI kl), .int xb, .int (nI kn), .int (nI ko), .ref p5, .ref p6, .ref p7, .ref p8, .ref p9, .ref p10, .ref p11, .ref p12, .ref p13])), (p6, .inl (ca 1, 10, .inl fp6))] [wx jw_2 []]) := hD
      refine lv_if_eq (tgt := 134) hx hb dX10_load_42 (by decide +kernel) (fun c_11 => ?_) (fun c_11 => ?_)
      · refine lv_iinc (v := nI (ji + 1)) (lv' := [(6, .int (nI (ji + 1))), (4, .long jl), (2, .long ju), (0, .ref h0), (1, .int x1)]) hx hb dX10_load_134 hl (k := 0) rfl (nI_1 _) (by decide +kernel) rfl (fun ls hl => ?_)
        refine lv_goto (tgt := 21) hx hb dX10_load_137 (by decide +kernel) ?_
        exact ih_3 _ _ _ ⟨(ji + 1), ju, jl, jw_2, (by omega), (by omega), hjw_2, lv_sub hl [0, 1, 2, 3, 4] rfl, (hP.perm (sg_w (wn := (wq [(h0, .inr (10, [.ref tp, .ref rd, .ref lv, .ref tr, .ref rw, .ref bx, .ref ch, .ref si, .ref dg, .ref pl, .ref pd, .int xz])), (lv, .inr (9, [.ref pl, .int (nI kw), .ref tk, .ref hd, .ref fr, .ref cg])), (tk, .inl (ca 5, 10, .inr (.inr (.inr (.inr (fun j => some (ta j))))))), (pl, .inr (2, [.int (nI kc), .int (nI kl), .int xb, .int (nI kn), .int (nI ko), .ref p5, .ref p6, .ref p7, .ref p8, .ref p9, .ref p10, .ref p11, .ref p12, .ref p13])), (p6, .inl (ca 1, 10, .inl fp6)), (p8, .inl (ca 1, 10, .inl fp8)), (p9, .inl (ca 1, 10, .inl fp9))] [wx jw_2 []])) 8 [0, 1, 2, 5, 6, 3, 4, 7] rfl rfl (by decide +kernel))), (hD.perm (sg_w (wn := (wq [(h0, .inr (10, [.ref tp, .ref rd, .ref lv, .ref tr, .ref rw, .ref bx, .ref ch, .ref si, .ref dg, .ref pl, .ref pd, .int xz])), (lv, .inr (9, [.ref pl, .int (nI kw), .ref tk, .ref hd, .ref fr, .ref cg])), (tk, .inl (ca 5, 10, .inr (.inr (.inr (.inr (fun j => some (ta j))))))), (pl, .inr (2, [.int (nI kc), .int (nI kl), .int xb, .int (nI kn), .int (nI ko), .ref p5, .ref p6, .ref p7, .ref p8, .ref p9, .ref p10, .ref p11, .ref p12, .ref p13])), (p6, .inl (ca 1, 10, .inl fp6)), (p8, .inl (ca 1, 10, .inl fp8)), (p9, .inl (ca 1, 10, .inl fp9))] [wx jw_2 []])) 8 [0, 1, 2, 5, 6, 3, 4, 7] rfl rfl (by decide +kernel))), hS⟩
      · refine lv_aload_n hx hb dX10_load_45 rfl (lv_at hl 3 rfl) ?_
        refine va_get (D := D) (ci := 10) (v := .ref lv) (C := RX10) (T := TX10) (N := 12) hx hb hts iw_X10_load_10 hown hC.1 hP 0 rfl rfl 2 (by decide +kernel) (hts (.fieldLink RX10 40 "FairWheel" "live" "LFairWheel$Wheel;") (by decide +kernel)) (fun _ h9 => h9) rfl dX10_load_46 ?_
        refine va_get (D := D) (ci := 9) (v := .ref tk) (C := RX9) (T := TX9) (N := 6) hx hb hts iw_X10_load_9 hown hC.1 hP 1 rfl rfl 2 (by decide +kernel) (hts (.fieldLink RX10 127 "FairWheel$Wheel" "tasks" "[LFairWheel$Task;") (by decide +kernel)) (fun _ h9 => h9) rfl dX10_load_49 ?_
        refine lv_iload hx hb dX10_load_52 (lv_at hl 0 rfl) ?_
        refine ka_aldq hx hb hC.1 hP 2 5 rfl rfl ji rfl (by omega) (by decide +kernel) dX10_load_54 ?_
        refine nt_v (.ref (ta ji)) rfl ?_
        obtain ⟨t_12_0, t_12_1, t_12_2, t_12_3, t_12_4, t_12_5, t_12_6, t_12_7, t_12_8, t_12_9, t_12_10, t_12_11, t_12_12, t_12_13, t_12_o, t_12_z, ht_12, et_12⟩ := (hjw_2 ji (by omega)).1
        have hP := hP.perm (wx_o0 (k := ji) (by omega) (List.not_mem_nil) et_12)
        have hD := hD.perm (wx_o0 (k := ji) (by omega) (List.not_mem_nil) et_12)
        have hP : va_P D vwCl (wq [(ta ji, .inr (8, [.int t_12_0, .int t_12_1, .int t_12_2, .int t_12_3, .int t_12_4, .int t_12_5, .int t_12_6, .int t_12_7, .int t_12_8, .int t_12_9, .int t_12_10, .int t_12_11, .int t_12_12, .int t_12_13, .long t_12_o, .int (nI t_12_z), .ref (ra ji)])), (h0, .inr (10, [.ref tp, .ref rd, .ref lv, .ref tr, .ref rw, .ref bx, .ref ch, .ref si, .ref dg, .ref pl, .ref pd, .int xz])), (lv, .inr (9, [.ref pl, .int (nI kw), .ref tk, .ref hd, .ref fr, .ref cg])), (tk, .inl (ca 5, 10, .inr (.inr (.inr (.inr (fun j => some (ta j))))))), (p8, .inl (ca 1, 10, .inl fp8)), (p9, .inl (ca 1, 10, .inl fp9)), (pl, .inr (2, [.int (nI kc), .int (nI kl), .int xb, .int (nI kn), .int (nI ko), .ref p5, .ref p6, .ref p7, .ref p8, .ref p9, .ref p10, .ref p11, .ref p12, .ref p13])), (p6, .inl (ca 1, 10, .inl fp6))] [wx jw_2 [ji]]) H := hP
        have hD : va_D A (wq [(ta ji, .inr (8, [.int t_12_0, .int t_12_1, .int t_12_2, .int t_12_3, .int t_12_4, .int t_12_5, .int t_12_6, .int t_12_7, .int t_12_8, .int t_12_9, .int t_12_10, .int t_12_11, .int t_12_12, .int t_12_13, .long t_12_o, .int (nI t_12_z), .ref (ra ji)])), (h0, .inr (10, [.ref tp, .ref rd, .ref lv, .ref tr, .ref rw, .ref bx, .ref ch, .ref si, .ref dg, .ref pl, .ref pd, .int xz])), (lv, .inr (9, [.ref pl, .int (nI kw), .ref tk, .ref hd, .ref fr, .ref cg])), (tk, .inl (ca 5, 10, .inr (.inr (.inr (.inr (fun j => some (ta j))))))), (p8, .inl (ca 1, 10, .inl fp8)), (p9, .inl (ca 1, 10, .inl fp9)), (pl, .inr (2, [.int (nI kc), .int (nI kl), .int xb, .int (nI kn), .int (nI ko), .ref p5, .ref p6, .ref p7, .ref p8, .ref p9, .ref p10, .ref p11, .ref p12, .ref p13])), (p6, .inl (ca 1, 10, .inl fp6))] [wx jw_2 [ji]]) := hD
        refine va_get (D := D) (ci := 8) (v := .int t_12_0) (C := RX8) (T := TX8) (N := 17) hx hb hts iw_X10_load_8 hown hC.1 hP 0 rfl rfl 0 (by decide +kernel) (hts (.fieldLink RX10 131 "FairWheel$Task" "phase" "I") (by decide +kernel)) (fun _ h9 => h9) rfl dX10_load_55 ?_
        refine lv_iconst (v := 4) hx hb dX10_load_58 (by decide +kernel) ?_
        refine lv_icmp_eq (tgt := 134) hx hb dX10_load_59 (by decide +kernel) (fun c_13 => ?_) (fun c_13 => ?_)
        · refine lv_iinc (v := nI (ji + 1)) (lv' := [(6, .int (nI (ji + 1))), (4, .long jl), (2, .long ju), (0, .ref h0), (1, .int x1)]) hx hb dX10_load_134 hl (k := 0) rfl (nI_1 _) (by decide +kernel) rfl (fun ls hl => ?_)
          refine lv_goto (tgt := 21) hx hb dX10_load_137 (by decide +kernel) ?_
          obtain ⟨w_14, hw_14, hP, hD⟩ : ∃ w_14, wok ca ta ra w_14 ∧ va_P D vwCl (wq [(h0, .inr (10, [.ref tp, .ref rd, .ref lv, .ref tr, .ref rw, .ref bx, .ref ch, .ref si, .ref dg, .ref pl, .ref pd, .int xz])), (lv, .inr (9, [.ref pl, .int (nI kw), .ref tk, .ref hd, .ref fr, .ref cg])), (tk, .inl (ca 5, 10, .inr (.inr (.inr (.inr (fun j => some (ta j))))))), (p8, .inl (ca 1, 10, .inl fp8)), (p9, .inl (ca 1, 10, .inl fp9)), (pl, .inr (2, [.int (nI kc), .int (nI kl), .int xb, .int (nI kn), .int (nI ko), .ref p5, .ref p6, .ref p7, .ref p8, .ref p9, .ref p10, .ref p11, .ref p12, .ref p13])), (p6, .inl (ca 1, 10, .inl fp6))] [wx w_14 []]) H ∧ va_D A (wq [(h0, .inr (10, [.ref tp, .ref rd, .ref lv, .ref tr, .ref rw, .ref bx, .ref ch, .ref si, .ref dg, .ref pl, .ref pd, .int xz])), (lv, .inr (9, [.ref pl, .int (nI kw), .ref tk, .ref hd, .ref fr, .ref cg])), (tk, .inl (ca 5, 10, .inr (.inr (.inr (.inr (fun j => some (ta j))))))), (p8, .inl (ca 1, 10, .inl fp8)), (p9, .inl (ca 1, 10, .inl fp9)), (pl, .inr (2, [.int (nI kc), .int (nI kl), .int xb, .int (nI kn), .int (nI ko), .ref p5, .ref p6, .ref p7, .ref p8, .ref p9, .ref p10, .ref p11, .ref p12, .ref p13])), (p6, .inl (ca 1, 10, .inl fp6))] [wx w_14 []]) := ⟨_, wok_t hjw_2 (k := ji) (by omega) t_12_0 t_12_1 t_12_2 t_12_3 t_12_4 t_12_5 t_12_6 t_12_7 t_12_8 t_12_9 t_12_10 t_12_11 t_12_12 t_12_13 t_12_o t_12_z (by omega), hP.perm (wx_c0 (k := ji) (by omega) (List.not_mem_nil)), hD.perm (wx_c0 (k := ji) (by omega) (List.not_mem_nil))⟩
          exact ih_3 _ _ _ ⟨(ji + 1), ju, jl, w_14, (by omega), (by omega), hw_14, lv_sub hl [0, 1, 2, 3, 4] rfl, (hP.perm (sg_w (wn := (wq [(h0, .inr (10, [.ref tp, .ref rd, .ref lv, .ref tr, .ref rw, .ref bx, .ref ch, .ref si, .ref dg, .ref pl, .ref pd, .int xz])), (lv, .inr (9, [.ref pl, .int (nI kw), .ref tk, .ref hd, .ref fr, .ref cg])), (tk, .inl (ca 5, 10, .inr (.inr (.inr (.inr (fun j => some (ta j))))))), (pl, .inr (2, [.int (nI kc), .int (nI kl), .int xb, .int (nI kn), .int (nI ko), .ref p5, .ref p6, .ref p7, .ref p8, .ref p9, .ref p10, .ref p11, .ref p12, .ref p13])), (p6, .inl (ca 1, 10, .inl fp6)), (p8, .inl (ca 1, 10, .inl fp8)), (p9, .inl (ca 1, 10, .inl fp9))] [wx w_14 []])) 8 [0, 1, 2, 5, 6, 3, 4, 7] rfl rfl (by decide +kernel))), (hD.perm (sg_w (wn := (wq [(h0, .inr (10, [.ref tp, .ref rd, .ref lv, .ref tr, .ref rw, .ref bx, .ref ch, .ref si, .ref dg, .ref pl, .ref pd, .int xz])), (lv, .inr (9, [.ref pl, .int (nI kw), .ref tk, .ref hd, .ref fr, .ref cg])), (tk, .inl (ca 5, 10, .inr (.inr (.inr (.inr (fun j => some (ta j))))))), (pl, .inr (2, [.int (nI kc), .int (nI kl), .int xb, .int (nI kn), .int (nI ko), .ref p5, .ref p6, .ref p7, .ref p8, .ref p9, .ref p10, .ref p11, .ref p12, .ref p13])), (p6, .inl (ca 1, 10, .inl fp6)), (p8, .inl (ca 1, 10, .inl fp8)), (p9, .inl (ca 1, 10, .inl fp9))] [wx w_14 []])) 8 [0, 1, 2, 5, 6, 3, 4, 7] rfl rfl (by decide +kernel))), hS⟩
        · refine lv_lload_n hx hb dX10_load_62 rfl (lv_at hl 2 rfl) ?_
          refine lv_aload_n hx hb dX10_load_63 rfl (lv_at hl 3 rfl) ?_
          refine va_get (D := D) (ci := 10) (v := .ref pl) (C := RX10) (T := TX10) (N := 12) hx hb hts iw_X10_load_10 hown hC.1 hP 1 rfl rfl 9 (by decide +kernel) (hts (.fieldLink RX10 19 "FairWheel" "plan" "LFairWheel$Plan;") (by decide +kernel)) (fun _ h9 => h9) rfl dX10_load_64 ?_
          refine va_get (D := D) (ci := 2) (v := .ref p8) (C := RX2) (T := TX2) (N := 14) hx hb hts iw_X10_load_2 hown hC.1 hP 6 rfl rfl 8 (by decide +kernel) (hts (.fieldLink RX10 221 "FairWheel$Plan" "every" "[I") (by decide +kernel)) (fun _ h9 => h9) rfl dX10_load_67 ?_
          refine lv_iload hx hb dX10_load_70 (lv_at hl 0 rfl) ?_
          refine ka_iald hx hb hC.1 hP 4 1 rfl rfl ji rfl (by omega) (by decide +kernel) dX10_load_72 ?_
          refine lv_topi (fun y_15 ey_15 => ?_)
          refine lv_i2l hx hb dX10_load_73 rfl ?_
          refine lv_topl (fun y_16 ey_16 => ?_)
          refine lv_lmul hx hb dX10_load_74 ?_
          refine lv_topl (fun y_17 ey_17 => ?_)
          refine lv_lload hx hb dX10_load_75 (lv_at hl 1 rfl) ?_
          refine lv_aload_n hx hb dX10_load_77 rfl (lv_at hl 3 rfl) ?_
          refine va_get (D := D) (ci := 10) (v := .ref pl) (C := RX10) (T := TX10) (N := 12) hx hb hts iw_X10_load_10 hown hC.1 hP 1 rfl rfl 9 (by decide +kernel) (hts (.fieldLink RX10 19 "FairWheel" "plan" "LFairWheel$Plan;") (by decide +kernel)) (fun _ h9 => h9) rfl dX10_load_78 ?_
          refine va_get (D := D) (ci := 2) (v := .ref p9) (C := RX2) (T := TX2) (N := 14) hx hb hts iw_X10_load_2 hown hC.1 hP 6 rfl rfl 9 (by decide +kernel) (hts (.fieldLink RX10 224 "FairWheel$Plan" "budget" "[I") (by decide +kernel)) (fun _ h9 => h9) rfl dX10_load_81 ?_
          refine lv_iload hx hb dX10_load_84 (lv_at hl 0 rfl) ?_
          refine ka_iald hx hb hC.1 hP 5 1 rfl rfl ji rfl (by omega) (by decide +kernel) dX10_load_86 ?_
          refine lv_topi (fun y_18 ey_18 => ?_)
          refine lv_i2l hx hb dX10_load_87 rfl ?_
          refine lv_topl (fun y_19 ey_19 => ?_)
          refine lv_lmul hx hb dX10_load_88 ?_
          refine lv_topl (fun y_20 ey_20 => ?_)
          refine lv_ladd hx hb dX10_load_89 ?_
          refine lv_topl (fun y_21 ey_21 => ?_)
          refine lv_lstore_n (lv' := [(2, .long y_21), (6, .int (nI ji)), (4, .long jl), (0, .ref h0), (1, .int x1)]) hx hb dX10_load_90 rfl hl (by decide +kernel) rfl (fun ls hl => ?_)
          refine lv_lload hx hb dX10_load_91 (lv_at hl 2 rfl) ?_
          refine lv_aload_n hx hb dX10_load_93 rfl (lv_at hl 3 rfl) ?_
          refine va_get (D := D) (ci := 10) (v := .ref pl) (C := RX10) (T := TX10) (N := 12) hx hb hts iw_X10_load_10 hown hC.1 hP 1 rfl rfl 9 (by decide +kernel) (hts (.fieldLink RX10 19 "FairWheel" "plan" "LFairWheel$Plan;") (by decide +kernel)) (fun _ h9 => h9) rfl dX10_load_94 ?_
          refine va_get (D := D) (ci := 2) (v := .ref p8) (C := RX2) (T := TX2) (N := 14) hx hb hts iw_X10_load_2 hown hC.1 hP 6 rfl rfl 8 (by decide +kernel) (hts (.fieldLink RX10 221 "FairWheel$Plan" "every" "[I") (by decide +kernel)) (fun _ h9 => h9) rfl dX10_load_97 ?_
          refine lv_iload hx hb dX10_load_100 (lv_at hl 1 rfl) ?_
          refine ka_iald hx hb hC.1 hP 4 1 rfl rfl ji rfl (by omega) (by decide +kernel) dX10_load_102 ?_
          refine lv_topi (fun y_22 ey_22 => ?_)
          refine lv_i2l hx hb dX10_load_103 rfl ?_
          refine lv_topl (fun y_23 ey_23 => ?_)
          refine lv_lmul hx hb dX10_load_104 ?_
          refine lv_topl (fun y_24 ey_24 => ?_)
          refine lv_lstore (lv' := [(4, .long y_24), (2, .long y_21), (6, .int (nI ji)), (0, .ref h0), (1, .int x1)]) hx hb dX10_load_105 hl (by decide +kernel) rfl (fun ls hl => ?_)
          refine lv_lload_n hx hb dX10_load_107 rfl (lv_at hl 1 rfl) ?_
          refine lv_lload hx hb dX10_load_108 (lv_at hl 0 rfl) ?_
          have hq_25 : List.Perm (wq [(ta ji, .inr (8, [.int t_12_0, .int t_12_1, .int t_12_2, .int t_12_3, .int t_12_4, .int t_12_5, .int t_12_6, .int t_12_7, .int t_12_8, .int t_12_9, .int t_12_10, .int t_12_11, .int t_12_12, .int t_12_13, .long t_12_o, .int (nI t_12_z), .ref (ra ji)])), (h0, .inr (10, [.ref tp, .ref rd, .ref lv, .ref tr, .ref rw, .ref bx, .ref ch, .ref si, .ref dg, .ref pl, .ref pd, .int xz])), (lv, .inr (9, [.ref pl, .int (nI kw), .ref tk, .ref hd, .ref fr, .ref cg])), (tk, .inl (ca 5, 10, .inr (.inr (.inr (.inr (fun j => some (ta j))))))), (p8, .inl (ca 1, 10, .inl fp8)), (p9, .inl (ca 1, 10, .inl fp9)), (pl, .inr (2, [.int (nI kc), .int (nI kl), .int xb, .int (nI kn), .int (nI ko), .ref p5, .ref p6, .ref p7, .ref p8, .ref p9, .ref p10, .ref p11, .ref p12, .ref p13])), (p6, .inl (ca 1, 10, .inl fp6))] [wx jw_2 [ji]]) (ap [] (wq [(ta ji, .inr (8, [.int t_12_0, .int t_12_1, .int t_12_2, .int t_12_3, .int t_12_4, .int t_12_5, .int t_12_6, .int t_12_7, .int t_12_8, .int t_12_9, .int t_12_10, .int t_12_11, .int t_12_12, .int t_12_13, .long t_12_o, .int (nI t_12_z), .ref (ra ji)])), (h0, .inr (10, [.ref tp, .ref rd, .ref lv, .ref tr, .ref rw, .ref bx, .ref ch, .ref si, .ref dg, .ref pl, .ref pd, .int xz])), (lv, .inr (9, [.ref pl, .int (nI kw), .ref tk, .ref hd, .ref fr, .ref cg])), (tk, .inl (ca 5, 10, .inr (.inr (.inr (.inr (fun j => some (ta j))))))), (p8, .inl (ca 1, 10, .inl fp8)), (p9, .inl (ca 1, 10, .inl fp9)), (pl, .inr (2, [.int (nI kc), .int (nI kl), .int xb, .int (nI kn), .int (nI ko), .ref p5, .ref p6, .ref p7, .ref p8, .ref p9, .ref p10, .ref p11, .ref p12, .ref p13])), (p6, .inl (ca 1, 10, .inl fp6))] [wx jw_2 [ji]])) := sg 9 [] [0, 1, 2, 3, 4, 5, 6, 7, 8] rfl rfl rfl (by decide +kernel)
          refine kp_l (va_runS (As := [.long y_21, .long y_24]) (rest := []) ⟨hx, hb, hml, hown, hts⟩ (s_X10_commonPart l D ca H.size y_21 y_24) (va_cwS 2 hts gX10_load_X10_commonPart rfl rfl rfl (by decide +kernel) ⟨(Nat.le_of_ble_eq_true rfl), (Nat.le_of_ble_eq_true rfl)⟩) (PC.preSp hC hP hD hq_25) rfl rfl hl.1 rfl (lv_room (Nat.le_of_ble_eq_true rfl)) dX10_load_110 ⟨(Nat.le_of_ble_eq_true rfl), (Nat.le_of_ble_eq_true rfl)⟩) hP hD hS hA hq_25 (fun _ => sg1) (fun r_26 u_28 H locs hw_27 hP hD hS => ?_)
          have hP : va_P D vwCl (wq [(ta ji, .inr (8, [.int t_12_0, .int t_12_1, .int t_12_2, .int t_12_3, .int t_12_4, .int t_12_5, .int t_12_6, .int t_12_7, .int t_12_8, .int t_12_9, .int t_12_10, .int t_12_11, .int t_12_12, .int t_12_13, .long t_12_o, .int (nI t_12_z), .ref (ra ji)])), (h0, .inr (10, [.ref tp, .ref rd, .ref lv, .ref tr, .ref rw, .ref bx, .ref ch, .ref si, .ref dg, .ref pl, .ref pd, .int xz])), (lv, .inr (9, [.ref pl, .int (nI kw), .ref tk, .ref hd, .ref fr, .ref cg])), (tk, .inl (ca 5, 10, .inr (.inr (.inr (.inr (fun j => some (ta j))))))), (p8, .inl (ca 1, 10, .inl fp8)), (p9, .inl (ca 1, 10, .inl fp9)), (pl, .inr (2, [.int (nI kc), .int (nI kl), .int xb, .int (nI kn), .int (nI ko), .ref p5, .ref p6, .ref p7, .ref p8, .ref p9, .ref p10, .ref p11, .ref p12, .ref p13])), (p6, .inl (ca 1, 10, .inl fp6))] [wx jw_2 [ji]]) H := hP
          have hD : va_D A (wq [(ta ji, .inr (8, [.int t_12_0, .int t_12_1, .int t_12_2, .int t_12_3, .int t_12_4, .int t_12_5, .int t_12_6, .int t_12_7, .int t_12_8, .int t_12_9, .int t_12_10, .int t_12_11, .int t_12_12, .int t_12_13, .long t_12_o, .int (nI t_12_z), .ref (ra ji)])), (h0, .inr (10, [.ref tp, .ref rd, .ref lv, .ref tr, .ref rw, .ref bx, .ref ch, .ref si, .ref dg, .ref pl, .ref pd, .int xz])), (lv, .inr (9, [.ref pl, .int (nI kw), .ref tk, .ref hd, .ref fr, .ref cg])), (tk, .inl (ca 5, 10, .inr (.inr (.inr (.inr (fun j => some (ta j))))))), (p8, .inl (ca 1, 10, .inl fp8)), (p9, .inl (ca 1, 10, .inl fp9)), (pl, .inr (2, [.int (nI kc), .int (nI kl), .int xb, .int (nI kn), .int (nI ko), .ref p5, .ref p6, .ref p7, .ref p8, .ref p9, .ref p10, .ref p11, .ref p12, .ref p13])), (p6, .inl (ca 1, 10, .inl fp6))] [wx jw_2 [ji]]) := hD
          refine lv_lstore (lv' := [(7, .long r_26), (4, .long y_24), (2, .long y_21), (6, .int (nI ji)), (0, .ref h0), (1, .int x1)]) hx hb dX10_load_113 hl (by decide +kernel) rfl (fun ls hl => ?_)
          refine lv_lload hx hb dX10_load_115 (lv_at hl 0 rfl) ?_
          refine lv_lconst (v := 1) hx hb dX10_load_117 (by decide +kernel) ?_
          refine W.lcmp hx hb dX10_load_118 ?_
          refine lv_topi (fun y_29 ey_29 => ?_)
          refine lv_if_le (tgt := 134) hx hb dX10_load_119 (by decide +kernel) (fun c_30 => ?_) (fun c_30 => ?_)
          · refine lv_iinc (v := nI (ji + 1)) (lv' := [(6, .int (nI (ji + 1))), (7, .long r_26), (4, .long y_24), (2, .long y_21), (0, .ref h0), (1, .int x1)]) hx hb dX10_load_134 hl (k := 3) rfl (nI_1 _) (by decide +kernel) rfl (fun ls hl => ?_)
            refine lv_goto (tgt := 21) hx hb dX10_load_137 (by decide +kernel) ?_
            obtain ⟨w_31, hw_31, hP, hD⟩ : ∃ w_31, wok ca ta ra w_31 ∧ va_P D vwCl (wq [(h0, .inr (10, [.ref tp, .ref rd, .ref lv, .ref tr, .ref rw, .ref bx, .ref ch, .ref si, .ref dg, .ref pl, .ref pd, .int xz])), (lv, .inr (9, [.ref pl, .int (nI kw), .ref tk, .ref hd, .ref fr, .ref cg])), (tk, .inl (ca 5, 10, .inr (.inr (.inr (.inr (fun j => some (ta j))))))), (p8, .inl (ca 1, 10, .inl fp8)), (p9, .inl (ca 1, 10, .inl fp9)), (pl, .inr (2, [.int (nI kc), .int (nI kl), .int xb, .int (nI kn), .int (nI ko), .ref p5, .ref p6, .ref p7, .ref p8, .ref p9, .ref p10, .ref p11, .ref p12, .ref p13])), (p6, .inl (ca 1, 10, .inl fp6))] [wx w_31 []]) H ∧ va_D A (wq [(h0, .inr (10, [.ref tp, .ref rd, .ref lv, .ref tr, .ref rw, .ref bx, .ref ch, .ref si, .ref dg, .ref pl, .ref pd, .int xz])), (lv, .inr (9, [.ref pl, .int (nI kw), .ref tk, .ref hd, .ref fr, .ref cg])), (tk, .inl (ca 5, 10, .inr (.inr (.inr (.inr (fun j => some (ta j))))))), (p8, .inl (ca 1, 10, .inl fp8)), (p9, .inl (ca 1, 10, .inl fp9)), (pl, .inr (2, [.int (nI kc), .int (nI kl), .int xb, .int (nI kn), .int (nI ko), .ref p5, .ref p6, .ref p7, .ref p8, .ref p9, .ref p10, .ref p11, .ref p12, .ref p13])), (p6, .inl (ca 1, 10, .inl fp6))] [wx w_31 []]) := ⟨_, wok_t hjw_2 (k := ji) (by omega) t_12_0 t_12_1 t_12_2 t_12_3 t_12_4 t_12_5 t_12_6 t_12_7 t_12_8 t_12_9 t_12_10 t_12_11 t_12_12 t_12_13 t_12_o t_12_z (by omega), hP.perm (wx_c0 (k := ji) (by omega) (List.not_mem_nil)), hD.perm (wx_c0 (k := ji) (by omega) (List.not_mem_nil))⟩
            exact ih_3 _ _ _ ⟨(ji + 1), y_21, y_24, w_31, (by omega), (by omega), hw_31, lv_sub hl [0, 2, 3, 4, 5] rfl, (hP.perm (sg_w (wn := (wq [(h0, .inr (10, [.ref tp, .ref rd, .ref lv, .ref tr, .ref rw, .ref bx, .ref ch, .ref si, .ref dg, .ref pl, .ref pd, .int xz])), (lv, .inr (9, [.ref pl, .int (nI kw), .ref tk, .ref hd, .ref fr, .ref cg])), (tk, .inl (ca 5, 10, .inr (.inr (.inr (.inr (fun j => some (ta j))))))), (pl, .inr (2, [.int (nI kc), .int (nI kl), .int xb, .int (nI kn), .int (nI ko), .ref p5, .ref p6, .ref p7, .ref p8, .ref p9, .ref p10, .ref p11, .ref p12, .ref p13])), (p6, .inl (ca 1, 10, .inl fp6)), (p8, .inl (ca 1, 10, .inl fp8)), (p9, .inl (ca 1, 10, .inl fp9))] [wx w_31 []])) 8 [0, 1, 2, 5, 6, 3, 4, 7] rfl rfl (by decide +kernel))), (hD.perm (sg_w (wn := (wq [(h0, .inr (10, [.ref tp, .ref rd, .ref lv, .ref tr, .ref rw, .ref bx, .ref ch, .ref si, .ref dg, .ref pl, .ref pd, .int xz])), (lv, .inr (9, [.ref pl, .int (nI kw), .ref tk, .ref hd, .ref fr, .ref cg])), (tk, .inl (ca 5, 10, .inr (.inr (.inr (.inr (fun j => some (ta j))))))), (pl, .inr (2, [.int (nI kc), .int (nI kl), .int xb, .int (nI kn), .int (nI ko), .ref p5, .ref p6, .ref p7, .ref p8, .ref p9, .ref p10, .ref p11, .ref p12, .ref p13])), (p6, .inl (ca 1, 10, .inl fp6)), (p8, .inl (ca 1, 10, .inl fp8)), (p9, .inl (ca 1, 10, .inl fp9))] [wx w_31 []])) 8 [0, 1, 2, 5, 6, 3, 4, 7] rfl rfl (by decide +kernel))), hS⟩
          · refine lv_lload_n hx hb dX10_load_122 rfl (lv_at hl 2 rfl) ?_
            refine lv_lload hx hb dX10_load_123 (lv_at hl 0 rfl) ?_
            refine lv_ldiv hx hb dX10_load_125 (lcmp_gt c_30 ey_29) ?_
            refine lv_topl (fun y_32 ey_32 => ?_)
            refine lv_lstore_n (lv' := [(2, .long y_32), (7, .long r_26), (4, .long y_24), (6, .int (nI ji)), (0, .ref h0), (1, .int x1)]) hx hb dX10_load_126 rfl hl (by decide +kernel) rfl (fun ls hl => ?_)
            refine lv_lload hx hb dX10_load_127 (lv_at hl 2 rfl) ?_
            refine lv_lload hx hb dX10_load_129 (lv_at hl 1 rfl) ?_
            refine lv_ldiv hx hb dX10_load_131 (lcmp_gt c_30 ey_29) ?_
            refine lv_topl (fun y_33 ey_33 => ?_)
            refine lv_lstore (lv' := [(4, .long y_33), (2, .long y_32), (7, .long r_26), (6, .int (nI ji)), (0, .ref h0), (1, .int x1)]) hx hb dX10_load_132 hl (by decide +kernel) rfl (fun ls hl => ?_)
            refine lv_iinc (v := nI (ji + 1)) (lv' := [(6, .int (nI (ji + 1))), (4, .long y_33), (2, .long y_32), (7, .long r_26), (0, .ref h0), (1, .int x1)]) hx hb dX10_load_134 hl (k := 3) rfl (nI_1 _) (by decide +kernel) rfl (fun ls hl => ?_)
            refine lv_goto (tgt := 21) hx hb dX10_load_137 (by decide +kernel) ?_
            obtain ⟨w_34, hw_34, hP, hD⟩ : ∃ w_34, wok ca ta ra w_34 ∧ va_P D vwCl (wq [(h0, .inr (10, [.ref tp, .ref rd, .ref lv, .ref tr, .ref rw, .ref bx, .ref ch, .ref si, .ref dg, .ref pl, .ref pd, .int xz])), (lv, .inr (9, [.ref pl, .int (nI kw), .ref tk, .ref hd, .ref fr, .ref cg])), (tk, .inl (ca 5, 10, .inr (.inr (.inr (.inr (fun j => some (ta j))))))), (p8, .inl (ca 1, 10, .inl fp8)), (p9, .inl (ca 1, 10, .inl fp9)), (pl, .inr (2, [.int (nI kc), .int (nI kl), .int xb, .int (nI kn), .int (nI ko), .ref p5, .ref p6, .ref p7, .ref p8, .ref p9, .ref p10, .ref p11, .ref p12, .ref p13])), (p6, .inl (ca 1, 10, .inl fp6))] [wx w_34 []]) H ∧ va_D A (wq [(h0, .inr (10, [.ref tp, .ref rd, .ref lv, .ref tr, .ref rw, .ref bx, .ref ch, .ref si, .ref dg, .ref pl, .ref pd, .int xz])), (lv, .inr (9, [.ref pl, .int (nI kw), .ref tk, .ref hd, .ref fr, .ref cg])), (tk, .inl (ca 5, 10, .inr (.inr (.inr (.inr (fun j => some (ta j))))))), (p8, .inl (ca 1, 10, .inl fp8)), (p9, .inl (ca 1, 10, .inl fp9)), (pl, .inr (2, [.int (nI kc), .int (nI kl), .int xb, .int (nI kn), .int (nI ko), .ref p5, .ref p6, .ref p7, .ref p8, .ref p9, .ref p10, .ref p11, .ref p12, .ref p13])), (p6, .inl (ca 1, 10, .inl fp6))] [wx w_34 []]) := ⟨_, wok_t hjw_2 (k := ji) (by omega) t_12_0 t_12_1 t_12_2 t_12_3 t_12_4 t_12_5 t_12_6 t_12_7 t_12_8 t_12_9 t_12_10 t_12_11 t_12_12 t_12_13 t_12_o t_12_z (by omega), hP.perm (wx_c0 (k := ji) (by omega) (List.not_mem_nil)), hD.perm (wx_c0 (k := ji) (by omega) (List.not_mem_nil))⟩
            exact ih_3 _ _ _ ⟨(ji + 1), y_32, y_33, w_34, (by omega), (by omega), hw_34, lv_sub hl [0, 1, 2, 4, 5] rfl, (hP.perm (sg_w (wn := (wq [(h0, .inr (10, [.ref tp, .ref rd, .ref lv, .ref tr, .ref rw, .ref bx, .ref ch, .ref si, .ref dg, .ref pl, .ref pd, .int xz])), (lv, .inr (9, [.ref pl, .int (nI kw), .ref tk, .ref hd, .ref fr, .ref cg])), (tk, .inl (ca 5, 10, .inr (.inr (.inr (.inr (fun j => some (ta j))))))), (pl, .inr (2, [.int (nI kc), .int (nI kl), .int xb, .int (nI kn), .int (nI ko), .ref p5, .ref p6, .ref p7, .ref p8, .ref p9, .ref p10, .ref p11, .ref p12, .ref p13])), (p6, .inl (ca 1, 10, .inl fp6)), (p8, .inl (ca 1, 10, .inl fp8)), (p9, .inl (ca 1, 10, .inl fp9))] [wx w_34 []])) 8 [0, 1, 2, 5, 6, 3, 4, 7] rfl rfl (by decide +kernel))), (hD.perm (sg_w (wn := (wq [(h0, .inr (10, [.ref tp, .ref rd, .ref lv, .ref tr, .ref rw, .ref bx, .ref ch, .ref si, .ref dg, .ref pl, .ref pd, .int xz])), (lv, .inr (9, [.ref pl, .int (nI kw), .ref tk, .ref hd, .ref fr, .ref cg])), (tk, .inl (ca 5, 10, .inr (.inr (.inr (.inr (fun j => some (ta j))))))), (pl, .inr (2, [.int (nI kc), .int (nI kl), .int xb, .int (nI kn), .int (nI ko), .ref p5, .ref p6, .ref p7, .ref p8, .ref p9, .ref p10, .ref p11, .ref p12, .ref p13])), (p6, .inl (ca 1, 10, .inl fp6)), (p8, .inl (ca 1, 10, .inl fp8)), (p9, .inl (ca 1, 10, .inl fp9))] [wx w_34 []])) 8 [0, 1, 2, 5, 6, 3, 4, 7] rfl rfl (by decide +kernel))), hS⟩
  · refine lv_iload_n hx hb dX10_load_4 rfl (lv_at hl 1 rfl) ?_
    refine lv_iconst (v := 1) hx hb dX10_load_5 (by decide +kernel) ?_
    refine lv_icmp_eq (tgt := 13) hx hb dX10_load_6 (by decide +kernel) (fun c_35 => ?_) (fun c_35 => ?_)
    · refine lv_lconst (v := 0) hx hb dX10_load_13 (by decide +kernel) ?_
      refine lv_lstore_n (lv' := [(2, .long 0), (0, .ref h0), (1, .int x1)]) hx hb dX10_load_14 rfl hl (by decide +kernel) rfl (fun ls hl => ?_)
      refine lv_lconst (v := 1) hx hb dX10_load_15 (by decide +kernel) ?_
      refine lv_lstore (lv' := [(4, .long 1), (2, .long 0), (0, .ref h0), (1, .int x1)]) hx hb dX10_load_16 hl (by decide +kernel) rfl (fun ls hl => ?_)
      refine lv_iconst (v := 0) hx hb dX10_load_18 (by decide +kernel) ?_
      refine lv_istore (lv' := [(6, .int 0), (4, .long 1), (2, .long 0), (0, .ref h0), (1, .int x1)]) hx hb dX10_load_19 hl (by decide +kernel) rfl (fun ls hl => ?_)
      refine lp_ind (I := fun (n : Nat) H locs ls => ∃ (ji : Nat) (ju : Int64) (jl : Int64) (jw_36 : Nat → Nat × va_E), ji ≤ kn ∧ ji + n = kn + 1 ∧ wok ca ta ra jw_36 ∧ lv_has ls 9 [(6, .int (nI ji)), (4, .long jl), (2, .long ju), (0, .ref h0), (1, .int x1)] ∧ va_P D vwCl (wq [(h0, .inr (10, [.ref tp, .ref rd, .ref lv, .ref tr, .ref rw, .ref bx, .ref ch, .ref si, .ref dg, .ref pl, .ref pd, .int xz])), (lv, .inr (9, [.ref pl, .int (nI kw), .ref tk, .ref hd, .ref fr, .ref cg])), (tk, .inl (ca 5, 10, .inr (.inr (.inr (.inr (fun j => some (ta j))))))), (pl, .inr (2, [.int (nI kc), .int (nI kl), .int xb, .int (nI kn), .int (nI ko), .ref p5, .ref p6, .ref p7, .ref p8, .ref p9, .ref p10, .ref p11, .ref p12, .ref p13])), (p6, .inl (ca 1, 10, .inl fp6)), (p8, .inl (ca 1, 10, .inl fp8)), (p9, .inl (ca 1, 10, .inl fp9))] [wx jw_36 []]) H ∧ va_D A (wq [(h0, .inr (10, [.ref tp, .ref rd, .ref lv, .ref tr, .ref rw, .ref bx, .ref ch, .ref si, .ref dg, .ref pl, .ref pd, .int xz])), (lv, .inr (9, [.ref pl, .int (nI kw), .ref tk, .ref hd, .ref fr, .ref cg])), (tk, .inl (ca 5, 10, .inr (.inr (.inr (.inr (fun j => some (ta j))))))), (pl, .inr (2, [.int (nI kc), .int (nI kl), .int xb, .int (nI kn), .int (nI ko), .ref p5, .ref p6, .ref p7, .ref p8, .ref p9, .ref p10, .ref p11, .ref p12, .ref p13])), (p6, .inl (ca 1, 10, .inl fp6)), (p8, .inl (ca 1, 10, .inl fp8)), (p9, .inl (ca 1, 10, .inl fp9))] [wx jw_36 []]) ∧ va_S A s.heap H locs) (Wf := fun H locs ls => W p l e _ s m _ below meth c H locs _ _ _ (F0 m 21 ls [])) (kn + 1) ⟨0, 0, 1, wa, (by omega), (by omega), hw_wa, hl, hP, hD, hS⟩ ?_ ?_
      · intro H locs ls hI
        obtain ⟨ji, ju, jl, jw_36, hji, hmji, hjw_36, -⟩ := hI
        omega
      intro n ih_37 H locs ls hI
      obtain ⟨ji, ju, jl, jw_36, hji, hmji, hjw_36, hl, hP, hD, hS⟩ := hI
      refine lv_iload hx hb dX10_load_21 (lv_at hl 0 rfl) ?_
      refine lv_aload_n hx hb dX10_load_23 rfl (lv_at hl 3 rfl) ?_
      refine va_get (D := D) (ci := 10) (v := .ref pl) (C := RX10) (T := TX10) (N := 12) hx hb hts iw_X10_load_10 hown hC.1 hP 0 rfl rfl 9 (by decide +kernel) (hts (.fieldLink RX10 19 "FairWheel" "plan" "LFairWheel$Plan;") (by decide +kernel)) (fun _ h9 => h9) rfl dX10_load_24 ?_
      refine va_get (D := D) (ci := 2) (v := .int (nI kn)) (C := RX2) (T := TX2) (N := 14) hx hb hts iw_X10_load_2 hown hC.1 hP 3 rfl rfl 3 (by decide +kernel) (hts (.fieldLink RX10 105 "FairWheel$Plan" "count" "I") (by decide +kernel)) (fun _ h9 => h9) rfl dX10_load_27 ?_
      refine lv_icmp_ge (tgt := 140) hx hb dX10_load_30 (by decide +kernel) (fun c_38 => ?_) (fun c_38 => ?_)
      · have nc_38 : kn ≤ ji := (nI_leI (a := kn) (b := ji) (by omega) (by omega)).mp c_38
        refine lv_iload_n hx hb dX10_load_140 rfl (lv_at hl 4 rfl) ?_
        refine lv_if_ne (tgt := 148) hx hb dX10_load_141 (by decide +kernel) (fun c_39 => ?_) (fun c_39 => absurd (c_35.symm.trans c_39) (by decide +kernel))
        refine lv_lload hx hb dX10_load_148 (lv_at hl 1 rfl) ?_
        exact W.lret (v := jl) hx hb hr (fun t ht hW => ⟨⟨jl, jw_36, rfl, hjw_36, by rw [ht]; exact (hP.perm (sg (wr := []) 8 [0, 1, 2, 3, 4, 5, 6, 7] [] rfl rfl rfl (by decide +kernel))).left, hDA ((hD.perm (sg (wr := []) 8 [0, 1, 2, 3, 4, 5, 6, 7] [] rfl rfl rfl (by decide +kernel))).left)⟩, hS.F ht⟩) hS.2.2 dX10_load_150
      · have nc_38 : ¬ (kn ≤ ji) := fun h => c_38 ((nI_leI (a := kn) (b := ji) (by omega) (by omega)).mpr h)
        refine lv_aload_n hx hb dX10_load_33 rfl (lv_at hl 3 rfl) ?_
        refine va_get (D := D) (ci := 10) (v := .ref pl) (C := RX10) (T := TX10) (N := 12) hx hb hts iw_X10_load_10 hown hC.1 hP 0 rfl rfl 9 (by decide +kernel) (hts (.fieldLink RX10 19 "FairWheel" "plan" "LFairWheel$Plan;") (by decide +kernel)) (fun _ h9 => h9) rfl dX10_load_34 ?_
        refine lv_iload hx hb dX10_load_37 (lv_at hl 0 rfl) ?_
        have hq_40 : List.Perm (wq [(h0, .inr (10, [.ref tp, .ref rd, .ref lv, .ref tr, .ref rw, .ref bx, .ref ch, .ref si, .ref dg, .ref pl, .ref pd, .int xz])), (lv, .inr (9, [.ref pl, .int (nI kw), .ref tk, .ref hd, .ref fr, .ref cg])), (tk, .inl (ca 5, 10, .inr (.inr (.inr (.inr (fun j => some (ta j))))))), (pl, .inr (2, [.int (nI kc), .int (nI kl), .int xb, .int (nI kn), .int (nI ko), .ref p5, .ref p6, .ref p7, .ref p8, .ref p9, .ref p10, .ref p11, .ref p12, .ref p13])), (p6, .inl (ca 1, 10, .inl fp6)), (p8, .inl (ca 1, 10, .inl fp8)), (p9, .inl (ca 1, 10, .inl fp9))] [wx jw_36 []]) (ap [(pl, .inr (2, [.int (nI kc), .int (nI kl), .int xb, .int (nI kn), .int (nI ko), .ref p5, .ref p6, .ref p7, .ref p8, .ref p9, .ref p10, .ref p11, .ref p12, .ref p13])), (p6, .inl (ca 1, 10, .inl fp6))] (wq [(h0, .inr (10, [.ref tp, .ref rd, .ref lv, .ref tr, .ref rw, .ref bx, .ref ch, .ref si, .ref dg, .ref pl, .ref pd, .int xz])), (lv, .inr (9, [.ref pl, .int (nI kw), .ref tk, .ref hd, .ref fr, .ref cg])), (tk, .inl (ca 5, 10, .inr (.inr (.inr (.inr (fun j => some (ta j))))))), (p8, .inl (ca 1, 10, .inl fp8)), (p9, .inl (ca 1, 10, .inl fp9))] [wx jw_36 []])) := sg 8 [3, 4] [0, 1, 2, 5, 6, 7] rfl rfl rfl (by decide +kernel)
        refine kp_i (va_runV (As := [.int (nI ji)]) (rest := []) ⟨hx, hb, hml, hown, hts⟩ (s_X2_isBudgeted l D ca H.size pl p5 p6 p7 p8 p9 p10 p11 p12 p13 kc kl kn ko xb fp6 ji (by omega)) (cwV 1 hts gX10_load_X2_isBudgeted rfl rfl rfl (by decide +kernel) ⟨(Nat.le_of_ble_eq_true rfl), (Nat.le_of_ble_eq_true rfl)⟩) (PC.preVp (ci := 2) hC hP hD hq_40 rfl rfl) rfl rfl hl.1 rfl (lv_room (Nat.le_of_ble_eq_true rfl)) dX10_load_39 ⟨(Nat.le_of_ble_eq_true rfl), (Nat.le_of_ble_eq_true rfl)⟩) hP hD hS hA hq_40 (fun _ => sg1) (fun r_41 u_43 H locs hw_42 hP hD hS => ?_)
        have hu_44 := hw_42
        have hP : va_P D vwCl (wq [(h0, .inr (10, [.ref tp, .ref rd, .ref lv, .ref tr, .ref rw, .ref bx, .ref ch, .ref si, .ref dg, .ref pl, .ref pd, .int xz])), (lv, .inr (9, [.ref pl, .int (nI kw), .ref tk, .ref hd, .ref fr, .ref cg])), (tk, .inl (ca 5, 10, .inr (.inr (.inr (.inr (fun j => some (ta j))))))), (p8, .inl (ca 1, 10, .inl fp8)), (p9, .inl (ca 1, 10, .inl fp9)), (pl, .inr (2, [.int (nI kc), .int (nI kl), .int xb, .int (nI kn), .int (nI ko), .ref p5, .ref p6, .ref p7, .ref p8, .ref p9, .ref p10, .ref p11, .ref p12, .ref p13])), (p6, .inl (ca 1, 10, .inl fp6))] [wx jw_36 []]) H := hP
        have hD : va_D A (wq [(h0, .inr (10, [.ref tp, .ref rd, .ref lv, .ref tr, .ref rw, .ref bx, .ref ch, .ref si, .ref dg, .ref pl, .ref pd, .int xz])), (lv, .inr (9, [.ref pl, .int (nI kw), .ref tk, .ref hd, .ref fr, .ref cg])), (tk, .inl (ca 5, 10, .inr (.inr (.inr (.inr (fun j => some (ta j))))))), (p8, .inl (ca 1, 10, .inl fp8)), (p9, .inl (ca 1, 10, .inl fp9)), (pl, .inr (2, [.int (nI kc), .int (nI kl), .int xb, .int (nI kn), .int (nI ko), .ref p5, .ref p6, .ref p7, .ref p8, .ref p9, .ref p10, .ref p11, .ref p12, .ref p13])), (p6, .inl (ca 1, 10, .inl fp6))] [wx jw_36 []]) := hD
        refine lv_if_eq (tgt := 134) hx hb dX10_load_42 (by decide +kernel) (fun c_45 => ?_) (fun c_45 => ?_)
        · refine lv_iinc (v := nI (ji + 1)) (lv' := [(6, .int (nI (ji + 1))), (4, .long jl), (2, .long ju), (0, .ref h0), (1, .int x1)]) hx hb dX10_load_134 hl (k := 0) rfl (nI_1 _) (by decide +kernel) rfl (fun ls hl => ?_)
          refine lv_goto (tgt := 21) hx hb dX10_load_137 (by decide +kernel) ?_
          exact ih_37 _ _ _ ⟨(ji + 1), ju, jl, jw_36, (by omega), (by omega), hjw_36, lv_sub hl [0, 1, 2, 3, 4] rfl, (hP.perm (sg_w (wn := (wq [(h0, .inr (10, [.ref tp, .ref rd, .ref lv, .ref tr, .ref rw, .ref bx, .ref ch, .ref si, .ref dg, .ref pl, .ref pd, .int xz])), (lv, .inr (9, [.ref pl, .int (nI kw), .ref tk, .ref hd, .ref fr, .ref cg])), (tk, .inl (ca 5, 10, .inr (.inr (.inr (.inr (fun j => some (ta j))))))), (pl, .inr (2, [.int (nI kc), .int (nI kl), .int xb, .int (nI kn), .int (nI ko), .ref p5, .ref p6, .ref p7, .ref p8, .ref p9, .ref p10, .ref p11, .ref p12, .ref p13])), (p6, .inl (ca 1, 10, .inl fp6)), (p8, .inl (ca 1, 10, .inl fp8)), (p9, .inl (ca 1, 10, .inl fp9))] [wx jw_36 []])) 8 [0, 1, 2, 5, 6, 3, 4, 7] rfl rfl (by decide +kernel))), (hD.perm (sg_w (wn := (wq [(h0, .inr (10, [.ref tp, .ref rd, .ref lv, .ref tr, .ref rw, .ref bx, .ref ch, .ref si, .ref dg, .ref pl, .ref pd, .int xz])), (lv, .inr (9, [.ref pl, .int (nI kw), .ref tk, .ref hd, .ref fr, .ref cg])), (tk, .inl (ca 5, 10, .inr (.inr (.inr (.inr (fun j => some (ta j))))))), (pl, .inr (2, [.int (nI kc), .int (nI kl), .int xb, .int (nI kn), .int (nI ko), .ref p5, .ref p6, .ref p7, .ref p8, .ref p9, .ref p10, .ref p11, .ref p12, .ref p13])), (p6, .inl (ca 1, 10, .inl fp6)), (p8, .inl (ca 1, 10, .inl fp8)), (p9, .inl (ca 1, 10, .inl fp9))] [wx jw_36 []])) 8 [0, 1, 2, 5, 6, 3, 4, 7] rfl rfl (by decide +kernel))), hS⟩
        · refine lv_aload_n hx hb dX10_load_45 rfl (lv_at hl 3 rfl) ?_
          refine va_get (D := D) (ci := 10) (v := .ref lv) (C := RX10) (T := TX10) (N := 12) hx hb hts iw_X10_load_10 hown hC.1 hP 0 rfl rfl 2 (by decide +kernel) (hts (.fieldLink RX10 40 "FairWheel" "live" "LFairWheel$Wheel;") (by decide +kernel)) (fun _ h9 => h9) rfl dX10_load_46 ?_
          refine va_get (D := D) (ci := 9) (v := .ref tk) (C := RX9) (T := TX9) (N := 6) hx hb hts iw_X10_load_9 hown hC.1 hP 1 rfl rfl 2 (by decide +kernel) (hts (.fieldLink RX10 127 "FairWheel$Wheel" "tasks" "[LFairWheel$Task;") (by decide +kernel)) (fun _ h9 => h9) rfl dX10_load_49 ?_
          refine lv_iload hx hb dX10_load_52 (lv_at hl 0 rfl) ?_
          refine ka_aldq hx hb hC.1 hP 2 5 rfl rfl ji rfl (by omega) (by decide +kernel) dX10_load_54 ?_
          refine nt_v (.ref (ta ji)) rfl ?_
          obtain ⟨t_46_0, t_46_1, t_46_2, t_46_3, t_46_4, t_46_5, t_46_6, t_46_7, t_46_8, t_46_9, t_46_10, t_46_11, t_46_12, t_46_13, t_46_o, t_46_z, ht_46, et_46⟩ := (hjw_36 ji (by omega)).1
          have hP := hP.perm (wx_o0 (k := ji) (by omega) (List.not_mem_nil) et_46)
          have hD := hD.perm (wx_o0 (k := ji) (by omega) (List.not_mem_nil) et_46)
          have hP : va_P D vwCl (wq [(ta ji, .inr (8, [.int t_46_0, .int t_46_1, .int t_46_2, .int t_46_3, .int t_46_4, .int t_46_5, .int t_46_6, .int t_46_7, .int t_46_8, .int t_46_9, .int t_46_10, .int t_46_11, .int t_46_12, .int t_46_13, .long t_46_o, .int (nI t_46_z), .ref (ra ji)])), (h0, .inr (10, [.ref tp, .ref rd, .ref lv, .ref tr, .ref rw, .ref bx, .ref ch, .ref si, .ref dg, .ref pl, .ref pd, .int xz])), (lv, .inr (9, [.ref pl, .int (nI kw), .ref tk, .ref hd, .ref fr, .ref cg])), (tk, .inl (ca 5, 10, .inr (.inr (.inr (.inr (fun j => some (ta j))))))), (p8, .inl (ca 1, 10, .inl fp8)), (p9, .inl (ca 1, 10, .inl fp9)), (pl, .inr (2, [.int (nI kc), .int (nI kl), .int xb, .int (nI kn), .int (nI ko), .ref p5, .ref p6, .ref p7, .ref p8, .ref p9, .ref p10, .ref p11, .ref p12, .ref p13])), (p6, .inl (ca 1, 10, .inl fp6))] [wx jw_36 [ji]]) H := hP
          have hD : va_D A (wq [(ta ji, .inr (8, [.int t_46_0, .int t_46_1, .int t_46_2, .int t_46_3, .int t_46_4, .int t_46_5, .int t_46_6, .int t_46_7, .int t_46_8, .int t_46_9, .int t_46_10, .int t_46_11, .int t_46_12, .int t_46_13, .long t_46_o, .int (nI t_46_z), .ref (ra ji)])), (h0, .inr (10, [.ref tp, .ref rd, .ref lv, .ref tr, .ref rw, .ref bx, .ref ch, .ref si, .ref dg, .ref pl, .ref pd, .int xz])), (lv, .inr (9, [.ref pl, .int (nI kw), .ref tk, .ref hd, .ref fr, .ref cg])), (tk, .inl (ca 5, 10, .inr (.inr (.inr (.inr (fun j => some (ta j))))))), (p8, .inl (ca 1, 10, .inl fp8)), (p9, .inl (ca 1, 10, .inl fp9)), (pl, .inr (2, [.int (nI kc), .int (nI kl), .int xb, .int (nI kn), .int (nI ko), .ref p5, .ref p6, .ref p7, .ref p8, .ref p9, .ref p10, .ref p11, .ref p12, .ref p13])), (p6, .inl (ca 1, 10, .inl fp6))] [wx jw_36 [ji]]) := hD
          refine va_get (D := D) (ci := 8) (v := .int t_46_0) (C := RX8) (T := TX8) (N := 17) hx hb hts iw_X10_load_8 hown hC.1 hP 0 rfl rfl 0 (by decide +kernel) (hts (.fieldLink RX10 131 "FairWheel$Task" "phase" "I") (by decide +kernel)) (fun _ h9 => h9) rfl dX10_load_55 ?_
          refine lv_iconst (v := 4) hx hb dX10_load_58 (by decide +kernel) ?_
          refine lv_icmp_eq (tgt := 134) hx hb dX10_load_59 (by decide +kernel) (fun c_47 => ?_) (fun c_47 => ?_)
          · refine lv_iinc (v := nI (ji + 1)) (lv' := [(6, .int (nI (ji + 1))), (4, .long jl), (2, .long ju), (0, .ref h0), (1, .int x1)]) hx hb dX10_load_134 hl (k := 0) rfl (nI_1 _) (by decide +kernel) rfl (fun ls hl => ?_)
            refine lv_goto (tgt := 21) hx hb dX10_load_137 (by decide +kernel) ?_
            obtain ⟨w_48, hw_48, hP, hD⟩ : ∃ w_48, wok ca ta ra w_48 ∧ va_P D vwCl (wq [(h0, .inr (10, [.ref tp, .ref rd, .ref lv, .ref tr, .ref rw, .ref bx, .ref ch, .ref si, .ref dg, .ref pl, .ref pd, .int xz])), (lv, .inr (9, [.ref pl, .int (nI kw), .ref tk, .ref hd, .ref fr, .ref cg])), (tk, .inl (ca 5, 10, .inr (.inr (.inr (.inr (fun j => some (ta j))))))), (p8, .inl (ca 1, 10, .inl fp8)), (p9, .inl (ca 1, 10, .inl fp9)), (pl, .inr (2, [.int (nI kc), .int (nI kl), .int xb, .int (nI kn), .int (nI ko), .ref p5, .ref p6, .ref p7, .ref p8, .ref p9, .ref p10, .ref p11, .ref p12, .ref p13])), (p6, .inl (ca 1, 10, .inl fp6))] [wx w_48 []]) H ∧ va_D A (wq [(h0, .inr (10, [.ref tp, .ref rd, .ref lv, .ref tr, .ref rw, .ref bx, .ref ch, .ref si, .ref dg, .ref pl, .ref pd, .int xz])), (lv, .inr (9, [.ref pl, .int (nI kw), .ref tk, .ref hd, .ref fr, .ref cg])), (tk, .inl (ca 5, 10, .inr (.inr (.inr (.inr (fun j => some (ta j))))))), (p8, .inl (ca 1, 10, .inl fp8)), (p9, .inl (ca 1, 10, .inl fp9)), (pl, .inr (2, [.int (nI kc), .int (nI kl), .int xb, .int (nI kn), .int (nI ko), .ref p5, .ref p6, .ref p7, .ref p8, .ref p9, .ref p10, .ref p11, .ref p12, .ref p13])), (p6, .inl (ca 1, 10, .inl fp6))] [wx w_48 []]) := ⟨_, wok_t hjw_36 (k := ji) (by omega) t_46_0 t_46_1 t_46_2 t_46_3 t_46_4 t_46_5 t_46_6 t_46_7 t_46_8 t_46_9 t_46_10 t_46_11 t_46_12 t_46_13 t_46_o t_46_z (by omega), hP.perm (wx_c0 (k := ji) (by omega) (List.not_mem_nil)), hD.perm (wx_c0 (k := ji) (by omega) (List.not_mem_nil))⟩
            exact ih_37 _ _ _ ⟨(ji + 1), ju, jl, w_48, (by omega), (by omega), hw_48, lv_sub hl [0, 1, 2, 3, 4] rfl, (hP.perm (sg_w (wn := (wq [(h0, .inr (10, [.ref tp, .ref rd, .ref lv, .ref tr, .ref rw, .ref bx, .ref ch, .ref si, .ref dg, .ref pl, .ref pd, .int xz])), (lv, .inr (9, [.ref pl, .int (nI kw), .ref tk, .ref hd, .ref fr, .ref cg])), (tk, .inl (ca 5, 10, .inr (.inr (.inr (.inr (fun j => some (ta j))))))), (pl, .inr (2, [.int (nI kc), .int (nI kl), .int xb, .int (nI kn), .int (nI ko), .ref p5, .ref p6, .ref p7, .ref p8, .ref p9, .ref p10, .ref p11, .ref p12, .ref p13])), (p6, .inl (ca 1, 10, .inl fp6)), (p8, .inl (ca 1, 10, .inl fp8)), (p9, .inl (ca 1, 10, .inl fp9))] [wx w_48 []])) 8 [0, 1, 2, 5, 6, 3, 4, 7] rfl rfl (by decide +kernel))), (hD.perm (sg_w (wn := (wq [(h0, .inr (10, [.ref tp, .ref rd, .ref lv, .ref tr, .ref rw, .ref bx, .ref ch, .ref si, .ref dg, .ref pl, .ref pd, .int xz])), (lv, .inr (9, [.ref pl, .int (nI kw), .ref tk, .ref hd, .ref fr, .ref cg])), (tk, .inl (ca 5, 10, .inr (.inr (.inr (.inr (fun j => some (ta j))))))), (pl, .inr (2, [.int (nI kc), .int (nI kl), .int xb, .int (nI kn), .int (nI ko), .ref p5, .ref p6, .ref p7, .ref p8, .ref p9, .ref p10, .ref p11, .ref p12, .ref p13])), (p6, .inl (ca 1, 10, .inl fp6)), (p8, .inl (ca 1, 10, .inl fp8)), (p9, .inl (ca 1, 10, .inl fp9))] [wx w_48 []])) 8 [0, 1, 2, 5, 6, 3, 4, 7] rfl rfl (by decide +kernel))), hS⟩
          · refine lv_lload_n hx hb dX10_load_62 rfl (lv_at hl 2 rfl) ?_
            refine lv_aload_n hx hb dX10_load_63 rfl (lv_at hl 3 rfl) ?_
            refine va_get (D := D) (ci := 10) (v := .ref pl) (C := RX10) (T := TX10) (N := 12) hx hb hts iw_X10_load_10 hown hC.1 hP 1 rfl rfl 9 (by decide +kernel) (hts (.fieldLink RX10 19 "FairWheel" "plan" "LFairWheel$Plan;") (by decide +kernel)) (fun _ h9 => h9) rfl dX10_load_64 ?_
            refine va_get (D := D) (ci := 2) (v := .ref p8) (C := RX2) (T := TX2) (N := 14) hx hb hts iw_X10_load_2 hown hC.1 hP 6 rfl rfl 8 (by decide +kernel) (hts (.fieldLink RX10 221 "FairWheel$Plan" "every" "[I") (by decide +kernel)) (fun _ h9 => h9) rfl dX10_load_67 ?_
            refine lv_iload hx hb dX10_load_70 (lv_at hl 0 rfl) ?_
            refine ka_iald hx hb hC.1 hP 4 1 rfl rfl ji rfl (by omega) (by decide +kernel) dX10_load_72 ?_
            refine lv_topi (fun y_49 ey_49 => ?_)
            refine lv_i2l hx hb dX10_load_73 rfl ?_
            refine lv_topl (fun y_50 ey_50 => ?_)
            refine lv_lmul hx hb dX10_load_74 ?_
            refine lv_topl (fun y_51 ey_51 => ?_)
            refine lv_lload hx hb dX10_load_75 (lv_at hl 1 rfl) ?_
            refine lv_aload_n hx hb dX10_load_77 rfl (lv_at hl 3 rfl) ?_
            refine va_get (D := D) (ci := 10) (v := .ref pl) (C := RX10) (T := TX10) (N := 12) hx hb hts iw_X10_load_10 hown hC.1 hP 1 rfl rfl 9 (by decide +kernel) (hts (.fieldLink RX10 19 "FairWheel" "plan" "LFairWheel$Plan;") (by decide +kernel)) (fun _ h9 => h9) rfl dX10_load_78 ?_
            refine va_get (D := D) (ci := 2) (v := .ref p9) (C := RX2) (T := TX2) (N := 14) hx hb hts iw_X10_load_2 hown hC.1 hP 6 rfl rfl 9 (by decide +kernel) (hts (.fieldLink RX10 224 "FairWheel$Plan" "budget" "[I") (by decide +kernel)) (fun _ h9 => h9) rfl dX10_load_81 ?_
            refine lv_iload hx hb dX10_load_84 (lv_at hl 0 rfl) ?_
            refine ka_iald hx hb hC.1 hP 5 1 rfl rfl ji rfl (by omega) (by decide +kernel) dX10_load_86 ?_
            refine lv_topi (fun y_52 ey_52 => ?_)
            refine lv_i2l hx hb dX10_load_87 rfl ?_
            refine lv_topl (fun y_53 ey_53 => ?_)
            refine lv_lmul hx hb dX10_load_88 ?_
            refine lv_topl (fun y_54 ey_54 => ?_)
            refine lv_ladd hx hb dX10_load_89 ?_
            refine lv_topl (fun y_55 ey_55 => ?_)
            refine lv_lstore_n (lv' := [(2, .long y_55), (6, .int (nI ji)), (4, .long jl), (0, .ref h0), (1, .int x1)]) hx hb dX10_load_90 rfl hl (by decide +kernel) rfl (fun ls hl => ?_)
            refine lv_lload hx hb dX10_load_91 (lv_at hl 2 rfl) ?_
            refine lv_aload_n hx hb dX10_load_93 rfl (lv_at hl 3 rfl) ?_
            refine va_get (D := D) (ci := 10) (v := .ref pl) (C := RX10) (T := TX10) (N := 12) hx hb hts iw_X10_load_10 hown hC.1 hP 1 rfl rfl 9 (by decide +kernel) (hts (.fieldLink RX10 19 "FairWheel" "plan" "LFairWheel$Plan;") (by decide +kernel)) (fun _ h9 => h9) rfl dX10_load_94 ?_
            refine va_get (D := D) (ci := 2) (v := .ref p8) (C := RX2) (T := TX2) (N := 14) hx hb hts iw_X10_load_2 hown hC.1 hP 6 rfl rfl 8 (by decide +kernel) (hts (.fieldLink RX10 221 "FairWheel$Plan" "every" "[I") (by decide +kernel)) (fun _ h9 => h9) rfl dX10_load_97 ?_
            refine lv_iload hx hb dX10_load_100 (lv_at hl 1 rfl) ?_
            refine ka_iald hx hb hC.1 hP 4 1 rfl rfl ji rfl (by omega) (by decide +kernel) dX10_load_102 ?_
            refine lv_topi (fun y_56 ey_56 => ?_)
            refine lv_i2l hx hb dX10_load_103 rfl ?_
            refine lv_topl (fun y_57 ey_57 => ?_)
            refine lv_lmul hx hb dX10_load_104 ?_
            refine lv_topl (fun y_58 ey_58 => ?_)
            refine lv_lstore (lv' := [(4, .long y_58), (2, .long y_55), (6, .int (nI ji)), (0, .ref h0), (1, .int x1)]) hx hb dX10_load_105 hl (by decide +kernel) rfl (fun ls hl => ?_)
            refine lv_lload_n hx hb dX10_load_107 rfl (lv_at hl 1 rfl) ?_
            refine lv_lload hx hb dX10_load_108 (lv_at hl 0 rfl) ?_
            have hq_59 : List.Perm (wq [(ta ji, .inr (8, [.int t_46_0, .int t_46_1, .int t_46_2, .int t_46_3, .int t_46_4, .int t_46_5, .int t_46_6, .int t_46_7, .int t_46_8, .int t_46_9, .int t_46_10, .int t_46_11, .int t_46_12, .int t_46_13, .long t_46_o, .int (nI t_46_z), .ref (ra ji)])), (h0, .inr (10, [.ref tp, .ref rd, .ref lv, .ref tr, .ref rw, .ref bx, .ref ch, .ref si, .ref dg, .ref pl, .ref pd, .int xz])), (lv, .inr (9, [.ref pl, .int (nI kw), .ref tk, .ref hd, .ref fr, .ref cg])), (tk, .inl (ca 5, 10, .inr (.inr (.inr (.inr (fun j => some (ta j))))))), (p8, .inl (ca 1, 10, .inl fp8)), (p9, .inl (ca 1, 10, .inl fp9)), (pl, .inr (2, [.int (nI kc), .int (nI kl), .int xb, .int (nI kn), .int (nI ko), .ref p5, .ref p6, .ref p7, .ref p8, .ref p9, .ref p10, .ref p11, .ref p12, .ref p13])), (p6, .inl (ca 1, 10, .inl fp6))] [wx jw_36 [ji]]) (ap [] (wq [(ta ji, .inr (8, [.int t_46_0, .int t_46_1, .int t_46_2, .int t_46_3, .int t_46_4, .int t_46_5, .int t_46_6, .int t_46_7, .int t_46_8, .int t_46_9, .int t_46_10, .int t_46_11, .int t_46_12, .int t_46_13, .long t_46_o, .int (nI t_46_z), .ref (ra ji)])), (h0, .inr (10, [.ref tp, .ref rd, .ref lv, .ref tr, .ref rw, .ref bx, .ref ch, .ref si, .ref dg, .ref pl, .ref pd, .int xz])), (lv, .inr (9, [.ref pl, .int (nI kw), .ref tk, .ref hd, .ref fr, .ref cg])), (tk, .inl (ca 5, 10, .inr (.inr (.inr (.inr (fun j => some (ta j))))))), (p8, .inl (ca 1, 10, .inl fp8)), (p9, .inl (ca 1, 10, .inl fp9)), (pl, .inr (2, [.int (nI kc), .int (nI kl), .int xb, .int (nI kn), .int (nI ko), .ref p5, .ref p6, .ref p7, .ref p8, .ref p9, .ref p10, .ref p11, .ref p12, .ref p13])), (p6, .inl (ca 1, 10, .inl fp6))] [wx jw_36 [ji]])) := sg 9 [] [0, 1, 2, 3, 4, 5, 6, 7, 8] rfl rfl rfl (by decide +kernel)
            refine kp_l (va_runS (As := [.long y_55, .long y_58]) (rest := []) ⟨hx, hb, hml, hown, hts⟩ (s_X10_commonPart l D ca H.size y_55 y_58) (va_cwS 2 hts gX10_load_X10_commonPart rfl rfl rfl (by decide +kernel) ⟨(Nat.le_of_ble_eq_true rfl), (Nat.le_of_ble_eq_true rfl)⟩) (PC.preSp hC hP hD hq_59) rfl rfl hl.1 rfl (lv_room (Nat.le_of_ble_eq_true rfl)) dX10_load_110 ⟨(Nat.le_of_ble_eq_true rfl), (Nat.le_of_ble_eq_true rfl)⟩) hP hD hS hA hq_59 (fun _ => sg1) (fun r_60 u_62 H locs hw_61 hP hD hS => ?_)
            have hP : va_P D vwCl (wq [(ta ji, .inr (8, [.int t_46_0, .int t_46_1, .int t_46_2, .int t_46_3, .int t_46_4, .int t_46_5, .int t_46_6, .int t_46_7, .int t_46_8, .int t_46_9, .int t_46_10, .int t_46_11, .int t_46_12, .int t_46_13, .long t_46_o, .int (nI t_46_z), .ref (ra ji)])), (h0, .inr (10, [.ref tp, .ref rd, .ref lv, .ref tr, .ref rw, .ref bx, .ref ch, .ref si, .ref dg, .ref pl, .ref pd, .int xz])), (lv, .inr (9, [.ref pl, .int (nI kw), .ref tk, .ref hd, .ref fr, .ref cg])), (tk, .inl (ca 5, 10, .inr (.inr (.inr (.inr (fun j => some (ta j))))))), (p8, .inl (ca 1, 10, .inl fp8)), (p9, .inl (ca 1, 10, .inl fp9)), (pl, .inr (2, [.int (nI kc), .int (nI kl), .int xb, .int (nI kn), .int (nI ko), .ref p5, .ref p6, .ref p7, .ref p8, .ref p9, .ref p10, .ref p11, .ref p12, .ref p13])), (p6, .inl (ca 1, 10, .inl fp6))] [wx jw_36 [ji]]) H := hP
            have hD : va_D A (wq [(ta ji, .inr (8, [.int t_46_0, .int t_46_1, .int t_46_2, .int t_46_3, .int t_46_4, .int t_46_5, .int t_46_6, .int t_46_7, .int t_46_8, .int t_46_9, .int t_46_10, .int t_46_11, .int t_46_12, .int t_46_13, .long t_46_o, .int (nI t_46_z), .ref (ra ji)])), (h0, .inr (10, [.ref tp, .ref rd, .ref lv, .ref tr, .ref rw, .ref bx, .ref ch, .ref si, .ref dg, .ref pl, .ref pd, .int xz])), (lv, .inr (9, [.ref pl, .int (nI kw), .ref tk, .ref hd, .ref fr, .ref cg])), (tk, .inl (ca 5, 10, .inr (.inr (.inr (.inr (fun j => some (ta j))))))), (p8, .inl (ca 1, 10, .inl fp8)), (p9, .inl (ca 1, 10, .inl fp9)), (pl, .inr (2, [.int (nI kc), .int (nI kl), .int xb, .int (nI kn), .int (nI ko), .ref p5, .ref p6, .ref p7, .ref p8, .ref p9, .ref p10, .ref p11, .ref p12, .ref p13])), (p6, .inl (ca 1, 10, .inl fp6))] [wx jw_36 [ji]]) := hD
            refine lv_lstore (lv' := [(7, .long r_60), (4, .long y_58), (2, .long y_55), (6, .int (nI ji)), (0, .ref h0), (1, .int x1)]) hx hb dX10_load_113 hl (by decide +kernel) rfl (fun ls hl => ?_)
            refine lv_lload hx hb dX10_load_115 (lv_at hl 0 rfl) ?_
            refine lv_lconst (v := 1) hx hb dX10_load_117 (by decide +kernel) ?_
            refine W.lcmp hx hb dX10_load_118 ?_
            refine lv_topi (fun y_63 ey_63 => ?_)
            refine lv_if_le (tgt := 134) hx hb dX10_load_119 (by decide +kernel) (fun c_64 => ?_) (fun c_64 => ?_)
            · refine lv_iinc (v := nI (ji + 1)) (lv' := [(6, .int (nI (ji + 1))), (7, .long r_60), (4, .long y_58), (2, .long y_55), (0, .ref h0), (1, .int x1)]) hx hb dX10_load_134 hl (k := 3) rfl (nI_1 _) (by decide +kernel) rfl (fun ls hl => ?_)
              refine lv_goto (tgt := 21) hx hb dX10_load_137 (by decide +kernel) ?_
              obtain ⟨w_65, hw_65, hP, hD⟩ : ∃ w_65, wok ca ta ra w_65 ∧ va_P D vwCl (wq [(h0, .inr (10, [.ref tp, .ref rd, .ref lv, .ref tr, .ref rw, .ref bx, .ref ch, .ref si, .ref dg, .ref pl, .ref pd, .int xz])), (lv, .inr (9, [.ref pl, .int (nI kw), .ref tk, .ref hd, .ref fr, .ref cg])), (tk, .inl (ca 5, 10, .inr (.inr (.inr (.inr (fun j => some (ta j))))))), (p8, .inl (ca 1, 10, .inl fp8)), (p9, .inl (ca 1, 10, .inl fp9)), (pl, .inr (2, [.int (nI kc), .int (nI kl), .int xb, .int (nI kn), .int (nI ko), .ref p5, .ref p6, .ref p7, .ref p8, .ref p9, .ref p10, .ref p11, .ref p12, .ref p13])), (p6, .inl (ca 1, 10, .inl fp6))] [wx w_65 []]) H ∧ va_D A (wq [(h0, .inr (10, [.ref tp, .ref rd, .ref lv, .ref tr, .ref rw, .ref bx, .ref ch, .ref si, .ref dg, .ref pl, .ref pd, .int xz])), (lv, .inr (9, [.ref pl, .int (nI kw), .ref tk, .ref hd, .ref fr, .ref cg])), (tk, .inl (ca 5, 10, .inr (.inr (.inr (.inr (fun j => some (ta j))))))), (p8, .inl (ca 1, 10, .inl fp8)), (p9, .inl (ca 1, 10, .inl fp9)), (pl, .inr (2, [.int (nI kc), .int (nI kl), .int xb, .int (nI kn), .int (nI ko), .ref p5, .ref p6, .ref p7, .ref p8, .ref p9, .ref p10, .ref p11, .ref p12, .ref p13])), (p6, .inl (ca 1, 10, .inl fp6))] [wx w_65 []]) := ⟨_, wok_t hjw_36 (k := ji) (by omega) t_46_0 t_46_1 t_46_2 t_46_3 t_46_4 t_46_5 t_46_6 t_46_7 t_46_8 t_46_9 t_46_10 t_46_11 t_46_12 t_46_13 t_46_o t_46_z (by omega), hP.perm (wx_c0 (k := ji) (by omega) (List.not_mem_nil)), hD.perm (wx_c0 (k := ji) (by omega) (List.not_mem_nil))⟩
              exact ih_37 _ _ _ ⟨(ji + 1), y_55, y_58, w_65, (by omega), (by omega), hw_65, lv_sub hl [0, 2, 3, 4, 5] rfl, (hP.perm (sg_w (wn := (wq [(h0, .inr (10, [.ref tp, .ref rd, .ref lv, .ref tr, .ref rw, .ref bx, .ref ch, .ref si, .ref dg, .ref pl, .ref pd, .int xz])), (lv, .inr (9, [.ref pl, .int (nI kw), .ref tk, .ref hd, .ref fr, .ref cg])), (tk, .inl (ca 5, 10, .inr (.inr (.inr (.inr (fun j => some (ta j))))))), (pl, .inr (2, [.int (nI kc), .int (nI kl), .int xb, .int (nI kn), .int (nI ko), .ref p5, .ref p6, .ref p7, .ref p8, .ref p9, .ref p10, .ref p11, .ref p12, .ref p13])), (p6, .inl (ca 1, 10, .inl fp6)), (p8, .inl (ca 1, 10, .inl fp8)), (p9, .inl (ca 1, 10, .inl fp9))] [wx w_65 []])) 8 [0, 1, 2, 5, 6, 3, 4, 7] rfl rfl (by decide +kernel))), (hD.perm (sg_w (wn := (wq [(h0, .inr (10, [.ref tp, .ref rd, .ref lv, .ref tr, .ref rw, .ref bx, .ref ch, .ref si, .ref dg, .ref pl, .ref pd, .int xz])), (lv, .inr (9, [.ref pl, .int (nI kw), .ref tk, .ref hd, .ref fr, .ref cg])), (tk, .inl (ca 5, 10, .inr (.inr (.inr (.inr (fun j => some (ta j))))))), (pl, .inr (2, [.int (nI kc), .int (nI kl), .int xb, .int (nI kn), .int (nI ko), .ref p5, .ref p6, .ref p7, .ref p8, .ref p9, .ref p10, .ref p11, .ref p12, .ref p13])), (p6, .inl (ca 1, 10, .inl fp6)), (p8, .inl (ca 1, 10, .inl fp8)), (p9, .inl (ca 1, 10, .inl fp9))] [wx w_65 []])) 8 [0, 1, 2, 5, 6, 3, 4, 7] rfl rfl (by decide +kernel))), hS⟩
            · refine lv_lload_n hx hb dX10_load_122 rfl (lv_at hl 2 rfl) ?_
              refine lv_lload hx hb dX10_load_123 (lv_at hl 0 rfl) ?_
              refine lv_ldiv hx hb dX10_load_125 (lcmp_gt c_64 ey_63) ?_
              refine lv_topl (fun y_66 ey_66 => ?_)
              refine lv_lstore_n (lv' := [(2, .long y_66), (7, .long r_60), (4, .long y_58), (6, .int (nI ji)), (0, .ref h0), (1, .int x1)]) hx hb dX10_load_126 rfl hl (by decide +kernel) rfl (fun ls hl => ?_)
              refine lv_lload hx hb dX10_load_127 (lv_at hl 2 rfl) ?_
              refine lv_lload hx hb dX10_load_129 (lv_at hl 1 rfl) ?_
              refine lv_ldiv hx hb dX10_load_131 (lcmp_gt c_64 ey_63) ?_
              refine lv_topl (fun y_67 ey_67 => ?_)
              refine lv_lstore (lv' := [(4, .long y_67), (2, .long y_66), (7, .long r_60), (6, .int (nI ji)), (0, .ref h0), (1, .int x1)]) hx hb dX10_load_132 hl (by decide +kernel) rfl (fun ls hl => ?_)
              refine lv_iinc (v := nI (ji + 1)) (lv' := [(6, .int (nI (ji + 1))), (4, .long y_67), (2, .long y_66), (7, .long r_60), (0, .ref h0), (1, .int x1)]) hx hb dX10_load_134 hl (k := 3) rfl (nI_1 _) (by decide +kernel) rfl (fun ls hl => ?_)
              refine lv_goto (tgt := 21) hx hb dX10_load_137 (by decide +kernel) ?_
              obtain ⟨w_68, hw_68, hP, hD⟩ : ∃ w_68, wok ca ta ra w_68 ∧ va_P D vwCl (wq [(h0, .inr (10, [.ref tp, .ref rd, .ref lv, .ref tr, .ref rw, .ref bx, .ref ch, .ref si, .ref dg, .ref pl, .ref pd, .int xz])), (lv, .inr (9, [.ref pl, .int (nI kw), .ref tk, .ref hd, .ref fr, .ref cg])), (tk, .inl (ca 5, 10, .inr (.inr (.inr (.inr (fun j => some (ta j))))))), (p8, .inl (ca 1, 10, .inl fp8)), (p9, .inl (ca 1, 10, .inl fp9)), (pl, .inr (2, [.int (nI kc), .int (nI kl), .int xb, .int (nI kn), .int (nI ko), .ref p5, .ref p6, .ref p7, .ref p8, .ref p9, .ref p10, .ref p11, .ref p12, .ref p13])), (p6, .inl (ca 1, 10, .inl fp6))] [wx w_68 []]) H ∧ va_D A (wq [(h0, .inr (10, [.ref tp, .ref rd, .ref lv, .ref tr, .ref rw, .ref bx, .ref ch, .ref si, .ref dg, .ref pl, .ref pd, .int xz])), (lv, .inr (9, [.ref pl, .int (nI kw), .ref tk, .ref hd, .ref fr, .ref cg])), (tk, .inl (ca 5, 10, .inr (.inr (.inr (.inr (fun j => some (ta j))))))), (p8, .inl (ca 1, 10, .inl fp8)), (p9, .inl (ca 1, 10, .inl fp9)), (pl, .inr (2, [.int (nI kc), .int (nI kl), .int xb, .int (nI kn), .int (nI ko), .ref p5, .ref p6, .ref p7, .ref p8, .ref p9, .ref p10, .ref p11, .ref p12, .ref p13])), (p6, .inl (ca 1, 10, .inl fp6))] [wx w_68 []]) := ⟨_, wok_t hjw_36 (k := ji) (by omega) t_46_0 t_46_1 t_46_2 t_46_3 t_46_4 t_46_5 t_46_6 t_46_7 t_46_8 t_46_9 t_46_10 t_46_11 t_46_12 t_46_13 t_46_o t_46_z (by omega), hP.perm (wx_c0 (k := ji) (by omega) (List.not_mem_nil)), hD.perm (wx_c0 (k := ji) (by omega) (List.not_mem_nil))⟩
              exact ih_37 _ _ _ ⟨(ji + 1), y_66, y_67, w_68, (by omega), (by omega), hw_68, lv_sub hl [0, 1, 2, 4, 5] rfl, (hP.perm (sg_w (wn := (wq [(h0, .inr (10, [.ref tp, .ref rd, .ref lv, .ref tr, .ref rw, .ref bx, .ref ch, .ref si, .ref dg, .ref pl, .ref pd, .int xz])), (lv, .inr (9, [.ref pl, .int (nI kw), .ref tk, .ref hd, .ref fr, .ref cg])), (tk, .inl (ca 5, 10, .inr (.inr (.inr (.inr (fun j => some (ta j))))))), (pl, .inr (2, [.int (nI kc), .int (nI kl), .int xb, .int (nI kn), .int (nI ko), .ref p5, .ref p6, .ref p7, .ref p8, .ref p9, .ref p10, .ref p11, .ref p12, .ref p13])), (p6, .inl (ca 1, 10, .inl fp6)), (p8, .inl (ca 1, 10, .inl fp8)), (p9, .inl (ca 1, 10, .inl fp9))] [wx w_68 []])) 8 [0, 1, 2, 5, 6, 3, 4, 7] rfl rfl (by decide +kernel))), (hD.perm (sg_w (wn := (wq [(h0, .inr (10, [.ref tp, .ref rd, .ref lv, .ref tr, .ref rw, .ref bx, .ref ch, .ref si, .ref dg, .ref pl, .ref pd, .int xz])), (lv, .inr (9, [.ref pl, .int (nI kw), .ref tk, .ref hd, .ref fr, .ref cg])), (tk, .inl (ca 5, 10, .inr (.inr (.inr (.inr (fun j => some (ta j))))))), (pl, .inr (2, [.int (nI kc), .int (nI kl), .int xb, .int (nI kn), .int (nI ko), .ref p5, .ref p6, .ref p7, .ref p8, .ref p9, .ref p10, .ref p11, .ref p12, .ref p13])), (p6, .inl (ca 1, 10, .inl fp6)), (p8, .inl (ca 1, 10, .inl fp8)), (p9, .inl (ca 1, 10, .inl fp9))] [wx w_68 []])) 8 [0, 1, 2, 5, 6, 3, 4, 7] rfl rfl (by decide +kernel))), hS⟩
    · refine lv_ldc2 (v := (-1)) hx hb hown (hts (.constantLong RX10 216 (-1)) (by decide +kernel)) dX10_load_9 ?_
      exact W.lret (v := (-1)) hx hb hr (fun t ht hW => ⟨⟨(-1), wa, rfl, hw_wa, by rw [ht]; exact (hP.perm (sg (wr := []) 8 [0, 1, 2, 3, 4, 5, 6, 7] [] rfl rfl rfl (by decide +kernel))).left, hDA ((hD.perm (sg (wr := []) 8 [0, 1, 2, 3, 4, 5, 6, 7] [] rfl rfl rfl (by decide +kernel))).left)⟩, hS.F ht⟩) hS.2.2 dX10_load_12
theorem iw_X10_tell_1 : ∀ w ∈ u_ws RX1 TX1 4, w ∈ wsX10_tell := by decide +kernel
theorem iw_X10_tell_10 : ∀ w ∈ u_ws RX10 TX10 12, w ∈ wsX10_tell := by decide +kernel
set_option maxHeartbeats 4000000 in
set_option maxRecDepth 100000 in
theorem s_X10_tell (l : Launch) (D : va_G) (ca : Nat → ClassId) (sz : Nat) (h0 : Nat) (tp : Nat) (rd : Nat) (lv : Nat) (tr : Nat) (rw : Nat) (bx : Nat) (ch : Nat) (si : Nat) (dg : Nat) (pl : Nat) (pd : Nat) (xz : Int32) (kh : Nat) (c1 : Nat) (c2 : Nat) (c3 : Nat) (fd1 : Nat → Int32) (fd2 : Nat → Int32) (fd3 : Nat → Int32) (x1 : Int32) (x2 : Int32) (x3 : Int32) (hkh : kh ≤ 60) : Met l yX10_tell wsX10_tell ({ frames := 1, cells := 0, slots := 0, locals := 23 }) (PC [.ref h0, .int x1, .int x2, .int x3] sz D ca [(h0, .inr (10, [.ref tp, .ref rd, .ref lv, .ref tr, .ref rw, .ref bx, .ref ch, .ref si, .ref dg, .ref pl, .ref pd, .int xz])), (ch, .inr (1, [.int (nI kh), .ref c1, .ref c2, .ref c3])), (c1, .inl (ca 1, 60, .inl fd1)), (c2, .inl (ca 1, 60, .inl fd2)), (c3, .inl (ca 1, 60, .inl fd3))]) (QI (fun (r : Int32) (u : Nat × (Nat → Int32) × (Nat → Int32) × (Nat → Int32)) => u.1 ≤ 60) (fun (u : Nat × (Nat → Int32) × (Nat → Int32) × (Nat → Int32)) => [(h0, .inr (10, [.ref tp, .ref rd, .ref lv, .ref tr, .ref rw, .ref bx, .ref ch, .ref si, .ref dg, .ref pl, .ref pd, .int xz])), (ch, .inr (1, [.int (nI u.1), .ref c1, .ref c2, .ref c3])), (c1, .inl (ca 1, 60, .inl u.2.1)), (c2, .inl (ca 1, 60, .inl u.2.2.1)), (c3, .inl (ca 1, 60, .inl u.2.2.2))]) [(h0, .inr (10, [.ref tp, .ref rd, .ref lv, .ref tr, .ref rw, .ref bx, .ref ch, .ref si, .ref dg, .ref pl, .ref pd, .int xz])), (ch, .inr (1, [.int (nI kh), .ref c1, .ref c2, .ref c3])), (c1, .inl (ca 1, 60, .inl fd1)), (c2, .inl (ca 1, 60, .inl fd2)), (c3, .inl (ca 1, 60, .inl fd3))] sz D) 0 0 (va_A [(h0, .inr (10, [.ref tp, .ref rd, .ref lv, .ref tr, .ref rw, .ref bx, .ref ch, .ref si, .ref dg, .ref pl, .ref pd, .int xz])), (ch, .inr (1, [.int (nI kh), .ref c1, .ref c2, .ref c3])), (c1, .inl (ca 1, 60, .inl fd1)), (c2, .inl (ca 1, 60, .inl fd2)), (c3, .inl (ca 1, 60, .inl fd3))] sz) := by
  refine Met.ofW (cc := cX10_tell) (maxL := 5) (ret := (some .int)) (by decide +kernel) rfl ?_
  intro p e s m args below meth c s₁ B hml hv
  obtain ⟨rfl, hsz, hP, hC, hD0⟩ := hv
  have hx := B.exec
  have hb := B.bytes
  have hr := B.returns
  have hts := atoms_spec (ws := wsX10_tell) B.pre
  have hown : s.vm.findClass RX10 = some m.cls := findClass_of_methodNamed B.named
  have hlocks := B.notSynchronized
  subst hsz
  have hD := hD0.self (sz := s.heap.size)
  dsimp only [QV, QI, QL, BQ]
  generalize hAe : va_A [(h0, .inr (10, [.ref tp, .ref rd, .ref lv, .ref tr, .ref rw, .ref bx, .ref ch, .ref si, .ref dg, .ref pl, .ref pd, .int xz])), (ch, .inr (1, [.int (nI kh), .ref c1, .ref c2, .ref c3])), (c1, .inl (ca 1, 60, .inl fd1)), (c2, .inl (ca 1, 60, .inl fd2)), (c3, .inl (ca 1, 60, .inl fd3))] s.heap.size = A at hD ⊢
  have hA : ∀ q : Nat, s.heap.size ≤ q → A q := fun q h => by rw [← hAe]; exact Or.inr h
  have hDA : ∀ {w : va_W}, va_D A w → va_D (va_A [(h0, .inr (10, [.ref tp, .ref rd, .ref lv, .ref tr, .ref rw, .ref bx, .ref ch, .ref si, .ref dg, .ref pl, .ref pd, .int xz])), (ch, .inr (1, [.int (nI kh), .ref c1, .ref c2, .ref c3])), (c1, .inl (ca 1, 60, .inl fd1)), (c2, .inl (ca 1, 60, .inl fd2)), (c3, .inl (ca 1, 60, .inl fd3))] s.heap.size) w := fun h => by rw [hAe]; exact h
  have hS : va_S A s.heap s.heap [] := va_S.rf
  have hP : va_P D vwCl [(h0, .inr (10, [.ref tp, .ref rd, .ref lv, .ref tr, .ref rw, .ref bx, .ref ch, .ref si, .ref dg, .ref pl, .ref pd, .int xz])), (ch, .inr (1, [.int (nI kh), .ref c1, .ref c2, .ref c3])), (c1, .inl (ca 1, 60, .inl fd1)), (c2, .inl (ca 1, 60, .inl fd2)), (c3, .inl (ca 1, 60, .inl fd3))] s.heap := hP
  have hl := lv_entry ([.ref h0, .int x1, .int x2, .int x3]) (n := 5) (Nat.le_of_ble_eq_true rfl)
  rw [lg_entry_eq]
  generalize (lg_sl ([.ref h0, .int x1, .int x2, .int x3]) ++ List.replicate (5 - (lg_sl ([.ref h0, .int x1, .int x2, .int x3])).length) Slot.unset).toArray = ls at hl ⊢
  have hl : lv_has ls 5 [(0, .ref h0), (1, .int x1), (2, .int x2), (3, .int x3)] := hl
  refine lv_iload_n hx hb dX10_tell_0 rfl (lv_at hl 1 rfl) ?_
  refine lv_if_lt (tgt := 35) hx hb dX10_tell_1 (by decide +kernel) (fun c_1 => ?_) (fun c_1 => ?_)
  · refine lv_iconst (v := 0) hx hb dX10_tell_35 (by decide +kernel) ?_
    refine lv_istore (lv' := [(4, .int 0), (0, .ref h0), (1, .int x1), (2, .int x2), (3, .int x3)]) hx hb dX10_tell_36 hl (by decide +kernel) rfl (fun ls hl => ?_)
    refine lv_iload hx hb dX10_tell_38 (lv_at hl 0 rfl) ?_
    refine lv_if_eq (tgt := 66) hx hb dX10_tell_40 (by decide +kernel) (fun c_2 => ?_) (fun c_2 => absurd (by decide +kernel) c_2)
    refine lv_iconst (v := (-1)) hx hb dX10_tell_66 (by decide +kernel) ?_
    exact W.iret (v := (-1)) hx hb hr (fun t ht hW => ⟨⟨(-1), (kh, fd1, fd2, fd3), rfl, (by dsimp only; omega), by rw [ht]; exact hP.sub [0, 1, 2, 3, 4] rfl, hDA (hD.sub [0, 1, 2, 3, 4] (by decide +kernel) rfl)⟩, hS.F ht⟩) hS.2.2 dX10_tell_67
  · refine lv_iload_n hx hb dX10_tell_4 rfl (lv_at hl 1 rfl) ?_
    refine lv_sipush (v := 2000) hx hb dX10_tell_5 (by decide +kernel) ?_
    refine lv_icmp_ge (tgt := 35) hx hb dX10_tell_8 (by decide +kernel) (fun c_3 => ?_) (fun c_3 => ?_)
    · refine lv_iconst (v := 0) hx hb dX10_tell_35 (by decide +kernel) ?_
      refine lv_istore (lv' := [(4, .int 0), (0, .ref h0), (1, .int x1), (2, .int x2), (3, .int x3)]) hx hb dX10_tell_36 hl (by decide +kernel) rfl (fun ls hl => ?_)
      refine lv_iload hx hb dX10_tell_38 (lv_at hl 0 rfl) ?_
      refine lv_if_eq (tgt := 66) hx hb dX10_tell_40 (by decide +kernel) (fun c_4 => ?_) (fun c_4 => absurd (by decide +kernel) c_4)
      refine lv_iconst (v := (-1)) hx hb dX10_tell_66 (by decide +kernel) ?_
      exact W.iret (v := (-1)) hx hb hr (fun t ht hW => ⟨⟨(-1), (kh, fd1, fd2, fd3), rfl, (by dsimp only; omega), by rw [ht]; exact hP.sub [0, 1, 2, 3, 4] rfl, hDA (hD.sub [0, 1, 2, 3, 4] (by decide +kernel) rfl)⟩, hS.F ht⟩) hS.2.2 dX10_tell_67
    · refine lv_iload_n hx hb dX10_tell_11 rfl (lv_at hl 2 rfl) ?_
      refine lv_if_lt (tgt := 35) hx hb dX10_tell_12 (by decide +kernel) (fun c_5 => ?_) (fun c_5 => ?_)
      · refine lv_iconst (v := 0) hx hb dX10_tell_35 (by decide +kernel) ?_
        refine lv_istore (lv' := [(4, .int 0), (0, .ref h0), (1, .int x1), (2, .int x2), (3, .int x3)]) hx hb dX10_tell_36 hl (by decide +kernel) rfl (fun ls hl => ?_)
        refine lv_iload hx hb dX10_tell_38 (lv_at hl 0 rfl) ?_
        refine lv_if_eq (tgt := 66) hx hb dX10_tell_40 (by decide +kernel) (fun c_6 => ?_) (fun c_6 => absurd (by decide +kernel) c_6)
        refine lv_iconst (v := (-1)) hx hb dX10_tell_66 (by decide +kernel) ?_
        exact W.iret (v := (-1)) hx hb hr (fun t ht hW => ⟨⟨(-1), (kh, fd1, fd2, fd3), rfl, (by dsimp only; omega), by rw [ht]; exact hP.sub [0, 1, 2, 3, 4] rfl, hDA (hD.sub [0, 1, 2, 3, 4] (by decide +kernel) rfl)⟩, hS.F ht⟩) hS.2.2 dX10_tell_67
      · refine lv_iload_n hx hb dX10_tell_15 rfl (lv_at hl 2 rfl) ?_
        refine lv_iconst (v := 4) hx hb dX10_tell_16 (by decide +kernel) ?_
        refine lv_icmp_ge (tgt := 35) hx hb dX10_tell_17 (by decide +kernel) (fun c_7 => ?_) (fun c_7 => ?_)
        · refine lv_iconst (v := 0) hx hb dX10_tell_35 (by decide +kernel) ?_
          refine lv_istore (lv' := [(4, .int 0), (0, .ref h0), (1, .int x1), (2, .int x2), (3, .int x3)]) hx hb dX10_tell_36 hl (by decide +kernel) rfl (fun ls hl => ?_)
          refine lv_iload hx hb dX10_tell_38 (lv_at hl 0 rfl) ?_
          refine lv_if_eq (tgt := 66) hx hb dX10_tell_40 (by decide +kernel) (fun c_8 => ?_) (fun c_8 => absurd (by decide +kernel) c_8)
          refine lv_iconst (v := (-1)) hx hb dX10_tell_66 (by decide +kernel) ?_
          exact W.iret (v := (-1)) hx hb hr (fun t ht hW => ⟨⟨(-1), (kh, fd1, fd2, fd3), rfl, (by dsimp only; omega), by rw [ht]; exact hP.sub [0, 1, 2, 3, 4] rfl, hDA (hD.sub [0, 1, 2, 3, 4] (by decide +kernel) rfl)⟩, hS.F ht⟩) hS.2.2 dX10_tell_67
        · refine lv_iload_n hx hb dX10_tell_20 rfl (lv_at hl 3 rfl) ?_
          refine lv_iconst (v := (-1)) hx hb dX10_tell_21 (by decide +kernel) ?_
          refine lv_icmp_lt (tgt := 35) hx hb dX10_tell_22 (by decide +kernel) (fun c_9 => ?_) (fun c_9 => ?_)
          · refine lv_iconst (v := 0) hx hb dX10_tell_35 (by decide +kernel) ?_
            refine lv_istore (lv' := [(4, .int 0), (0, .ref h0), (1, .int x1), (2, .int x2), (3, .int x3)]) hx hb dX10_tell_36 hl (by decide +kernel) rfl (fun ls hl => ?_)
            refine lv_iload hx hb dX10_tell_38 (lv_at hl 0 rfl) ?_
            refine lv_if_eq (tgt := 66) hx hb dX10_tell_40 (by decide +kernel) (fun c_10 => ?_) (fun c_10 => absurd (by decide +kernel) c_10)
            refine lv_iconst (v := (-1)) hx hb dX10_tell_66 (by decide +kernel) ?_
            exact W.iret (v := (-1)) hx hb hr (fun t ht hW => ⟨⟨(-1), (kh, fd1, fd2, fd3), rfl, (by dsimp only; omega), by rw [ht]; exact hP.sub [0, 1, 2, 3, 4] rfl, hDA (hD.sub [0, 1, 2, 3, 4] (by decide +kernel) rfl)⟩, hS.F ht⟩) hS.2.2 dX10_tell_67
          · refine lv_iload_n hx hb dX10_tell_25 rfl (lv_at hl 3 rfl) ?_
            refine lv_bipush (v := 10) hx hb dX10_tell_26 (by decide +kernel) ?_
            refine lv_icmp_ge (tgt := 35) hx hb dX10_tell_28 (by decide +kernel) (fun c_11 => ?_) (fun c_11 => ?_)
            · refine lv_iconst (v := 0) hx hb dX10_tell_35 (by decide +kernel) ?_
              refine lv_istore (lv' := [(4, .int 0), (0, .ref h0), (1, .int x1), (2, .int x2), (3, .int x3)]) hx hb dX10_tell_36 hl (by decide +kernel) rfl (fun ls hl => ?_)
              refine lv_iload hx hb dX10_tell_38 (lv_at hl 0 rfl) ?_
              refine lv_if_eq (tgt := 66) hx hb dX10_tell_40 (by decide +kernel) (fun c_12 => ?_) (fun c_12 => absurd (by decide +kernel) c_12)
              refine lv_iconst (v := (-1)) hx hb dX10_tell_66 (by decide +kernel) ?_
              exact W.iret (v := (-1)) hx hb hr (fun t ht hW => ⟨⟨(-1), (kh, fd1, fd2, fd3), rfl, (by dsimp only; omega), by rw [ht]; exact hP.sub [0, 1, 2, 3, 4] rfl, hDA (hD.sub [0, 1, 2, 3, 4] (by decide +kernel) rfl)⟩, hS.F ht⟩) hS.2.2 dX10_tell_67
            · refine lv_iconst (v := 1) hx hb dX10_tell_31 (by decide +kernel) ?_
              refine lv_goto (tgt := 36) hx hb dX10_tell_32 (by decide +kernel) ?_
              refine lv_istore (lv' := [(4, .int 1), (0, .ref h0), (1, .int x1), (2, .int x2), (3, .int x3)]) hx hb dX10_tell_36 hl (by decide +kernel) rfl (fun ls hl => ?_)
              refine lv_iload hx hb dX10_tell_38 (lv_at hl 0 rfl) ?_
              refine lv_if_eq (tgt := 66) hx hb dX10_tell_40 (by decide +kernel) (fun c_13 => absurd c_13 (by decide +kernel)) (fun c_13 => ?_)
              refine lv_aload_n hx hb dX10_tell_43 rfl (lv_at hl 1 rfl) ?_
              refine va_get (D := D) (ci := 10) (v := .ref ch) (C := RX10) (T := TX10) (N := 12) hx hb hts iw_X10_tell_10 hown hC.1 hP 0 rfl rfl 6 (by decide +kernel) (hts (.fieldLink RX10 61 "FairWheel" "choices" "LFairWheel$Choices;") (by decide +kernel)) (fun _ h9 => h9) rfl dX10_tell_44 ?_
              refine lv_iload_n hx hb dX10_tell_47 rfl (lv_at hl 2 rfl) ?_
              refine lv_iload_n hx hb dX10_tell_48 rfl (lv_at hl 3 rfl) ?_
              refine lv_iload_n hx hb dX10_tell_49 rfl (lv_at hl 4 rfl) ?_
              refine kc_i (wr := [(h0, .inr (10, [.ref tp, .ref rd, .ref lv, .ref tr, .ref rw, .ref bx, .ref ch, .ref si, .ref dg, .ref pl, .ref pd, .int xz]))]) (va_runV (As := [.int x1, .int x2, .int x3]) (rest := []) ⟨hx, hb, hml, hown, hts⟩ (s_X1_add l D ca s.heap.size ch c1 c2 c3 kh fd1 fd2 fd3 x1 x2 x3 (by omega)) (cwV 3 hts gX10_tell_X1_add rfl rfl rfl (by decide +kernel) ⟨(Nat.le_of_ble_eq_true rfl), (Nat.le_of_ble_eq_true rfl)⟩) (PC.preV (ci := 1) hC hP hD [1, 2, 3, 4] rfl (by decide +kernel) rfl rfl) rfl rfl hl.1 rfl (lv_room (Nat.le_of_ble_eq_true rfl)) dX10_tell_50 ⟨(Nat.le_of_ble_eq_true rfl), (Nat.le_of_ble_eq_true rfl)⟩) hP hD hS hA [1, 2, 3, 4] [0] rfl rfl (by decide +kernel) (by decide +kernel) (fun r_14 u_16 H locs hw_15 hP hD hS => ?_)
              obtain ⟨k_17, f_18, f_19, f_20⟩ := u_16
              obtain ⟨hu_21, hu_22⟩ := hw_15
              have hP : va_P D vwCl [(h0, .inr (10, [.ref tp, .ref rd, .ref lv, .ref tr, .ref rw, .ref bx, .ref ch, .ref si, .ref dg, .ref pl, .ref pd, .int xz])), (ch, .inr (1, [.int (nI k_17), .ref c1, .ref c2, .ref c3])), (c1, .inl (ca 1, 60, .inl f_18)), (c2, .inl (ca 1, 60, .inl f_19)), (c3, .inl (ca 1, 60, .inl f_20))] H := hP
              have hD : va_D A [(h0, .inr (10, [.ref tp, .ref rd, .ref lv, .ref tr, .ref rw, .ref bx, .ref ch, .ref si, .ref dg, .ref pl, .ref pd, .int xz])), (ch, .inr (1, [.int (nI k_17), .ref c1, .ref c2, .ref c3])), (c1, .inl (ca 1, 60, .inl f_18)), (c2, .inl (ca 1, 60, .inl f_19)), (c3, .inl (ca 1, 60, .inl f_20))] := hD
              refine lv_if_eq (tgt := 66) hx hb dX10_tell_53 (by decide +kernel) (fun c_23 => ?_) (fun c_23 => ?_)
              · refine lv_iconst (v := (-1)) hx hb dX10_tell_66 (by decide +kernel) ?_
                exact W.iret (v := (-1)) hx hb hr (fun t ht hW => ⟨⟨(-1), (k_17, f_18, f_19, f_20), rfl, (by dsimp only; omega), by rw [ht]; exact hP.sub [0, 1, 2, 3, 4] rfl, hDA (hD.sub [0, 1, 2, 3, 4] (by decide +kernel) rfl)⟩, hS.F ht⟩) hS.2.2 dX10_tell_67
              · refine lv_aload_n hx hb dX10_tell_56 rfl (lv_at hl 1 rfl) ?_
                refine va_get (D := D) (ci := 10) (v := .ref ch) (C := RX10) (T := TX10) (N := 12) hx hb hts iw_X10_tell_10 hown hC.1 hP 0 rfl rfl 6 (by decide +kernel) (hts (.fieldLink RX10 61 "FairWheel" "choices" "LFairWheel$Choices;") (by decide +kernel)) (fun _ h9 => h9) rfl dX10_tell_57 ?_
                refine va_get (D := D) (ci := 1) (v := .int (nI k_17)) (C := RX1) (T := TX1) (N := 4) hx hb hts iw_X10_tell_1 hown hC.1 hP 1 rfl rfl 0 (by decide +kernel) (hts (.fieldLink RX10 97 "FairWheel$Choices" "count" "I") (by decide +kernel)) (fun _ h9 => h9) rfl dX10_tell_60 ?_
                refine lv_goto (tgt := 67) hx hb dX10_tell_63 (by decide +kernel) ?_
                exact W.iret (v := nI k_17) hx hb hr (fun t ht hW => ⟨⟨nI k_17, (k_17, f_18, f_19, f_20), rfl, (by dsimp only; omega), by rw [ht]; exact hP.sub [0, 1, 2, 3, 4] rfl, hDA (hD.sub [0, 1, 2, 3, 4] (by decide +kernel) rfl)⟩, hS.F ht⟩) hS.2.2 dX10_tell_67
theorem iw_X10_hush_1 : ∀ w ∈ u_ws RX1 TX1 4, w ∈ wsX10_hush := by decide +kernel
theorem iw_X10_hush_10 : ∀ w ∈ u_ws RX10 TX10 12, w ∈ wsX10_hush := by decide +kernel
set_option maxHeartbeats 4000000 in
set_option maxRecDepth 100000 in
theorem s_X10_hush (l : Launch) (D : va_G) (ca : Nat → ClassId) (sz : Nat) (h0 : Nat) (tp : Nat) (rd : Nat) (lv : Nat) (tr : Nat) (rw : Nat) (bx : Nat) (ch : Nat) (si : Nat) (dg : Nat) (pl : Nat) (pd : Nat) (xz : Int32) (kh : Nat) (c1 : Nat) (c2 : Nat) (c3 : Nat) (hkh : kh ≤ 60) : Met l yX10_hush wsX10_hush ({ frames := 0, cells := 0, slots := 0, locals := 0 }) (PC [.ref h0] sz D ca [(h0, .inr (10, [.ref tp, .ref rd, .ref lv, .ref tr, .ref rw, .ref bx, .ref ch, .ref si, .ref dg, .ref pl, .ref pd, .int xz])), (ch, .inr (1, [.int (nI kh), .ref c1, .ref c2, .ref c3]))]) (QI (fun (r : Int32) (u : Unit) => True) (fun (_ : Unit) => [(h0, .inr (10, [.ref tp, .ref rd, .ref lv, .ref tr, .ref rw, .ref bx, .ref ch, .ref si, .ref dg, .ref pl, .ref pd, .int xz])), (ch, .inr (1, [.int 0, .ref c1, .ref c2, .ref c3]))]) [(h0, .inr (10, [.ref tp, .ref rd, .ref lv, .ref tr, .ref rw, .ref bx, .ref ch, .ref si, .ref dg, .ref pl, .ref pd, .int xz])), (ch, .inr (1, [.int (nI kh), .ref c1, .ref c2, .ref c3]))] sz D) 0 0 (va_A [(h0, .inr (10, [.ref tp, .ref rd, .ref lv, .ref tr, .ref rw, .ref bx, .ref ch, .ref si, .ref dg, .ref pl, .ref pd, .int xz])), (ch, .inr (1, [.int (nI kh), .ref c1, .ref c2, .ref c3]))] sz) := by
  refine Met.ofW (cc := cX10_hush) (maxL := 2) (ret := (some .int)) (by decide +kernel) rfl ?_
  intro p e s m args below meth c s₁ B hml hv
  obtain ⟨rfl, hsz, hP, hC, hD0⟩ := hv
  have hx := B.exec
  have hb := B.bytes
  have hr := B.returns
  have hts := atoms_spec (ws := wsX10_hush) B.pre
  have hown : s.vm.findClass RX10 = some m.cls := findClass_of_methodNamed B.named
  have hlocks := B.notSynchronized
  subst hsz
  have hD := hD0.self (sz := s.heap.size)
  dsimp only [QV, QI, QL, BQ]
  generalize hAe : va_A [(h0, .inr (10, [.ref tp, .ref rd, .ref lv, .ref tr, .ref rw, .ref bx, .ref ch, .ref si, .ref dg, .ref pl, .ref pd, .int xz])), (ch, .inr (1, [.int (nI kh), .ref c1, .ref c2, .ref c3]))] s.heap.size = A at hD ⊢
  have hA : ∀ q : Nat, s.heap.size ≤ q → A q := fun q h => by rw [← hAe]; exact Or.inr h
  have hDA : ∀ {w : va_W}, va_D A w → va_D (va_A [(h0, .inr (10, [.ref tp, .ref rd, .ref lv, .ref tr, .ref rw, .ref bx, .ref ch, .ref si, .ref dg, .ref pl, .ref pd, .int xz])), (ch, .inr (1, [.int (nI kh), .ref c1, .ref c2, .ref c3]))] s.heap.size) w := fun h => by rw [hAe]; exact h
  have hS : va_S A s.heap s.heap [] := va_S.rf
  have hP : va_P D vwCl [(h0, .inr (10, [.ref tp, .ref rd, .ref lv, .ref tr, .ref rw, .ref bx, .ref ch, .ref si, .ref dg, .ref pl, .ref pd, .int xz])), (ch, .inr (1, [.int (nI kh), .ref c1, .ref c2, .ref c3]))] s.heap := hP
  have hl := lv_entry ([.ref h0]) (n := 2) (Nat.le_of_ble_eq_true rfl)
  rw [lg_entry_eq]
  generalize (lg_sl ([.ref h0]) ++ List.replicate (2 - (lg_sl ([.ref h0])).length) Slot.unset).toArray = ls at hl ⊢
  have hl : lv_has ls 2 [(0, .ref h0)] := hl
  refine lv_aload_n hx hb dX10_hush_0 rfl (lv_at hl 0 rfl) ?_
  refine va_get (D := D) (ci := 10) (v := .ref ch) (C := RX10) (T := TX10) (N := 12) hx hb hts iw_X10_hush_10 hown hC.1 hP 0 rfl rfl 6 (by decide +kernel) (hts (.fieldLink RX10 61 "FairWheel" "choices" "LFairWheel$Choices;") (by decide +kernel)) (fun _ h9 => h9) rfl dX10_hush_1 ?_
  refine va_get (D := D) (ci := 1) (v := .int (nI kh)) (C := RX1) (T := TX1) (N := 4) hx hb hts iw_X10_hush_1 hown hC.1 hP 1 rfl rfl 0 (by decide +kernel) (hts (.fieldLink RX10 97 "FairWheel$Choices" "count" "I") (by decide +kernel)) (fun _ h9 => h9) rfl dX10_hush_4 ?_
  refine lv_istore_n (lv' := [(1, .int (nI kh)), (0, .ref h0)]) hx hb dX10_hush_7 rfl hl (by decide +kernel) rfl (fun ls hl => ?_)
  refine lv_aload_n hx hb dX10_hush_8 rfl (lv_at hl 1 rfl) ?_
  refine va_get (D := D) (ci := 10) (v := .ref ch) (C := RX10) (T := TX10) (N := 12) hx hb hts iw_X10_hush_10 hown hC.1 hP 0 rfl rfl 6 (by decide +kernel) (hts (.fieldLink RX10 61 "FairWheel" "choices" "LFairWheel$Choices;") (by decide +kernel)) (fun _ h9 => h9) rfl dX10_hush_9 ?_
  refine lv_iconst (v := 0) hx hb dX10_hush_12 (by decide +kernel) ?_
  refine va_put (D := D) (ci := 1) (v := .int 0) (ty := .int) (C := RX1) (T := TX1) (N := 4) hx hb hts iw_X10_hush_1 tyX1 tyX1_ok nmX1 hown hC.1 hP hD hS 1 rfl rfl 0 (by decide +kernel) (hts (.fieldLink RX10 97 "FairWheel$Choices" "count" "I") (by decide +kernel)) (fun _ h9 => h9) rfl (by decide +kernel) rfl rfl (Nat.le_of_ble_eq_true rfl) dX10_hush_13 (fun H locs hP hD hS => ?_)
  have hP : va_P D vwCl [(h0, .inr (10, [.ref tp, .ref rd, .ref lv, .ref tr, .ref rw, .ref bx, .ref ch, .ref si, .ref dg, .ref pl, .ref pd, .int xz])), (ch, .inr (1, [.int 0, .ref c1, .ref c2, .ref c3]))] H := hP
  have hD : va_D A [(h0, .inr (10, [.ref tp, .ref rd, .ref lv, .ref tr, .ref rw, .ref bx, .ref ch, .ref si, .ref dg, .ref pl, .ref pd, .int xz])), (ch, .inr (1, [.int 0, .ref c1, .ref c2, .ref c3]))] := hD
  refine lv_iload_n hx hb dX10_hush_16 rfl (lv_at hl 0 rfl) ?_
  exact W.iret (v := nI kh) hx hb hr (fun t ht hW => ⟨⟨nI kh, (), rfl, trivial, by rw [ht]; exact hP.sub [0, 1] rfl, hDA (hD.sub [0, 1] (by decide +kernel) rfl)⟩, hS.F ht⟩) hS.2.2 dX10_hush_17
theorem iw_X10_check_1 : ∀ w ∈ u_ws RX1 TX1 4, w ∈ wsX10_check := by decide +kernel
theorem iw_X10_check_10 : ∀ w ∈ u_ws RX10 TX10 12, w ∈ wsX10_check := by decide +kernel
set_option maxHeartbeats 4000000 in
set_option maxRecDepth 100000 in
theorem s_X10_check (l : Launch) (D : va_G) (ca : Nat → ClassId) (sz : Nat) (h0 : Nat) (tp : Nat) (rd : Nat) (lv : Nat) (tr : Nat) (rw : Nat) (bx : Nat) (ch : Nat) (si : Nat) (dg : Nat) (pl : Nat) (pd : Nat) (xz : Int32) (kw : Nat) (tk : Nat) (hd : Nat) (fr : Nat) (cg : Nat) (p5 : Nat) (p6 : Nat) (p7 : Nat) (p8 : Nat) (p9 : Nat) (p10 : Nat) (p11 : Nat) (p12 : Nat) (p13 : Nat) (kc : Nat) (kl : Nat) (kn : Nat) (ko : Nat) (xb : Int32) (frw : Nat → Int32) (kh : Nat) (c1 : Nat) (c2 : Nat) (c3 : Nat) (fd1 : Nat → Int32) (fd2 : Nat → Int32) (fd3 : Nat → Int32) (wa : Nat → Nat × va_E) (ta : Nat → Nat) (ra : Nat → Nat) (hkw : kw ≤ 2000) (hkn : kn ≤ 10) (hkc : kc ≤ 4) (hkl : kl ≤ 6) (hkh : kh ≤ 60) (hw_wa : wok ca ta ra wa) : Met l yX10_check wsX10_check ({ frames := 1, cells := 0, slots := 0, locals := 22 }) (PC [.ref h0] sz D ca (wq [(h0, .inr (10, [.ref tp, .ref rd, .ref lv, .ref tr, .ref rw, .ref bx, .ref ch, .ref si, .ref dg, .ref pl, .ref pd, .int xz])), (lv, .inr (9, [.ref pl, .int (nI kw), .ref tk, .ref hd, .ref fr, .ref cg])), (tk, .inl (ca 5, 10, .inr (.inr (.inr (.inr (fun j => some (ta j))))))), (pl, .inr (2, [.int (nI kc), .int (nI kl), .int xb, .int (nI kn), .int (nI ko), .ref p5, .ref p6, .ref p7, .ref p8, .ref p9, .ref p10, .ref p11, .ref p12, .ref p13])), (rw, .inl (ca 1, 2000, .inl frw)), (ch, .inr (1, [.int (nI kh), .ref c1, .ref c2, .ref c3])), (c1, .inl (ca 1, 60, .inl fd1)), (c2, .inl (ca 1, 60, .inl fd2)), (c3, .inl (ca 1, 60, .inl fd3))] [wx wa []])) (QI (fun (r : Int32) (u : (Nat → Nat × va_E)) => wok ca ta ra u) (fun (u : (Nat → Nat × va_E)) => (wq [(h0, .inr (10, [.ref tp, .ref rd, .ref lv, .ref tr, .ref rw, .ref bx, .ref ch, .ref si, .ref dg, .ref pl, .ref pd, .int xz])), (lv, .inr (9, [.ref pl, .int (nI kw), .ref tk, .ref hd, .ref fr, .ref cg])), (tk, .inl (ca 5, 10, .inr (.inr (.inr (.inr (fun j => some (ta j))))))), (pl, .inr (2, [.int (nI kc), .int (nI kl), .int xb, .int (nI kn), .int (nI ko), .ref p5, .ref p6, .ref p7, .ref p8, .ref p9, .ref p10, .ref p11, .ref p12, .ref p13])), (rw, .inl (ca 1, 2000, .inl frw)), (ch, .inr (1, [.int (nI kh), .ref c1, .ref c2, .ref c3])), (c1, .inl (ca 1, 60, .inl fd1)), (c2, .inl (ca 1, 60, .inl fd2)), (c3, .inl (ca 1, 60, .inl fd3))] [wx u []])) (wq [(h0, .inr (10, [.ref tp, .ref rd, .ref lv, .ref tr, .ref rw, .ref bx, .ref ch, .ref si, .ref dg, .ref pl, .ref pd, .int xz])), (lv, .inr (9, [.ref pl, .int (nI kw), .ref tk, .ref hd, .ref fr, .ref cg])), (tk, .inl (ca 5, 10, .inr (.inr (.inr (.inr (fun j => some (ta j))))))), (pl, .inr (2, [.int (nI kc), .int (nI kl), .int xb, .int (nI kn), .int (nI ko), .ref p5, .ref p6, .ref p7, .ref p8, .ref p9, .ref p10, .ref p11, .ref p12, .ref p13])), (rw, .inl (ca 1, 2000, .inl frw)), (ch, .inr (1, [.int (nI kh), .ref c1, .ref c2, .ref c3])), (c1, .inl (ca 1, 60, .inl fd1)), (c2, .inl (ca 1, 60, .inl fd2)), (c3, .inl (ca 1, 60, .inl fd3))] [wx wa []]) sz D) 0 0 (va_A (wq [(h0, .inr (10, [.ref tp, .ref rd, .ref lv, .ref tr, .ref rw, .ref bx, .ref ch, .ref si, .ref dg, .ref pl, .ref pd, .int xz])), (lv, .inr (9, [.ref pl, .int (nI kw), .ref tk, .ref hd, .ref fr, .ref cg])), (tk, .inl (ca 5, 10, .inr (.inr (.inr (.inr (fun j => some (ta j))))))), (pl, .inr (2, [.int (nI kc), .int (nI kl), .int xb, .int (nI kn), .int (nI ko), .ref p5, .ref p6, .ref p7, .ref p8, .ref p9, .ref p10, .ref p11, .ref p12, .ref p13])), (rw, .inl (ca 1, 2000, .inl frw)), (ch, .inr (1, [.int (nI kh), .ref c1, .ref c2, .ref c3])), (c1, .inl (ca 1, 60, .inl fd1)), (c2, .inl (ca 1, 60, .inl fd2)), (c3, .inl (ca 1, 60, .inl fd3))] [wx wa []]) sz) := by
  refine Met.ofW (cc := cX10_check) (maxL := 4) (ret := (some .int)) (by decide +kernel) rfl ?_
  intro p e s m args below meth c s₁ B hml hv
  obtain ⟨rfl, hsz, hP, hC, hD0⟩ := hv
  have hx := B.exec
  have hb := B.bytes
  have hr := B.returns
  have hts := atoms_spec (ws := wsX10_check) B.pre
  have hown : s.vm.findClass RX10 = some m.cls := findClass_of_methodNamed B.named
  have hlocks := B.notSynchronized
  subst hsz
  have hD := hD0.self (sz := s.heap.size)
  dsimp only [QV, QI, QL, BQ]
  generalize hAe : va_A (wq [(h0, .inr (10, [.ref tp, .ref rd, .ref lv, .ref tr, .ref rw, .ref bx, .ref ch, .ref si, .ref dg, .ref pl, .ref pd, .int xz])), (lv, .inr (9, [.ref pl, .int (nI kw), .ref tk, .ref hd, .ref fr, .ref cg])), (tk, .inl (ca 5, 10, .inr (.inr (.inr (.inr (fun j => some (ta j))))))), (pl, .inr (2, [.int (nI kc), .int (nI kl), .int xb, .int (nI kn), .int (nI ko), .ref p5, .ref p6, .ref p7, .ref p8, .ref p9, .ref p10, .ref p11, .ref p12, .ref p13])), (rw, .inl (ca 1, 2000, .inl frw)), (ch, .inr (1, [.int (nI kh), .ref c1, .ref c2, .ref c3])), (c1, .inl (ca 1, 60, .inl fd1)), (c2, .inl (ca 1, 60, .inl fd2)), (c3, .inl (ca 1, 60, .inl fd3))] [wx wa []]) s.heap.size = A at hD ⊢
  have hA : ∀ q : Nat, s.heap.size ≤ q → A q := fun q h => by rw [← hAe]; exact Or.inr h
  have hDA : ∀ {w : va_W}, va_D A w → va_D (va_A (wq [(h0, .inr (10, [.ref tp, .ref rd, .ref lv, .ref tr, .ref rw, .ref bx, .ref ch, .ref si, .ref dg, .ref pl, .ref pd, .int xz])), (lv, .inr (9, [.ref pl, .int (nI kw), .ref tk, .ref hd, .ref fr, .ref cg])), (tk, .inl (ca 5, 10, .inr (.inr (.inr (.inr (fun j => some (ta j))))))), (pl, .inr (2, [.int (nI kc), .int (nI kl), .int xb, .int (nI kn), .int (nI ko), .ref p5, .ref p6, .ref p7, .ref p8, .ref p9, .ref p10, .ref p11, .ref p12, .ref p13])), (rw, .inl (ca 1, 2000, .inl frw)), (ch, .inr (1, [.int (nI kh), .ref c1, .ref c2, .ref c3])), (c1, .inl (ca 1, 60, .inl fd1)), (c2, .inl (ca 1, 60, .inl fd2)), (c3, .inl (ca 1, 60, .inl fd3))] [wx wa []]) s.heap.size) w := fun h => by rw [hAe]; exact h
  have hS : va_S A s.heap s.heap [] := va_S.rf
  have hP : va_P D vwCl (wq [(h0, .inr (10, [.ref tp, .ref rd, .ref lv, .ref tr, .ref rw, .ref bx, .ref ch, .ref si, .ref dg, .ref pl, .ref pd, .int xz])), (lv, .inr (9, [.ref pl, .int (nI kw), .ref tk, .ref hd, .ref fr, .ref cg])), (tk, .inl (ca 5, 10, .inr (.inr (.inr (.inr (fun j => some (ta j))))))), (pl, .inr (2, [.int (nI kc), .int (nI kl), .int xb, .int (nI kn), .int (nI ko), .ref p5, .ref p6, .ref p7, .ref p8, .ref p9, .ref p10, .ref p11, .ref p12, .ref p13])), (rw, .inl (ca 1, 2000, .inl frw)), (ch, .inr (1, [.int (nI kh), .ref c1, .ref c2, .ref c3])), (c1, .inl (ca 1, 60, .inl fd1)), (c2, .inl (ca 1, 60, .inl fd2)), (c3, .inl (ca 1, 60, .inl fd3))] [wx wa []]) s.heap := hP
  have hl := lv_entry ([.ref h0]) (n := 4) (Nat.le_of_ble_eq_true rfl)
  rw [lg_entry_eq]
  generalize (lg_sl ([.ref h0]) ++ List.replicate (4 - (lg_sl ([.ref h0])).length) Slot.unset).toArray = ls at hl ⊢
  have hl : lv_has ls 4 [(0, .ref h0)] := hl
  refine lv_iconst (v := 0) hx hb dX10_check_0 (by decide +kernel) ?_
  refine lv_istore_n (lv' := [(1, .int 0), (0, .ref h0)]) hx hb dX10_check_1 rfl hl (by decide +kernel) rfl (fun ls hl => ?_)
  refine lp_ind (I := fun (n : Nat) H locs ls => ∃ (ji : Nat) (jw_1 : Nat → Nat × va_E), ji ≤ kh ∧ ji + n = kh + 1 ∧ wok ca ta ra jw_1 ∧ lv_has ls 4 [(1, .int (nI ji)), (0, .ref h0)] ∧ va_P D vwCl (wq [(h0, .inr (10, [.ref tp, .ref rd, .ref lv, .ref tr, .ref rw, .ref bx, .ref ch, .ref si, .ref dg, .ref pl, .ref pd, .int xz])), (lv, .inr (9, [.ref pl, .int (nI kw), .ref tk, .ref hd, .ref fr, .ref cg])), (tk, .inl (ca 5, 10, .inr (.inr (.inr (.inr (fun j => some (ta j))))))), (pl, .inr (2, [.int (nI kc), .int (nI kl), .int xb, .int (nI kn), .int (nI ko), .ref p5, .ref p6, .ref p7, .ref p8, .ref p9, .ref p10, .ref p11, .ref p12, .ref p13])), (rw, .inl (ca 1, 2000, .inl frw)), (ch, .inr (1, [.int (nI kh), .ref c1, .ref c2, .ref c3])), (c1, .inl (ca 1, 60, .inl fd1)), (c2, .inl (ca 1, 60, .inl fd2)), (c3, .inl (ca 1, 60, .inl fd3))] [wx jw_1 []]) H ∧ va_D A (wq [(h0, .inr (10, [.ref tp, .ref rd, .ref lv, .ref tr, .ref rw, .ref bx, .ref ch, .ref si, .ref dg, .ref pl, .ref pd, .int xz])), (lv, .inr (9, [.ref pl, .int (nI kw), .ref tk, .ref hd, .ref fr, .ref cg])), (tk, .inl (ca 5, 10, .inr (.inr (.inr (.inr (fun j => some (ta j))))))), (pl, .inr (2, [.int (nI kc), .int (nI kl), .int xb, .int (nI kn), .int (nI ko), .ref p5, .ref p6, .ref p7, .ref p8, .ref p9, .ref p10, .ref p11, .ref p12, .ref p13])), (rw, .inl (ca 1, 2000, .inl frw)), (ch, .inr (1, [.int (nI kh), .ref c1, .ref c2, .ref c3])), (c1, .inl (ca 1, 60, .inl fd1)), (c2, .inl (ca 1, 60, .inl fd2)), (c3, .inl (ca 1, 60, .inl fd3))] [wx jw_1 []]) ∧ va_S A s.heap H locs) (Wf := fun H locs ls => W p l e _ s m _ below meth c H locs _ _ _ (F0 m 2 ls [])) (kh + 1) ⟨0, wa, (by omega), (by omega), hw_wa, hl, hP, hD, hS⟩ ?_ ?_
  · intro H locs ls hI
    obtain ⟨ji, jw_1, hji, hmji, hjw_1, -⟩ := hI
    omega
  intro n ih_2 H locs ls hI
  obtain ⟨ji, jw_1, hji, hmji, hjw_1, hl, hP, hD, hS⟩ := hI
  refine lv_iload_n hx hb dX10_check_2 rfl (lv_at hl 0 rfl) ?_
  refine lv_aload_n hx hb dX10_check_3 rfl (lv_at hl 1 rfl) ?_
  refine va_get (D := D) (ci := 10) (v := .ref ch) (C := RX10) (T := TX10) (N := 12) hx hb hts iw_X10_check_10 hown hC.1 hP 0 rfl rfl 6 (by decide +kernel) (hts (.fieldLink RX10 61 "FairWheel" "choices" "LFairWheel$Choices;") (by decide +kernel)) (fun _ h9 => h9) rfl dX10_check_4 ?_
  refine va_get (D := D) (ci := 1) (v := .int (nI kh)) (C := RX1) (T := TX1) (N := 4) hx hb hts iw_X10_check_1 hown hC.1 hP 5 rfl rfl 0 (by decide +kernel) (hts (.fieldLink RX10 97 "FairWheel$Choices" "count" "I") (by decide +kernel)) (fun _ h9 => h9) rfl dX10_check_7 ?_
  refine lv_icmp_ge (tgt := 72) hx hb dX10_check_10 (by decide +kernel) (fun c_3 => ?_) (fun c_3 => ?_)
  · have nc_3 : kh ≤ ji := (nI_leI (a := kh) (b := ji) (by omega) (by omega)).mp c_3
    refine lv_iconst (v := (-1)) hx hb dX10_check_72 (by decide +kernel) ?_
    exact W.iret (v := (-1)) hx hb hr (fun t ht hW => ⟨⟨(-1), jw_1, rfl, hjw_1, by rw [ht]; exact (hP.perm (sg (wr := []) 10 [0, 1, 2, 3, 4, 5, 6, 7, 8, 9] [] rfl rfl rfl (by decide +kernel))).left, hDA ((hD.perm (sg (wr := []) 10 [0, 1, 2, 3, 4, 5, 6, 7, 8, 9] [] rfl rfl rfl (by decide +kernel))).left)⟩, hS.F ht⟩) hS.2.2 dX10_check_73
  · have nc_3 : ¬ (kh ≤ ji) := fun h => c_3 ((nI_leI (a := kh) (b := ji) (by omega) (by omega)).mpr h)
    refine lv_aload_n hx hb dX10_check_13 rfl (lv_at hl 1 rfl) ?_
    refine va_get (D := D) (ci := 10) (v := .ref ch) (C := RX10) (T := TX10) (N := 12) hx hb hts iw_X10_check_10 hown hC.1 hP 0 rfl rfl 6 (by decide +kernel) (hts (.fieldLink RX10 61 "FairWheel" "choices" "LFairWheel$Choices;") (by decide +kernel)) (fun _ h9 => h9) rfl dX10_check_14 ?_
    refine va_get (D := D) (ci := 1) (v := .ref c1) (C := RX1) (T := TX1) (N := 4) hx hb hts iw_X10_check_1 hown hC.1 hP 5 rfl rfl 1 (by decide +kernel) (hts (.fieldLink RX10 241 "FairWheel$Choices" "ticks" "[I") (by decide +kernel)) (fun _ h9 => h9) rfl dX10_check_17 ?_
    refine lv_iload_n hx hb dX10_check_20 rfl (lv_at hl 0 rfl) ?_
    refine ka_iald hx hb hC.1 hP 6 1 rfl rfl ji rfl (by omega) (by decide +kernel) dX10_check_21 ?_
    refine lv_topi (fun y_4 ey_4 => ?_)
    refine lv_istore_n (lv' := [(2, .int y_4), (1, .int (nI ji)), (0, .ref h0)]) hx hb dX10_check_22 rfl hl (by decide +kernel) rfl (fun ls hl => ?_)
    refine lv_aload_n hx hb dX10_check_23 rfl (lv_at hl 2 rfl) ?_
    refine va_get (D := D) (ci := 10) (v := .ref ch) (C := RX10) (T := TX10) (N := 12) hx hb hts iw_X10_check_10 hown hC.1 hP 0 rfl rfl 6 (by decide +kernel) (hts (.fieldLink RX10 61 "FairWheel" "choices" "LFairWheel$Choices;") (by decide +kernel)) (fun _ h9 => h9) rfl dX10_check_24 ?_
    refine va_get (D := D) (ci := 1) (v := .ref c2) (C := RX1) (T := TX1) (N := 4) hx hb hts iw_X10_check_1 hown hC.1 hP 5 rfl rfl 2 (by decide +kernel) (hts (.fieldLink RX10 244 "FairWheel$Choices" "processors" "[I") (by decide +kernel)) (fun _ h9 => h9) rfl dX10_check_27 ?_
    refine lv_iload_n hx hb dX10_check_30 rfl (lv_at hl 1 rfl) ?_
    refine ka_iald hx hb hC.1 hP 7 1 rfl rfl ji rfl (by omega) (by decide +kernel) dX10_check_31 ?_
    refine lv_topi (fun y_5 ey_5 => ?_)
    refine lv_istore_n (lv' := [(3, .int y_5), (2, .int y_4), (1, .int (nI ji)), (0, .ref h0)]) hx hb dX10_check_32 rfl hl (by decide +kernel) rfl (fun ls hl => ?_)
    refine lv_aload_n hx hb dX10_check_33 rfl (lv_at hl 3 rfl) ?_
    refine lv_iload_n hx hb dX10_check_34 rfl (lv_at hl 1 rfl) ?_
    refine lv_iload_n hx hb dX10_check_35 rfl (lv_at hl 0 rfl) ?_
    have hq_6 : List.Perm (wq [(h0, .inr (10, [.ref tp, .ref rd, .ref lv, .ref tr, .ref rw, .ref bx, .ref ch, .ref si, .ref dg, .ref pl, .ref pd, .int xz])), (lv, .inr (9, [.ref pl, .int (nI kw), .ref tk, .ref hd, .ref fr, .ref cg])), (tk, .inl (ca 5, 10, .inr (.inr (.inr (.inr (fun j => some (ta j))))))), (pl, .inr (2, [.int (nI kc), .int (nI kl), .int xb, .int (nI kn), .int (nI ko), .ref p5, .ref p6, .ref p7, .ref p8, .ref p9, .ref p10, .ref p11, .ref p12, .ref p13])), (rw, .inl (ca 1, 2000, .inl frw)), (ch, .inr (1, [.int (nI kh), .ref c1, .ref c2, .ref c3])), (c1, .inl (ca 1, 60, .inl fd1)), (c2, .inl (ca 1, 60, .inl fd2)), (c3, .inl (ca 1, 60, .inl fd3))] [wx jw_1 []]) (ap (wq [(h0, .inr (10, [.ref tp, .ref rd, .ref lv, .ref tr, .ref rw, .ref bx, .ref ch, .ref si, .ref dg, .ref pl, .ref pd, .int xz])), (lv, .inr (9, [.ref pl, .int (nI kw), .ref tk, .ref hd, .ref fr, .ref cg])), (tk, .inl (ca 5, 10, .inr (.inr (.inr (.inr (fun j => some (ta j))))))), (pl, .inr (2, [.int (nI kc), .int (nI kl), .int xb, .int (nI kn), .int (nI ko), .ref p5, .ref p6, .ref p7, .ref p8, .ref p9, .ref p10, .ref p11, .ref p12, .ref p13])), (rw, .inl (ca 1, 2000, .inl frw))] [wx jw_1 []]) [(ch, .inr (1, [.int (nI kh), .ref c1, .ref c2, .ref c3])), (c1, .inl (ca 1, 60, .inl fd1)), (c2, .inl (ca 1, 60, .inl fd2)), (c3, .inl (ca 1, 60, .inl fd3))]) := sg 10 [0, 1, 2, 3, 4, 9] [5, 6, 7, 8] rfl rfl rfl (by decide +kernel)
    refine kp_i (va_runV (As := [.int y_4, .int y_5]) (rest := []) ⟨hx, hb, hml, hown, hts⟩ (s_X10_wasChosenIn l D ca H.size h0 tp rd lv tr rw bx ch si dg pl pd xz kw tk hd fr cg p5 p6 p7 p8 p9 p10 p11 p12 p13 kc kl kn ko xb frw y_4 y_5 jw_1 ta ra (by omega) (by omega) (by omega) (by omega) hjw_1) (cwV 2 hts gX10_check_X10_wasChosenIn rfl rfl rfl (by decide +kernel) ⟨(Nat.le_of_ble_eq_true rfl), (Nat.le_of_ble_eq_true rfl)⟩) (PC.preVp (ci := 10) hC hP hD hq_6 rfl rfl) rfl rfl hl.1 rfl (lv_room (Nat.le_of_ble_eq_true rfl)) dX10_check_36 ⟨(Nat.le_of_ble_eq_true rfl), (Nat.le_of_ble_eq_true rfl)⟩) hP hD hS hA hq_6 (fun _ => sg0) (fun r_7 u_9 H locs hw_8 hP hD hS => ?_)
    obtain ⟨w_10, rfl⟩ : ∃ z, z = u_9 := ⟨_, rfl⟩
    obtain ⟨hu_11, hu_12⟩ := hw_8
    have hP : va_P D vwCl (wq [(ch, .inr (1, [.int (nI kh), .ref c1, .ref c2, .ref c3])), (c1, .inl (ca 1, 60, .inl fd1)), (c2, .inl (ca 1, 60, .inl fd2)), (c3, .inl (ca 1, 60, .inl fd3)), (h0, .inr (10, [.ref tp, .ref rd, .ref lv, .ref tr, .ref rw, .ref bx, .ref ch, .ref si, .ref dg, .ref pl, .ref pd, .int xz])), (lv, .inr (9, [.ref pl, .int (nI kw), .ref tk, .ref hd, .ref fr, .ref cg])), (tk, .inl (ca 5, 10, .inr (.inr (.inr (.inr (fun j => some (ta j))))))), (pl, .inr (2, [.int (nI kc), .int (nI kl), .int xb, .int (nI kn), .int (nI ko), .ref p5, .ref p6, .ref p7, .ref p8, .ref p9, .ref p10, .ref p11, .ref p12, .ref p13])), (rw, .inl (ca 1, 2000, .inl frw))] [wx w_10 []]) H := hP
    have hD : va_D A (wq [(ch, .inr (1, [.int (nI kh), .ref c1, .ref c2, .ref c3])), (c1, .inl (ca 1, 60, .inl fd1)), (c2, .inl (ca 1, 60, .inl fd2)), (c3, .inl (ca 1, 60, .inl fd3)), (h0, .inr (10, [.ref tp, .ref rd, .ref lv, .ref tr, .ref rw, .ref bx, .ref ch, .ref si, .ref dg, .ref pl, .ref pd, .int xz])), (lv, .inr (9, [.ref pl, .int (nI kw), .ref tk, .ref hd, .ref fr, .ref cg])), (tk, .inl (ca 5, 10, .inr (.inr (.inr (.inr (fun j => some (ta j))))))), (pl, .inr (2, [.int (nI kc), .int (nI kl), .int xb, .int (nI kn), .int (nI ko), .ref p5, .ref p6, .ref p7, .ref p8, .ref p9, .ref p10, .ref p11, .ref p12, .ref p13])), (rw, .inl (ca 1, 2000, .inl frw))] [wx w_10 []]) := hD
    refine lv_if_eq (tgt := 64) hx hb dX10_check_39 (by decide +kernel) (fun c_13 => ?_) (fun c_13 => ?_)
    · refine lv_iload_n hx hb dX10_check_64 rfl (lv_at hl 2 rfl) ?_
      exact W.iret (v := nI ji) hx hb hr (fun t ht hW => ⟨⟨nI ji, w_10, rfl, hu_12, by rw [ht]; exact (hP.perm (sg (wr := []) 10 [4, 5, 6, 7, 8, 0, 1, 2, 3, 9] [] rfl rfl rfl (by decide +kernel))).left, hDA ((hD.perm (sg (wr := []) 10 [4, 5, 6, 7, 8, 0, 1, 2, 3, 9] [] rfl rfl rfl (by decide +kernel))).left)⟩, hS.F ht⟩) hS.2.2 dX10_check_65
    · obtain ⟨-, k_14, hk_14, rfl⟩ := hu_11.resolve_left c_13
      refine lv_aload_n hx hb dX10_check_42 rfl (lv_at hl 3 rfl) ?_
      refine va_get (D := D) (ci := 10) (v := .ref rw) (C := RX10) (T := TX10) (N := 12) hx hb hts iw_X10_check_10 hown hC.1 hP 4 rfl rfl 4 (by decide +kernel) (hts (.fieldLink RX10 47 "FairWheel" "rows" "[I") (by decide +kernel)) (fun _ h9 => h9) rfl dX10_check_43 ?_
      refine lv_iload_n hx hb dX10_check_46 rfl (lv_at hl 1 rfl) ?_
      refine ka_iald hx hb hC.1 hP 8 1 rfl rfl k_14 rfl (by omega) (by decide +kernel) dX10_check_47 ?_
      refine lv_topi (fun y_15 ey_15 => ?_)
      refine lv_iload_n hx hb dX10_check_48 rfl (lv_at hl 0 rfl) ?_
      have hq_16 : List.Perm (wq [(ch, .inr (1, [.int (nI kh), .ref c1, .ref c2, .ref c3])), (c1, .inl (ca 1, 60, .inl fd1)), (c2, .inl (ca 1, 60, .inl fd2)), (c3, .inl (ca 1, 60, .inl fd3)), (h0, .inr (10, [.ref tp, .ref rd, .ref lv, .ref tr, .ref rw, .ref bx, .ref ch, .ref si, .ref dg, .ref pl, .ref pd, .int xz])), (lv, .inr (9, [.ref pl, .int (nI kw), .ref tk, .ref hd, .ref fr, .ref cg])), (tk, .inl (ca 5, 10, .inr (.inr (.inr (.inr (fun j => some (ta j))))))), (pl, .inr (2, [.int (nI kc), .int (nI kl), .int xb, .int (nI kn), .int (nI ko), .ref p5, .ref p6, .ref p7, .ref p8, .ref p9, .ref p10, .ref p11, .ref p12, .ref p13])), (rw, .inl (ca 1, 2000, .inl frw))] [wx w_10 []]) (ap [] (wq [(ch, .inr (1, [.int (nI kh), .ref c1, .ref c2, .ref c3])), (c1, .inl (ca 1, 60, .inl fd1)), (c2, .inl (ca 1, 60, .inl fd2)), (c3, .inl (ca 1, 60, .inl fd3)), (h0, .inr (10, [.ref tp, .ref rd, .ref lv, .ref tr, .ref rw, .ref bx, .ref ch, .ref si, .ref dg, .ref pl, .ref pd, .int xz])), (lv, .inr (9, [.ref pl, .int (nI kw), .ref tk, .ref hd, .ref fr, .ref cg])), (tk, .inl (ca 5, 10, .inr (.inr (.inr (.inr (fun j => some (ta j))))))), (pl, .inr (2, [.int (nI kc), .int (nI kl), .int xb, .int (nI kn), .int (nI ko), .ref p5, .ref p6, .ref p7, .ref p8, .ref p9, .ref p10, .ref p11, .ref p12, .ref p13])), (rw, .inl (ca 1, 2000, .inl frw))] [wx w_10 []])) := sg 10 [] [0, 1, 2, 3, 4, 5, 6, 7, 8, 9] rfl rfl rfl (by decide +kernel)
      refine kp_i (va_runS (As := [.int y_15, .int y_5]) (rest := []) ⟨hx, hb, hml, hown, hts⟩ (s_X10_pick l D ca H.size y_15 y_5) (va_cwS 2 hts gX10_check_X10_pick rfl rfl rfl (by decide +kernel) ⟨(Nat.le_of_ble_eq_true rfl), (Nat.le_of_ble_eq_true rfl)⟩) (PC.preSp hC hP hD hq_16) rfl rfl hl.1 rfl (lv_room (Nat.le_of_ble_eq_true rfl)) dX10_check_49 ⟨(Nat.le_of_ble_eq_true rfl), (Nat.le_of_ble_eq_true rfl)⟩) hP hD hS hA hq_16 (fun _ => sg1) (fun r_17 u_19 H locs hw_18 hP hD hS => ?_)
      have hP : va_P D vwCl (wq [(ch, .inr (1, [.int (nI kh), .ref c1, .ref c2, .ref c3])), (c1, .inl (ca 1, 60, .inl fd1)), (c2, .inl (ca 1, 60, .inl fd2)), (c3, .inl (ca 1, 60, .inl fd3)), (h0, .inr (10, [.ref tp, .ref rd, .ref lv, .ref tr, .ref rw, .ref bx, .ref ch, .ref si, .ref dg, .ref pl, .ref pd, .int xz])), (lv, .inr (9, [.ref pl, .int (nI kw), .ref tk, .ref hd, .ref fr, .ref cg])), (tk, .inl (ca 5, 10, .inr (.inr (.inr (.inr (fun j => some (ta j))))))), (pl, .inr (2, [.int (nI kc), .int (nI kl), .int xb, .int (nI kn), .int (nI ko), .ref p5, .ref p6, .ref p7, .ref p8, .ref p9, .ref p10, .ref p11, .ref p12, .ref p13])), (rw, .inl (ca 1, 2000, .inl frw))] [wx w_10 []]) H := hP
      have hD : va_D A (wq [(ch, .inr (1, [.int (nI kh), .ref c1, .ref c2, .ref c3])), (c1, .inl (ca 1, 60, .inl fd1)), (c2, .inl (ca 1, 60, .inl fd2)), (c3, .inl (ca 1, 60, .inl fd3)), (h0, .inr (10, [.ref tp, .ref rd, .ref lv, .ref tr, .ref rw, .ref bx, .ref ch, .ref si, .ref dg, .ref pl, .ref pd, .int xz])), (lv, .inr (9, [.ref pl, .int (nI kw), .ref tk, .ref hd, .ref fr, .ref cg])), (tk, .inl (ca 5, 10, .inr (.inr (.inr (.inr (fun j => some (ta j))))))), (pl, .inr (2, [.int (nI kc), .int (nI kl), .int xb, .int (nI kn), .int (nI ko), .ref p5, .ref p6, .ref p7, .ref p8, .ref p9, .ref p10, .ref p11, .ref p12, .ref p13])), (rw, .inl (ca 1, 2000, .inl frw))] [wx w_10 []]) := hD
      refine lv_aload_n hx hb dX10_check_52 rfl (lv_at hl 3 rfl) ?_
      refine va_get (D := D) (ci := 10) (v := .ref ch) (C := RX10) (T := TX10) (N := 12) hx hb hts iw_X10_check_10 hown hC.1 hP 4 rfl rfl 6 (by decide +kernel) (hts (.fieldLink RX10 61 "FairWheel" "choices" "LFairWheel$Choices;") (by decide +kernel)) (fun _ h9 => h9) rfl dX10_check_53 ?_
      refine va_get (D := D) (ci := 1) (v := .ref c3) (C := RX1) (T := TX1) (N := 4) hx hb hts iw_X10_check_1 hown hC.1 hP 0 rfl rfl 3 (by decide +kernel) (hts (.fieldLink RX10 247 "FairWheel$Choices" "tasks" "[I") (by decide +kernel)) (fun _ h9 => h9) rfl dX10_check_56 ?_
      refine lv_iload_n hx hb dX10_check_59 rfl (lv_at hl 2 rfl) ?_
      refine ka_iald hx hb hC.1 hP 3 1 rfl rfl ji rfl (by omega) (by decide +kernel) dX10_check_60 ?_
      refine lv_topi (fun y_20 ey_20 => ?_)
      refine lv_icmp_eq (tgt := 66) hx hb dX10_check_61 (by decide +kernel) (fun c_21 => ?_) (fun c_21 => ?_)
      · refine lv_iinc (v := nI (ji + 1)) (lv' := [(1, .int (nI (ji + 1))), (3, .int y_5), (2, .int (nI k_14)), (0, .ref h0)]) hx hb dX10_check_66 hl (k := 2) rfl (nI_1 _) (by decide +kernel) rfl (fun ls hl => ?_)
        refine lv_goto (tgt := 2) hx hb dX10_check_69 (by decide +kernel) ?_
        exact ih_2 _ _ _ ⟨(ji + 1), w_10, (by omega), (by omega), hu_12, lv_sub hl [0, 3] rfl, (hP.perm (sg_w (wn := (wq [(h0, .inr (10, [.ref tp, .ref rd, .ref lv, .ref tr, .ref rw, .ref bx, .ref ch, .ref si, .ref dg, .ref pl, .ref pd, .int xz])), (lv, .inr (9, [.ref pl, .int (nI kw), .ref tk, .ref hd, .ref fr, .ref cg])), (tk, .inl (ca 5, 10, .inr (.inr (.inr (.inr (fun j => some (ta j))))))), (pl, .inr (2, [.int (nI kc), .int (nI kl), .int xb, .int (nI kn), .int (nI ko), .ref p5, .ref p6, .ref p7, .ref p8, .ref p9, .ref p10, .ref p11, .ref p12, .ref p13])), (rw, .inl (ca 1, 2000, .inl frw)), (ch, .inr (1, [.int (nI kh), .ref c1, .ref c2, .ref c3])), (c1, .inl (ca 1, 60, .inl fd1)), (c2, .inl (ca 1, 60, .inl fd2)), (c3, .inl (ca 1, 60, .inl fd3))] [wx w_10 []])) 10 [4, 5, 6, 7, 8, 0, 1, 2, 3, 9] rfl rfl (by decide +kernel))), (hD.perm (sg_w (wn := (wq [(h0, .inr (10, [.ref tp, .ref rd, .ref lv, .ref tr, .ref rw, .ref bx, .ref ch, .ref si, .ref dg, .ref pl, .ref pd, .int xz])), (lv, .inr (9, [.ref pl, .int (nI kw), .ref tk, .ref hd, .ref fr, .ref cg])), (tk, .inl (ca 5, 10, .inr (.inr (.inr (.inr (fun j => some (ta j))))))), (pl, .inr (2, [.int (nI kc), .int (nI kl), .int xb, .int (nI kn), .int (nI ko), .ref p5, .ref p6, .ref p7, .ref p8, .ref p9, .ref p10, .ref p11, .ref p12, .ref p13])), (rw, .inl (ca 1, 2000, .inl frw)), (ch, .inr (1, [.int (nI kh), .ref c1, .ref c2, .ref c3])), (c1, .inl (ca 1, 60, .inl fd1)), (c2, .inl (ca 1, 60, .inl fd2)), (c3, .inl (ca 1, 60, .inl fd3))] [wx w_10 []])) 10 [4, 5, 6, 7, 8, 0, 1, 2, 3, 9] rfl rfl (by decide +kernel))), hS⟩
      · refine lv_iload_n hx hb dX10_check_64 rfl (lv_at hl 2 rfl) ?_
        exact W.iret (v := nI ji) hx hb hr (fun t ht hW => ⟨⟨nI ji, w_10, rfl, hu_12, by rw [ht]; exact (hP.perm (sg (wr := []) 10 [4, 5, 6, 7, 8, 0, 1, 2, 3, 9] [] rfl rfl rfl (by decide +kernel))).left, hDA ((hD.perm (sg (wr := []) 10 [4, 5, 6, 7, 8, 0, 1, 2, 3, 9] [] rfl rfl rfl (by decide +kernel))).left)⟩, hS.F ht⟩) hS.2.2 dX10_check_65
theorem iw_X10_sight_2 : ∀ w ∈ u_ws RX2 TX2 14, w ∈ wsX10_sight := by decide +kernel
theorem iw_X10_sight_6 : ∀ w ∈ u_ws RX6 TX6 6, w ∈ wsX10_sight := by decide +kernel
theorem iw_X10_sight_10 : ∀ w ∈ u_ws RX10 TX10 12, w ∈ wsX10_sight := by decide +kernel
set_option maxHeartbeats 4000000 in
set_option maxRecDepth 100000 in
theorem s_X10_sight (l : Launch) (D : va_G) (ca : Nat → ClassId) (sz : Nat) (h0 : Nat) (tp : Nat) (rd : Nat) (lv : Nat) (tr : Nat) (rw : Nat) (bx : Nat) (ch : Nat) (si : Nat) (dg : Nat) (pl : Nat) (pd : Nat) (xz : Int32) (p5 : Nat) (p6 : Nat) (p7 : Nat) (p8 : Nat) (p9 : Nat) (p10 : Nat) (p11 : Nat) (p12 : Nat) (p13 : Nat) (kc : Nat) (kl : Nat) (kn : Nat) (ko : Nat) (xb : Int32) (kg : Nat) (g1 : Nat) (g2 : Nat) (g3 : Nat) (g4 : Nat) (g5 : Nat) (fg1 : Nat → Int32) (fg2 : Nat → Int32) (fg3 : Nat → Int32) (fg4 : Nat → Int32) (fg5 : Nat → Int32) (x1 : Int32) (x2 : Int32) (x3 : Int32) (hkn : kn ≤ 10) (hkc : kc ≤ 4) (hkl : kl ≤ 6) (hkg : kg ≤ 20) (hfg1 : sok fg1) : Met l yX10_sight wsX10_sight ({ frames := 1, cells := 0, slots := 0, locals := 24 }) (PC [.ref h0, .int x1, .int x2, .int x3] sz D ca [(h0, .inr (10, [.ref tp, .ref rd, .ref lv, .ref tr, .ref rw, .ref bx, .ref ch, .ref si, .ref dg, .ref pl, .ref pd, .int xz])), (pl, .inr (2, [.int (nI kc), .int (nI kl), .int xb, .int (nI kn), .int (nI ko), .ref p5, .ref p6, .ref p7, .ref p8, .ref p9, .ref p10, .ref p11, .ref p12, .ref p13])), (si, .inr (6, [.int (nI kg), .ref g1, .ref g2, .ref g3, .ref g4, .ref g5])), (g1, .inl (ca 1, 20, .inl fg1)), (g2, .inl (ca 1, 20, .inl fg2)), (g3, .inl (ca 3, 20, .inl fg3)), (g4, .inl (ca 1, 20, .inl fg4)), (g5, .inl (ca 1, 20, .inl fg5))]) (QI (fun (r : Int32) (u : Nat × (Nat → Int32) × (Nat → Int32) × (Nat → Int32) × (Nat → Int32) × (Nat → Int32)) => u.1 ≤ 20 ∧ sok u.2.1) (fun (u : Nat × (Nat → Int32) × (Nat → Int32) × (Nat → Int32) × (Nat → Int32) × (Nat → Int32)) => [(h0, .inr (10, [.ref tp, .ref rd, .ref lv, .ref tr, .ref rw, .ref bx, .ref ch, .ref si, .ref dg, .ref pl, .ref pd, .int xz])), (pl, .inr (2, [.int (nI kc), .int (nI kl), .int xb, .int (nI kn), .int (nI ko), .ref p5, .ref p6, .ref p7, .ref p8, .ref p9, .ref p10, .ref p11, .ref p12, .ref p13])), (si, .inr (6, [.int (nI u.1), .ref g1, .ref g2, .ref g3, .ref g4, .ref g5])), (g1, .inl (ca 1, 20, .inl u.2.1)), (g2, .inl (ca 1, 20, .inl u.2.2.1)), (g3, .inl (ca 3, 20, .inl u.2.2.2.1)), (g4, .inl (ca 1, 20, .inl u.2.2.2.2.1)), (g5, .inl (ca 1, 20, .inl u.2.2.2.2.2))]) [(h0, .inr (10, [.ref tp, .ref rd, .ref lv, .ref tr, .ref rw, .ref bx, .ref ch, .ref si, .ref dg, .ref pl, .ref pd, .int xz])), (pl, .inr (2, [.int (nI kc), .int (nI kl), .int xb, .int (nI kn), .int (nI ko), .ref p5, .ref p6, .ref p7, .ref p8, .ref p9, .ref p10, .ref p11, .ref p12, .ref p13])), (si, .inr (6, [.int (nI kg), .ref g1, .ref g2, .ref g3, .ref g4, .ref g5])), (g1, .inl (ca 1, 20, .inl fg1)), (g2, .inl (ca 1, 20, .inl fg2)), (g3, .inl (ca 3, 20, .inl fg3)), (g4, .inl (ca 1, 20, .inl fg4)), (g5, .inl (ca 1, 20, .inl fg5))] sz D) 0 0 (va_A [(h0, .inr (10, [.ref tp, .ref rd, .ref lv, .ref tr, .ref rw, .ref bx, .ref ch, .ref si, .ref dg, .ref pl, .ref pd, .int xz])), (pl, .inr (2, [.int (nI kc), .int (nI kl), .int xb, .int (nI kn), .int (nI ko), .ref p5, .ref p6, .ref p7, .ref p8, .ref p9, .ref p10, .ref p11, .ref p12, .ref p13])), (si, .inr (6, [.int (nI kg), .ref g1, .ref g2, .ref g3, .ref g4, .ref g5])), (g1, .inl (ca 1, 20, .inl fg1)), (g2, .inl (ca 1, 20, .inl fg2)), (g3, .inl (ca 3, 20, .inl fg3)), (g4, .inl (ca 1, 20, .inl fg4)), (g5, .inl (ca 1, 20, .inl fg5))] sz) := by
  refine Met.ofW (cc := cX10_sight) (maxL := 4) (ret := (some .int)) (by decide +kernel) rfl ?_
  intro p e s m args below meth c s₁ B hml hv
  obtain ⟨rfl, hsz, hP, hC, hD0⟩ := hv
  have hx := B.exec
  have hb := B.bytes
  have hr := B.returns
  have hts := atoms_spec (ws := wsX10_sight) B.pre
  have hown : s.vm.findClass RX10 = some m.cls := findClass_of_methodNamed B.named
  have hlocks := B.notSynchronized
  subst hsz
  have hD := hD0.self (sz := s.heap.size)
  dsimp only [QV, QI, QL, BQ]
  generalize hAe : va_A [(h0, .inr (10, [.ref tp, .ref rd, .ref lv, .ref tr, .ref rw, .ref bx, .ref ch, .ref si, .ref dg, .ref pl, .ref pd, .int xz])), (pl, .inr (2, [.int (nI kc), .int (nI kl), .int xb, .int (nI kn), .int (nI ko), .ref p5, .ref p6, .ref p7, .ref p8, .ref p9, .ref p10, .ref p11, .ref p12, .ref p13])), (si, .inr (6, [.int (nI kg), .ref g1, .ref g2, .ref g3, .ref g4, .ref g5])), (g1, .inl (ca 1, 20, .inl fg1)), (g2, .inl (ca 1, 20, .inl fg2)), (g3, .inl (ca 3, 20, .inl fg3)), (g4, .inl (ca 1, 20, .inl fg4)), (g5, .inl (ca 1, 20, .inl fg5))] s.heap.size = A at hD ⊢
  have hA : ∀ q : Nat, s.heap.size ≤ q → A q := fun q h => by rw [← hAe]; exact Or.inr h
  have hDA : ∀ {w : va_W}, va_D A w → va_D (va_A [(h0, .inr (10, [.ref tp, .ref rd, .ref lv, .ref tr, .ref rw, .ref bx, .ref ch, .ref si, .ref dg, .ref pl, .ref pd, .int xz])), (pl, .inr (2, [.int (nI kc), .int (nI kl), .int xb, .int (nI kn), .int (nI ko), .ref p5, .ref p6, .ref p7, .ref p8, .ref p9, .ref p10, .ref p11, .ref p12, .ref p13])), (si, .inr (6, [.int (nI kg), .ref g1, .ref g2, .ref g3, .ref g4, .ref g5])), (g1, .inl (ca 1, 20, .inl fg1)), (g2, .inl (ca 1, 20, .inl fg2)), (g3, .inl (ca 3, 20, .inl fg3)), (g4, .inl (ca 1, 20, .inl fg4)), (g5, .inl (ca 1, 20, .inl fg5))] s.heap.size) w := fun h => by rw [hAe]; exact h
  have hS : va_S A s.heap s.heap [] := va_S.rf
  have hP : va_P D vwCl [(h0, .inr (10, [.ref tp, .ref rd, .ref lv, .ref tr, .ref rw, .ref bx, .ref ch, .ref si, .ref dg, .ref pl, .ref pd, .int xz])), (pl, .inr (2, [.int (nI kc), .int (nI kl), .int xb, .int (nI kn), .int (nI ko), .ref p5, .ref p6, .ref p7, .ref p8, .ref p9, .ref p10, .ref p11, .ref p12, .ref p13])), (si, .inr (6, [.int (nI kg), .ref g1, .ref g2, .ref g3, .ref g4, .ref g5])), (g1, .inl (ca 1, 20, .inl fg1)), (g2, .inl (ca 1, 20, .inl fg2)), (g3, .inl (ca 3, 20, .inl fg3)), (g4, .inl (ca 1, 20, .inl fg4)), (g5, .inl (ca 1, 20, .inl fg5))] s.heap := hP
  have hl := lv_entry ([.ref h0, .int x1, .int x2, .int x3]) (n := 4) (Nat.le_of_ble_eq_true rfl)
  rw [lg_entry_eq]
  generalize (lg_sl ([.ref h0, .int x1, .int x2, .int x3]) ++ List.replicate (4 - (lg_sl ([.ref h0, .int x1, .int x2, .int x3])).length) Slot.unset).toArray = ls at hl ⊢
  have hl : lv_has ls 4 [(0, .ref h0), (1, .int x1), (2, .int x2), (3, .int x3)] := hl
  refine lv_iload_n hx hb dX10_sight_0 rfl (lv_at hl 1 rfl) ?_
  refine lv_if_lt (tgt := 25) hx hb dX10_sight_1 (by decide +kernel) (fun c_1 => ?_) (fun c_1 => ?_)
  · refine lv_iconst (v := (-1)) hx hb dX10_sight_25 (by decide +kernel) ?_
    exact W.iret (v := (-1)) hx hb hr (fun t ht hW => ⟨⟨(-1), (kg, fg1, fg2, fg3, fg4, fg5), rfl, ⟨(by dsimp only; omega), hfg1⟩, by rw [ht]; exact hP.sub [0, 1, 2, 3, 4, 5, 6, 7] rfl, hDA (hD.sub [0, 1, 2, 3, 4, 5, 6, 7] (by decide +kernel) rfl)⟩, hS.F ht⟩) hS.2.2 dX10_sight_26
  · refine lv_iload_n hx hb dX10_sight_4 rfl (lv_at hl 1 rfl) ?_
    refine lv_bipush (v := 100) hx hb dX10_sight_5 (by decide +kernel) ?_
    refine lv_icmp_ge (tgt := 25) hx hb dX10_sight_7 (by decide +kernel) (fun c_2 => ?_) (fun c_2 => ?_)
    · refine lv_iconst (v := (-1)) hx hb dX10_sight_25 (by decide +kernel) ?_
      exact W.iret (v := (-1)) hx hb hr (fun t ht hW => ⟨⟨(-1), (kg, fg1, fg2, fg3, fg4, fg5), rfl, ⟨(by dsimp only; omega), hfg1⟩, by rw [ht]; exact hP.sub [0, 1, 2, 3, 4, 5, 6, 7] rfl, hDA (hD.sub [0, 1, 2, 3, 4, 5, 6, 7] (by decide +kernel) rfl)⟩, hS.F ht⟩) hS.2.2 dX10_sight_26
    · refine lv_iload_n hx hb dX10_sight_10 rfl (lv_at hl 2 rfl) ?_
      refine lv_if_lt (tgt := 25) hx hb dX10_sight_11 (by decide +kernel) (fun c_3 => ?_) (fun c_3 => ?_)
      · refine lv_iconst (v := (-1)) hx hb dX10_sight_25 (by decide +kernel) ?_
        exact W.iret (v := (-1)) hx hb hr (fun t ht hW => ⟨⟨(-1), (kg, fg1, fg2, fg3, fg4, fg5), rfl, ⟨(by dsimp only; omega), hfg1⟩, by rw [ht]; exact hP.sub [0, 1, 2, 3, 4, 5, 6, 7] rfl, hDA (hD.sub [0, 1, 2, 3, 4, 5, 6, 7] (by decide +kernel) rfl)⟩, hS.F ht⟩) hS.2.2 dX10_sight_26
      · refine lv_iload_n hx hb dX10_sight_14 rfl (lv_at hl 2 rfl) ?_
        refine lv_aload_n hx hb dX10_sight_15 rfl (lv_at hl 0 rfl) ?_
        refine va_get (D := D) (ci := 10) (v := .ref pl) (C := RX10) (T := TX10) (N := 12) hx hb hts iw_X10_sight_10 hown hC.1 hP 0 rfl rfl 9 (by decide +kernel) (hts (.fieldLink RX10 19 "FairWheel" "plan" "LFairWheel$Plan;") (by decide +kernel)) (fun _ h9 => h9) rfl dX10_sight_16 ?_
        refine va_get (D := D) (ci := 2) (v := .int (nI kn)) (C := RX2) (T := TX2) (N := 14) hx hb hts iw_X10_sight_2 hown hC.1 hP 1 rfl rfl 3 (by decide +kernel) (hts (.fieldLink RX10 105 "FairWheel$Plan" "count" "I") (by decide +kernel)) (fun _ h9 => h9) rfl dX10_sight_19 ?_
        refine lv_icmp_lt (tgt := 27) hx hb dX10_sight_22 (by decide +kernel) (fun c_4 => ?_) (fun c_4 => ?_)
        · obtain ⟨k_5, hk_5, rfl⟩ := nI_of c_1
          have nc_2 : ¬ (100 ≤ k_5) := fun h => c_2 ((nI_leI (a := 100) (b := k_5) (by omega) (by omega)).mpr h)
          refine lv_aload_n hx hb dX10_sight_27 rfl (lv_at hl 0 rfl) ?_
          refine va_get (D := D) (ci := 10) (v := .ref si) (C := RX10) (T := TX10) (N := 12) hx hb hts iw_X10_sight_10 hown hC.1 hP 0 rfl rfl 7 (by decide +kernel) (hts (.fieldLink RX10 68 "FairWheel" "sights" "LFairWheel$Sights;") (by decide +kernel)) (fun _ h9 => h9) rfl dX10_sight_28 ?_
          refine lv_iload_n hx hb dX10_sight_31 rfl (lv_at hl 1 rfl) ?_
          refine lv_iload_n hx hb dX10_sight_32 rfl (lv_at hl 2 rfl) ?_
          refine lv_iload_n hx hb dX10_sight_33 rfl (lv_at hl 3 rfl) ?_
          refine lv_aload_n hx hb dX10_sight_34 rfl (lv_at hl 0 rfl) ?_
          refine va_get (D := D) (ci := 10) (v := .int xz) (C := RX10) (T := TX10) (N := 12) hx hb hts iw_X10_sight_10 hown hC.1 hP 0 rfl rfl 11 (by decide +kernel) (hts (.fieldLink RX10 79 "FairWheel" "time" "I") (by decide +kernel)) (fun _ h9 => h9) rfl dX10_sight_35 ?_
          refine kc_i (wr := [(h0, .inr (10, [.ref tp, .ref rd, .ref lv, .ref tr, .ref rw, .ref bx, .ref ch, .ref si, .ref dg, .ref pl, .ref pd, .int xz])), (pl, .inr (2, [.int (nI kc), .int (nI kl), .int xb, .int (nI kn), .int (nI ko), .ref p5, .ref p6, .ref p7, .ref p8, .ref p9, .ref p10, .ref p11, .ref p12, .ref p13]))]) (va_runV (As := [.int (nI k_5), .int x2, .int x3, .int xz]) (rest := []) ⟨hx, hb, hml, hown, hts⟩ (s_X6_add_n l D ca s.heap.size si g1 g2 g3 g4 g5 kg fg1 fg2 fg3 fg4 fg5 k_5 x2 x3 xz (by omega) (by omega) hfg1) (cwV 4 hts gX10_sight_X6_add rfl rfl rfl (by decide +kernel) ⟨(Nat.le_of_ble_eq_true rfl), (Nat.le_of_ble_eq_true rfl)⟩) (PC.preV (ci := 6) hC hP hD [2, 3, 4, 5, 6, 7] rfl (by decide +kernel) rfl rfl) rfl rfl hl.1 rfl (lv_room (Nat.le_of_ble_eq_true rfl)) dX10_sight_38 ⟨(Nat.le_of_ble_eq_true rfl), (Nat.le_of_ble_eq_true rfl)⟩) hP hD hS hA [2, 3, 4, 5, 6, 7] [0, 1] rfl rfl (by decide +kernel) (by decide +kernel) (fun r_6 u_8 H locs hw_7 hP hD hS => ?_)
          obtain ⟨k_9, f_10, f_11, f_12, f_13, f_14⟩ := u_8
          obtain ⟨hu_15, hu_16, hu_17⟩ := hw_7
          have hP : va_P D vwCl [(h0, .inr (10, [.ref tp, .ref rd, .ref lv, .ref tr, .ref rw, .ref bx, .ref ch, .ref si, .ref dg, .ref pl, .ref pd, .int xz])), (pl, .inr (2, [.int (nI kc), .int (nI kl), .int xb, .int (nI kn), .int (nI ko), .ref p5, .ref p6, .ref p7, .ref p8, .ref p9, .ref p10, .ref p11, .ref p12, .ref p13])), (si, .inr (6, [.int (nI k_9), .ref g1, .ref g2, .ref g3, .ref g4, .ref g5])), (g1, .inl (ca 1, 20, .inl f_10)), (g2, .inl (ca 1, 20, .inl f_11)), (g3, .inl (ca 3, 20, .inl f_12)), (g4, .inl (ca 1, 20, .inl f_13)), (g5, .inl (ca 1, 20, .inl f_14))] H := hP
          have hD : va_D A [(h0, .inr (10, [.ref tp, .ref rd, .ref lv, .ref tr, .ref rw, .ref bx, .ref ch, .ref si, .ref dg, .ref pl, .ref pd, .int xz])), (pl, .inr (2, [.int (nI kc), .int (nI kl), .int xb, .int (nI kn), .int (nI ko), .ref p5, .ref p6, .ref p7, .ref p8, .ref p9, .ref p10, .ref p11, .ref p12, .ref p13])), (si, .inr (6, [.int (nI k_9), .ref g1, .ref g2, .ref g3, .ref g4, .ref g5])), (g1, .inl (ca 1, 20, .inl f_10)), (g2, .inl (ca 1, 20, .inl f_11)), (g3, .inl (ca 3, 20, .inl f_12)), (g4, .inl (ca 1, 20, .inl f_13)), (g5, .inl (ca 1, 20, .inl f_14))] := hD
          refine lv_if_eq (tgt := 56) hx hb dX10_sight_41 (by decide +kernel) (fun c_18 => ?_) (fun c_18 => ?_)
          · refine lv_iconst (v := (-1)) hx hb dX10_sight_56 (by decide +kernel) ?_
            exact W.iret (v := (-1)) hx hb hr (fun t ht hW => ⟨⟨(-1), (k_9, f_10, f_11, f_12, f_13, f_14), rfl, ⟨(by dsimp only; omega), hu_17⟩, by rw [ht]; exact hP.sub [0, 1, 2, 3, 4, 5, 6, 7] rfl, hDA (hD.sub [0, 1, 2, 3, 4, 5, 6, 7] (by decide +kernel) rfl)⟩, hS.F ht⟩) hS.2.2 dX10_sight_57
          · refine lv_aload_n hx hb dX10_sight_44 rfl (lv_at hl 0 rfl) ?_
            refine va_get (D := D) (ci := 10) (v := .ref si) (C := RX10) (T := TX10) (N := 12) hx hb hts iw_X10_sight_10 hown hC.1 hP 0 rfl rfl 7 (by decide +kernel) (hts (.fieldLink RX10 68 "FairWheel" "sights" "LFairWheel$Sights;") (by decide +kernel)) (fun _ h9 => h9) rfl dX10_sight_45 ?_
            refine va_get (D := D) (ci := 6) (v := .int (nI k_9)) (C := RX6) (T := TX6) (N := 6) hx hb hts iw_X10_sight_6 hown hC.1 hP 2 rfl rfl 0 (by decide +kernel) (hts (.fieldLink RX10 100 "FairWheel$Sights" "count" "I") (by decide +kernel)) (fun _ h9 => h9) rfl dX10_sight_48 ?_
            refine lv_iconst (v := 1) hx hb dX10_sight_51 (by decide +kernel) ?_
            refine lv_isub hx hb dX10_sight_52 ?_
            refine lv_topi (fun y_19 ey_19 => ?_)
            refine lv_goto (tgt := 57) hx hb dX10_sight_53 (by decide +kernel) ?_
            exact W.iret (v := y_19) hx hb hr (fun t ht hW => ⟨⟨y_19, (k_9, f_10, f_11, f_12, f_13, f_14), rfl, ⟨(by dsimp only; omega), hu_17⟩, by rw [ht]; exact hP.sub [0, 1, 2, 3, 4, 5, 6, 7] rfl, hDA (hD.sub [0, 1, 2, 3, 4, 5, 6, 7] (by decide +kernel) rfl)⟩, hS.F ht⟩) hS.2.2 dX10_sight_57
        · refine lv_iconst (v := (-1)) hx hb dX10_sight_25 (by decide +kernel) ?_
          exact W.iret (v := (-1)) hx hb hr (fun t ht hW => ⟨⟨(-1), (kg, fg1, fg2, fg3, fg4, fg5), rfl, ⟨(by dsimp only; omega), hfg1⟩, by rw [ht]; exact hP.sub [0, 1, 2, 3, 4, 5, 6, 7] rfl, hDA (hD.sub [0, 1, 2, 3, 4, 5, 6, 7] (by decide +kernel) rfl)⟩, hS.F ht⟩) hS.2.2 dX10_sight_26
theorem iw_X10_untell_6 : ∀ w ∈ u_ws RX6 TX6 6, w ∈ wsX10_untell := by decide +kernel
theorem iw_X10_untell_10 : ∀ w ∈ u_ws RX10 TX10 12, w ∈ wsX10_untell := by decide +kernel
set_option maxHeartbeats 4000000 in
set_option maxRecDepth 100000 in
theorem s_X10_untell (l : Launch) (D : va_G) (ca : Nat → ClassId) (sz : Nat) (h0 : Nat) (tp : Nat) (rd : Nat) (lv : Nat) (tr : Nat) (rw : Nat) (bx : Nat) (ch : Nat) (si : Nat) (dg : Nat) (pl : Nat) (pd : Nat) (xz : Int32) (kg : Nat) (g1 : Nat) (g2 : Nat) (g3 : Nat) (g4 : Nat) (g5 : Nat) (fg5 : Nat → Int32) (x1 : Int32) (hkg : kg ≤ 20) : Met l yX10_untell wsX10_untell ({ frames := 0, cells := 0, slots := 0, locals := 0 }) (PC [.ref h0, .int x1] sz D ca [(h0, .inr (10, [.ref tp, .ref rd, .ref lv, .ref tr, .ref rw, .ref bx, .ref ch, .ref si, .ref dg, .ref pl, .ref pd, .int xz])), (si, .inr (6, [.int (nI kg), .ref g1, .ref g2, .ref g3, .ref g4, .ref g5])), (g5, .inl (ca 1, 20, .inl fg5))]) (QI (fun (r : Int32) (u : (Nat → Int32)) => (r = 0 ∨ r = 1)) (fun (u : (Nat → Int32)) => [(h0, .inr (10, [.ref tp, .ref rd, .ref lv, .ref tr, .ref rw, .ref bx, .ref ch, .ref si, .ref dg, .ref pl, .ref pd, .int xz])), (si, .inr (6, [.int (nI kg), .ref g1, .ref g2, .ref g3, .ref g4, .ref g5])), (g5, .inl (ca 1, 20, .inl u))]) [(h0, .inr (10, [.ref tp, .ref rd, .ref lv, .ref tr, .ref rw, .ref bx, .ref ch, .ref si, .ref dg, .ref pl, .ref pd, .int xz])), (si, .inr (6, [.int (nI kg), .ref g1, .ref g2, .ref g3, .ref g4, .ref g5])), (g5, .inl (ca 1, 20, .inl fg5))] sz D) 0 0 (va_A [(h0, .inr (10, [.ref tp, .ref rd, .ref lv, .ref tr, .ref rw, .ref bx, .ref ch, .ref si, .ref dg, .ref pl, .ref pd, .int xz])), (si, .inr (6, [.int (nI kg), .ref g1, .ref g2, .ref g3, .ref g4, .ref g5])), (g5, .inl (ca 1, 20, .inl fg5))] sz) := by
  refine Met.ofW (cc := cX10_untell) (maxL := 2) (ret := (some .boolean)) (by decide +kernel) rfl ?_
  intro p e s m args below meth c s₁ B hml hv
  obtain ⟨rfl, hsz, hP, hC, hD0⟩ := hv
  have hx := B.exec
  have hb := B.bytes
  have hr := B.returns
  have hts := atoms_spec (ws := wsX10_untell) B.pre
  have hown : s.vm.findClass RX10 = some m.cls := findClass_of_methodNamed B.named
  have hlocks := B.notSynchronized
  subst hsz
  have hD := hD0.self (sz := s.heap.size)
  dsimp only [QV, QI, QL, BQ]
  generalize hAe : va_A [(h0, .inr (10, [.ref tp, .ref rd, .ref lv, .ref tr, .ref rw, .ref bx, .ref ch, .ref si, .ref dg, .ref pl, .ref pd, .int xz])), (si, .inr (6, [.int (nI kg), .ref g1, .ref g2, .ref g3, .ref g4, .ref g5])), (g5, .inl (ca 1, 20, .inl fg5))] s.heap.size = A at hD ⊢
  have hA : ∀ q : Nat, s.heap.size ≤ q → A q := fun q h => by rw [← hAe]; exact Or.inr h
  have hDA : ∀ {w : va_W}, va_D A w → va_D (va_A [(h0, .inr (10, [.ref tp, .ref rd, .ref lv, .ref tr, .ref rw, .ref bx, .ref ch, .ref si, .ref dg, .ref pl, .ref pd, .int xz])), (si, .inr (6, [.int (nI kg), .ref g1, .ref g2, .ref g3, .ref g4, .ref g5])), (g5, .inl (ca 1, 20, .inl fg5))] s.heap.size) w := fun h => by rw [hAe]; exact h
  have hS : va_S A s.heap s.heap [] := va_S.rf
  have hP : va_P D vwCl [(h0, .inr (10, [.ref tp, .ref rd, .ref lv, .ref tr, .ref rw, .ref bx, .ref ch, .ref si, .ref dg, .ref pl, .ref pd, .int xz])), (si, .inr (6, [.int (nI kg), .ref g1, .ref g2, .ref g3, .ref g4, .ref g5])), (g5, .inl (ca 1, 20, .inl fg5))] s.heap := hP
  have hl := lv_entry ([.ref h0, .int x1]) (n := 2) (Nat.le_of_ble_eq_true rfl)
  rw [lg_entry_eq]
  generalize (lg_sl ([.ref h0, .int x1]) ++ List.replicate (2 - (lg_sl ([.ref h0, .int x1])).length) Slot.unset).toArray = ls at hl ⊢
  have hl : lv_has ls 2 [(0, .ref h0), (1, .int x1)] := hl
  refine lv_iload_n hx hb dX10_untell_0 rfl (lv_at hl 1 rfl) ?_
  refine lv_if_lt (tgt := 28) hx hb dX10_untell_1 (by decide +kernel) (fun c_1 => ?_) (fun c_1 => ?_)
  · refine lv_iconst (v := 0) hx hb dX10_untell_28 (by decide +kernel) ?_
    exact W.zret (v := 0) hx hb hr (rfl) (fun t ht hW => ⟨⟨0, fg5, rfl, (Or.inl rfl), by rw [ht]; exact hP.sub [0, 1, 2] rfl, hDA (hD.sub [0, 1, 2] (by decide +kernel) rfl)⟩, hS.F ht⟩) hS.2.2 dX10_untell_29
  · refine lv_iload_n hx hb dX10_untell_4 rfl (lv_at hl 1 rfl) ?_
    refine lv_aload_n hx hb dX10_untell_5 rfl (lv_at hl 0 rfl) ?_
    refine va_get (D := D) (ci := 10) (v := .ref si) (C := RX10) (T := TX10) (N := 12) hx hb hts iw_X10_untell_10 hown hC.1 hP 0 rfl rfl 7 (by decide +kernel) (hts (.fieldLink RX10 68 "FairWheel" "sights" "LFairWheel$Sights;") (by decide +kernel)) (fun _ h9 => h9) rfl dX10_untell_6 ?_
    refine va_get (D := D) (ci := 6) (v := .int (nI kg)) (C := RX6) (T := TX6) (N := 6) hx hb hts iw_X10_untell_6 hown hC.1 hP 1 rfl rfl 0 (by decide +kernel) (hts (.fieldLink RX10 100 "FairWheel$Sights" "count" "I") (by decide +kernel)) (fun _ h9 => h9) rfl dX10_untell_9 ?_
    refine lv_icmp_ge (tgt := 28) hx hb dX10_untell_12 (by decide +kernel) (fun c_2 => ?_) (fun c_2 => ?_)
    · refine lv_iconst (v := 0) hx hb dX10_untell_28 (by decide +kernel) ?_
      exact W.zret (v := 0) hx hb hr (rfl) (fun t ht hW => ⟨⟨0, fg5, rfl, (Or.inl rfl), by rw [ht]; exact hP.sub [0, 1, 2] rfl, hDA (hD.sub [0, 1, 2] (by decide +kernel) rfl)⟩, hS.F ht⟩) hS.2.2 dX10_untell_29
    · refine lv_aload_n hx hb dX10_untell_15 rfl (lv_at hl 0 rfl) ?_
      refine va_get (D := D) (ci := 10) (v := .ref si) (C := RX10) (T := TX10) (N := 12) hx hb hts iw_X10_untell_10 hown hC.1 hP 0 rfl rfl 7 (by decide +kernel) (hts (.fieldLink RX10 68 "FairWheel" "sights" "LFairWheel$Sights;") (by decide +kernel)) (fun _ h9 => h9) rfl dX10_untell_16 ?_
      refine va_get (D := D) (ci := 6) (v := .ref g5) (C := RX6) (T := TX6) (N := 6) hx hb hts iw_X10_untell_6 hown hC.1 hP 1 rfl rfl 5 (by decide +kernel) (hts (.fieldLink RX10 252 "FairWheel$Sights" "untold" "[I") (by decide +kernel)) (fun _ h9 => h9) rfl dX10_untell_19 ?_
      refine lv_iload_n hx hb dX10_untell_22 rfl (lv_at hl 1 rfl) ?_
      obtain ⟨k_3, hk_3, rfl⟩ := nI_of c_1
      have nc_2 : ¬ (kg ≤ k_3) := fun h => c_2 ((nI_leI (a := kg) (b := k_3) (by omega) (by omega)).mpr h)
      refine ka_iald hx hb hC.1 hP 2 1 rfl rfl k_3 rfl (by omega) (by decide +kernel) dX10_untell_23 ?_
      refine lv_topi (fun y_4 ey_4 => ?_)
      refine lv_iconst (v := (-1)) hx hb dX10_untell_24 (by decide +kernel) ?_
      refine lv_icmp_eq (tgt := 30) hx hb dX10_untell_25 (by decide +kernel) (fun c_5 => ?_) (fun c_5 => ?_)
      · refine lv_aload_n hx hb dX10_untell_30 rfl (lv_at hl 0 rfl) ?_
        refine va_get (D := D) (ci := 10) (v := .ref si) (C := RX10) (T := TX10) (N := 12) hx hb hts iw_X10_untell_10 hown hC.1 hP 0 rfl rfl 7 (by decide +kernel) (hts (.fieldLink RX10 68 "FairWheel" "sights" "LFairWheel$Sights;") (by decide +kernel)) (fun _ h9 => h9) rfl dX10_untell_31 ?_
        refine va_get (D := D) (ci := 6) (v := .ref g5) (C := RX6) (T := TX6) (N := 6) hx hb hts iw_X10_untell_6 hown hC.1 hP 1 rfl rfl 5 (by decide +kernel) (hts (.fieldLink RX10 252 "FairWheel$Sights" "untold" "[I") (by decide +kernel)) (fun _ h9 => h9) rfl dX10_untell_34 ?_
        refine lv_iload_n hx hb dX10_untell_37 rfl (lv_at hl 1 rfl) ?_
        refine lv_aload_n hx hb dX10_untell_38 rfl (lv_at hl 0 rfl) ?_
        refine va_get (D := D) (ci := 10) (v := .int xz) (C := RX10) (T := TX10) (N := 12) hx hb hts iw_X10_untell_10 hown hC.1 hP 0 rfl rfl 11 (by decide +kernel) (hts (.fieldLink RX10 79 "FairWheel" "time" "I") (by decide +kernel)) (fun _ h9 => h9) rfl dX10_untell_39 ?_
        refine ka_iast hx hb hC.1 hP hD hS 2 1 rfl rfl k_3 rfl (by omega) (by decide +kernel) dX10_untell_42 (fun H locs hP hD hS => ?_)
        have hP : va_P D vwCl [(h0, .inr (10, [.ref tp, .ref rd, .ref lv, .ref tr, .ref rw, .ref bx, .ref ch, .ref si, .ref dg, .ref pl, .ref pd, .int xz])), (si, .inr (6, [.int (nI kg), .ref g1, .ref g2, .ref g3, .ref g4, .ref g5])), (g5, .inl (ca 1, 20, .inl (upd fg5 k_3 xz)))] H := hP
        have hD : va_D A [(h0, .inr (10, [.ref tp, .ref rd, .ref lv, .ref tr, .ref rw, .ref bx, .ref ch, .ref si, .ref dg, .ref pl, .ref pd, .int xz])), (si, .inr (6, [.int (nI kg), .ref g1, .ref g2, .ref g3, .ref g4, .ref g5])), (g5, .inl (ca 1, 20, .inl (upd fg5 k_3 xz)))] := hD
        generalize (upd fg5 k_3 xz) = f_6 at hP hD
        refine lv_iconst (v := 1) hx hb dX10_untell_43 (by decide +kernel) ?_
        exact W.zret (v := 1) hx hb hr (rfl) (fun t ht hW => ⟨⟨1, f_6, rfl, (Or.inr rfl), by rw [ht]; exact hP.sub [0, 1, 2] rfl, hDA (hD.sub [0, 1, 2] (by decide +kernel) rfl)⟩, hS.F ht⟩) hS.2.2 dX10_untell_44
      · refine lv_iconst (v := 0) hx hb dX10_untell_28 (by decide +kernel) ?_
        exact W.zret (v := 0) hx hb hr (rfl) (fun t ht hW => ⟨⟨0, fg5, rfl, (Or.inl rfl), by rw [ht]; exact hP.sub [0, 1, 2] rfl, hDA (hD.sub [0, 1, 2] (by decide +kernel) rfl)⟩, hS.F ht⟩) hS.2.2 dX10_untell_29
theorem iw_X10_later_10 : ∀ w ∈ u_ws RX10 TX10 12, w ∈ wsX10_later := by decide +kernel
set_option maxHeartbeats 4000000 in
set_option maxRecDepth 100000 in
theorem s_X10_later (l : Launch) (D : va_G) (ca : Nat → ClassId) (sz : Nat) (h0 : Nat) (tp : Nat) (rd : Nat) (lv : Nat) (tr : Nat) (rw : Nat) (bx : Nat) (ch : Nat) (si : Nat) (dg : Nat) (pl : Nat) (pd : Nat) (xz : Int32) (x1 : Int32) : Met l yX10_later wsX10_later ({ frames := 0, cells := 0, slots := 0, locals := 0 }) (PC [.ref h0, .int x1] sz D ca [(h0, .inr (10, [.ref tp, .ref rd, .ref lv, .ref tr, .ref rw, .ref bx, .ref ch, .ref si, .ref dg, .ref pl, .ref pd, .int xz]))]) (QI (fun (r : Int32) (u : Int32) => r = sp_lat xz x1 ∧ u = sp_tim xz x1) (fun (u : Int32) => [(h0, .inr (10, [.ref tp, .ref rd, .ref lv, .ref tr, .ref rw, .ref bx, .ref ch, .ref si, .ref dg, .ref pl, .ref pd, .int u]))]) [(h0, .inr (10, [.ref tp, .ref rd, .ref lv, .ref tr, .ref rw, .ref bx, .ref ch, .ref si, .ref dg, .ref pl, .ref pd, .int xz]))] sz D) 0 0 (va_A [(h0, .inr (10, [.ref tp, .ref rd, .ref lv, .ref tr, .ref rw, .ref bx, .ref ch, .ref si, .ref dg, .ref pl, .ref pd, .int xz]))] sz) := by
  refine Met.ofW (cc := cX10_later) (maxL := 2) (ret := (some .int)) (by decide +kernel) rfl ?_
  intro p e s m args below meth c s₁ B hml hv
  obtain ⟨rfl, hsz, hP, hC, hD0⟩ := hv
  have hx := B.exec
  have hb := B.bytes
  have hr := B.returns
  have hts := atoms_spec (ws := wsX10_later) B.pre
  have hown : s.vm.findClass RX10 = some m.cls := findClass_of_methodNamed B.named
  have hlocks := B.notSynchronized
  subst hsz
  have hD := hD0.self (sz := s.heap.size)
  dsimp only [QV, QI, QL, BQ]
  generalize hAe : va_A [(h0, .inr (10, [.ref tp, .ref rd, .ref lv, .ref tr, .ref rw, .ref bx, .ref ch, .ref si, .ref dg, .ref pl, .ref pd, .int xz]))] s.heap.size = A at hD ⊢
  have hA : ∀ q : Nat, s.heap.size ≤ q → A q := fun q h => by rw [← hAe]; exact Or.inr h
  have hDA : ∀ {w : va_W}, va_D A w → va_D (va_A [(h0, .inr (10, [.ref tp, .ref rd, .ref lv, .ref tr, .ref rw, .ref bx, .ref ch, .ref si, .ref dg, .ref pl, .ref pd, .int xz]))] s.heap.size) w := fun h => by rw [hAe]; exact h
  have hS : va_S A s.heap s.heap [] := va_S.rf
  have hP : va_P D vwCl [(h0, .inr (10, [.ref tp, .ref rd, .ref lv, .ref tr, .ref rw, .ref bx, .ref ch, .ref si, .ref dg, .ref pl, .ref pd, .int xz]))] s.heap := hP
  have hl := lv_entry ([.ref h0, .int x1]) (n := 2) (Nat.le_of_ble_eq_true rfl)
  rw [lg_entry_eq]
  generalize (lg_sl ([.ref h0, .int x1]) ++ List.replicate (2 - (lg_sl ([.ref h0, .int x1])).length) Slot.unset).toArray = ls at hl ⊢
  have hl : lv_has ls 2 [(0, .ref h0), (1, .int x1)] := hl
  refine lv_iload_n hx hb dX10_later_0 rfl (lv_at hl 1 rfl) ?_
  refine lv_if_lt (tgt := 22) hx hb dX10_later_1 (by decide +kernel) (fun c_1 => ?_) (fun c_1 => ?_)
  · refine lv_iconst (v := (-1)) hx hb dX10_later_22 (by decide +kernel) ?_
    exact W.iret (v := (-1)) hx hb hr (fun t ht hW => ⟨⟨(-1), xz, rfl, ⟨by unfold sp_lat; rw [if_pos c_1], by unfold sp_tim; rw [if_pos c_1]⟩, by rw [ht]; exact hP.sub [0] rfl, hDA (hD.sub [0] (by decide +kernel) rfl)⟩, hS.F ht⟩) hS.2.2 dX10_later_23
  · refine lv_iload_n hx hb dX10_later_4 rfl (lv_at hl 1 rfl) ?_
    refine lv_sipush (v := 1000) hx hb dX10_later_5 (by decide +kernel) ?_
    refine lv_icmp_gt (tgt := 22) hx hb dX10_later_8 (by decide +kernel) (fun c_2 => ?_) (fun c_2 => ?_)
    · refine lv_iconst (v := (-1)) hx hb dX10_later_22 (by decide +kernel) ?_
      exact W.iret (v := (-1)) hx hb hr (fun t ht hW => ⟨⟨(-1), xz, rfl, ⟨by unfold sp_lat; rw [if_neg c_1, if_pos c_2], by unfold sp_tim; rw [if_neg c_1, if_pos c_2]⟩, by rw [ht]; exact hP.sub [0] rfl, hDA (hD.sub [0] (by decide +kernel) rfl)⟩, hS.F ht⟩) hS.2.2 dX10_later_23
    · refine lv_aload_n hx hb dX10_later_11 rfl (lv_at hl 0 rfl) ?_
      refine va_get (D := D) (ci := 10) (v := .int xz) (C := RX10) (T := TX10) (N := 12) hx hb hts iw_X10_later_10 hown hC.1 hP 0 rfl rfl 11 (by decide +kernel) (hts (.fieldLink RX10 79 "FairWheel" "time" "I") (by decide +kernel)) (fun _ h9 => h9) rfl dX10_later_12 ?_
      refine lv_iload_n hx hb dX10_later_15 rfl (lv_at hl 1 rfl) ?_
      refine lv_iadd hx hb dX10_later_16 ?_
      refine lv_topi (fun y_3 ey_3 => ?_)
      refine lv_ldc (v := 100000) hx hb hown (hts (.constant RX10 255 (100000)) (by decide +kernel)) dX10_later_17 ?_
      refine lv_icmp_le (tgt := 24) hx hb dX10_later_19 (by decide +kernel) (fun c_4 => ?_) (fun c_4 => ?_)
      · refine lv_aload_n hx hb dX10_later_24 rfl (lv_at hl 0 rfl) ?_
        refine lv_dup hx hb dX10_later_25 rfl ?_
        refine va_get (D := D) (ci := 10) (v := .int xz) (C := RX10) (T := TX10) (N := 12) hx hb hts iw_X10_later_10 hown hC.1 hP 0 rfl rfl 11 (by decide +kernel) (hts (.fieldLink RX10 79 "FairWheel" "time" "I") (by decide +kernel)) (fun _ h9 => h9) rfl dX10_later_26 ?_
        refine lv_iload_n hx hb dX10_later_29 rfl (lv_at hl 1 rfl) ?_
        refine lv_iadd hx hb dX10_later_30 ?_
        refine lv_topi (fun y_5 ey_5 => ?_)
        refine va_put (D := D) (ci := 10) (v := .int y_5) (ty := .int) (C := RX10) (T := TX10) (N := 12) hx hb hts iw_X10_later_10 tyX10 tyX10_ok nmX10 hown hC.1 hP hD hS 0 rfl rfl 11 (by decide +kernel) (hts (.fieldLink RX10 79 "FairWheel" "time" "I") (by decide +kernel)) (fun _ h9 => h9) rfl (by decide +kernel) rfl rfl (Nat.le_of_ble_eq_true rfl) dX10_later_31 (fun H locs hP hD hS => ?_)
        have hP : va_P D vwCl [(h0, .inr (10, [.ref tp, .ref rd, .ref lv, .ref tr, .ref rw, .ref bx, .ref ch, .ref si, .ref dg, .ref pl, .ref pd, .int y_5]))] H := hP
        have hD : va_D A [(h0, .inr (10, [.ref tp, .ref rd, .ref lv, .ref tr, .ref rw, .ref bx, .ref ch, .ref si, .ref dg, .ref pl, .ref pd, .int y_5]))] := hD
        refine lv_aload_n hx hb dX10_later_34 rfl (lv_at hl 0 rfl) ?_
        refine va_get (D := D) (ci := 10) (v := .int y_5) (C := RX10) (T := TX10) (N := 12) hx hb hts iw_X10_later_10 hown hC.1 hP 0 rfl rfl 11 (by decide +kernel) (hts (.fieldLink RX10 79 "FairWheel" "time" "I") (by decide +kernel)) (fun _ h9 => h9) rfl dX10_later_35 ?_
        exact W.iret (v := y_5) hx hb hr (fun t ht hW => ⟨⟨y_5, y_5, rfl, ⟨by unfold sp_lat; rw [if_neg c_1, if_neg c_2, if_pos (show xz + x1 ≤ 100000 by rw [← ey_3]; exact c_4)]; exact ey_5, by unfold sp_tim; rw [if_neg c_1, if_neg c_2, if_pos (show xz + x1 ≤ 100000 by rw [← ey_3]; exact c_4)]; exact ey_5⟩, by rw [ht]; exact hP.sub [0] rfl, hDA (hD.sub [0] (by decide +kernel) rfl)⟩, hS.F ht⟩) hS.2.2 dX10_later_38
      · refine lv_iconst (v := (-1)) hx hb dX10_later_22 (by decide +kernel) ?_
        exact W.iret (v := (-1)) hx hb hr (fun t ht hW => ⟨⟨(-1), xz, rfl, ⟨by unfold sp_lat; rw [if_neg c_1, if_neg c_2, if_neg (show ¬ (xz + x1 ≤ 100000) by rw [← ey_3]; exact c_4)], by unfold sp_tim; rw [if_neg c_1, if_neg c_2, if_neg (show ¬ (xz + x1 ≤ 100000) by rw [← ey_3]; exact c_4)]⟩, by rw [ht]; exact hP.sub [0] rfl, hDA (hD.sub [0] (by decide +kernel) rfl)⟩, hS.F ht⟩) hS.2.2 dX10_later_23
