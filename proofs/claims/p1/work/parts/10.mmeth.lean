theorem dX11_isIn_0 : decode cX11_isIn 0 = .ok (.iload_n 0, 1) := by decide +kernel
theorem dX11_isIn_1 : decode cX11_isIn 1 = .ok (.iload_n 1, 1) := by decide +kernel
theorem dX11_isIn_2 : decode cX11_isIn 2 = .ok (.if_icmp .lt 12, 3) := by decide +kernel
theorem dX11_isIn_5 : decode cX11_isIn 5 = .ok (.iload_n 0, 1) := by decide +kernel
theorem dX11_isIn_6 : decode cX11_isIn 6 = .ok (.iload_n 2, 1) := by decide +kernel
theorem dX11_isIn_7 : decode cX11_isIn 7 = .ok (.if_icmp .gt 7, 3) := by decide +kernel
theorem dX11_isIn_14 : decode cX11_isIn 14 = .ok (.iconst 0, 1) := by decide +kernel
theorem dX11_isIn_15 : decode cX11_isIn 15 = .ok (.ireturn, 1) := by decide +kernel
theorem dX11_isIn_10 : decode cX11_isIn 10 = .ok (.iconst 1, 1) := by decide +kernel
theorem dX11_isIn_11 : decode cX11_isIn 11 = .ok (.goto 4, 3) := by decide +kernel
set_option maxRecDepth 20000 in
theorem ggX11_isTask_X11_isIn : GoodIn wsX11_isTask wsX11_isIn := goodIn_r _ [10] (by decide +kernel) (by decide +kernel)
set_option maxRecDepth 20000 in
theorem gX11_isTask_X11_isIn : GoodIn wsX11_isTask (va_wsS RX11 279 yX11_isIn wsX11_isIn) := goodIn_app (goodIn_of _ (by decide +kernel)) ggX11_isTask_X11_isIn
set_option maxRecDepth 20000 in
theorem ggX11_isTask_X11_taskMany : GoodIn wsX11_isTask wsX11_taskMany := goodIn_r _ [5, 6, 7, 11, 12, 13, 14, 15, 16, 17, 18, 19, 20, 21, 22, 23, 24, 25, 26, 27, 28, 29, 30, 31, 32, 33, 34, 35, 36, 37, 38, 39, 40, 41, 42, 43, 44, 45, 46, 47, 48, 49, 50, 51, 52, 53, 54, 55, 56, 57, 58, 59, 60, 61, 62, 63, 64, 65] (by decide +kernel) (by decide +kernel)
set_option maxRecDepth 20000 in
theorem gX11_isTask_X11_taskMany : GoodIn wsX11_isTask (wsV RX11 276 RX11 yX11_taskMany wsX11_taskMany) := goodIn_app (goodIn_of _ (by decide +kernel)) ggX11_isTask_X11_taskMany
theorem dX11_isTask_0 : decode cX11_isTask 0 = .ok (.iload_n 1, 1) := by decide +kernel
theorem dX11_isTask_1 : decode cX11_isTask 1 = .ok (.iconst 0, 1) := by decide +kernel
theorem dX11_isTask_2 : decode cX11_isTask 2 = .ok (.aload_n 0, 1) := by decide +kernel
theorem dX11_isTask_3 : decode cX11_isTask 3 = .ok (.invokevirtual 276, 3) := by decide +kernel
theorem dX11_isTask_6 : decode cX11_isTask 6 = .ok (.iconst 1, 1) := by decide +kernel
theorem dX11_isTask_7 : decode cX11_isTask 7 = .ok (.isub, 1) := by decide +kernel
theorem dX11_isTask_8 : decode cX11_isTask 8 = .ok (.invokestatic 279, 3) := by decide +kernel
theorem dX11_isTask_11 : decode cX11_isTask 11 = .ok (.ireturn, 1) := by decide +kernel
theorem dX11_feed_0 : decode cX11_feed 0 = .ok (.aload_n 0, 1) := by decide +kernel
theorem dX11_feed_1 : decode cX11_feed 1 = .ok (.getfield 241, 3) := by decide +kernel
theorem dX11_feed_4 : decode cX11_feed 4 = .ok (.bipush 20, 2) := by decide +kernel
theorem dX11_feed_6 : decode cX11_feed 6 = .ok (.iadd, 1) := by decide +kernel
theorem dX11_feed_7 : decode cX11_feed 7 = .ok (.sipush 1700, 3) := by decide +kernel
theorem dX11_feed_10 : decode cX11_feed 10 = .ok (.if_icmp .le 5, 3) := by decide +kernel
theorem dX11_feed_15 : decode cX11_feed 15 = .ok (.iconst 0, 1) := by decide +kernel
theorem dX11_feed_16 : decode cX11_feed 16 = .ok (.istore 6, 2) := by decide +kernel
theorem dX11_feed_18 : decode cX11_feed 18 = .ok (.iload 6, 2) := by decide +kernel
theorem dX11_feed_20 : decode cX11_feed 20 = .ok (.bipush 20, 2) := by decide +kernel
theorem dX11_feed_22 : decode cX11_feed 22 = .ok (.if_icmp .ge 83, 3) := by decide +kernel
theorem dX11_feed_25 : decode cX11_feed 25 = .ok (.iload 6, 2) := by decide +kernel
theorem dX11_feed_27 : decode cX11_feed 27 = .ok (.iconst 4, 1) := by decide +kernel
theorem dX11_feed_28 : decode cX11_feed 28 = .ok (.if_icmp .ge 7, 3) := by decide +kernel
theorem dX11_feed_31 : decode cX11_feed 31 = .ok (.iload_n 1, 1) := by decide +kernel
theorem dX11_feed_32 : decode cX11_feed 32 = .ok (.goto 39, 3) := by decide +kernel
theorem dX11_feed_35 : decode cX11_feed 35 = .ok (.iload 6, 2) := by decide +kernel
theorem dX11_feed_37 : decode cX11_feed 37 = .ok (.bipush 8, 2) := by decide +kernel
theorem dX11_feed_39 : decode cX11_feed 39 = .ok (.if_icmp .ge 7, 3) := by decide +kernel
theorem dX11_feed_42 : decode cX11_feed 42 = .ok (.iload_n 2, 1) := by decide +kernel
theorem dX11_feed_43 : decode cX11_feed 43 = .ok (.goto 28, 3) := by decide +kernel
theorem dX11_feed_46 : decode cX11_feed 46 = .ok (.iload 6, 2) := by decide +kernel
theorem dX11_feed_48 : decode cX11_feed 48 = .ok (.bipush 12, 2) := by decide +kernel
theorem dX11_feed_50 : decode cX11_feed 50 = .ok (.if_icmp .ge 7, 3) := by decide +kernel
theorem dX11_feed_53 : decode cX11_feed 53 = .ok (.iload_n 3, 1) := by decide +kernel
theorem dX11_feed_54 : decode cX11_feed 54 = .ok (.goto 17, 3) := by decide +kernel
theorem dX11_feed_57 : decode cX11_feed 57 = .ok (.iload 6, 2) := by decide +kernel
theorem dX11_feed_59 : decode cX11_feed 59 = .ok (.bipush 16, 2) := by decide +kernel
theorem dX11_feed_61 : decode cX11_feed 61 = .ok (.if_icmp .ge 8, 3) := by decide +kernel
theorem dX11_feed_64 : decode cX11_feed 64 = .ok (.iload 4, 2) := by decide +kernel
theorem dX11_feed_66 : decode cX11_feed 66 = .ok (.goto 5, 3) := by decide +kernel
theorem dX11_feed_69 : decode cX11_feed 69 = .ok (.iload 5, 2) := by decide +kernel
theorem dX11_feed_71 : decode cX11_feed 71 = .ok (.istore 7, 2) := by decide +kernel
theorem dX11_feed_73 : decode cX11_feed 73 = .ok (.aload_n 0, 1) := by decide +kernel
theorem dX11_feed_74 : decode cX11_feed 74 = .ok (.getfield 7, 3) := by decide +kernel
theorem dX11_feed_77 : decode cX11_feed 77 = .ok (.aload_n 0, 1) := by decide +kernel
theorem dX11_feed_78 : decode cX11_feed 78 = .ok (.getfield 241, 3) := by decide +kernel
theorem dX11_feed_81 : decode cX11_feed 81 = .ok (.iload 6, 2) := by decide +kernel
theorem dX11_feed_83 : decode cX11_feed 83 = .ok (.iadd, 1) := by decide +kernel
theorem dX11_feed_84 : decode cX11_feed 84 = .ok (.iload 7, 2) := by decide +kernel
theorem dX11_feed_86 : decode cX11_feed 86 = .ok (.bipush 24, 2) := by decide +kernel
theorem dX11_feed_88 : decode cX11_feed 88 = .ok (.bipush 8, 2) := by decide +kernel
theorem dX11_feed_90 : decode cX11_feed 90 = .ok (.iload 6, 2) := by decide +kernel
theorem dX11_feed_92 : decode cX11_feed 92 = .ok (.iconst 3, 1) := by decide +kernel
theorem dX11_feed_93 : decode cX11_feed 93 = .ok (.iand, 1) := by decide +kernel
theorem dX11_feed_94 : decode cX11_feed 94 = .ok (.imul, 1) := by decide +kernel
theorem dX11_feed_95 : decode cX11_feed 95 = .ok (.isub, 1) := by decide +kernel
theorem dX11_feed_96 : decode cX11_feed 96 = .ok (.ishr, 1) := by decide +kernel
theorem dX11_feed_97 : decode cX11_feed 97 = .ok (.i2b, 1) := by decide +kernel
theorem dX11_feed_98 : decode cX11_feed 98 = .ok (.bastore, 1) := by decide +kernel
theorem dX11_feed_99 : decode cX11_feed 99 = .ok (.iinc 6 1, 3) := by decide +kernel
theorem dX11_feed_102 : decode cX11_feed 102 = .ok (.goto (-84), 3) := by decide +kernel
theorem dX11_feed_105 : decode cX11_feed 105 = .ok (.aload_n 0, 1) := by decide +kernel
theorem dX11_feed_106 : decode cX11_feed 106 = .ok (.dup, 1) := by decide +kernel
theorem dX11_feed_107 : decode cX11_feed 107 = .ok (.getfield 241, 3) := by decide +kernel
theorem dX11_feed_110 : decode cX11_feed 110 = .ok (.bipush 20, 2) := by decide +kernel
theorem dX11_feed_112 : decode cX11_feed 112 = .ok (.iadd, 1) := by decide +kernel
theorem dX11_feed_113 : decode cX11_feed 113 = .ok (.putfield 241, 3) := by decide +kernel
theorem dX11_feed_116 : decode cX11_feed 116 = .ok (.aload_n 0, 1) := by decide +kernel
theorem dX11_feed_117 : decode cX11_feed 117 = .ok (.getfield 241, 3) := by decide +kernel
theorem dX11_feed_120 : decode cX11_feed 120 = .ok (.ireturn, 1) := by decide +kernel
theorem dX11_end_0 : decode cX11_end 0 = .ok (.iload_n 1, 1) := by decide +kernel
theorem dX11_end_1 : decode cX11_end 1 = .ok (.ifCond .lt 11, 3) := by decide +kernel
theorem dX11_end_4 : decode cX11_end 4 = .ok (.iload_n 1, 1) := by decide +kernel
theorem dX11_end_5 : decode cX11_end 5 = .ok (.aload_n 0, 1) := by decide +kernel
theorem dX11_end_6 : decode cX11_end 6 = .ok (.getfield 241, 3) := by decide +kernel
theorem dX11_end_9 : decode cX11_end 9 = .ok (.if_icmp .le 5, 3) := by decide +kernel
theorem dX11_end_12 : decode cX11_end 12 = .ok (.iconst (-1), 1) := by decide +kernel
theorem dX11_end_13 : decode cX11_end 13 = .ok (.ireturn, 1) := by decide +kernel
theorem dX11_end_14 : decode cX11_end 14 = .ok (.aload_n 0, 1) := by decide +kernel
theorem dX11_end_15 : decode cX11_end 15 = .ok (.iload_n 1, 1) := by decide +kernel
theorem dX11_end_16 : decode cX11_end 16 = .ok (.putfield 241, 3) := by decide +kernel
theorem dX11_end_19 : decode cX11_end 19 = .ok (.iload_n 1, 1) := by decide +kernel
theorem dX11_end_20 : decode cX11_end 20 = .ok (.ireturn, 1) := by decide +kernel
theorem dX11_fault_0 : decode cX11_fault 0 = .ok (.iload_n 1, 1) := by decide +kernel
theorem dX11_fault_1 : decode cX11_fault 1 = .ok (.ifCond .ne 10, 3) := by decide +kernel
theorem dX11_fault_4 : decode cX11_fault 4 = .ok (.aload_n 0, 1) := by decide +kernel
theorem dX11_fault_5 : decode cX11_fault 5 = .ok (.getfield 143, 3) := by decide +kernel
theorem dX11_fault_8 : decode cX11_fault 8 = .ok (.goto 16, 3) := by decide +kernel
theorem dX11_fault_11 : decode cX11_fault 11 = .ok (.iload_n 1, 1) := by decide +kernel
theorem dX11_fault_12 : decode cX11_fault 12 = .ok (.iconst 1, 1) := by decide +kernel
theorem dX11_fault_13 : decode cX11_fault 13 = .ok (.if_icmp .ne 10, 3) := by decide +kernel
theorem dX11_fault_16 : decode cX11_fault 16 = .ok (.aload_n 0, 1) := by decide +kernel
theorem dX11_fault_17 : decode cX11_fault 17 = .ok (.getfield 16, 3) := by decide +kernel
theorem dX11_fault_20 : decode cX11_fault 20 = .ok (.goto 4, 3) := by decide +kernel
theorem dX11_fault_23 : decode cX11_fault 23 = .ok (.iconst (-1), 1) := by decide +kernel
theorem dX11_fault_24 : decode cX11_fault 24 = .ok (.ireturn, 1) := by decide +kernel
set_option maxRecDepth 20000 in
theorem ggX11_chosen_X11_isIn : GoodIn wsX11_chosen wsX11_isIn := goodIn_r _ [8] (by decide +kernel) (by decide +kernel)
set_option maxRecDepth 20000 in
theorem gX11_chosen_X11_isIn : GoodIn wsX11_chosen (va_wsS RX11 279 yX11_isIn wsX11_isIn) := goodIn_app (goodIn_of _ (by decide +kernel)) ggX11_chosen_X11_isIn
theorem dX11_chosen_0 : decode cX11_chosen 0 = .ok (.iload_n 1, 1) := by decide +kernel
theorem dX11_chosen_1 : decode cX11_chosen 1 = .ok (.iconst 0, 1) := by decide +kernel
theorem dX11_chosen_2 : decode cX11_chosen 2 = .ok (.aload_n 0, 1) := by decide +kernel
theorem dX11_chosen_3 : decode cX11_chosen 3 = .ok (.getfield 74, 3) := by decide +kernel
theorem dX11_chosen_6 : decode cX11_chosen 6 = .ok (.sipush 330, 3) := by decide +kernel
theorem dX11_chosen_9 : decode cX11_chosen 9 = .ok (.iaload, 1) := by decide +kernel
theorem dX11_chosen_10 : decode cX11_chosen 10 = .ok (.iconst 1, 1) := by decide +kernel
theorem dX11_chosen_11 : decode cX11_chosen 11 = .ok (.isub, 1) := by decide +kernel
theorem dX11_chosen_12 : decode cX11_chosen 12 = .ok (.invokestatic 279, 3) := by decide +kernel
theorem dX11_chosen_15 : decode cX11_chosen 15 = .ok (.ifCond .eq 35, 3) := by decide +kernel
theorem dX11_chosen_50 : decode cX11_chosen 50 = .ok (.iconst (-1), 1) := by decide +kernel
theorem dX11_chosen_51 : decode cX11_chosen 51 = .ok (.ireturn, 1) := by decide +kernel
set_option maxRecDepth 20000 in
theorem ggX11_task_X11_isTask : GoodIn wsX11_task wsX11_isTask := goodIn_r _ [5, 6, 7, 8, 4, 9, 10, 11, 12, 13, 14, 20, 21, 22, 23, 24, 25, 26, 27, 28, 29, 30, 31, 32, 33, 34, 35, 36, 37, 38, 39, 40, 41, 42, 43, 44, 45, 46, 47, 48, 49, 50, 51, 52, 53, 54, 55, 56, 57, 58, 59, 60, 61, 62, 63, 64, 65, 66, 67, 68, 69, 70, 71, 72, 73, 74] (by decide +kernel) (by decide +kernel)
set_option maxRecDepth 20000 in
theorem gX11_task_X11_isTask : GoodIn wsX11_task (wsV RX11 365 RX11 yX11_isTask wsX11_isTask) := goodIn_app (goodIn_of _ (by decide +kernel)) ggX11_task_X11_isTask
theorem dX11_task_0 : decode cX11_task 0 = .ok (.aload_n 0, 1) := by decide +kernel
theorem dX11_task_1 : decode cX11_task 1 = .ok (.iload_n 1, 1) := by decide +kernel
theorem dX11_task_2 : decode cX11_task 2 = .ok (.invokevirtual 365, 3) := by decide +kernel
theorem dX11_task_5 : decode cX11_task 5 = .ok (.ifCond .ne 6, 3) := by decide +kernel
theorem dX11_task_8 : decode cX11_task 8 = .ok (.bipush (-2), 2) := by decide +kernel
theorem dX11_task_10 : decode cX11_task 10 = .ok (.ireturn, 1) := by decide +kernel
set_option maxRecDepth 20000 in
theorem ggX11_place_X11_isTask : GoodIn wsX11_place wsX11_isTask := goodIn_r _ [5, 6, 7, 8, 4, 9, 10, 11, 12, 13, 14, 41, 42, 43, 44, 45, 46, 47, 48, 49, 50, 51, 52, 53, 54, 55, 56, 57, 58, 59, 60, 61, 62, 63, 64, 65, 66, 67, 68, 69, 70, 71, 72, 73, 74, 75, 76, 77, 78, 79, 80, 81, 82, 83, 84, 85, 86, 87, 88, 89, 90, 91, 92, 93, 94, 95] (by decide +kernel) (by decide +kernel)
set_option maxRecDepth 20000 in
theorem gX11_place_X11_isTask : GoodIn wsX11_place (wsV RX11 365 RX11 yX11_isTask wsX11_isTask) := goodIn_app (goodIn_of _ (by decide +kernel)) ggX11_place_X11_isTask
theorem dX11_place_0 : decode cX11_place 0 = .ok (.aload_n 0, 1) := by decide +kernel
theorem dX11_place_1 : decode cX11_place 1 = .ok (.iload_n 1, 1) := by decide +kernel
theorem dX11_place_2 : decode cX11_place 2 = .ok (.invokevirtual 365, 3) := by decide +kernel
theorem dX11_place_5 : decode cX11_place 5 = .ok (.ifCond .eq 21, 3) := by decide +kernel
theorem dX11_place_26 : decode cX11_place 26 = .ok (.iconst (-1), 1) := by decide +kernel
theorem dX11_place_27 : decode cX11_place 27 = .ok (.ireturn, 1) := by decide +kernel
set_option maxRecDepth 20000 in
theorem ggX11_ring_X11_isTask : GoodIn wsX11_ring wsX11_isTask := goodIn_r _ [5, 6, 7, 8, 4, 9, 10, 11, 12, 13, 14, 20, 21, 22, 23, 24, 25, 26, 27, 28, 29, 30, 31, 32, 33, 34, 35, 36, 37, 38, 39, 40, 41, 42, 43, 44, 45, 46, 47, 48, 49, 50, 51, 52, 53, 54, 55, 56, 57, 58, 59, 60, 61, 62, 63, 64, 65, 66, 67, 68, 69, 70, 71, 72, 73, 74] (by decide +kernel) (by decide +kernel)
set_option maxRecDepth 20000 in
theorem gX11_ring_X11_isTask : GoodIn wsX11_ring (wsV RX11 365 RX11 yX11_isTask wsX11_isTask) := goodIn_app (goodIn_of _ (by decide +kernel)) ggX11_ring_X11_isTask
theorem dX11_ring_0 : decode cX11_ring 0 = .ok (.aload_n 0, 1) := by decide +kernel
theorem dX11_ring_1 : decode cX11_ring 1 = .ok (.iload_n 1, 1) := by decide +kernel
theorem dX11_ring_2 : decode cX11_ring 2 = .ok (.invokevirtual 365, 3) := by decide +kernel
theorem dX11_ring_5 : decode cX11_ring 5 = .ok (.ifCond .eq 32, 3) := by decide +kernel
theorem dX11_ring_37 : decode cX11_ring 37 = .ok (.iconst (-1), 1) := by decide +kernel
theorem dX11_ring_38 : decode cX11_ring 38 = .ok (.ireturn, 1) := by decide +kernel
set_option maxRecDepth 20000 in
theorem ggX11_share_X11_isTask : GoodIn wsX11_share wsX11_isTask := goodIn_r _ [5, 6, 7, 8, 4, 9, 10, 11, 12, 13, 14, 24, 25, 26, 27, 28, 29, 30, 31, 32, 33, 34, 35, 36, 37, 38, 39, 40, 41, 42, 43, 44, 45, 46, 47, 48, 49, 50, 51, 52, 53, 54, 55, 56, 57, 58, 59, 60, 61, 62, 63, 64, 65, 66, 67, 68, 69, 70, 71, 72, 73, 74, 75, 76, 77, 78] (by decide +kernel) (by decide +kernel)
set_option maxRecDepth 20000 in
theorem gX11_share_X11_isTask : GoodIn wsX11_share (wsV RX11 365 RX11 yX11_isTask wsX11_isTask) := goodIn_app (goodIn_of _ (by decide +kernel)) ggX11_share_X11_isTask
theorem dX11_share_0 : decode cX11_share 0 = .ok (.aload_n 0, 1) := by decide +kernel
theorem dX11_share_1 : decode cX11_share 1 = .ok (.iload_n 1, 1) := by decide +kernel
theorem dX11_share_2 : decode cX11_share 2 = .ok (.invokevirtual 365, 3) := by decide +kernel
theorem dX11_share_5 : decode cX11_share 5 = .ok (.ifCond .eq 24, 3) := by decide +kernel
theorem dX11_share_29 : decode cX11_share 29 = .ok (.iconst (-1), 1) := by decide +kernel
theorem dX11_share_30 : decode cX11_share 30 = .ok (.ireturn, 1) := by decide +kernel
set_option maxRecDepth 20000 in
theorem ggX11_kill_X11_isTask : GoodIn wsX11_kill wsX11_isTask := goodIn_r _ [5, 6, 7, 8, 4, 9, 10, 11, 12, 13, 14, 84, 85, 86, 87, 88, 89, 90, 91, 92, 93, 94, 95, 96, 97, 98, 99, 100, 101, 102, 103, 104, 105, 106, 107, 108, 109, 110, 111, 112, 113, 114, 115, 116, 117, 118, 119, 120, 121, 122, 123, 124, 125, 126, 127, 128, 129, 130, 131, 132, 133, 134, 135, 136, 137, 138] (by decide +kernel) (by decide +kernel)
set_option maxRecDepth 20000 in
theorem gX11_kill_X11_isTask : GoodIn wsX11_kill (wsV RX11 365 RX11 yX11_isTask wsX11_isTask) := goodIn_app (goodIn_of _ (by decide +kernel)) ggX11_kill_X11_isTask
theorem dX11_kill_0 : decode cX11_kill 0 = .ok (.aload_n 0, 1) := by decide +kernel
theorem dX11_kill_1 : decode cX11_kill 1 = .ok (.iload_n 1, 1) := by decide +kernel
theorem dX11_kill_2 : decode cX11_kill 2 = .ok (.invokevirtual 365, 3) := by decide +kernel
theorem dX11_kill_5 : decode cX11_kill 5 = .ok (.ifCond .eq 13, 3) := by decide +kernel
theorem dX11_kill_18 : decode cX11_kill 18 = .ok (.iconst 0, 1) := by decide +kernel
theorem dX11_kill_19 : decode cX11_kill 19 = .ok (.ireturn, 1) := by decide +kernel
set_option maxRecDepth 20000 in
theorem ggX11_wake_X11_isTask : GoodIn wsX11_wake wsX11_isTask := goodIn_r _ [5, 6, 7, 8, 4, 9, 10, 11, 12, 13, 14, 84, 85, 86, 87, 88, 89, 90, 91, 92, 93, 94, 95, 96, 97, 98, 99, 100, 101, 102, 103, 104, 105, 106, 107, 108, 109, 110, 111, 112, 113, 114, 115, 116, 117, 118, 119, 120, 121, 122, 123, 124, 125, 126, 127, 128, 129, 130, 131, 132, 133, 134, 135, 136, 137, 138] (by decide +kernel) (by decide +kernel)
set_option maxRecDepth 20000 in
theorem gX11_wake_X11_isTask : GoodIn wsX11_wake (wsV RX11 365 RX11 yX11_isTask wsX11_isTask) := goodIn_app (goodIn_of _ (by decide +kernel)) ggX11_wake_X11_isTask
theorem dX11_wake_0 : decode cX11_wake 0 = .ok (.aload_n 0, 1) := by decide +kernel
theorem dX11_wake_1 : decode cX11_wake 1 = .ok (.iload_n 1, 1) := by decide +kernel
theorem dX11_wake_2 : decode cX11_wake 2 = .ok (.invokevirtual 365, 3) := by decide +kernel
theorem dX11_wake_5 : decode cX11_wake 5 = .ok (.ifCond .eq 23, 3) := by decide +kernel
theorem dX11_wake_28 : decode cX11_wake 28 = .ok (.iconst 0, 1) := by decide +kernel
theorem dX11_wake_29 : decode cX11_wake 29 = .ok (.ireturn, 1) := by decide +kernel
set_option maxRecDepth 20000 in
theorem ggX11_soon_X11_isTask : GoodIn wsX11_soon wsX11_isTask := goodIn_r _ [6, 7, 8, 9, 5, 10, 11, 12, 13, 14, 15, 78, 79, 80, 81, 82, 83, 84, 85, 86, 87, 88, 89, 90, 91, 92, 93, 94, 95, 96, 97, 98, 99, 100, 101, 102, 103, 104, 105, 106, 107, 108, 109, 110, 111, 112, 113, 114, 115, 116, 117, 118, 119, 120, 121, 122, 123, 124, 125, 126, 127, 128, 129, 130, 131, 132] (by decide +kernel) (by decide +kernel)
set_option maxRecDepth 20000 in
theorem gX11_soon_X11_isTask : GoodIn wsX11_soon (wsV RX11 365 RX11 yX11_isTask wsX11_isTask) := goodIn_app (goodIn_of _ (by decide +kernel)) ggX11_soon_X11_isTask
theorem dX11_soon_0 : decode cX11_soon 0 = .ok (.aload_n 0, 1) := by decide +kernel
theorem dX11_soon_1 : decode cX11_soon 1 = .ok (.iload_n 1, 1) := by decide +kernel
theorem dX11_soon_2 : decode cX11_soon 2 = .ok (.invokevirtual 365, 3) := by decide +kernel
theorem dX11_soon_5 : decode cX11_soon 5 = .ok (.ifCond .eq 11, 3) := by decide +kernel
theorem dX11_soon_16 : decode cX11_soon 16 = .ok (.iconst (-1), 1) := by decide +kernel
theorem dX11_soon_17 : decode cX11_soon 17 = .ok (.ireturn, 1) := by decide +kernel
set_option maxRecDepth 20000 in
theorem ggX11_enough_X11_isTask : GoodIn wsX11_enough wsX11_isTask := goodIn_r _ [5, 6, 7, 8, 4, 9, 10, 11, 12, 13, 14, 139, 140, 141, 142, 143, 144, 145, 146, 147, 148, 149, 150, 151, 152, 153, 154, 155, 156, 157, 158, 159, 160, 161, 162, 163, 164, 165, 166, 167, 168, 169, 170, 171, 172, 173, 174, 175, 176, 177, 178, 179, 180, 181, 182, 183, 184, 185, 186, 187, 188, 189, 190, 191, 192, 193] (by decide +kernel) (by decide +kernel)
set_option maxRecDepth 20000 in
theorem gX11_enough_X11_isTask : GoodIn wsX11_enough (wsV RX11 365 RX11 yX11_isTask wsX11_isTask) := goodIn_app (goodIn_of _ (by decide +kernel)) ggX11_enough_X11_isTask
theorem dX11_enough_0 : decode cX11_enough 0 = .ok (.aload_n 0, 1) := by decide +kernel
theorem dX11_enough_1 : decode cX11_enough 1 = .ok (.iload_n 1, 1) := by decide +kernel
theorem dX11_enough_2 : decode cX11_enough 2 = .ok (.invokevirtual 365, 3) := by decide +kernel
theorem dX11_enough_5 : decode cX11_enough 5 = .ok (.ifCond .eq 23, 3) := by decide +kernel
theorem dX11_enough_28 : decode cX11_enough 28 = .ok (.iconst (-1), 1) := by decide +kernel
theorem dX11_enough_29 : decode cX11_enough 29 = .ok (.ireturn, 1) := by decide +kernel
set_option maxRecDepth 20000 in
theorem ggX11_fits_X11_isTask : GoodIn wsX11_fits wsX11_isTask := goodIn_r _ [6, 7, 8, 9, 5, 10, 11, 12, 13, 14, 15, 155, 156, 157, 158, 159, 160, 161, 162, 163, 164, 165, 166, 167, 168, 169, 170, 171, 172, 173, 174, 175, 176, 177, 178, 179, 180, 181, 182, 183, 184, 185, 186, 187, 188, 189, 190, 191, 192, 193, 194, 195, 196, 197, 198, 199, 200, 201, 202, 203, 204, 205, 206, 207, 208, 209] (by decide +kernel) (by decide +kernel)
set_option maxRecDepth 20000 in
theorem gX11_fits_X11_isTask : GoodIn wsX11_fits (wsV RX11 365 RX11 yX11_isTask wsX11_isTask) := goodIn_app (goodIn_of _ (by decide +kernel)) ggX11_fits_X11_isTask
theorem dX11_fits_0 : decode cX11_fits 0 = .ok (.aload_n 0, 1) := by decide +kernel
theorem dX11_fits_1 : decode cX11_fits 1 = .ok (.iload_n 1, 1) := by decide +kernel
theorem dX11_fits_2 : decode cX11_fits 2 = .ok (.invokevirtual 365, 3) := by decide +kernel
theorem dX11_fits_5 : decode cX11_fits 5 = .ok (.ifCond .ne 7, 3) := by decide +kernel
theorem dX11_fits_8 : decode cX11_fits 8 = .ok (.ldc2_w 374, 3) := by decide +kernel
theorem dX11_fits_11 : decode cX11_fits 11 = .ok (.lreturn, 1) := by decide +kernel
set_option maxRecDepth 20000 in
theorem ggX11_holder_X11_isIn : GoodIn wsX11_holder wsX11_isIn := goodIn_r _ [7] (by decide +kernel) (by decide +kernel)
set_option maxRecDepth 20000 in
theorem gX11_holder_X11_isIn : GoodIn wsX11_holder (va_wsS RX11 279 yX11_isIn wsX11_isIn) := goodIn_app (goodIn_of _ (by decide +kernel)) ggX11_holder_X11_isIn
theorem dX11_holder_0 : decode cX11_holder 0 = .ok (.iload_n 1, 1) := by decide +kernel
theorem dX11_holder_1 : decode cX11_holder 1 = .ok (.iconst 0, 1) := by decide +kernel
theorem dX11_holder_2 : decode cX11_holder 2 = .ok (.aload_n 0, 1) := by decide +kernel
theorem dX11_holder_3 : decode cX11_holder 3 = .ok (.getfield 24, 3) := by decide +kernel
theorem dX11_holder_6 : decode cX11_holder 6 = .ok (.aload_n 0, 1) := by decide +kernel
theorem dX11_holder_7 : decode cX11_holder 7 = .ok (.getfield 244, 3) := by decide +kernel
theorem dX11_holder_10 : decode cX11_holder 10 = .ok (.iaload, 1) := by decide +kernel
theorem dX11_holder_11 : decode cX11_holder 11 = .ok (.iconst 1, 1) := by decide +kernel
theorem dX11_holder_12 : decode cX11_holder 12 = .ok (.isub, 1) := by decide +kernel
theorem dX11_holder_13 : decode cX11_holder 13 = .ok (.invokestatic 279, 3) := by decide +kernel
theorem dX11_holder_16 : decode cX11_holder 16 = .ok (.ifCond .eq 16, 3) := by decide +kernel
theorem dX11_holder_32 : decode cX11_holder 32 = .ok (.iconst (-1), 1) := by decide +kernel
theorem dX11_holder_33 : decode cX11_holder 33 = .ok (.ireturn, 1) := by decide +kernel
set_option maxRecDepth 20000 in
theorem ggX11_waits_X11_isIn : GoodIn wsX11_waits wsX11_isIn := goodIn_r _ [6] (by decide +kernel) (by decide +kernel)
set_option maxRecDepth 20000 in
theorem gX11_waits_X11_isIn : GoodIn wsX11_waits (va_wsS RX11 279 yX11_isIn wsX11_isIn) := goodIn_app (goodIn_of _ (by decide +kernel)) ggX11_waits_X11_isIn
theorem dX11_waits_0 : decode cX11_waits 0 = .ok (.iload_n 1, 1) := by decide +kernel
theorem dX11_waits_1 : decode cX11_waits 1 = .ok (.iconst 0, 1) := by decide +kernel
theorem dX11_waits_2 : decode cX11_waits 2 = .ok (.aload_n 0, 1) := by decide +kernel
theorem dX11_waits_3 : decode cX11_waits 3 = .ok (.getfield 24, 3) := by decide +kernel
theorem dX11_waits_6 : decode cX11_waits 6 = .ok (.aload_n 0, 1) := by decide +kernel
theorem dX11_waits_7 : decode cX11_waits 7 = .ok (.getfield 244, 3) := by decide +kernel
theorem dX11_waits_10 : decode cX11_waits 10 = .ok (.iaload, 1) := by decide +kernel
theorem dX11_waits_11 : decode cX11_waits 11 = .ok (.iconst 1, 1) := by decide +kernel
theorem dX11_waits_12 : decode cX11_waits 12 = .ok (.isub, 1) := by decide +kernel
theorem dX11_waits_13 : decode cX11_waits 13 = .ok (.invokestatic 279, 3) := by decide +kernel
theorem dX11_waits_16 : decode cX11_waits 16 = .ok (.ifCond .ne 5, 3) := by decide +kernel
theorem dX11_waits_19 : decode cX11_waits 19 = .ok (.iconst (-1), 1) := by decide +kernel
theorem dX11_waits_20 : decode cX11_waits 20 = .ok (.ireturn, 1) := by decide +kernel
set_option maxRecDepth 20000 in
theorem ggX11_load_X11_isIn : GoodIn wsX11_load wsX11_isIn := goodIn_r _ [8] (by decide +kernel) (by decide +kernel)
set_option maxRecDepth 20000 in
theorem gX11_load_X11_isIn : GoodIn wsX11_load (va_wsS RX11 279 yX11_isIn wsX11_isIn) := goodIn_app (goodIn_of _ (by decide +kernel)) ggX11_load_X11_isIn
set_option maxRecDepth 20000 in
theorem ggX11_load_X11_taskMany : GoodIn wsX11_load wsX11_taskMany := goodIn_r _ [12, 13, 3, 31, 32, 33, 34, 35, 36, 37, 38, 39, 40, 41, 42, 43, 44, 45, 46, 47, 48, 49, 50, 51, 52, 53, 54, 55, 56, 57, 58, 59, 60, 61, 62, 63, 64, 65, 66, 67, 68, 69, 70, 71, 72, 73, 74, 75, 76, 77, 78, 79, 80, 81, 82, 83, 84, 85] (by decide +kernel) (by decide +kernel)
set_option maxRecDepth 20000 in
theorem gX11_load_X11_taskMany : GoodIn wsX11_load (wsV RX11 276 RX11 yX11_taskMany wsX11_taskMany) := goodIn_app (goodIn_of _ (by decide +kernel)) ggX11_load_X11_taskMany
theorem dX11_load_0 : decode cX11_load 0 = .ok (.iload_n 1, 1) := by decide +kernel
theorem dX11_load_1 : decode cX11_load 1 = .ok (.iconst 0, 1) := by decide +kernel
theorem dX11_load_2 : decode cX11_load 2 = .ok (.iconst 1, 1) := by decide +kernel
theorem dX11_load_3 : decode cX11_load 3 = .ok (.invokestatic 279, 3) := by decide +kernel
theorem dX11_load_6 : decode cX11_load 6 = .ok (.ifCond .ne 7, 3) := by decide +kernel
theorem dX11_load_9 : decode cX11_load 9 = .ok (.ldc2_w 374, 3) := by decide +kernel
theorem dX11_load_12 : decode cX11_load 12 = .ok (.lreturn, 1) := by decide +kernel
theorem dX11_load_13 : decode cX11_load 13 = .ok (.lconst 0, 1) := by decide +kernel
theorem dX11_load_14 : decode cX11_load 14 = .ok (.lstore_n 2, 1) := by decide +kernel
theorem dX11_load_15 : decode cX11_load 15 = .ok (.lconst 1, 1) := by decide +kernel
theorem dX11_load_16 : decode cX11_load 16 = .ok (.lstore 4, 2) := by decide +kernel
theorem dX11_load_18 : decode cX11_load 18 = .ok (.iconst 0, 1) := by decide +kernel
theorem dX11_load_19 : decode cX11_load 19 = .ok (.istore 6, 2) := by decide +kernel
theorem dX11_load_21 : decode cX11_load 21 = .ok (.iload 6, 2) := by decide +kernel
theorem dX11_load_23 : decode cX11_load 23 = .ok (.aload_n 0, 1) := by decide +kernel
theorem dX11_load_24 : decode cX11_load 24 = .ok (.invokevirtual 276, 3) := by decide +kernel
theorem dX11_load_27 : decode cX11_load 27 = .ok (.if_icmp .ge 103, 3) := by decide +kernel
theorem dX11_load_130 : decode cX11_load 130 = .ok (.iload_n 1, 1) := by decide +kernel
theorem dX11_load_131 : decode cX11_load 131 = .ok (.ifCond .ne 7, 3) := by decide +kernel
theorem dX11_load_134 : decode cX11_load 134 = .ok (.lload_n 2, 1) := by decide +kernel
theorem dX11_load_135 : decode cX11_load 135 = .ok (.goto 5, 3) := by decide +kernel
theorem dX11_load_138 : decode cX11_load 138 = .ok (.lload 4, 2) := by decide +kernel
theorem dX11_load_140 : decode cX11_load 140 = .ok (.lreturn, 1) := by decide +kernel
set_option maxRecDepth 20000 in
theorem ggX11_tell_X11_isIn : GoodIn wsX11_tell wsX11_isIn := goodIn_r _ [8] (by decide +kernel) (by decide +kernel)
set_option maxRecDepth 20000 in
theorem gX11_tell_X11_isIn : GoodIn wsX11_tell (va_wsS RX11 279 yX11_isIn wsX11_isIn) := goodIn_app (goodIn_of _ (by decide +kernel)) ggX11_tell_X11_isIn
theorem dX11_tell_0 : decode cX11_tell 0 = .ok (.iload_n 1, 1) := by decide +kernel
theorem dX11_tell_1 : decode cX11_tell 1 = .ok (.iconst 0, 1) := by decide +kernel
theorem dX11_tell_2 : decode cX11_tell 2 = .ok (.sipush 1999, 3) := by decide +kernel
theorem dX11_tell_5 : decode cX11_tell 5 = .ok (.invokestatic 279, 3) := by decide +kernel
theorem dX11_tell_8 : decode cX11_tell 8 = .ok (.ifCond .eq 31, 3) := by decide +kernel
theorem dX11_tell_11 : decode cX11_tell 11 = .ok (.iload_n 2, 1) := by decide +kernel
theorem dX11_tell_12 : decode cX11_tell 12 = .ok (.iconst 0, 1) := by decide +kernel
theorem dX11_tell_13 : decode cX11_tell 13 = .ok (.iconst 3, 1) := by decide +kernel
theorem dX11_tell_14 : decode cX11_tell 14 = .ok (.invokestatic 279, 3) := by decide +kernel
theorem dX11_tell_17 : decode cX11_tell 17 = .ok (.ifCond .eq 22, 3) := by decide +kernel
theorem dX11_tell_20 : decode cX11_tell 20 = .ok (.iload_n 3, 1) := by decide +kernel
theorem dX11_tell_21 : decode cX11_tell 21 = .ok (.iconst (-1), 1) := by decide +kernel
theorem dX11_tell_22 : decode cX11_tell 22 = .ok (.bipush 9, 2) := by decide +kernel
theorem dX11_tell_24 : decode cX11_tell 24 = .ok (.invokestatic 279, 3) := by decide +kernel
theorem dX11_tell_27 : decode cX11_tell 27 = .ok (.ifCond .eq 12, 3) := by decide +kernel
theorem dX11_tell_30 : decode cX11_tell 30 = .ok (.aload_n 0, 1) := by decide +kernel
theorem dX11_tell_31 : decode cX11_tell 31 = .ok (.getfield 250, 3) := by decide +kernel
theorem dX11_tell_34 : decode cX11_tell 34 = .ok (.bipush 60, 2) := by decide +kernel
theorem dX11_tell_36 : decode cX11_tell 36 = .ok (.if_icmp .ne 5, 3) := by decide +kernel
theorem dX11_tell_39 : decode cX11_tell 39 = .ok (.iconst (-1), 1) := by decide +kernel
theorem dX11_tell_40 : decode cX11_tell 40 = .ok (.ireturn, 1) := by decide +kernel
theorem dX11_tell_41 : decode cX11_tell 41 = .ok (.aload_n 0, 1) := by decide +kernel
theorem dX11_tell_42 : decode cX11_tell 42 = .ok (.getfield 101, 3) := by decide +kernel
theorem dX11_tell_45 : decode cX11_tell 45 = .ok (.aload_n 0, 1) := by decide +kernel
theorem dX11_tell_46 : decode cX11_tell 46 = .ok (.getfield 250, 3) := by decide +kernel
theorem dX11_tell_49 : decode cX11_tell 49 = .ok (.iload_n 1, 1) := by decide +kernel
theorem dX11_tell_50 : decode cX11_tell 50 = .ok (.iastore, 1) := by decide +kernel
theorem dX11_tell_51 : decode cX11_tell 51 = .ok (.aload_n 0, 1) := by decide +kernel
theorem dX11_tell_52 : decode cX11_tell 52 = .ok (.getfield 104, 3) := by decide +kernel
theorem dX11_tell_55 : decode cX11_tell 55 = .ok (.aload_n 0, 1) := by decide +kernel
theorem dX11_tell_56 : decode cX11_tell 56 = .ok (.getfield 250, 3) := by decide +kernel
theorem dX11_tell_59 : decode cX11_tell 59 = .ok (.iload_n 2, 1) := by decide +kernel
theorem dX11_tell_60 : decode cX11_tell 60 = .ok (.iastore, 1) := by decide +kernel
theorem dX11_tell_61 : decode cX11_tell 61 = .ok (.aload_n 0, 1) := by decide +kernel
theorem dX11_tell_62 : decode cX11_tell 62 = .ok (.getfield 107, 3) := by decide +kernel
theorem dX11_tell_65 : decode cX11_tell 65 = .ok (.aload_n 0, 1) := by decide +kernel
theorem dX11_tell_66 : decode cX11_tell 66 = .ok (.getfield 250, 3) := by decide +kernel
theorem dX11_tell_69 : decode cX11_tell 69 = .ok (.iload_n 3, 1) := by decide +kernel
theorem dX11_tell_70 : decode cX11_tell 70 = .ok (.iastore, 1) := by decide +kernel
theorem dX11_tell_71 : decode cX11_tell 71 = .ok (.aload_n 0, 1) := by decide +kernel
theorem dX11_tell_72 : decode cX11_tell 72 = .ok (.dup, 1) := by decide +kernel
theorem dX11_tell_73 : decode cX11_tell 73 = .ok (.getfield 250, 3) := by decide +kernel
theorem dX11_tell_76 : decode cX11_tell 76 = .ok (.iconst 1, 1) := by decide +kernel
theorem dX11_tell_77 : decode cX11_tell 77 = .ok (.iadd, 1) := by decide +kernel
theorem dX11_tell_78 : decode cX11_tell 78 = .ok (.putfield 250, 3) := by decide +kernel
theorem dX11_tell_81 : decode cX11_tell 81 = .ok (.aload_n 0, 1) := by decide +kernel
theorem dX11_tell_82 : decode cX11_tell 82 = .ok (.getfield 250, 3) := by decide +kernel
theorem dX11_tell_85 : decode cX11_tell 85 = .ok (.ireturn, 1) := by decide +kernel
theorem dX11_hush_0 : decode cX11_hush 0 = .ok (.aload_n 0, 1) := by decide +kernel
theorem dX11_hush_1 : decode cX11_hush 1 = .ok (.getfield 250, 3) := by decide +kernel
theorem dX11_hush_4 : decode cX11_hush 4 = .ok (.istore_n 1, 1) := by decide +kernel
theorem dX11_hush_5 : decode cX11_hush 5 = .ok (.aload_n 0, 1) := by decide +kernel
theorem dX11_hush_6 : decode cX11_hush 6 = .ok (.iconst 0, 1) := by decide +kernel
theorem dX11_hush_7 : decode cX11_hush 7 = .ok (.putfield 250, 3) := by decide +kernel
theorem dX11_hush_10 : decode cX11_hush 10 = .ok (.iload_n 1, 1) := by decide +kernel
theorem dX11_hush_11 : decode cX11_hush 11 = .ok (.ireturn, 1) := by decide +kernel
theorem dX11_check_0 : decode cX11_check 0 = .ok (.iconst 0, 1) := by decide +kernel
theorem dX11_check_1 : decode cX11_check 1 = .ok (.istore_n 1, 1) := by decide +kernel
theorem dX11_check_2 : decode cX11_check 2 = .ok (.iload_n 1, 1) := by decide +kernel
theorem dX11_check_3 : decode cX11_check 3 = .ok (.aload_n 0, 1) := by decide +kernel
theorem dX11_check_4 : decode cX11_check 4 = .ok (.getfield 250, 3) := by decide +kernel
theorem dX11_check_7 : decode cX11_check 7 = .ok (.if_icmp .ge 75, 3) := by decide +kernel
theorem dX11_check_82 : decode cX11_check 82 = .ok (.iconst (-1), 1) := by decide +kernel
theorem dX11_check_83 : decode cX11_check 83 = .ok (.ireturn, 1) := by decide +kernel
set_option maxRecDepth 20000 in
theorem ggX11_sight_X11_isIn : GoodIn wsX11_sight wsX11_isIn := goodIn_r _ [11] (by decide +kernel) (by decide +kernel)
set_option maxRecDepth 20000 in
theorem gX11_sight_X11_isIn : GoodIn wsX11_sight (va_wsS RX11 279 yX11_isIn wsX11_isIn) := goodIn_app (goodIn_of _ (by decide +kernel)) ggX11_sight_X11_isIn
set_option maxRecDepth 20000 in
theorem ggX11_sight_X11_isTask : GoodIn wsX11_sight wsX11_isTask := goodIn_r _ [15, 16, 17, 18, 10, 19, 20, 21, 8, 9, 11, 22, 23, 24, 25, 26, 27, 28, 29, 30, 31, 32, 33, 34, 35, 36, 37, 38, 39, 40, 41, 42, 43, 44, 45, 46, 47, 48, 49, 50, 51, 52, 53, 54, 55, 56, 57, 58, 59, 60, 61, 62, 63, 64, 65, 66, 67, 68, 69, 70, 71, 72, 73, 74, 75, 76] (by decide +kernel) (by decide +kernel)
set_option maxRecDepth 20000 in
theorem gX11_sight_X11_isTask : GoodIn wsX11_sight (wsV RX11 365 RX11 yX11_isTask wsX11_isTask) := goodIn_app (goodIn_of _ (by decide +kernel)) ggX11_sight_X11_isTask
theorem dX11_sight_0 : decode cX11_sight 0 = .ok (.iload_n 1, 1) := by decide +kernel
theorem dX11_sight_1 : decode cX11_sight 1 = .ok (.iconst 0, 1) := by decide +kernel
theorem dX11_sight_2 : decode cX11_sight 2 = .ok (.bipush 99, 2) := by decide +kernel
theorem dX11_sight_4 : decode cX11_sight 4 = .ok (.invokestatic 279, 3) := by decide +kernel
theorem dX11_sight_7 : decode cX11_sight 7 = .ok (.ifCond .eq 20, 3) := by decide +kernel
theorem dX11_sight_10 : decode cX11_sight 10 = .ok (.aload_n 0, 1) := by decide +kernel
theorem dX11_sight_11 : decode cX11_sight 11 = .ok (.iload_n 2, 1) := by decide +kernel
theorem dX11_sight_12 : decode cX11_sight 12 = .ok (.invokevirtual 365, 3) := by decide +kernel
theorem dX11_sight_15 : decode cX11_sight 15 = .ok (.ifCond .eq 12, 3) := by decide +kernel
theorem dX11_sight_27 : decode cX11_sight 27 = .ok (.iconst (-1), 1) := by decide +kernel
theorem dX11_sight_28 : decode cX11_sight 28 = .ok (.ireturn, 1) := by decide +kernel
set_option maxRecDepth 20000 in
theorem ggX11_untell_X11_isIn : GoodIn wsX11_untell wsX11_isIn := goodIn_r _ [7] (by decide +kernel) (by decide +kernel)
set_option maxRecDepth 20000 in
theorem gX11_untell_X11_isIn : GoodIn wsX11_untell (va_wsS RX11 279 yX11_isIn wsX11_isIn) := goodIn_app (goodIn_of _ (by decide +kernel)) ggX11_untell_X11_isIn
theorem dX11_untell_0 : decode cX11_untell 0 = .ok (.iload_n 1, 1) := by decide +kernel
theorem dX11_untell_1 : decode cX11_untell 1 = .ok (.iconst 0, 1) := by decide +kernel
theorem dX11_untell_2 : decode cX11_untell 2 = .ok (.aload_n 0, 1) := by decide +kernel
theorem dX11_untell_3 : decode cX11_untell 3 = .ok (.getfield 253, 3) := by decide +kernel
theorem dX11_untell_6 : decode cX11_untell 6 = .ok (.iconst 1, 1) := by decide +kernel
theorem dX11_untell_7 : decode cX11_untell 7 = .ok (.isub, 1) := by decide +kernel
theorem dX11_untell_8 : decode cX11_untell 8 = .ok (.invokestatic 279, 3) := by decide +kernel
theorem dX11_untell_11 : decode cX11_untell 11 = .ok (.ifCond .eq 12, 3) := by decide +kernel
theorem dX11_untell_23 : decode cX11_untell 23 = .ok (.iconst 0, 1) := by decide +kernel
theorem dX11_untell_24 : decode cX11_untell 24 = .ok (.ireturn, 1) := by decide +kernel
set_option maxRecDepth 20000 in
theorem ggX11_later_X11_isIn : GoodIn wsX11_later wsX11_isIn := goodIn_r _ [6] (by decide +kernel) (by decide +kernel)
set_option maxRecDepth 20000 in
theorem gX11_later_X11_isIn : GoodIn wsX11_later (va_wsS RX11 279 yX11_isIn wsX11_isIn) := goodIn_app (goodIn_of _ (by decide +kernel)) ggX11_later_X11_isIn
theorem dX11_later_0 : decode cX11_later 0 = .ok (.iload_n 1, 1) := by decide +kernel
theorem dX11_later_1 : decode cX11_later 1 = .ok (.iconst 0, 1) := by decide +kernel
theorem dX11_later_2 : decode cX11_later 2 = .ok (.sipush 1000, 3) := by decide +kernel
theorem dX11_later_5 : decode cX11_later 5 = .ok (.invokestatic 279, 3) := by decide +kernel
theorem dX11_later_8 : decode cX11_later 8 = .ok (.ifCond .eq 15, 3) := by decide +kernel
theorem dX11_later_11 : decode cX11_later 11 = .ok (.aload_n 0, 1) := by decide +kernel
theorem dX11_later_12 : decode cX11_later 12 = .ok (.getfield 392, 3) := by decide +kernel
theorem dX11_later_15 : decode cX11_later 15 = .ok (.iload_n 1, 1) := by decide +kernel
theorem dX11_later_16 : decode cX11_later 16 = .ok (.iadd, 1) := by decide +kernel
theorem dX11_later_17 : decode cX11_later 17 = .ok (.ldc_w 395, 3) := by decide +kernel
theorem dX11_later_20 : decode cX11_later 20 = .ok (.if_icmp .le 5, 3) := by decide +kernel
theorem dX11_later_23 : decode cX11_later 23 = .ok (.iconst (-1), 1) := by decide +kernel
theorem dX11_later_24 : decode cX11_later 24 = .ok (.ireturn, 1) := by decide +kernel
theorem dX11_later_25 : decode cX11_later 25 = .ok (.aload_n 0, 1) := by decide +kernel
theorem dX11_later_26 : decode cX11_later 26 = .ok (.dup, 1) := by decide +kernel
theorem dX11_later_27 : decode cX11_later 27 = .ok (.getfield 392, 3) := by decide +kernel
theorem dX11_later_30 : decode cX11_later 30 = .ok (.iload_n 1, 1) := by decide +kernel
theorem dX11_later_31 : decode cX11_later 31 = .ok (.iadd, 1) := by decide +kernel
theorem dX11_later_32 : decode cX11_later 32 = .ok (.putfield 392, 3) := by decide +kernel
theorem dX11_later_35 : decode cX11_later 35 = .ok (.aload_n 0, 1) := by decide +kernel
theorem dX11_later_36 : decode cX11_later 36 = .ok (.getfield 392, 3) := by decide +kernel
theorem dX11_later_39 : decode cX11_later 39 = .ok (.ireturn, 1) := by decide +kernel
set_option maxRecDepth 20000 in
theorem ggX11_liveMany_X11_taskMany : GoodIn wsX11_liveMany wsX11_taskMany := goodIn_r _ [5, 6, 7, 13, 14, 15, 16, 17, 18, 19, 20, 21, 22, 23, 24, 25, 26, 27, 28, 29, 30, 31, 32, 33, 34, 35, 36, 37, 38, 39, 40, 41, 42, 43, 44, 45, 46, 47, 48, 49, 50, 51, 52, 53, 54, 55, 56, 57, 58, 59, 60, 61, 62, 63, 64, 65, 66, 67] (by decide +kernel) (by decide +kernel)
set_option maxRecDepth 20000 in
theorem gX11_liveMany_X11_taskMany : GoodIn wsX11_liveMany (wsV RX11 276 RX11 yX11_taskMany wsX11_taskMany) := goodIn_app (goodIn_of _ (by decide +kernel)) ggX11_liveMany_X11_taskMany
theorem dX11_liveMany_0 : decode cX11_liveMany 0 = .ok (.iconst 0, 1) := by decide +kernel
theorem dX11_liveMany_1 : decode cX11_liveMany 1 = .ok (.istore_n 1, 1) := by decide +kernel
theorem dX11_liveMany_2 : decode cX11_liveMany 2 = .ok (.iconst 0, 1) := by decide +kernel
theorem dX11_liveMany_3 : decode cX11_liveMany 3 = .ok (.istore_n 2, 1) := by decide +kernel
theorem dX11_liveMany_4 : decode cX11_liveMany 4 = .ok (.iload_n 2, 1) := by decide +kernel
theorem dX11_liveMany_5 : decode cX11_liveMany 5 = .ok (.aload_n 0, 1) := by decide +kernel
theorem dX11_liveMany_6 : decode cX11_liveMany 6 = .ok (.invokevirtual 276, 3) := by decide +kernel
theorem dX11_liveMany_9 : decode cX11_liveMany 9 = .ok (.if_icmp .ge 27, 3) := by decide +kernel
theorem dX11_liveMany_36 : decode cX11_liveMany 36 = .ok (.iload_n 1, 1) := by decide +kernel
theorem dX11_liveMany_37 : decode cX11_liveMany 37 = .ok (.ireturn, 1) := by decide +kernel
set_option maxRecDepth 20000 in
theorem ggX11_about_X11_liveMany : GoodIn wsX11_about wsX11_liveMany := goodIn_r _ [20, 11, 12, 13, 14, 15, 16, 2, 21, 22, 23, 24, 5, 25, 26, 27, 28, 29, 30, 31, 32, 33, 34, 35, 36, 37, 38, 39, 40, 41, 42, 43, 44, 45, 46, 47, 48, 49, 50, 51, 52, 53, 54, 55, 56, 57, 58, 59, 60, 61, 62, 63, 64, 65, 66, 67, 68, 69, 70, 71, 72, 73, 74, 75, 76, 77, 78, 79] (by decide +kernel) (by decide +kernel)
set_option maxRecDepth 20000 in
theorem gX11_about_X11_liveMany : GoodIn wsX11_about (wsV RX11 399 RX11 yX11_liveMany wsX11_liveMany) := goodIn_app (goodIn_of _ (by decide +kernel)) ggX11_about_X11_liveMany
set_option maxRecDepth 20000 in
theorem ggX11_about_X11_taskMany : GoodIn wsX11_about wsX11_taskMany := goodIn_r _ [15, 16, 2, 25, 26, 27, 28, 29, 30, 31, 32, 33, 34, 35, 36, 37, 38, 39, 40, 41, 42, 43, 44, 45, 46, 47, 48, 49, 50, 51, 52, 53, 54, 55, 56, 57, 58, 59, 60, 61, 62, 63, 64, 65, 66, 67, 68, 69, 70, 71, 72, 73, 74, 75, 76, 77, 78, 79] (by decide +kernel) (by decide +kernel)
set_option maxRecDepth 20000 in
theorem gX11_about_X11_taskMany : GoodIn wsX11_about (wsV RX11 276 RX11 yX11_taskMany wsX11_taskMany) := goodIn_app (goodIn_of _ (by decide +kernel)) ggX11_about_X11_taskMany
theorem dX11_about_0 : decode cX11_about 0 = .ok (.iload_n 1, 1) := by decide +kernel
theorem dX11_about_1 : decode cX11_about 1 = .ok (.tableswitch 138 0 10 #[59, 64, 74, 84, 94, 103, 108, 113, 118, 123, 128], 59) := by decide +kernel
theorem dX11_about_60 : decode cX11_about 60 = .ok (.aload_n 0, 1) := by decide +kernel
theorem dX11_about_61 : decode cX11_about 61 = .ok (.invokevirtual 276, 3) := by decide +kernel
theorem dX11_about_64 : decode cX11_about 64 = .ok (.ireturn, 1) := by decide +kernel
theorem dX11_about_65 : decode cX11_about 65 = .ok (.aload_n 0, 1) := by decide +kernel
theorem dX11_about_66 : decode cX11_about 66 = .ok (.getfield 20, 3) := by decide +kernel
theorem dX11_about_69 : decode cX11_about 69 = .ok (.aload_n 0, 1) := by decide +kernel
theorem dX11_about_70 : decode cX11_about 70 = .ok (.getfield 244, 3) := by decide +kernel
theorem dX11_about_73 : decode cX11_about 73 = .ok (.iaload, 1) := by decide +kernel
theorem dX11_about_74 : decode cX11_about 74 = .ok (.ireturn, 1) := by decide +kernel
theorem dX11_about_75 : decode cX11_about 75 = .ok (.aload_n 0, 1) := by decide +kernel
theorem dX11_about_76 : decode cX11_about 76 = .ok (.getfield 24, 3) := by decide +kernel
theorem dX11_about_79 : decode cX11_about 79 = .ok (.aload_n 0, 1) := by decide +kernel
theorem dX11_about_80 : decode cX11_about 80 = .ok (.getfield 244, 3) := by decide +kernel
theorem dX11_about_83 : decode cX11_about 83 = .ok (.iaload, 1) := by decide +kernel
theorem dX11_about_84 : decode cX11_about 84 = .ok (.ireturn, 1) := by decide +kernel
theorem dX11_about_85 : decode cX11_about 85 = .ok (.aload_n 0, 1) := by decide +kernel
theorem dX11_about_86 : decode cX11_about 86 = .ok (.getfield 27, 3) := by decide +kernel
theorem dX11_about_89 : decode cX11_about 89 = .ok (.aload_n 0, 1) := by decide +kernel
theorem dX11_about_90 : decode cX11_about 90 = .ok (.getfield 244, 3) := by decide +kernel
theorem dX11_about_93 : decode cX11_about 93 = .ok (.iaload, 1) := by decide +kernel
theorem dX11_about_94 : decode cX11_about 94 = .ok (.ireturn, 1) := by decide +kernel
theorem dX11_about_95 : decode cX11_about 95 = .ok (.aload_n 0, 1) := by decide +kernel
theorem dX11_about_96 : decode cX11_about 96 = .ok (.getfield 74, 3) := by decide +kernel
theorem dX11_about_99 : decode cX11_about 99 = .ok (.sipush 330, 3) := by decide +kernel
theorem dX11_about_102 : decode cX11_about 102 = .ok (.iaload, 1) := by decide +kernel
theorem dX11_about_103 : decode cX11_about 103 = .ok (.ireturn, 1) := by decide +kernel
theorem dX11_about_104 : decode cX11_about 104 = .ok (.aload_n 0, 1) := by decide +kernel
theorem dX11_about_105 : decode cX11_about 105 = .ok (.invokevirtual 399, 3) := by decide +kernel
theorem dX11_about_108 : decode cX11_about 108 = .ok (.ireturn, 1) := by decide +kernel
theorem dX11_about_109 : decode cX11_about 109 = .ok (.aload_n 0, 1) := by decide +kernel
theorem dX11_about_110 : decode cX11_about 110 = .ok (.getfield 250, 3) := by decide +kernel
theorem dX11_about_113 : decode cX11_about 113 = .ok (.ireturn, 1) := by decide +kernel
theorem dX11_about_114 : decode cX11_about 114 = .ok (.aload_n 0, 1) := by decide +kernel
theorem dX11_about_115 : decode cX11_about 115 = .ok (.getfield 253, 3) := by decide +kernel
theorem dX11_about_118 : decode cX11_about 118 = .ok (.ireturn, 1) := by decide +kernel
theorem dX11_about_119 : decode cX11_about 119 = .ok (.aload_n 0, 1) := by decide +kernel
theorem dX11_about_120 : decode cX11_about 120 = .ok (.getfield 392, 3) := by decide +kernel
theorem dX11_about_123 : decode cX11_about 123 = .ok (.ireturn, 1) := by decide +kernel
theorem dX11_about_124 : decode cX11_about 124 = .ok (.aload_n 0, 1) := by decide +kernel
theorem dX11_about_125 : decode cX11_about 125 = .ok (.getfield 241, 3) := by decide +kernel
theorem dX11_about_128 : decode cX11_about 128 = .ok (.ireturn, 1) := by decide +kernel
theorem dX11_about_129 : decode cX11_about 129 = .ok (.aload_n 0, 1) := by decide +kernel
theorem dX11_about_130 : decode cX11_about 130 = .ok (.getfield 33, 3) := by decide +kernel
theorem dX11_about_133 : decode cX11_about 133 = .ok (.aload_n 0, 1) := by decide +kernel
theorem dX11_about_134 : decode cX11_about 134 = .ok (.getfield 244, 3) := by decide +kernel
theorem dX11_about_137 : decode cX11_about 137 = .ok (.iaload, 1) := by decide +kernel
theorem dX11_about_138 : decode cX11_about 138 = .ok (.ireturn, 1) := by decide +kernel
theorem dX11_about_139 : decode cX11_about 139 = .ok (.iconst (-1), 1) := by decide +kernel
theorem dX11_about_140 : decode cX11_about 140 = .ok (.ireturn, 1) := by decide +kernel
set_option maxHeartbeats 4000000 in
set_option maxRecDepth 100000 in
theorem k_X11_isIn_0_m1 (l : Launch) (D : va_G) (ca : Nat → ClassId) (sz : Nat) (x1 : Int32) : Met l yX11_isIn wsX11_isIn ({ frames := 0, cells := 0, slots := 0, locals := 0 }) (PC [.int x1, .int 0, .int (-1)] sz D ca []) (QI (fun (r : Int32) (u : Unit) => r = 0) (fun (_ : Unit) => []) [] sz D) 0 0 (va_A [] sz) := by
  refine Met.ofW (cc := cX11_isIn) (maxL := 3) (ret := (some .boolean)) (by decide +kernel) rfl ?_
  intro p e s m args below meth c s₁ B hml hv
  obtain ⟨rfl, hsz, hP, hC, hD0⟩ := hv
  have hx := B.exec
  have hb := B.bytes
  have hr := B.returns
  have hts := atoms_spec (ws := wsX11_isIn) B.pre
  have hown : s.vm.findClass RX11 = some m.cls := findClass_of_methodNamed B.named
  have hlocks := B.notSynchronized
  subst hsz
  have hD := hD0.self (sz := s.heap.size)
  dsimp only [QV, QI, QL, BQ]
  generalize hAe : va_A [] s.heap.size = A at hD ⊢
  have hA : ∀ q : Nat, s.heap.size ≤ q → A q := fun q h => by rw [← hAe]; exact Or.inr h
  have hDA : ∀ {w : va_W}, va_D A w → va_D (va_A [] s.heap.size) w := fun h => by rw [hAe]; exact h
  have hS : va_S A s.heap s.heap [] := va_S.rf
  have hP : va_P D vwCl [] s.heap := hP
  have hl := lv_entry ([.int x1, .int 0, .int (-1)]) (n := 3) (Nat.le_of_ble_eq_true rfl)
  rw [lg_entry_eq]
  generalize (lg_sl ([.int x1, .int 0, .int (-1)]) ++ List.replicate (3 - (lg_sl ([.int x1, .int 0, .int (-1)])).length) Slot.unset).toArray = ls at hl ⊢
  have hl : lv_has ls 3 [(0, .int x1), (1, .int 0), (2, .int (-1))] := hl
  refine lv_iload_n hx hb dX11_isIn_0 rfl (lv_at hl 0 rfl) ?_
  refine lv_iload_n hx hb dX11_isIn_1 rfl (lv_at hl 1 rfl) ?_
  refine lv_icmp_lt (tgt := 14) hx hb dX11_isIn_2 (by decide +kernel) (fun c_1 => ?_) (fun c_1 => ?_)
  · refine lv_iconst (v := 0) hx hb dX11_isIn_14 (by decide +kernel) ?_
    exact W.zret (v := 0) hx hb hr (rfl) (fun t ht hW => ⟨⟨0, (), rfl, rfl, by rw [ht]; exact hP.sub [] rfl, hDA (hD.sub [] (by decide +kernel) rfl)⟩, hS.F ht⟩) hS.2.2 dX11_isIn_15
  · refine lv_iload_n hx hb dX11_isIn_5 rfl (lv_at hl 0 rfl) ?_
    refine lv_iload_n hx hb dX11_isIn_6 rfl (lv_at hl 2 rfl) ?_
    refine lv_icmp_gt (tgt := 14) hx hb dX11_isIn_7 (by decide +kernel) (fun c_2 => ?_) (fun c_2 => (pr_ee (Int32.not_lt.mp c_1) (Int32.not_lt.mp c_2) (by decide +kernel)).elim)
    refine lv_iconst (v := 0) hx hb dX11_isIn_14 (by decide +kernel) ?_
    exact W.zret (v := 0) hx hb hr (rfl) (fun t ht hW => ⟨⟨0, (), rfl, rfl, by rw [ht]; exact hP.sub [] rfl, hDA (hD.sub [] (by decide +kernel) rfl)⟩, hS.F ht⟩) hS.2.2 dX11_isIn_15
def sp_k_X11_isIn_0_200 (x1 : Int32) : Int32 := (if x1 < 0 then 0 else (if 200 < x1 then 0 else 1))
set_option maxHeartbeats 4000000 in
set_option maxRecDepth 100000 in
theorem k_X11_isIn_0_200 (l : Launch) (D : va_G) (ca : Nat → ClassId) (sz : Nat) (x1 : Int32) : Met l yX11_isIn wsX11_isIn ({ frames := 0, cells := 0, slots := 0, locals := 0 }) (PC [.int x1, .int 0, .int 200] sz D ca []) (QI (fun (r : Int32) (u : Unit) => r = sp_k_X11_isIn_0_200 x1) (fun (_ : Unit) => []) [] sz D) 0 0 (va_A [] sz) := by
  refine Met.ofW (cc := cX11_isIn) (maxL := 3) (ret := (some .boolean)) (by decide +kernel) rfl ?_
  intro p e s m args below meth c s₁ B hml hv
  obtain ⟨rfl, hsz, hP, hC, hD0⟩ := hv
  have hx := B.exec
  have hb := B.bytes
  have hr := B.returns
  have hts := atoms_spec (ws := wsX11_isIn) B.pre
  have hown : s.vm.findClass RX11 = some m.cls := findClass_of_methodNamed B.named
  have hlocks := B.notSynchronized
  subst hsz
  have hD := hD0.self (sz := s.heap.size)
  dsimp only [QV, QI, QL, BQ]
  generalize hAe : va_A [] s.heap.size = A at hD ⊢
  have hA : ∀ q : Nat, s.heap.size ≤ q → A q := fun q h => by rw [← hAe]; exact Or.inr h
  have hDA : ∀ {w : va_W}, va_D A w → va_D (va_A [] s.heap.size) w := fun h => by rw [hAe]; exact h
  have hS : va_S A s.heap s.heap [] := va_S.rf
  have hP : va_P D vwCl [] s.heap := hP
  have hl := lv_entry ([.int x1, .int 0, .int 200]) (n := 3) (Nat.le_of_ble_eq_true rfl)
  rw [lg_entry_eq]
  generalize (lg_sl ([.int x1, .int 0, .int 200]) ++ List.replicate (3 - (lg_sl ([.int x1, .int 0, .int 200])).length) Slot.unset).toArray = ls at hl ⊢
  have hl : lv_has ls 3 [(0, .int x1), (1, .int 0), (2, .int 200)] := hl
  refine lv_iload_n hx hb dX11_isIn_0 rfl (lv_at hl 0 rfl) ?_
  refine lv_iload_n hx hb dX11_isIn_1 rfl (lv_at hl 1 rfl) ?_
  refine lv_icmp_lt (tgt := 14) hx hb dX11_isIn_2 (by decide +kernel) (fun c_1 => ?_) (fun c_1 => ?_)
  · refine lv_iconst (v := 0) hx hb dX11_isIn_14 (by decide +kernel) ?_
    exact W.zret (v := 0) hx hb hr (rfl) (fun t ht hW => ⟨⟨0, (), rfl, (by unfold sp_k_X11_isIn_0_200; rw [if_pos c_1]), by rw [ht]; exact hP.sub [] rfl, hDA (hD.sub [] (by decide +kernel) rfl)⟩, hS.F ht⟩) hS.2.2 dX11_isIn_15
  · refine lv_iload_n hx hb dX11_isIn_5 rfl (lv_at hl 0 rfl) ?_
    refine lv_iload_n hx hb dX11_isIn_6 rfl (lv_at hl 2 rfl) ?_
    refine lv_icmp_gt (tgt := 14) hx hb dX11_isIn_7 (by decide +kernel) (fun c_2 => ?_) (fun c_2 => ?_)
    · refine lv_iconst (v := 0) hx hb dX11_isIn_14 (by decide +kernel) ?_
      exact W.zret (v := 0) hx hb hr (rfl) (fun t ht hW => ⟨⟨0, (), rfl, (by unfold sp_k_X11_isIn_0_200; rw [if_neg c_1, if_pos c_2]), by rw [ht]; exact hP.sub [] rfl, hDA (hD.sub [] (by decide +kernel) rfl)⟩, hS.F ht⟩) hS.2.2 dX11_isIn_15
    · refine lv_iconst (v := 1) hx hb dX11_isIn_10 (by decide +kernel) ?_
      refine lv_goto (tgt := 15) hx hb dX11_isIn_11 (by decide +kernel) ?_
      exact W.zret (v := 1) hx hb hr (rfl) (fun t ht hW => ⟨⟨1, (), rfl, (by unfold sp_k_X11_isIn_0_200; rw [if_neg c_1, if_neg c_2]), by rw [ht]; exact hP.sub [] rfl, hDA (hD.sub [] (by decide +kernel) rfl)⟩, hS.F ht⟩) hS.2.2 dX11_isIn_15
def sp_k_X11_isIn_0_1 (x1 : Int32) : Int32 := (if x1 < 0 then 0 else (if 1 < x1 then 0 else 1))
set_option maxHeartbeats 4000000 in
set_option maxRecDepth 100000 in
theorem k_X11_isIn_0_1 (l : Launch) (D : va_G) (ca : Nat → ClassId) (sz : Nat) (x1 : Int32) : Met l yX11_isIn wsX11_isIn ({ frames := 0, cells := 0, slots := 0, locals := 0 }) (PC [.int x1, .int 0, .int 1] sz D ca []) (QI (fun (r : Int32) (u : Unit) => r = sp_k_X11_isIn_0_1 x1) (fun (_ : Unit) => []) [] sz D) 0 0 (va_A [] sz) := by
  refine Met.ofW (cc := cX11_isIn) (maxL := 3) (ret := (some .boolean)) (by decide +kernel) rfl ?_
  intro p e s m args below meth c s₁ B hml hv
  obtain ⟨rfl, hsz, hP, hC, hD0⟩ := hv
  have hx := B.exec
  have hb := B.bytes
  have hr := B.returns
  have hts := atoms_spec (ws := wsX11_isIn) B.pre
  have hown : s.vm.findClass RX11 = some m.cls := findClass_of_methodNamed B.named
  have hlocks := B.notSynchronized
  subst hsz
  have hD := hD0.self (sz := s.heap.size)
  dsimp only [QV, QI, QL, BQ]
  generalize hAe : va_A [] s.heap.size = A at hD ⊢
  have hA : ∀ q : Nat, s.heap.size ≤ q → A q := fun q h => by rw [← hAe]; exact Or.inr h
  have hDA : ∀ {w : va_W}, va_D A w → va_D (va_A [] s.heap.size) w := fun h => by rw [hAe]; exact h
  have hS : va_S A s.heap s.heap [] := va_S.rf
  have hP : va_P D vwCl [] s.heap := hP
  have hl := lv_entry ([.int x1, .int 0, .int 1]) (n := 3) (Nat.le_of_ble_eq_true rfl)
  rw [lg_entry_eq]
  generalize (lg_sl ([.int x1, .int 0, .int 1]) ++ List.replicate (3 - (lg_sl ([.int x1, .int 0, .int 1])).length) Slot.unset).toArray = ls at hl ⊢
  have hl : lv_has ls 3 [(0, .int x1), (1, .int 0), (2, .int 1)] := hl
  refine lv_iload_n hx hb dX11_isIn_0 rfl (lv_at hl 0 rfl) ?_
  refine lv_iload_n hx hb dX11_isIn_1 rfl (lv_at hl 1 rfl) ?_
  refine lv_icmp_lt (tgt := 14) hx hb dX11_isIn_2 (by decide +kernel) (fun c_1 => ?_) (fun c_1 => ?_)
  · refine lv_iconst (v := 0) hx hb dX11_isIn_14 (by decide +kernel) ?_
    exact W.zret (v := 0) hx hb hr (rfl) (fun t ht hW => ⟨⟨0, (), rfl, (by unfold sp_k_X11_isIn_0_1; rw [if_pos c_1]), by rw [ht]; exact hP.sub [] rfl, hDA (hD.sub [] (by decide +kernel) rfl)⟩, hS.F ht⟩) hS.2.2 dX11_isIn_15
  · refine lv_iload_n hx hb dX11_isIn_5 rfl (lv_at hl 0 rfl) ?_
    refine lv_iload_n hx hb dX11_isIn_6 rfl (lv_at hl 2 rfl) ?_
    refine lv_icmp_gt (tgt := 14) hx hb dX11_isIn_7 (by decide +kernel) (fun c_2 => ?_) (fun c_2 => ?_)
    · refine lv_iconst (v := 0) hx hb dX11_isIn_14 (by decide +kernel) ?_
      exact W.zret (v := 0) hx hb hr (rfl) (fun t ht hW => ⟨⟨0, (), rfl, (by unfold sp_k_X11_isIn_0_1; rw [if_neg c_1, if_pos c_2]), by rw [ht]; exact hP.sub [] rfl, hDA (hD.sub [] (by decide +kernel) rfl)⟩, hS.F ht⟩) hS.2.2 dX11_isIn_15
    · refine lv_iconst (v := 1) hx hb dX11_isIn_10 (by decide +kernel) ?_
      refine lv_goto (tgt := 15) hx hb dX11_isIn_11 (by decide +kernel) ?_
      exact W.zret (v := 1) hx hb hr (rfl) (fun t ht hW => ⟨⟨1, (), rfl, (by unfold sp_k_X11_isIn_0_1; rw [if_neg c_1, if_neg c_2]), by rw [ht]; exact hP.sub [] rfl, hDA (hD.sub [] (by decide +kernel) rfl)⟩, hS.F ht⟩) hS.2.2 dX11_isIn_15
def sp_k_X11_isIn_0_1999 (x1 : Int32) : Int32 := (if x1 < 0 then 0 else (if 1999 < x1 then 0 else 1))
set_option maxHeartbeats 4000000 in
set_option maxRecDepth 100000 in
theorem k_X11_isIn_0_1999 (l : Launch) (D : va_G) (ca : Nat → ClassId) (sz : Nat) (x1 : Int32) : Met l yX11_isIn wsX11_isIn ({ frames := 0, cells := 0, slots := 0, locals := 0 }) (PC [.int x1, .int 0, .int 1999] sz D ca []) (QI (fun (r : Int32) (u : Unit) => r = sp_k_X11_isIn_0_1999 x1) (fun (_ : Unit) => []) [] sz D) 0 0 (va_A [] sz) := by
  refine Met.ofW (cc := cX11_isIn) (maxL := 3) (ret := (some .boolean)) (by decide +kernel) rfl ?_
  intro p e s m args below meth c s₁ B hml hv
  obtain ⟨rfl, hsz, hP, hC, hD0⟩ := hv
  have hx := B.exec
  have hb := B.bytes
  have hr := B.returns
  have hts := atoms_spec (ws := wsX11_isIn) B.pre
  have hown : s.vm.findClass RX11 = some m.cls := findClass_of_methodNamed B.named
  have hlocks := B.notSynchronized
  subst hsz
  have hD := hD0.self (sz := s.heap.size)
  dsimp only [QV, QI, QL, BQ]
  generalize hAe : va_A [] s.heap.size = A at hD ⊢
  have hA : ∀ q : Nat, s.heap.size ≤ q → A q := fun q h => by rw [← hAe]; exact Or.inr h
  have hDA : ∀ {w : va_W}, va_D A w → va_D (va_A [] s.heap.size) w := fun h => by rw [hAe]; exact h
  have hS : va_S A s.heap s.heap [] := va_S.rf
  have hP : va_P D vwCl [] s.heap := hP
  have hl := lv_entry ([.int x1, .int 0, .int 1999]) (n := 3) (Nat.le_of_ble_eq_true rfl)
  rw [lg_entry_eq]
  generalize (lg_sl ([.int x1, .int 0, .int 1999]) ++ List.replicate (3 - (lg_sl ([.int x1, .int 0, .int 1999])).length) Slot.unset).toArray = ls at hl ⊢
  have hl : lv_has ls 3 [(0, .int x1), (1, .int 0), (2, .int 1999)] := hl
  refine lv_iload_n hx hb dX11_isIn_0 rfl (lv_at hl 0 rfl) ?_
  refine lv_iload_n hx hb dX11_isIn_1 rfl (lv_at hl 1 rfl) ?_
  refine lv_icmp_lt (tgt := 14) hx hb dX11_isIn_2 (by decide +kernel) (fun c_1 => ?_) (fun c_1 => ?_)
  · refine lv_iconst (v := 0) hx hb dX11_isIn_14 (by decide +kernel) ?_
    exact W.zret (v := 0) hx hb hr (rfl) (fun t ht hW => ⟨⟨0, (), rfl, (by unfold sp_k_X11_isIn_0_1999; rw [if_pos c_1]), by rw [ht]; exact hP.sub [] rfl, hDA (hD.sub [] (by decide +kernel) rfl)⟩, hS.F ht⟩) hS.2.2 dX11_isIn_15
  · refine lv_iload_n hx hb dX11_isIn_5 rfl (lv_at hl 0 rfl) ?_
    refine lv_iload_n hx hb dX11_isIn_6 rfl (lv_at hl 2 rfl) ?_
    refine lv_icmp_gt (tgt := 14) hx hb dX11_isIn_7 (by decide +kernel) (fun c_2 => ?_) (fun c_2 => ?_)
    · refine lv_iconst (v := 0) hx hb dX11_isIn_14 (by decide +kernel) ?_
      exact W.zret (v := 0) hx hb hr (rfl) (fun t ht hW => ⟨⟨0, (), rfl, (by unfold sp_k_X11_isIn_0_1999; rw [if_neg c_1, if_pos c_2]), by rw [ht]; exact hP.sub [] rfl, hDA (hD.sub [] (by decide +kernel) rfl)⟩, hS.F ht⟩) hS.2.2 dX11_isIn_15
    · refine lv_iconst (v := 1) hx hb dX11_isIn_10 (by decide +kernel) ?_
      refine lv_goto (tgt := 15) hx hb dX11_isIn_11 (by decide +kernel) ?_
      exact W.zret (v := 1) hx hb hr (rfl) (fun t ht hW => ⟨⟨1, (), rfl, (by unfold sp_k_X11_isIn_0_1999; rw [if_neg c_1, if_neg c_2]), by rw [ht]; exact hP.sub [] rfl, hDA (hD.sub [] (by decide +kernel) rfl)⟩, hS.F ht⟩) hS.2.2 dX11_isIn_15
def sp_k_X11_isIn_0_3 (x1 : Int32) : Int32 := (if x1 < 0 then 0 else (if 3 < x1 then 0 else 1))
set_option maxHeartbeats 4000000 in
set_option maxRecDepth 100000 in
theorem k_X11_isIn_0_3 (l : Launch) (D : va_G) (ca : Nat → ClassId) (sz : Nat) (x1 : Int32) : Met l yX11_isIn wsX11_isIn ({ frames := 0, cells := 0, slots := 0, locals := 0 }) (PC [.int x1, .int 0, .int 3] sz D ca []) (QI (fun (r : Int32) (u : Unit) => r = sp_k_X11_isIn_0_3 x1) (fun (_ : Unit) => []) [] sz D) 0 0 (va_A [] sz) := by
  refine Met.ofW (cc := cX11_isIn) (maxL := 3) (ret := (some .boolean)) (by decide +kernel) rfl ?_
  intro p e s m args below meth c s₁ B hml hv
  obtain ⟨rfl, hsz, hP, hC, hD0⟩ := hv
  have hx := B.exec
  have hb := B.bytes
  have hr := B.returns
  have hts := atoms_spec (ws := wsX11_isIn) B.pre
  have hown : s.vm.findClass RX11 = some m.cls := findClass_of_methodNamed B.named
  have hlocks := B.notSynchronized
  subst hsz
  have hD := hD0.self (sz := s.heap.size)
  dsimp only [QV, QI, QL, BQ]
  generalize hAe : va_A [] s.heap.size = A at hD ⊢
  have hA : ∀ q : Nat, s.heap.size ≤ q → A q := fun q h => by rw [← hAe]; exact Or.inr h
  have hDA : ∀ {w : va_W}, va_D A w → va_D (va_A [] s.heap.size) w := fun h => by rw [hAe]; exact h
  have hS : va_S A s.heap s.heap [] := va_S.rf
  have hP : va_P D vwCl [] s.heap := hP
  have hl := lv_entry ([.int x1, .int 0, .int 3]) (n := 3) (Nat.le_of_ble_eq_true rfl)
  rw [lg_entry_eq]
  generalize (lg_sl ([.int x1, .int 0, .int 3]) ++ List.replicate (3 - (lg_sl ([.int x1, .int 0, .int 3])).length) Slot.unset).toArray = ls at hl ⊢
  have hl : lv_has ls 3 [(0, .int x1), (1, .int 0), (2, .int 3)] := hl
  refine lv_iload_n hx hb dX11_isIn_0 rfl (lv_at hl 0 rfl) ?_
  refine lv_iload_n hx hb dX11_isIn_1 rfl (lv_at hl 1 rfl) ?_
  refine lv_icmp_lt (tgt := 14) hx hb dX11_isIn_2 (by decide +kernel) (fun c_1 => ?_) (fun c_1 => ?_)
  · refine lv_iconst (v := 0) hx hb dX11_isIn_14 (by decide +kernel) ?_
    exact W.zret (v := 0) hx hb hr (rfl) (fun t ht hW => ⟨⟨0, (), rfl, (by unfold sp_k_X11_isIn_0_3; rw [if_pos c_1]), by rw [ht]; exact hP.sub [] rfl, hDA (hD.sub [] (by decide +kernel) rfl)⟩, hS.F ht⟩) hS.2.2 dX11_isIn_15
  · refine lv_iload_n hx hb dX11_isIn_5 rfl (lv_at hl 0 rfl) ?_
    refine lv_iload_n hx hb dX11_isIn_6 rfl (lv_at hl 2 rfl) ?_
    refine lv_icmp_gt (tgt := 14) hx hb dX11_isIn_7 (by decide +kernel) (fun c_2 => ?_) (fun c_2 => ?_)
    · refine lv_iconst (v := 0) hx hb dX11_isIn_14 (by decide +kernel) ?_
      exact W.zret (v := 0) hx hb hr (rfl) (fun t ht hW => ⟨⟨0, (), rfl, (by unfold sp_k_X11_isIn_0_3; rw [if_neg c_1, if_pos c_2]), by rw [ht]; exact hP.sub [] rfl, hDA (hD.sub [] (by decide +kernel) rfl)⟩, hS.F ht⟩) hS.2.2 dX11_isIn_15
    · refine lv_iconst (v := 1) hx hb dX11_isIn_10 (by decide +kernel) ?_
      refine lv_goto (tgt := 15) hx hb dX11_isIn_11 (by decide +kernel) ?_
      exact W.zret (v := 1) hx hb hr (rfl) (fun t ht hW => ⟨⟨1, (), rfl, (by unfold sp_k_X11_isIn_0_3; rw [if_neg c_1, if_neg c_2]), by rw [ht]; exact hP.sub [] rfl, hDA (hD.sub [] (by decide +kernel) rfl)⟩, hS.F ht⟩) hS.2.2 dX11_isIn_15
def sp_k_X11_isIn_m1_9 (x1 : Int32) : Int32 := (if x1 < (-1) then 0 else (if 9 < x1 then 0 else 1))
set_option maxHeartbeats 4000000 in
set_option maxRecDepth 100000 in
theorem k_X11_isIn_m1_9 (l : Launch) (D : va_G) (ca : Nat → ClassId) (sz : Nat) (x1 : Int32) : Met l yX11_isIn wsX11_isIn ({ frames := 0, cells := 0, slots := 0, locals := 0 }) (PC [.int x1, .int (-1), .int 9] sz D ca []) (QI (fun (r : Int32) (u : Unit) => r = sp_k_X11_isIn_m1_9 x1) (fun (_ : Unit) => []) [] sz D) 0 0 (va_A [] sz) := by
  refine Met.ofW (cc := cX11_isIn) (maxL := 3) (ret := (some .boolean)) (by decide +kernel) rfl ?_
  intro p e s m args below meth c s₁ B hml hv
  obtain ⟨rfl, hsz, hP, hC, hD0⟩ := hv
  have hx := B.exec
  have hb := B.bytes
  have hr := B.returns
  have hts := atoms_spec (ws := wsX11_isIn) B.pre
  have hown : s.vm.findClass RX11 = some m.cls := findClass_of_methodNamed B.named
  have hlocks := B.notSynchronized
  subst hsz
  have hD := hD0.self (sz := s.heap.size)
  dsimp only [QV, QI, QL, BQ]
  generalize hAe : va_A [] s.heap.size = A at hD ⊢
  have hA : ∀ q : Nat, s.heap.size ≤ q → A q := fun q h => by rw [← hAe]; exact Or.inr h
  have hDA : ∀ {w : va_W}, va_D A w → va_D (va_A [] s.heap.size) w := fun h => by rw [hAe]; exact h
  have hS : va_S A s.heap s.heap [] := va_S.rf
  have hP : va_P D vwCl [] s.heap := hP
  have hl := lv_entry ([.int x1, .int (-1), .int 9]) (n := 3) (Nat.le_of_ble_eq_true rfl)
  rw [lg_entry_eq]
  generalize (lg_sl ([.int x1, .int (-1), .int 9]) ++ List.replicate (3 - (lg_sl ([.int x1, .int (-1), .int 9])).length) Slot.unset).toArray = ls at hl ⊢
  have hl : lv_has ls 3 [(0, .int x1), (1, .int (-1)), (2, .int 9)] := hl
  refine lv_iload_n hx hb dX11_isIn_0 rfl (lv_at hl 0 rfl) ?_
  refine lv_iload_n hx hb dX11_isIn_1 rfl (lv_at hl 1 rfl) ?_
  refine lv_icmp_lt (tgt := 14) hx hb dX11_isIn_2 (by decide +kernel) (fun c_1 => ?_) (fun c_1 => ?_)
  · refine lv_iconst (v := 0) hx hb dX11_isIn_14 (by decide +kernel) ?_
    exact W.zret (v := 0) hx hb hr (rfl) (fun t ht hW => ⟨⟨0, (), rfl, (by unfold sp_k_X11_isIn_m1_9; rw [if_pos c_1]), by rw [ht]; exact hP.sub [] rfl, hDA (hD.sub [] (by decide +kernel) rfl)⟩, hS.F ht⟩) hS.2.2 dX11_isIn_15
  · refine lv_iload_n hx hb dX11_isIn_5 rfl (lv_at hl 0 rfl) ?_
    refine lv_iload_n hx hb dX11_isIn_6 rfl (lv_at hl 2 rfl) ?_
    refine lv_icmp_gt (tgt := 14) hx hb dX11_isIn_7 (by decide +kernel) (fun c_2 => ?_) (fun c_2 => ?_)
    · refine lv_iconst (v := 0) hx hb dX11_isIn_14 (by decide +kernel) ?_
      exact W.zret (v := 0) hx hb hr (rfl) (fun t ht hW => ⟨⟨0, (), rfl, (by unfold sp_k_X11_isIn_m1_9; rw [if_neg c_1, if_pos c_2]), by rw [ht]; exact hP.sub [] rfl, hDA (hD.sub [] (by decide +kernel) rfl)⟩, hS.F ht⟩) hS.2.2 dX11_isIn_15
    · refine lv_iconst (v := 1) hx hb dX11_isIn_10 (by decide +kernel) ?_
      refine lv_goto (tgt := 15) hx hb dX11_isIn_11 (by decide +kernel) ?_
      exact W.zret (v := 1) hx hb hr (rfl) (fun t ht hW => ⟨⟨1, (), rfl, (by unfold sp_k_X11_isIn_m1_9; rw [if_neg c_1, if_neg c_2]), by rw [ht]; exact hP.sub [] rfl, hDA (hD.sub [] (by decide +kernel) rfl)⟩, hS.F ht⟩) hS.2.2 dX11_isIn_15
def sp_k_X11_isIn_0_99 (x1 : Int32) : Int32 := (if x1 < 0 then 0 else (if 99 < x1 then 0 else 1))
set_option maxHeartbeats 4000000 in
set_option maxRecDepth 100000 in
theorem k_X11_isIn_0_99 (l : Launch) (D : va_G) (ca : Nat → ClassId) (sz : Nat) (x1 : Int32) : Met l yX11_isIn wsX11_isIn ({ frames := 0, cells := 0, slots := 0, locals := 0 }) (PC [.int x1, .int 0, .int 99] sz D ca []) (QI (fun (r : Int32) (u : Unit) => r = sp_k_X11_isIn_0_99 x1) (fun (_ : Unit) => []) [] sz D) 0 0 (va_A [] sz) := by
  refine Met.ofW (cc := cX11_isIn) (maxL := 3) (ret := (some .boolean)) (by decide +kernel) rfl ?_
  intro p e s m args below meth c s₁ B hml hv
  obtain ⟨rfl, hsz, hP, hC, hD0⟩ := hv
  have hx := B.exec
  have hb := B.bytes
  have hr := B.returns
  have hts := atoms_spec (ws := wsX11_isIn) B.pre
  have hown : s.vm.findClass RX11 = some m.cls := findClass_of_methodNamed B.named
  have hlocks := B.notSynchronized
  subst hsz
  have hD := hD0.self (sz := s.heap.size)
  dsimp only [QV, QI, QL, BQ]
  generalize hAe : va_A [] s.heap.size = A at hD ⊢
  have hA : ∀ q : Nat, s.heap.size ≤ q → A q := fun q h => by rw [← hAe]; exact Or.inr h
  have hDA : ∀ {w : va_W}, va_D A w → va_D (va_A [] s.heap.size) w := fun h => by rw [hAe]; exact h
  have hS : va_S A s.heap s.heap [] := va_S.rf
  have hP : va_P D vwCl [] s.heap := hP
  have hl := lv_entry ([.int x1, .int 0, .int 99]) (n := 3) (Nat.le_of_ble_eq_true rfl)
  rw [lg_entry_eq]
  generalize (lg_sl ([.int x1, .int 0, .int 99]) ++ List.replicate (3 - (lg_sl ([.int x1, .int 0, .int 99])).length) Slot.unset).toArray = ls at hl ⊢
  have hl : lv_has ls 3 [(0, .int x1), (1, .int 0), (2, .int 99)] := hl
  refine lv_iload_n hx hb dX11_isIn_0 rfl (lv_at hl 0 rfl) ?_
  refine lv_iload_n hx hb dX11_isIn_1 rfl (lv_at hl 1 rfl) ?_
  refine lv_icmp_lt (tgt := 14) hx hb dX11_isIn_2 (by decide +kernel) (fun c_1 => ?_) (fun c_1 => ?_)
  · refine lv_iconst (v := 0) hx hb dX11_isIn_14 (by decide +kernel) ?_
    exact W.zret (v := 0) hx hb hr (rfl) (fun t ht hW => ⟨⟨0, (), rfl, (by unfold sp_k_X11_isIn_0_99; rw [if_pos c_1]), by rw [ht]; exact hP.sub [] rfl, hDA (hD.sub [] (by decide +kernel) rfl)⟩, hS.F ht⟩) hS.2.2 dX11_isIn_15
  · refine lv_iload_n hx hb dX11_isIn_5 rfl (lv_at hl 0 rfl) ?_
    refine lv_iload_n hx hb dX11_isIn_6 rfl (lv_at hl 2 rfl) ?_
    refine lv_icmp_gt (tgt := 14) hx hb dX11_isIn_7 (by decide +kernel) (fun c_2 => ?_) (fun c_2 => ?_)
    · refine lv_iconst (v := 0) hx hb dX11_isIn_14 (by decide +kernel) ?_
      exact W.zret (v := 0) hx hb hr (rfl) (fun t ht hW => ⟨⟨0, (), rfl, (by unfold sp_k_X11_isIn_0_99; rw [if_neg c_1, if_pos c_2]), by rw [ht]; exact hP.sub [] rfl, hDA (hD.sub [] (by decide +kernel) rfl)⟩, hS.F ht⟩) hS.2.2 dX11_isIn_15
    · refine lv_iconst (v := 1) hx hb dX11_isIn_10 (by decide +kernel) ?_
      refine lv_goto (tgt := 15) hx hb dX11_isIn_11 (by decide +kernel) ?_
      exact W.zret (v := 1) hx hb hr (rfl) (fun t ht hW => ⟨⟨1, (), rfl, (by unfold sp_k_X11_isIn_0_99; rw [if_neg c_1, if_neg c_2]), by rw [ht]; exact hP.sub [] rfl, hDA (hD.sub [] (by decide +kernel) rfl)⟩, hS.F ht⟩) hS.2.2 dX11_isIn_15
def sp_k_X11_isIn_0_1000 (x1 : Int32) : Int32 := (if x1 < 0 then 0 else (if 1000 < x1 then 0 else 1))
set_option maxHeartbeats 4000000 in
set_option maxRecDepth 100000 in
theorem k_X11_isIn_0_1000 (l : Launch) (D : va_G) (ca : Nat → ClassId) (sz : Nat) (x1 : Int32) : Met l yX11_isIn wsX11_isIn ({ frames := 0, cells := 0, slots := 0, locals := 0 }) (PC [.int x1, .int 0, .int 1000] sz D ca []) (QI (fun (r : Int32) (u : Unit) => r = sp_k_X11_isIn_0_1000 x1) (fun (_ : Unit) => []) [] sz D) 0 0 (va_A [] sz) := by
  refine Met.ofW (cc := cX11_isIn) (maxL := 3) (ret := (some .boolean)) (by decide +kernel) rfl ?_
  intro p e s m args below meth c s₁ B hml hv
  obtain ⟨rfl, hsz, hP, hC, hD0⟩ := hv
  have hx := B.exec
  have hb := B.bytes
  have hr := B.returns
  have hts := atoms_spec (ws := wsX11_isIn) B.pre
  have hown : s.vm.findClass RX11 = some m.cls := findClass_of_methodNamed B.named
  have hlocks := B.notSynchronized
  subst hsz
  have hD := hD0.self (sz := s.heap.size)
  dsimp only [QV, QI, QL, BQ]
  generalize hAe : va_A [] s.heap.size = A at hD ⊢
  have hA : ∀ q : Nat, s.heap.size ≤ q → A q := fun q h => by rw [← hAe]; exact Or.inr h
  have hDA : ∀ {w : va_W}, va_D A w → va_D (va_A [] s.heap.size) w := fun h => by rw [hAe]; exact h
  have hS : va_S A s.heap s.heap [] := va_S.rf
  have hP : va_P D vwCl [] s.heap := hP
  have hl := lv_entry ([.int x1, .int 0, .int 1000]) (n := 3) (Nat.le_of_ble_eq_true rfl)
  rw [lg_entry_eq]
  generalize (lg_sl ([.int x1, .int 0, .int 1000]) ++ List.replicate (3 - (lg_sl ([.int x1, .int 0, .int 1000])).length) Slot.unset).toArray = ls at hl ⊢
  have hl : lv_has ls 3 [(0, .int x1), (1, .int 0), (2, .int 1000)] := hl
  refine lv_iload_n hx hb dX11_isIn_0 rfl (lv_at hl 0 rfl) ?_
  refine lv_iload_n hx hb dX11_isIn_1 rfl (lv_at hl 1 rfl) ?_
  refine lv_icmp_lt (tgt := 14) hx hb dX11_isIn_2 (by decide +kernel) (fun c_1 => ?_) (fun c_1 => ?_)
  · refine lv_iconst (v := 0) hx hb dX11_isIn_14 (by decide +kernel) ?_
    exact W.zret (v := 0) hx hb hr (rfl) (fun t ht hW => ⟨⟨0, (), rfl, (by unfold sp_k_X11_isIn_0_1000; rw [if_pos c_1]), by rw [ht]; exact hP.sub [] rfl, hDA (hD.sub [] (by decide +kernel) rfl)⟩, hS.F ht⟩) hS.2.2 dX11_isIn_15
  · refine lv_iload_n hx hb dX11_isIn_5 rfl (lv_at hl 0 rfl) ?_
    refine lv_iload_n hx hb dX11_isIn_6 rfl (lv_at hl 2 rfl) ?_
    refine lv_icmp_gt (tgt := 14) hx hb dX11_isIn_7 (by decide +kernel) (fun c_2 => ?_) (fun c_2 => ?_)
    · refine lv_iconst (v := 0) hx hb dX11_isIn_14 (by decide +kernel) ?_
      exact W.zret (v := 0) hx hb hr (rfl) (fun t ht hW => ⟨⟨0, (), rfl, (by unfold sp_k_X11_isIn_0_1000; rw [if_neg c_1, if_pos c_2]), by rw [ht]; exact hP.sub [] rfl, hDA (hD.sub [] (by decide +kernel) rfl)⟩, hS.F ht⟩) hS.2.2 dX11_isIn_15
    · refine lv_iconst (v := 1) hx hb dX11_isIn_10 (by decide +kernel) ?_
      refine lv_goto (tgt := 15) hx hb dX11_isIn_11 (by decide +kernel) ?_
      exact W.zret (v := 1) hx hb hr (rfl) (fun t ht hW => ⟨⟨1, (), rfl, (by unfold sp_k_X11_isIn_0_1000; rw [if_neg c_1, if_neg c_2]), by rw [ht]; exact hP.sub [] rfl, hDA (hD.sub [] (by decide +kernel) rfl)⟩, hS.F ht⟩) hS.2.2 dX11_isIn_15
def sp_k_X11_isIn_0_2 (x1 : Int32) : Int32 := (if x1 < 0 then 0 else (if 2 < x1 then 0 else 1))
set_option maxHeartbeats 4000000 in
set_option maxRecDepth 100000 in
theorem k_X11_isIn_0_2 (l : Launch) (D : va_G) (ca : Nat → ClassId) (sz : Nat) (x1 : Int32) : Met l yX11_isIn wsX11_isIn ({ frames := 0, cells := 0, slots := 0, locals := 0 }) (PC [.int x1, .int 0, .int 2] sz D ca []) (QI (fun (r : Int32) (u : Unit) => r = sp_k_X11_isIn_0_2 x1) (fun (_ : Unit) => []) [] sz D) 0 0 (va_A [] sz) := by
  refine Met.ofW (cc := cX11_isIn) (maxL := 3) (ret := (some .boolean)) (by decide +kernel) rfl ?_
  intro p e s m args below meth c s₁ B hml hv
  obtain ⟨rfl, hsz, hP, hC, hD0⟩ := hv
  have hx := B.exec
  have hb := B.bytes
  have hr := B.returns
  have hts := atoms_spec (ws := wsX11_isIn) B.pre
  have hown : s.vm.findClass RX11 = some m.cls := findClass_of_methodNamed B.named
  have hlocks := B.notSynchronized
  subst hsz
  have hD := hD0.self (sz := s.heap.size)
  dsimp only [QV, QI, QL, BQ]
  generalize hAe : va_A [] s.heap.size = A at hD ⊢
  have hA : ∀ q : Nat, s.heap.size ≤ q → A q := fun q h => by rw [← hAe]; exact Or.inr h
  have hDA : ∀ {w : va_W}, va_D A w → va_D (va_A [] s.heap.size) w := fun h => by rw [hAe]; exact h
  have hS : va_S A s.heap s.heap [] := va_S.rf
  have hP : va_P D vwCl [] s.heap := hP
  have hl := lv_entry ([.int x1, .int 0, .int 2]) (n := 3) (Nat.le_of_ble_eq_true rfl)
  rw [lg_entry_eq]
  generalize (lg_sl ([.int x1, .int 0, .int 2]) ++ List.replicate (3 - (lg_sl ([.int x1, .int 0, .int 2])).length) Slot.unset).toArray = ls at hl ⊢
  have hl : lv_has ls 3 [(0, .int x1), (1, .int 0), (2, .int 2)] := hl
  refine lv_iload_n hx hb dX11_isIn_0 rfl (lv_at hl 0 rfl) ?_
  refine lv_iload_n hx hb dX11_isIn_1 rfl (lv_at hl 1 rfl) ?_
  refine lv_icmp_lt (tgt := 14) hx hb dX11_isIn_2 (by decide +kernel) (fun c_1 => ?_) (fun c_1 => ?_)
  · refine lv_iconst (v := 0) hx hb dX11_isIn_14 (by decide +kernel) ?_
    exact W.zret (v := 0) hx hb hr (rfl) (fun t ht hW => ⟨⟨0, (), rfl, (by unfold sp_k_X11_isIn_0_2; rw [if_pos c_1]), by rw [ht]; exact hP.sub [] rfl, hDA (hD.sub [] (by decide +kernel) rfl)⟩, hS.F ht⟩) hS.2.2 dX11_isIn_15
  · refine lv_iload_n hx hb dX11_isIn_5 rfl (lv_at hl 0 rfl) ?_
    refine lv_iload_n hx hb dX11_isIn_6 rfl (lv_at hl 2 rfl) ?_
    refine lv_icmp_gt (tgt := 14) hx hb dX11_isIn_7 (by decide +kernel) (fun c_2 => ?_) (fun c_2 => ?_)
    · refine lv_iconst (v := 0) hx hb dX11_isIn_14 (by decide +kernel) ?_
      exact W.zret (v := 0) hx hb hr (rfl) (fun t ht hW => ⟨⟨0, (), rfl, (by unfold sp_k_X11_isIn_0_2; rw [if_neg c_1, if_pos c_2]), by rw [ht]; exact hP.sub [] rfl, hDA (hD.sub [] (by decide +kernel) rfl)⟩, hS.F ht⟩) hS.2.2 dX11_isIn_15
    · refine lv_iconst (v := 1) hx hb dX11_isIn_10 (by decide +kernel) ?_
      refine lv_goto (tgt := 15) hx hb dX11_isIn_11 (by decide +kernel) ?_
      exact W.zret (v := 1) hx hb hr (rfl) (fun t ht hW => ⟨⟨1, (), rfl, (by unfold sp_k_X11_isIn_0_2; rw [if_neg c_1, if_neg c_2]), by rw [ht]; exact hP.sub [] rfl, hDA (hD.sub [] (by decide +kernel) rfl)⟩, hS.F ht⟩) hS.2.2 dX11_isIn_15
set_option maxHeartbeats 4000000 in
set_option maxRecDepth 100000 in
theorem k_X11_isTask (l : Launch) (D : va_G) (ca : Nat → ClassId) (sz : Nat) (h0 : Nat) (ztape : Nat) (ztext : Nat) (zcores : Nat) (zlocks : Nat) (zbells : Nat) (ztasks : Nat) (zops : Nat) (zopSort : Nat) (zopNumber : Nat) (zkind : Nat) (zevery : Nat) (zbudget : Nat) (zshareTold : Nat) (zfirstOp : Nat) (zopMany : Nat) (zisCores : Nat) (zisLocks : Nat) (zisBells : Nat) (ztName : Nat) (zall : Nat) (zrows : Nat) (zpicked : Nat) (zpileTask : Nat) (zpileLock : Nat) (zwas : Nat) (zbehind : Nat) (zriskRow : Nat) (zriskBest : Nat) (zcTick : Nat) (zcProcessor : Nat) (zcTask : Nat) (zgTick : Nat) (zgTask : Nat) (zgTold : Nat) (zgUntold : Nat) (zgRan : Nat) (zboxAll : Nat) (zboxRows : Nat) (zisBoxed : Nat) (ntaped : Int32) (nsize : Int32) (nfaultKind : Int32) (nfaultPlace : Int32) (nat : Int32) (nend : Int32) (ntoken : Int32) (nnumber : Int32) (nname : Int64) (nrb : Int32) (npiled : Int32) (nriskMany : Int32) (ntoldMany : Int32) (nsights : Int32) (ntime : Int32) (x1 : Int32) : Met l yX11_isTask wsX11_isTask ({ frames := 1, cells := 0, slots := 0, locals := 22 }) (PC [.ref h0, .int x1] sz D ca [(h0, .inr (11, [.ref ztape, .ref ztext, .int ntaped, .int nsize, .int nfaultKind, .int nfaultPlace, .int nat, .int nend, .int ntoken, .int nnumber, .long nname, .ref zcores, .ref zlocks, .ref zbells, .ref ztasks, .ref zops, .ref zopSort, .ref zopNumber, .ref zkind, .ref zevery, .ref zbudget, .ref zshareTold, .ref zfirstOp, .ref zopMany, .ref zisCores, .ref zisLocks, .ref zisBells, .ref ztName, .int 0, .int nrb, .ref zall, .ref zrows, .ref zpicked, .ref zpileTask, .ref zpileLock, .int npiled, .ref zwas, .ref zbehind, .ref zriskRow, .ref zriskBest, .int nriskMany, .ref zcTick, .ref zcProcessor, .ref zcTask, .int ntoldMany, .ref zgTick, .ref zgTask, .ref zgTold, .ref zgUntold, .ref zgRan, .int nsights, .int ntime, .ref zboxAll, .ref zboxRows, .ref zisBoxed])), (ztasks, .inl (ca 1, 2, .inl (fun _ => 0)))]) (QI (fun (r : Int32) (u : Unit) => r = 0) (fun (_ : Unit) => [(h0, .inr (11, [.ref ztape, .ref ztext, .int ntaped, .int nsize, .int nfaultKind, .int nfaultPlace, .int nat, .int nend, .int ntoken, .int nnumber, .long nname, .ref zcores, .ref zlocks, .ref zbells, .ref ztasks, .ref zops, .ref zopSort, .ref zopNumber, .ref zkind, .ref zevery, .ref zbudget, .ref zshareTold, .ref zfirstOp, .ref zopMany, .ref zisCores, .ref zisLocks, .ref zisBells, .ref ztName, .int 0, .int nrb, .ref zall, .ref zrows, .ref zpicked, .ref zpileTask, .ref zpileLock, .int npiled, .ref zwas, .ref zbehind, .ref zriskRow, .ref zriskBest, .int nriskMany, .ref zcTick, .ref zcProcessor, .ref zcTask, .int ntoldMany, .ref zgTick, .ref zgTask, .ref zgTold, .ref zgUntold, .ref zgRan, .int nsights, .int ntime, .ref zboxAll, .ref zboxRows, .ref zisBoxed])), (ztasks, .inl (ca 1, 2, .inl (fun _ => 0)))]) [(h0, .inr (11, [.ref ztape, .ref ztext, .int ntaped, .int nsize, .int nfaultKind, .int nfaultPlace, .int nat, .int nend, .int ntoken, .int nnumber, .long nname, .ref zcores, .ref zlocks, .ref zbells, .ref ztasks, .ref zops, .ref zopSort, .ref zopNumber, .ref zkind, .ref zevery, .ref zbudget, .ref zshareTold, .ref zfirstOp, .ref zopMany, .ref zisCores, .ref zisLocks, .ref zisBells, .ref ztName, .int 0, .int nrb, .ref zall, .ref zrows, .ref zpicked, .ref zpileTask, .ref zpileLock, .int npiled, .ref zwas, .ref zbehind, .ref zriskRow, .ref zriskBest, .int nriskMany, .ref zcTick, .ref zcProcessor, .ref zcTask, .int ntoldMany, .ref zgTick, .ref zgTask, .ref zgTold, .ref zgUntold, .ref zgRan, .int nsights, .int ntime, .ref zboxAll, .ref zboxRows, .ref zisBoxed])), (ztasks, .inl (ca 1, 2, .inl (fun _ => 0)))] sz D) 0 0 (va_A [(h0, .inr (11, [.ref ztape, .ref ztext, .int ntaped, .int nsize, .int nfaultKind, .int nfaultPlace, .int nat, .int nend, .int ntoken, .int nnumber, .long nname, .ref zcores, .ref zlocks, .ref zbells, .ref ztasks, .ref zops, .ref zopSort, .ref zopNumber, .ref zkind, .ref zevery, .ref zbudget, .ref zshareTold, .ref zfirstOp, .ref zopMany, .ref zisCores, .ref zisLocks, .ref zisBells, .ref ztName, .int 0, .int nrb, .ref zall, .ref zrows, .ref zpicked, .ref zpileTask, .ref zpileLock, .int npiled, .ref zwas, .ref zbehind, .ref zriskRow, .ref zriskBest, .int nriskMany, .ref zcTick, .ref zcProcessor, .ref zcTask, .int ntoldMany, .ref zgTick, .ref zgTask, .ref zgTold, .ref zgUntold, .ref zgRan, .int nsights, .int ntime, .ref zboxAll, .ref zboxRows, .ref zisBoxed])), (ztasks, .inl (ca 1, 2, .inl (fun _ => 0)))] sz) := by
  refine Met.ofW (cc := cX11_isTask) (maxL := 2) (ret := (some .boolean)) (by decide +kernel) rfl ?_
  intro p e s m args below meth c s₁ B hml hv
  obtain ⟨rfl, hsz, hP, hC, hD0⟩ := hv
  have hx := B.exec
  have hb := B.bytes
  have hr := B.returns
  have hts := atoms_spec (ws := wsX11_isTask) B.pre
  have hown : s.vm.findClass RX11 = some m.cls := findClass_of_methodNamed B.named
  have hlocks := B.notSynchronized
  subst hsz
  have hD := hD0.self (sz := s.heap.size)
  dsimp only [QV, QI, QL, BQ]
  generalize hAe : va_A [(h0, .inr (11, [.ref ztape, .ref ztext, .int ntaped, .int nsize, .int nfaultKind, .int nfaultPlace, .int nat, .int nend, .int ntoken, .int nnumber, .long nname, .ref zcores, .ref zlocks, .ref zbells, .ref ztasks, .ref zops, .ref zopSort, .ref zopNumber, .ref zkind, .ref zevery, .ref zbudget, .ref zshareTold, .ref zfirstOp, .ref zopMany, .ref zisCores, .ref zisLocks, .ref zisBells, .ref ztName, .int 0, .int nrb, .ref zall, .ref zrows, .ref zpicked, .ref zpileTask, .ref zpileLock, .int npiled, .ref zwas, .ref zbehind, .ref zriskRow, .ref zriskBest, .int nriskMany, .ref zcTick, .ref zcProcessor, .ref zcTask, .int ntoldMany, .ref zgTick, .ref zgTask, .ref zgTold, .ref zgUntold, .ref zgRan, .int nsights, .int ntime, .ref zboxAll, .ref zboxRows, .ref zisBoxed])), (ztasks, .inl (ca 1, 2, .inl (fun _ => 0)))] s.heap.size = A at hD ⊢
  have hA : ∀ q : Nat, s.heap.size ≤ q → A q := fun q h => by rw [← hAe]; exact Or.inr h
  have hDA : ∀ {w : va_W}, va_D A w → va_D (va_A [(h0, .inr (11, [.ref ztape, .ref ztext, .int ntaped, .int nsize, .int nfaultKind, .int nfaultPlace, .int nat, .int nend, .int ntoken, .int nnumber, .long nname, .ref zcores, .ref zlocks, .ref zbells, .ref ztasks, .ref zops, .ref zopSort, .ref zopNumber, .ref zkind, .ref zevery, .ref zbudget, .ref zshareTold, .ref zfirstOp, .ref zopMany, .ref zisCores, .ref zisLocks, .ref zisBells, .ref ztName, .int 0, .int nrb, .ref zall, .ref zrows, .ref zpicked, .ref zpileTask, .ref zpileLock, .int npiled, .ref zwas, .ref zbehind, .ref zriskRow, .ref zriskBest, .int nriskMany, .ref zcTick, .ref zcProcessor, .ref zcTask, .int ntoldMany, .ref zgTick, .ref zgTask, .ref zgTold, .ref zgUntold, .ref zgRan, .int nsights, .int ntime, .ref zboxAll, .ref zboxRows, .ref zisBoxed])), (ztasks, .inl (ca 1, 2, .inl (fun _ => 0)))] s.heap.size) w := fun h => by rw [hAe]; exact h
  have hS : va_S A s.heap s.heap [] := va_S.rf
  have hP : va_P D vwCl [(h0, .inr (11, [.ref ztape, .ref ztext, .int ntaped, .int nsize, .int nfaultKind, .int nfaultPlace, .int nat, .int nend, .int ntoken, .int nnumber, .long nname, .ref zcores, .ref zlocks, .ref zbells, .ref ztasks, .ref zops, .ref zopSort, .ref zopNumber, .ref zkind, .ref zevery, .ref zbudget, .ref zshareTold, .ref zfirstOp, .ref zopMany, .ref zisCores, .ref zisLocks, .ref zisBells, .ref ztName, .int 0, .int nrb, .ref zall, .ref zrows, .ref zpicked, .ref zpileTask, .ref zpileLock, .int npiled, .ref zwas, .ref zbehind, .ref zriskRow, .ref zriskBest, .int nriskMany, .ref zcTick, .ref zcProcessor, .ref zcTask, .int ntoldMany, .ref zgTick, .ref zgTask, .ref zgTold, .ref zgUntold, .ref zgRan, .int nsights, .int ntime, .ref zboxAll, .ref zboxRows, .ref zisBoxed])), (ztasks, .inl (ca 1, 2, .inl (fun _ => 0)))] s.heap := hP
  have hl := lv_entry ([.ref h0, .int x1]) (n := 2) (Nat.le_of_ble_eq_true rfl)
  rw [lg_entry_eq]
  generalize (lg_sl ([.ref h0, .int x1]) ++ List.replicate (2 - (lg_sl ([.ref h0, .int x1])).length) Slot.unset).toArray = ls at hl ⊢
  have hl : lv_has ls 2 [(0, .ref h0), (1, .int x1)] := hl
  refine lv_iload_n hx hb dX11_isTask_0 rfl (lv_at hl 1 rfl) ?_
  refine lv_iconst (v := 0) hx hb dX11_isTask_1 (by decide +kernel) ?_
  refine lv_aload_n hx hb dX11_isTask_2 rfl (lv_at hl 0 rfl) ?_
  refine kc_i (wr := []) (va_runV (As := []) (rest := [.int 0, .int x1]) ⟨hx, hb, hml, hown, hts⟩ (k_X11_taskMany_0 l D ca s.heap.size h0 ztape ztext zcores zlocks zbells ztasks zops zopSort zopNumber zkind zevery zbudget zshareTold zfirstOp zopMany zisCores zisLocks zisBells ztName zall zrows zpicked zpileTask zpileLock zwas zbehind zriskRow zriskBest zcTick zcProcessor zcTask zgTick zgTask zgTold zgUntold zgRan zboxAll zboxRows zisBoxed ntaped nsize nfaultKind nfaultPlace nat nend ntoken nnumber nname nrb npiled nriskMany ntoldMany nsights ntime) (cwV 0 hts gX11_isTask_X11_taskMany rfl rfl rfl (by decide +kernel) ⟨(Nat.le_of_ble_eq_true rfl), (Nat.le_of_ble_eq_true rfl)⟩) (PC.preV (ci := 11) hC hP hD [0, 1] rfl (by decide +kernel) rfl rfl) rfl rfl hl.1 rfl (lv_room (Nat.le_of_ble_eq_true rfl)) dX11_isTask_3 ⟨(Nat.le_of_ble_eq_true rfl), (Nat.le_of_ble_eq_true rfl)⟩) hP hD hS hA [0, 1] [] rfl rfl (by decide +kernel) (by decide +kernel) (fun r_1 u_3 H locs hw_2 hP hD hS => ?_)
  subst hw_2
  have hP : va_P D vwCl [(h0, .inr (11, [.ref ztape, .ref ztext, .int ntaped, .int nsize, .int nfaultKind, .int nfaultPlace, .int nat, .int nend, .int ntoken, .int nnumber, .long nname, .ref zcores, .ref zlocks, .ref zbells, .ref ztasks, .ref zops, .ref zopSort, .ref zopNumber, .ref zkind, .ref zevery, .ref zbudget, .ref zshareTold, .ref zfirstOp, .ref zopMany, .ref zisCores, .ref zisLocks, .ref zisBells, .ref ztName, .int 0, .int nrb, .ref zall, .ref zrows, .ref zpicked, .ref zpileTask, .ref zpileLock, .int npiled, .ref zwas, .ref zbehind, .ref zriskRow, .ref zriskBest, .int nriskMany, .ref zcTick, .ref zcProcessor, .ref zcTask, .int ntoldMany, .ref zgTick, .ref zgTask, .ref zgTold, .ref zgUntold, .ref zgRan, .int nsights, .int ntime, .ref zboxAll, .ref zboxRows, .ref zisBoxed])), (ztasks, .inl (ca 1, 2, .inl (fun _ => 0)))] H := hP
  have hD : va_D A [(h0, .inr (11, [.ref ztape, .ref ztext, .int ntaped, .int nsize, .int nfaultKind, .int nfaultPlace, .int nat, .int nend, .int ntoken, .int nnumber, .long nname, .ref zcores, .ref zlocks, .ref zbells, .ref ztasks, .ref zops, .ref zopSort, .ref zopNumber, .ref zkind, .ref zevery, .ref zbudget, .ref zshareTold, .ref zfirstOp, .ref zopMany, .ref zisCores, .ref zisLocks, .ref zisBells, .ref ztName, .int 0, .int nrb, .ref zall, .ref zrows, .ref zpicked, .ref zpileTask, .ref zpileLock, .int npiled, .ref zwas, .ref zbehind, .ref zriskRow, .ref zriskBest, .int nriskMany, .ref zcTick, .ref zcProcessor, .ref zcTask, .int ntoldMany, .ref zgTick, .ref zgTask, .ref zgTold, .ref zgUntold, .ref zgRan, .int nsights, .int ntime, .ref zboxAll, .ref zboxRows, .ref zisBoxed])), (ztasks, .inl (ca 1, 2, .inl (fun _ => 0)))] := hD
  refine lv_iconst (v := 1) hx hb dX11_isTask_6 (by decide +kernel) ?_
  refine lv_isub hx hb dX11_isTask_7 ?_
  refine nt_i (-1) (by decide +kernel) ?_
  refine kc_i (wr := [(h0, .inr (11, [.ref ztape, .ref ztext, .int ntaped, .int nsize, .int nfaultKind, .int nfaultPlace, .int nat, .int nend, .int ntoken, .int nnumber, .long nname, .ref zcores, .ref zlocks, .ref zbells, .ref ztasks, .ref zops, .ref zopSort, .ref zopNumber, .ref zkind, .ref zevery, .ref zbudget, .ref zshareTold, .ref zfirstOp, .ref zopMany, .ref zisCores, .ref zisLocks, .ref zisBells, .ref ztName, .int 0, .int nrb, .ref zall, .ref zrows, .ref zpicked, .ref zpileTask, .ref zpileLock, .int npiled, .ref zwas, .ref zbehind, .ref zriskRow, .ref zriskBest, .int nriskMany, .ref zcTick, .ref zcProcessor, .ref zcTask, .int ntoldMany, .ref zgTick, .ref zgTask, .ref zgTold, .ref zgUntold, .ref zgRan, .int nsights, .int ntime, .ref zboxAll, .ref zboxRows, .ref zisBoxed])), (ztasks, .inl (ca 1, 2, .inl (fun _ => 0)))]) (va_runS (As := [.int x1, .int 0, .int (-1)]) (rest := []) ⟨hx, hb, hml, hown, hts⟩ (k_X11_isIn_0_m1 l D ca H.size x1) (va_cwS 3 hts gX11_isTask_X11_isIn rfl rfl rfl (by decide +kernel) ⟨(Nat.le_of_ble_eq_true rfl), (Nat.le_of_ble_eq_true rfl)⟩) (PC.preS hC hP hD [] rfl (by decide +kernel)) rfl rfl hl.1 rfl (lv_room (Nat.le_of_ble_eq_true rfl)) dX11_isTask_8 ⟨(Nat.le_of_ble_eq_true rfl), (Nat.le_of_ble_eq_true rfl)⟩) hP hD hS hA [] [0, 1] rfl rfl (by decide +kernel) (by decide +kernel) (fun r_4 u_6 H locs hw_5 hP hD hS => ?_)
  subst hw_5
  have hP : va_P D vwCl [(h0, .inr (11, [.ref ztape, .ref ztext, .int ntaped, .int nsize, .int nfaultKind, .int nfaultPlace, .int nat, .int nend, .int ntoken, .int nnumber, .long nname, .ref zcores, .ref zlocks, .ref zbells, .ref ztasks, .ref zops, .ref zopSort, .ref zopNumber, .ref zkind, .ref zevery, .ref zbudget, .ref zshareTold, .ref zfirstOp, .ref zopMany, .ref zisCores, .ref zisLocks, .ref zisBells, .ref ztName, .int 0, .int nrb, .ref zall, .ref zrows, .ref zpicked, .ref zpileTask, .ref zpileLock, .int npiled, .ref zwas, .ref zbehind, .ref zriskRow, .ref zriskBest, .int nriskMany, .ref zcTick, .ref zcProcessor, .ref zcTask, .int ntoldMany, .ref zgTick, .ref zgTask, .ref zgTold, .ref zgUntold, .ref zgRan, .int nsights, .int ntime, .ref zboxAll, .ref zboxRows, .ref zisBoxed])), (ztasks, .inl (ca 1, 2, .inl (fun _ => 0)))] H := hP
  have hD : va_D A [(h0, .inr (11, [.ref ztape, .ref ztext, .int ntaped, .int nsize, .int nfaultKind, .int nfaultPlace, .int nat, .int nend, .int ntoken, .int nnumber, .long nname, .ref zcores, .ref zlocks, .ref zbells, .ref ztasks, .ref zops, .ref zopSort, .ref zopNumber, .ref zkind, .ref zevery, .ref zbudget, .ref zshareTold, .ref zfirstOp, .ref zopMany, .ref zisCores, .ref zisLocks, .ref zisBells, .ref ztName, .int 0, .int nrb, .ref zall, .ref zrows, .ref zpicked, .ref zpileTask, .ref zpileLock, .int npiled, .ref zwas, .ref zbehind, .ref zriskRow, .ref zriskBest, .int nriskMany, .ref zcTick, .ref zcProcessor, .ref zcTask, .int ntoldMany, .ref zgTick, .ref zgTask, .ref zgTold, .ref zgUntold, .ref zgRan, .int nsights, .int ntime, .ref zboxAll, .ref zboxRows, .ref zisBoxed])), (ztasks, .inl (ca 1, 2, .inl (fun _ => 0)))] := hD
  exact W.zret (v := 0) hx hb hr (rfl) (fun t ht hW => ⟨⟨0, (), rfl, rfl, by rw [ht]; exact hP.sub [0, 1] rfl, hDA (hD.sub [0, 1] (by decide +kernel) rfl)⟩, hS.F ht⟩) hS.2.2 dX11_isTask_11
theorem iw_X11_feed_11 : ∀ w ∈ u_ws RX11 TX11 55, w ∈ wsX11_feed := by decide +kernel
set_option maxHeartbeats 4000000 in
set_option maxRecDepth 100000 in
theorem k_X11_feed (l : Launch) (D : va_G) (ca : Nat → ClassId) (sz : Nat) (h0 : Nat) (ztape : Nat) (ztext : Nat) (zcores : Nat) (zlocks : Nat) (zbells : Nat) (ztasks : Nat) (zops : Nat) (zopSort : Nat) (zopNumber : Nat) (zkind : Nat) (zevery : Nat) (zbudget : Nat) (zshareTold : Nat) (zfirstOp : Nat) (zopMany : Nat) (zisCores : Nat) (zisLocks : Nat) (zisBells : Nat) (ztName : Nat) (zall : Nat) (zrows : Nat) (zpicked : Nat) (zpileTask : Nat) (zpileLock : Nat) (zwas : Nat) (zbehind : Nat) (zriskRow : Nat) (zriskBest : Nat) (zcTick : Nat) (zcProcessor : Nat) (zcTask : Nat) (zgTick : Nat) (zgTask : Nat) (zgTold : Nat) (zgUntold : Nat) (zgRan : Nat) (zboxAll : Nat) (zboxRows : Nat) (zisBoxed : Nat) (ft : Nat → Int32) (x1 : Int32) (x2 : Int32) (x3 : Int32) (x4 : Int32) (x5 : Int32) : Met l yX11_feed wsX11_feed ({ frames := 0, cells := 0, slots := 0, locals := 0 }) (PC [.ref h0, .int x1, .int x2, .int x3, .int x4, .int x5] sz D ca [(h0, .inr (11, [.ref ztape, .ref ztext, .int 0, .int 0, .int 0, .int (-1), .int 0, .int 0, .int 0, .int 0, .long 0, .ref zcores, .ref zlocks, .ref zbells, .ref ztasks, .ref zops, .ref zopSort, .ref zopNumber, .ref zkind, .ref zevery, .ref zbudget, .ref zshareTold, .ref zfirstOp, .ref zopMany, .ref zisCores, .ref zisLocks, .ref zisBells, .ref ztName, .int 0, .int 0, .ref zall, .ref zrows, .ref zpicked, .ref zpileTask, .ref zpileLock, .int 0, .ref zwas, .ref zbehind, .ref zriskRow, .ref zriskBest, .int 0, .ref zcTick, .ref zcProcessor, .ref zcTask, .int 0, .ref zgTick, .ref zgTask, .ref zgTold, .ref zgUntold, .ref zgRan, .int 0, .int 0, .ref zboxAll, .ref zboxRows, .ref zisBoxed])), (ztape, .inl (ca 0, 1720, .inl ft))]) (QI (fun (r : Int32) (u : Unit) => r = 20) (fun (_ : Unit) => []) [(h0, .inr (11, [.ref ztape, .ref ztext, .int 0, .int 0, .int 0, .int (-1), .int 0, .int 0, .int 0, .int 0, .long 0, .ref zcores, .ref zlocks, .ref zbells, .ref ztasks, .ref zops, .ref zopSort, .ref zopNumber, .ref zkind, .ref zevery, .ref zbudget, .ref zshareTold, .ref zfirstOp, .ref zopMany, .ref zisCores, .ref zisLocks, .ref zisBells, .ref ztName, .int 0, .int 0, .ref zall, .ref zrows, .ref zpicked, .ref zpileTask, .ref zpileLock, .int 0, .ref zwas, .ref zbehind, .ref zriskRow, .ref zriskBest, .int 0, .ref zcTick, .ref zcProcessor, .ref zcTask, .int 0, .ref zgTick, .ref zgTask, .ref zgTold, .ref zgUntold, .ref zgRan, .int 0, .int 0, .ref zboxAll, .ref zboxRows, .ref zisBoxed])), (ztape, .inl (ca 0, 1720, .inl ft))] sz D) 0 0 (va_A [(h0, .inr (11, [.ref ztape, .ref ztext, .int 0, .int 0, .int 0, .int (-1), .int 0, .int 0, .int 0, .int 0, .long 0, .ref zcores, .ref zlocks, .ref zbells, .ref ztasks, .ref zops, .ref zopSort, .ref zopNumber, .ref zkind, .ref zevery, .ref zbudget, .ref zshareTold, .ref zfirstOp, .ref zopMany, .ref zisCores, .ref zisLocks, .ref zisBells, .ref ztName, .int 0, .int 0, .ref zall, .ref zrows, .ref zpicked, .ref zpileTask, .ref zpileLock, .int 0, .ref zwas, .ref zbehind, .ref zriskRow, .ref zriskBest, .int 0, .ref zcTick, .ref zcProcessor, .ref zcTask, .int 0, .ref zgTick, .ref zgTask, .ref zgTold, .ref zgUntold, .ref zgRan, .int 0, .int 0, .ref zboxAll, .ref zboxRows, .ref zisBoxed])), (ztape, .inl (ca 0, 1720, .inl ft))] sz) := by
  refine Met.ofW (cc := cX11_feed) (maxL := 8) (ret := (some .int)) (by decide +kernel) rfl ?_
  intro p e s m args below meth c s₁ B hml hv
  obtain ⟨rfl, hsz, hP, hC, hD0⟩ := hv
  have hx := B.exec
  have hb := B.bytes
  have hr := B.returns
  have hts := atoms_spec (ws := wsX11_feed) B.pre
  have hown : s.vm.findClass RX11 = some m.cls := findClass_of_methodNamed B.named
  have hlocks := B.notSynchronized
  subst hsz
  have hD := hD0.self (sz := s.heap.size)
  dsimp only [QV, QI, QL, BQ]
  generalize hAe : va_A [(h0, .inr (11, [.ref ztape, .ref ztext, .int 0, .int 0, .int 0, .int (-1), .int 0, .int 0, .int 0, .int 0, .long 0, .ref zcores, .ref zlocks, .ref zbells, .ref ztasks, .ref zops, .ref zopSort, .ref zopNumber, .ref zkind, .ref zevery, .ref zbudget, .ref zshareTold, .ref zfirstOp, .ref zopMany, .ref zisCores, .ref zisLocks, .ref zisBells, .ref ztName, .int 0, .int 0, .ref zall, .ref zrows, .ref zpicked, .ref zpileTask, .ref zpileLock, .int 0, .ref zwas, .ref zbehind, .ref zriskRow, .ref zriskBest, .int 0, .ref zcTick, .ref zcProcessor, .ref zcTask, .int 0, .ref zgTick, .ref zgTask, .ref zgTold, .ref zgUntold, .ref zgRan, .int 0, .int 0, .ref zboxAll, .ref zboxRows, .ref zisBoxed])), (ztape, .inl (ca 0, 1720, .inl ft))] s.heap.size = A at hD ⊢
  have hA : ∀ q : Nat, s.heap.size ≤ q → A q := fun q h => by rw [← hAe]; exact Or.inr h
  have hDA : ∀ {w : va_W}, va_D A w → va_D (va_A [(h0, .inr (11, [.ref ztape, .ref ztext, .int 0, .int 0, .int 0, .int (-1), .int 0, .int 0, .int 0, .int 0, .long 0, .ref zcores, .ref zlocks, .ref zbells, .ref ztasks, .ref zops, .ref zopSort, .ref zopNumber, .ref zkind, .ref zevery, .ref zbudget, .ref zshareTold, .ref zfirstOp, .ref zopMany, .ref zisCores, .ref zisLocks, .ref zisBells, .ref ztName, .int 0, .int 0, .ref zall, .ref zrows, .ref zpicked, .ref zpileTask, .ref zpileLock, .int 0, .ref zwas, .ref zbehind, .ref zriskRow, .ref zriskBest, .int 0, .ref zcTick, .ref zcProcessor, .ref zcTask, .int 0, .ref zgTick, .ref zgTask, .ref zgTold, .ref zgUntold, .ref zgRan, .int 0, .int 0, .ref zboxAll, .ref zboxRows, .ref zisBoxed])), (ztape, .inl (ca 0, 1720, .inl ft))] s.heap.size) w := fun h => by rw [hAe]; exact h
  have hS : va_S A s.heap s.heap [] := va_S.rf
  have hP : va_P D vwCl [(h0, .inr (11, [.ref ztape, .ref ztext, .int 0, .int 0, .int 0, .int (-1), .int 0, .int 0, .int 0, .int 0, .long 0, .ref zcores, .ref zlocks, .ref zbells, .ref ztasks, .ref zops, .ref zopSort, .ref zopNumber, .ref zkind, .ref zevery, .ref zbudget, .ref zshareTold, .ref zfirstOp, .ref zopMany, .ref zisCores, .ref zisLocks, .ref zisBells, .ref ztName, .int 0, .int 0, .ref zall, .ref zrows, .ref zpicked, .ref zpileTask, .ref zpileLock, .int 0, .ref zwas, .ref zbehind, .ref zriskRow, .ref zriskBest, .int 0, .ref zcTick, .ref zcProcessor, .ref zcTask, .int 0, .ref zgTick, .ref zgTask, .ref zgTold, .ref zgUntold, .ref zgRan, .int 0, .int 0, .ref zboxAll, .ref zboxRows, .ref zisBoxed])), (ztape, .inl (ca 0, 1720, .inl ft))] s.heap := hP
  have hl := lv_entry ([.ref h0, .int x1, .int x2, .int x3, .int x4, .int x5]) (n := 8) (Nat.le_of_ble_eq_true rfl)
  rw [lg_entry_eq]
  generalize (lg_sl ([.ref h0, .int x1, .int x2, .int x3, .int x4, .int x5]) ++ List.replicate (8 - (lg_sl ([.ref h0, .int x1, .int x2, .int x3, .int x4, .int x5])).length) Slot.unset).toArray = ls at hl ⊢
  have hl : lv_has ls 8 [(0, .ref h0), (1, .int x1), (2, .int x2), (3, .int x3), (4, .int x4), (5, .int x5)] := hl
  refine lv_aload_n hx hb dX11_feed_0 rfl (lv_at hl 0 rfl) ?_
  refine va_get (D := D) (ci := 11) (v := .int 0) (C := RX11) (T := TX11) (N := 55) hx hb hts iw_X11_feed_11 hown hC.1 hP 0 rfl rfl 2 (by decide +kernel) (hts (.fieldLink RX11 241 "FairWheelModel" "taped" "I") (by decide +kernel)) (fun _ h9 => h9) rfl dX11_feed_1 ?_
  refine lv_bipush (v := 20) hx hb dX11_feed_4 (by decide +kernel) ?_
  refine lv_iadd hx hb dX11_feed_6 ?_
  refine nt_i 20 (by decide +kernel) ?_
  refine lv_sipush (v := 1700) hx hb dX11_feed_7 (by decide +kernel) ?_
  refine lv_icmp_le (tgt := 15) hx hb dX11_feed_10 (by decide +kernel) (fun c_1 => ?_) (fun c_1 => absurd (by decide +kernel) c_1)
  refine lv_iconst (v := 0) hx hb dX11_feed_15 (by decide +kernel) ?_
  refine lv_istore (lv' := [(6, .int 0), (0, .ref h0), (1, .int x1), (2, .int x2), (3, .int x3), (4, .int x4), (5, .int x5)]) hx hb dX11_feed_16 hl (by decide +kernel) rfl (fun ls hl => ?_)
  refine lv_iload hx hb dX11_feed_18 (lv_at hl 0 rfl) ?_
  refine lv_bipush (v := 20) hx hb dX11_feed_20 (by decide +kernel) ?_
  refine lv_icmp_ge (tgt := 105) hx hb dX11_feed_22 (by decide +kernel) (fun c_2 => absurd c_2 (by decide +kernel)) (fun c_2 => ?_)
  refine lv_iload hx hb dX11_feed_25 (lv_at hl 0 rfl) ?_
  refine lv_iconst (v := 4) hx hb dX11_feed_27 (by decide +kernel) ?_
  refine lv_icmp_ge (tgt := 35) hx hb dX11_feed_28 (by decide +kernel) (fun c_3 => absurd c_3 (by decide +kernel)) (fun c_3 => ?_)
  refine lv_iload_n hx hb dX11_feed_31 rfl (lv_at hl 2 rfl) ?_
  refine lv_goto (tgt := 71) hx hb dX11_feed_32 (by decide +kernel) ?_
  refine lv_istore (lv' := [(7, .int x1), (6, .int 0), (0, .ref h0), (1, .int x1), (2, .int x2), (3, .int x3), (4, .int x4), (5, .int x5)]) hx hb dX11_feed_71 hl (by decide +kernel) rfl (fun ls hl => ?_)
  refine lv_aload_n hx hb dX11_feed_73 rfl (lv_at hl 2 rfl) ?_
  refine va_get (D := D) (ci := 11) (v := .ref ztape) (C := RX11) (T := TX11) (N := 55) hx hb hts iw_X11_feed_11 hown hC.1 hP 0 rfl rfl 0 (by decide +kernel) (hts (.fieldLink RX11 7 "FairWheelModel" "tape" "[B") (by decide +kernel)) (fun _ h9 => h9) rfl dX11_feed_74 ?_
  refine lv_aload_n hx hb dX11_feed_77 rfl (lv_at hl 2 rfl) ?_
  refine va_get (D := D) (ci := 11) (v := .int 0) (C := RX11) (T := TX11) (N := 55) hx hb hts iw_X11_feed_11 hown hC.1 hP 0 rfl rfl 2 (by decide +kernel) (hts (.fieldLink RX11 241 "FairWheelModel" "taped" "I") (by decide +kernel)) (fun _ h9 => h9) rfl dX11_feed_78 ?_
  refine lv_iload hx hb dX11_feed_81 (lv_at hl 1 rfl) ?_
  refine lv_iadd hx hb dX11_feed_83 ?_
  refine nt_i 0 (by decide +kernel) ?_
  refine lv_iload hx hb dX11_feed_84 (lv_at hl 0 rfl) ?_
  refine lv_bipush (v := 24) hx hb dX11_feed_86 (by decide +kernel) ?_
  refine lv_bipush (v := 8) hx hb dX11_feed_88 (by decide +kernel) ?_
  refine lv_iload hx hb dX11_feed_90 (lv_at hl 1 rfl) ?_
  refine lv_iconst (v := 3) hx hb dX11_feed_92 (by decide +kernel) ?_
  refine lv_iand hx hb dX11_feed_93 ?_
  refine nt_i 0 (by decide +kernel) ?_
  refine lv_imul hx hb dX11_feed_94 ?_
  refine nt_i 0 (by decide +kernel) ?_
  refine lv_isub hx hb dX11_feed_95 ?_
  refine nt_i 24 (by decide +kernel) ?_
  refine lv_ishr hx hb dX11_feed_96 ?_
  refine lv_topi (fun y_4 ey_4 => ?_)
  obtain ⟨y_5, ey_5⟩ : ∃ z : Int32, z = Int8.toInt32 (Int32.toInt8 y_4) := ⟨_, rfl⟩
  refine lv_i2b (v := y_5) hx hb dX11_feed_97 ey_5.symm ?_
  refine ka_bast hx hb hC.1 hP hD hS 1 0 rfl rfl 0 rfl (by decide +kernel) (by decide +kernel) dX11_feed_98 (fun H locs hP hD hS => ?_)
  have hP : va_P D vwCl [(h0, .inr (11, [.ref ztape, .ref ztext, .int 0, .int 0, .int 0, .int (-1), .int 0, .int 0, .int 0, .int 0, .long 0, .ref zcores, .ref zlocks, .ref zbells, .ref ztasks, .ref zops, .ref zopSort, .ref zopNumber, .ref zkind, .ref zevery, .ref zbudget, .ref zshareTold, .ref zfirstOp, .ref zopMany, .ref zisCores, .ref zisLocks, .ref zisBells, .ref ztName, .int 0, .int 0, .ref zall, .ref zrows, .ref zpicked, .ref zpileTask, .ref zpileLock, .int 0, .ref zwas, .ref zbehind, .ref zriskRow, .ref zriskBest, .int 0, .ref zcTick, .ref zcProcessor, .ref zcTask, .int 0, .ref zgTick, .ref zgTask, .ref zgTold, .ref zgUntold, .ref zgRan, .int 0, .int 0, .ref zboxAll, .ref zboxRows, .ref zisBoxed])), (ztape, .inl (ca 0, 1720, .inl (upd ft 0 (vp_nar .byte y_5))))] H := hP
  have hD : va_D A [(h0, .inr (11, [.ref ztape, .ref ztext, .int 0, .int 0, .int 0, .int (-1), .int 0, .int 0, .int 0, .int 0, .long 0, .ref zcores, .ref zlocks, .ref zbells, .ref ztasks, .ref zops, .ref zopSort, .ref zopNumber, .ref zkind, .ref zevery, .ref zbudget, .ref zshareTold, .ref zfirstOp, .ref zopMany, .ref zisCores, .ref zisLocks, .ref zisBells, .ref ztName, .int 0, .int 0, .ref zall, .ref zrows, .ref zpicked, .ref zpileTask, .ref zpileLock, .int 0, .ref zwas, .ref zbehind, .ref zriskRow, .ref zriskBest, .int 0, .ref zcTick, .ref zcProcessor, .ref zcTask, .int 0, .ref zgTick, .ref zgTask, .ref zgTold, .ref zgUntold, .ref zgRan, .int 0, .int 0, .ref zboxAll, .ref zboxRows, .ref zisBoxed])), (ztape, .inl (ca 0, 1720, .inl (upd ft 0 (vp_nar .byte y_5))))] := hD
  generalize (upd ft 0 (vp_nar .byte y_5)) = f_6 at hP hD
  refine lv_iinc (v := 1) (lv' := [(6, .int 1), (7, .int x1), (0, .ref h0), (1, .int x1), (2, .int x2), (3, .int x3), (4, .int x4), (5, .int x5)]) hx hb dX11_feed_99 hl (k := 1) rfl (by decide +kernel) (by decide +kernel) rfl (fun ls hl => ?_)
  refine lv_goto (tgt := 18) hx hb dX11_feed_102 (by decide +kernel) ?_
  refine lv_iload hx hb dX11_feed_18 (lv_at hl 0 rfl) ?_
  refine lv_bipush (v := 20) hx hb dX11_feed_20 (by decide +kernel) ?_
  refine lv_icmp_ge (tgt := 105) hx hb dX11_feed_22 (by decide +kernel) (fun c_7 => absurd c_7 (by decide +kernel)) (fun c_7 => ?_)
  refine lv_iload hx hb dX11_feed_25 (lv_at hl 0 rfl) ?_
  refine lv_iconst (v := 4) hx hb dX11_feed_27 (by decide +kernel) ?_
  refine lv_icmp_ge (tgt := 35) hx hb dX11_feed_28 (by decide +kernel) (fun c_8 => absurd c_8 (by decide +kernel)) (fun c_8 => ?_)
  refine lv_iload_n hx hb dX11_feed_31 rfl (lv_at hl 3 rfl) ?_
  refine lv_goto (tgt := 71) hx hb dX11_feed_32 (by decide +kernel) ?_
  refine lv_istore (lv' := [(7, .int x1), (6, .int 1), (0, .ref h0), (1, .int x1), (2, .int x2), (3, .int x3), (4, .int x4), (5, .int x5)]) hx hb dX11_feed_71 hl (by decide +kernel) rfl (fun ls hl => ?_)
  refine lv_aload_n hx hb dX11_feed_73 rfl (lv_at hl 2 rfl) ?_
  refine va_get (D := D) (ci := 11) (v := .ref ztape) (C := RX11) (T := TX11) (N := 55) hx hb hts iw_X11_feed_11 hown hC.1 hP 0 rfl rfl 0 (by decide +kernel) (hts (.fieldLink RX11 7 "FairWheelModel" "tape" "[B") (by decide +kernel)) (fun _ h9 => h9) rfl dX11_feed_74 ?_
  refine lv_aload_n hx hb dX11_feed_77 rfl (lv_at hl 2 rfl) ?_
  refine va_get (D := D) (ci := 11) (v := .int 0) (C := RX11) (T := TX11) (N := 55) hx hb hts iw_X11_feed_11 hown hC.1 hP 0 rfl rfl 2 (by decide +kernel) (hts (.fieldLink RX11 241 "FairWheelModel" "taped" "I") (by decide +kernel)) (fun _ h9 => h9) rfl dX11_feed_78 ?_
  refine lv_iload hx hb dX11_feed_81 (lv_at hl 1 rfl) ?_
  refine lv_iadd hx hb dX11_feed_83 ?_
  refine nt_i 1 (by decide +kernel) ?_
  refine lv_iload hx hb dX11_feed_84 (lv_at hl 0 rfl) ?_
  refine lv_bipush (v := 24) hx hb dX11_feed_86 (by decide +kernel) ?_
  refine lv_bipush (v := 8) hx hb dX11_feed_88 (by decide +kernel) ?_
  refine lv_iload hx hb dX11_feed_90 (lv_at hl 1 rfl) ?_
  refine lv_iconst (v := 3) hx hb dX11_feed_92 (by decide +kernel) ?_
  refine lv_iand hx hb dX11_feed_93 ?_
  refine nt_i 1 (by decide +kernel) ?_
  refine lv_imul hx hb dX11_feed_94 ?_
  refine nt_i 8 (by decide +kernel) ?_
  refine lv_isub hx hb dX11_feed_95 ?_
  refine nt_i 16 (by decide +kernel) ?_
  refine lv_ishr hx hb dX11_feed_96 ?_
  refine lv_topi (fun y_9 ey_9 => ?_)
  obtain ⟨y_10, ey_10⟩ : ∃ z : Int32, z = Int8.toInt32 (Int32.toInt8 y_9) := ⟨_, rfl⟩
  refine lv_i2b (v := y_10) hx hb dX11_feed_97 ey_10.symm ?_
  refine ka_bast hx hb hC.1 hP hD hS 1 0 rfl rfl 1 rfl (by decide +kernel) (by decide +kernel) dX11_feed_98 (fun H locs hP hD hS => ?_)
  have hP : va_P D vwCl [(h0, .inr (11, [.ref ztape, .ref ztext, .int 0, .int 0, .int 0, .int (-1), .int 0, .int 0, .int 0, .int 0, .long 0, .ref zcores, .ref zlocks, .ref zbells, .ref ztasks, .ref zops, .ref zopSort, .ref zopNumber, .ref zkind, .ref zevery, .ref zbudget, .ref zshareTold, .ref zfirstOp, .ref zopMany, .ref zisCores, .ref zisLocks, .ref zisBells, .ref ztName, .int 0, .int 0, .ref zall, .ref zrows, .ref zpicked, .ref zpileTask, .ref zpileLock, .int 0, .ref zwas, .ref zbehind, .ref zriskRow, .ref zriskBest, .int 0, .ref zcTick, .ref zcProcessor, .ref zcTask, .int 0, .ref zgTick, .ref zgTask, .ref zgTold, .ref zgUntold, .ref zgRan, .int 0, .int 0, .ref zboxAll, .ref zboxRows, .ref zisBoxed])), (ztape, .inl (ca 0, 1720, .inl (upd f_6 1 (vp_nar .byte y_10))))] H := hP
  have hD : va_D A [(h0, .inr (11, [.ref ztape, .ref ztext, .int 0, .int 0, .int 0, .int (-1), .int 0, .int 0, .int 0, .int 0, .long 0, .ref zcores, .ref zlocks, .ref zbells, .ref ztasks, .ref zops, .ref zopSort, .ref zopNumber, .ref zkind, .ref zevery, .ref zbudget, .ref zshareTold, .ref zfirstOp, .ref zopMany, .ref zisCores, .ref zisLocks, .ref zisBells, .ref ztName, .int 0, .int 0, .ref zall, .ref zrows, .ref zpicked, .ref zpileTask, .ref zpileLock, .int 0, .ref zwas, .ref zbehind, .ref zriskRow, .ref zriskBest, .int 0, .ref zcTick, .ref zcProcessor, .ref zcTask, .int 0, .ref zgTick, .ref zgTask, .ref zgTold, .ref zgUntold, .ref zgRan, .int 0, .int 0, .ref zboxAll, .ref zboxRows, .ref zisBoxed])), (ztape, .inl (ca 0, 1720, .inl (upd f_6 1 (vp_nar .byte y_10))))] := hD
  generalize (upd f_6 1 (vp_nar .byte y_10)) = f_11 at hP hD
  refine lv_iinc (v := 2) (lv' := [(6, .int 2), (7, .int x1), (0, .ref h0), (1, .int x1), (2, .int x2), (3, .int x3), (4, .int x4), (5, .int x5)]) hx hb dX11_feed_99 hl (k := 1) rfl (by decide +kernel) (by decide +kernel) rfl (fun ls hl => ?_)
  refine lv_goto (tgt := 18) hx hb dX11_feed_102 (by decide +kernel) ?_
  refine lv_iload hx hb dX11_feed_18 (lv_at hl 0 rfl) ?_
  refine lv_bipush (v := 20) hx hb dX11_feed_20 (by decide +kernel) ?_
  refine lv_icmp_ge (tgt := 105) hx hb dX11_feed_22 (by decide +kernel) (fun c_12 => absurd c_12 (by decide +kernel)) (fun c_12 => ?_)
  refine lv_iload hx hb dX11_feed_25 (lv_at hl 0 rfl) ?_
  refine lv_iconst (v := 4) hx hb dX11_feed_27 (by decide +kernel) ?_
  refine lv_icmp_ge (tgt := 35) hx hb dX11_feed_28 (by decide +kernel) (fun c_13 => absurd c_13 (by decide +kernel)) (fun c_13 => ?_)
  refine lv_iload_n hx hb dX11_feed_31 rfl (lv_at hl 3 rfl) ?_
  refine lv_goto (tgt := 71) hx hb dX11_feed_32 (by decide +kernel) ?_
  refine lv_istore (lv' := [(7, .int x1), (6, .int 2), (0, .ref h0), (1, .int x1), (2, .int x2), (3, .int x3), (4, .int x4), (5, .int x5)]) hx hb dX11_feed_71 hl (by decide +kernel) rfl (fun ls hl => ?_)
  refine lv_aload_n hx hb dX11_feed_73 rfl (lv_at hl 2 rfl) ?_
  refine va_get (D := D) (ci := 11) (v := .ref ztape) (C := RX11) (T := TX11) (N := 55) hx hb hts iw_X11_feed_11 hown hC.1 hP 0 rfl rfl 0 (by decide +kernel) (hts (.fieldLink RX11 7 "FairWheelModel" "tape" "[B") (by decide +kernel)) (fun _ h9 => h9) rfl dX11_feed_74 ?_
  refine lv_aload_n hx hb dX11_feed_77 rfl (lv_at hl 2 rfl) ?_
  refine va_get (D := D) (ci := 11) (v := .int 0) (C := RX11) (T := TX11) (N := 55) hx hb hts iw_X11_feed_11 hown hC.1 hP 0 rfl rfl 2 (by decide +kernel) (hts (.fieldLink RX11 241 "FairWheelModel" "taped" "I") (by decide +kernel)) (fun _ h9 => h9) rfl dX11_feed_78 ?_
  refine lv_iload hx hb dX11_feed_81 (lv_at hl 1 rfl) ?_
  refine lv_iadd hx hb dX11_feed_83 ?_
  refine nt_i 2 (by decide +kernel) ?_
  refine lv_iload hx hb dX11_feed_84 (lv_at hl 0 rfl) ?_
  refine lv_bipush (v := 24) hx hb dX11_feed_86 (by decide +kernel) ?_
  refine lv_bipush (v := 8) hx hb dX11_feed_88 (by decide +kernel) ?_
  refine lv_iload hx hb dX11_feed_90 (lv_at hl 1 rfl) ?_
  refine lv_iconst (v := 3) hx hb dX11_feed_92 (by decide +kernel) ?_
  refine lv_iand hx hb dX11_feed_93 ?_
  refine nt_i 2 (by decide +kernel) ?_
  refine lv_imul hx hb dX11_feed_94 ?_
  refine nt_i 16 (by decide +kernel) ?_
  refine lv_isub hx hb dX11_feed_95 ?_
  refine nt_i 8 (by decide +kernel) ?_
  refine lv_ishr hx hb dX11_feed_96 ?_
  refine lv_topi (fun y_14 ey_14 => ?_)
  obtain ⟨y_15, ey_15⟩ : ∃ z : Int32, z = Int8.toInt32 (Int32.toInt8 y_14) := ⟨_, rfl⟩
  refine lv_i2b (v := y_15) hx hb dX11_feed_97 ey_15.symm ?_
  refine ka_bast hx hb hC.1 hP hD hS 1 0 rfl rfl 2 rfl (by decide +kernel) (by decide +kernel) dX11_feed_98 (fun H locs hP hD hS => ?_)
  have hP : va_P D vwCl [(h0, .inr (11, [.ref ztape, .ref ztext, .int 0, .int 0, .int 0, .int (-1), .int 0, .int 0, .int 0, .int 0, .long 0, .ref zcores, .ref zlocks, .ref zbells, .ref ztasks, .ref zops, .ref zopSort, .ref zopNumber, .ref zkind, .ref zevery, .ref zbudget, .ref zshareTold, .ref zfirstOp, .ref zopMany, .ref zisCores, .ref zisLocks, .ref zisBells, .ref ztName, .int 0, .int 0, .ref zall, .ref zrows, .ref zpicked, .ref zpileTask, .ref zpileLock, .int 0, .ref zwas, .ref zbehind, .ref zriskRow, .ref zriskBest, .int 0, .ref zcTick, .ref zcProcessor, .ref zcTask, .int 0, .ref zgTick, .ref zgTask, .ref zgTold, .ref zgUntold, .ref zgRan, .int 0, .int 0, .ref zboxAll, .ref zboxRows, .ref zisBoxed])), (ztape, .inl (ca 0, 1720, .inl (upd f_11 2 (vp_nar .byte y_15))))] H := hP
  have hD : va_D A [(h0, .inr (11, [.ref ztape, .ref ztext, .int 0, .int 0, .int 0, .int (-1), .int 0, .int 0, .int 0, .int 0, .long 0, .ref zcores, .ref zlocks, .ref zbells, .ref ztasks, .ref zops, .ref zopSort, .ref zopNumber, .ref zkind, .ref zevery, .ref zbudget, .ref zshareTold, .ref zfirstOp, .ref zopMany, .ref zisCores, .ref zisLocks, .ref zisBells, .ref ztName, .int 0, .int 0, .ref zall, .ref zrows, .ref zpicked, .ref zpileTask, .ref zpileLock, .int 0, .ref zwas, .ref zbehind, .ref zriskRow, .ref zriskBest, .int 0, .ref zcTick, .ref zcProcessor, .ref zcTask, .int 0, .ref zgTick, .ref zgTask, .ref zgTold, .ref zgUntold, .ref zgRan, .int 0, .int 0, .ref zboxAll, .ref zboxRows, .ref zisBoxed])), (ztape, .inl (ca 0, 1720, .inl (upd f_11 2 (vp_nar .byte y_15))))] := hD
  generalize (upd f_11 2 (vp_nar .byte y_15)) = f_16 at hP hD
  refine lv_iinc (v := 3) (lv' := [(6, .int 3), (7, .int x1), (0, .ref h0), (1, .int x1), (2, .int x2), (3, .int x3), (4, .int x4), (5, .int x5)]) hx hb dX11_feed_99 hl (k := 1) rfl (by decide +kernel) (by decide +kernel) rfl (fun ls hl => ?_)
  refine lv_goto (tgt := 18) hx hb dX11_feed_102 (by decide +kernel) ?_
  refine lv_iload hx hb dX11_feed_18 (lv_at hl 0 rfl) ?_
  refine lv_bipush (v := 20) hx hb dX11_feed_20 (by decide +kernel) ?_
  refine lv_icmp_ge (tgt := 105) hx hb dX11_feed_22 (by decide +kernel) (fun c_17 => absurd c_17 (by decide +kernel)) (fun c_17 => ?_)
  refine lv_iload hx hb dX11_feed_25 (lv_at hl 0 rfl) ?_
  refine lv_iconst (v := 4) hx hb dX11_feed_27 (by decide +kernel) ?_
  refine lv_icmp_ge (tgt := 35) hx hb dX11_feed_28 (by decide +kernel) (fun c_18 => absurd c_18 (by decide +kernel)) (fun c_18 => ?_)
  refine lv_iload_n hx hb dX11_feed_31 rfl (lv_at hl 3 rfl) ?_
  refine lv_goto (tgt := 71) hx hb dX11_feed_32 (by decide +kernel) ?_
  refine lv_istore (lv' := [(7, .int x1), (6, .int 3), (0, .ref h0), (1, .int x1), (2, .int x2), (3, .int x3), (4, .int x4), (5, .int x5)]) hx hb dX11_feed_71 hl (by decide +kernel) rfl (fun ls hl => ?_)
  refine lv_aload_n hx hb dX11_feed_73 rfl (lv_at hl 2 rfl) ?_
  refine va_get (D := D) (ci := 11) (v := .ref ztape) (C := RX11) (T := TX11) (N := 55) hx hb hts iw_X11_feed_11 hown hC.1 hP 0 rfl rfl 0 (by decide +kernel) (hts (.fieldLink RX11 7 "FairWheelModel" "tape" "[B") (by decide +kernel)) (fun _ h9 => h9) rfl dX11_feed_74 ?_
  refine lv_aload_n hx hb dX11_feed_77 rfl (lv_at hl 2 rfl) ?_
  refine va_get (D := D) (ci := 11) (v := .int 0) (C := RX11) (T := TX11) (N := 55) hx hb hts iw_X11_feed_11 hown hC.1 hP 0 rfl rfl 2 (by decide +kernel) (hts (.fieldLink RX11 241 "FairWheelModel" "taped" "I") (by decide +kernel)) (fun _ h9 => h9) rfl dX11_feed_78 ?_
  refine lv_iload hx hb dX11_feed_81 (lv_at hl 1 rfl) ?_
  refine lv_iadd hx hb dX11_feed_83 ?_
  refine nt_i 3 (by decide +kernel) ?_
  refine lv_iload hx hb dX11_feed_84 (lv_at hl 0 rfl) ?_
  refine lv_bipush (v := 24) hx hb dX11_feed_86 (by decide +kernel) ?_
  refine lv_bipush (v := 8) hx hb dX11_feed_88 (by decide +kernel) ?_
  refine lv_iload hx hb dX11_feed_90 (lv_at hl 1 rfl) ?_
  refine lv_iconst (v := 3) hx hb dX11_feed_92 (by decide +kernel) ?_
  refine lv_iand hx hb dX11_feed_93 ?_
  refine nt_i 3 (by decide +kernel) ?_
  refine lv_imul hx hb dX11_feed_94 ?_
  refine nt_i 24 (by decide +kernel) ?_
  refine lv_isub hx hb dX11_feed_95 ?_
  refine nt_i 0 (by decide +kernel) ?_
  refine lv_ishr hx hb dX11_feed_96 ?_
  refine lv_topi (fun y_19 ey_19 => ?_)
  obtain ⟨y_20, ey_20⟩ : ∃ z : Int32, z = Int8.toInt32 (Int32.toInt8 y_19) := ⟨_, rfl⟩
  refine lv_i2b (v := y_20) hx hb dX11_feed_97 ey_20.symm ?_
  refine ka_bast hx hb hC.1 hP hD hS 1 0 rfl rfl 3 rfl (by decide +kernel) (by decide +kernel) dX11_feed_98 (fun H locs hP hD hS => ?_)
  have hP : va_P D vwCl [(h0, .inr (11, [.ref ztape, .ref ztext, .int 0, .int 0, .int 0, .int (-1), .int 0, .int 0, .int 0, .int 0, .long 0, .ref zcores, .ref zlocks, .ref zbells, .ref ztasks, .ref zops, .ref zopSort, .ref zopNumber, .ref zkind, .ref zevery, .ref zbudget, .ref zshareTold, .ref zfirstOp, .ref zopMany, .ref zisCores, .ref zisLocks, .ref zisBells, .ref ztName, .int 0, .int 0, .ref zall, .ref zrows, .ref zpicked, .ref zpileTask, .ref zpileLock, .int 0, .ref zwas, .ref zbehind, .ref zriskRow, .ref zriskBest, .int 0, .ref zcTick, .ref zcProcessor, .ref zcTask, .int 0, .ref zgTick, .ref zgTask, .ref zgTold, .ref zgUntold, .ref zgRan, .int 0, .int 0, .ref zboxAll, .ref zboxRows, .ref zisBoxed])), (ztape, .inl (ca 0, 1720, .inl (upd f_16 3 (vp_nar .byte y_20))))] H := hP
  have hD : va_D A [(h0, .inr (11, [.ref ztape, .ref ztext, .int 0, .int 0, .int 0, .int (-1), .int 0, .int 0, .int 0, .int 0, .long 0, .ref zcores, .ref zlocks, .ref zbells, .ref ztasks, .ref zops, .ref zopSort, .ref zopNumber, .ref zkind, .ref zevery, .ref zbudget, .ref zshareTold, .ref zfirstOp, .ref zopMany, .ref zisCores, .ref zisLocks, .ref zisBells, .ref ztName, .int 0, .int 0, .ref zall, .ref zrows, .ref zpicked, .ref zpileTask, .ref zpileLock, .int 0, .ref zwas, .ref zbehind, .ref zriskRow, .ref zriskBest, .int 0, .ref zcTick, .ref zcProcessor, .ref zcTask, .int 0, .ref zgTick, .ref zgTask, .ref zgTold, .ref zgUntold, .ref zgRan, .int 0, .int 0, .ref zboxAll, .ref zboxRows, .ref zisBoxed])), (ztape, .inl (ca 0, 1720, .inl (upd f_16 3 (vp_nar .byte y_20))))] := hD
  generalize (upd f_16 3 (vp_nar .byte y_20)) = f_21 at hP hD
  refine lv_iinc (v := 4) (lv' := [(6, .int 4), (7, .int x1), (0, .ref h0), (1, .int x1), (2, .int x2), (3, .int x3), (4, .int x4), (5, .int x5)]) hx hb dX11_feed_99 hl (k := 1) rfl (by decide +kernel) (by decide +kernel) rfl (fun ls hl => ?_)
  refine lv_goto (tgt := 18) hx hb dX11_feed_102 (by decide +kernel) ?_
  refine lv_iload hx hb dX11_feed_18 (lv_at hl 0 rfl) ?_
  refine lv_bipush (v := 20) hx hb dX11_feed_20 (by decide +kernel) ?_
  refine lv_icmp_ge (tgt := 105) hx hb dX11_feed_22 (by decide +kernel) (fun c_22 => absurd c_22 (by decide +kernel)) (fun c_22 => ?_)
  refine lv_iload hx hb dX11_feed_25 (lv_at hl 0 rfl) ?_
  refine lv_iconst (v := 4) hx hb dX11_feed_27 (by decide +kernel) ?_
  refine lv_icmp_ge (tgt := 35) hx hb dX11_feed_28 (by decide +kernel) (fun c_23 => ?_) (fun c_23 => absurd (by decide +kernel) c_23)
  refine lv_iload hx hb dX11_feed_35 (lv_at hl 0 rfl) ?_
  refine lv_bipush (v := 8) hx hb dX11_feed_37 (by decide +kernel) ?_
  refine lv_icmp_ge (tgt := 46) hx hb dX11_feed_39 (by decide +kernel) (fun c_24 => absurd c_24 (by decide +kernel)) (fun c_24 => ?_)
  refine lv_iload_n hx hb dX11_feed_42 rfl (lv_at hl 4 rfl) ?_
  refine lv_goto (tgt := 71) hx hb dX11_feed_43 (by decide +kernel) ?_
  refine lv_istore (lv' := [(7, .int x2), (6, .int 4), (0, .ref h0), (1, .int x1), (2, .int x2), (3, .int x3), (4, .int x4), (5, .int x5)]) hx hb dX11_feed_71 hl (by decide +kernel) rfl (fun ls hl => ?_)
  refine lv_aload_n hx hb dX11_feed_73 rfl (lv_at hl 2 rfl) ?_
  refine va_get (D := D) (ci := 11) (v := .ref ztape) (C := RX11) (T := TX11) (N := 55) hx hb hts iw_X11_feed_11 hown hC.1 hP 0 rfl rfl 0 (by decide +kernel) (hts (.fieldLink RX11 7 "FairWheelModel" "tape" "[B") (by decide +kernel)) (fun _ h9 => h9) rfl dX11_feed_74 ?_
  refine lv_aload_n hx hb dX11_feed_77 rfl (lv_at hl 2 rfl) ?_
  refine va_get (D := D) (ci := 11) (v := .int 0) (C := RX11) (T := TX11) (N := 55) hx hb hts iw_X11_feed_11 hown hC.1 hP 0 rfl rfl 2 (by decide +kernel) (hts (.fieldLink RX11 241 "FairWheelModel" "taped" "I") (by decide +kernel)) (fun _ h9 => h9) rfl dX11_feed_78 ?_
  refine lv_iload hx hb dX11_feed_81 (lv_at hl 1 rfl) ?_
  refine lv_iadd hx hb dX11_feed_83 ?_
  refine nt_i 4 (by decide +kernel) ?_
  refine lv_iload hx hb dX11_feed_84 (lv_at hl 0 rfl) ?_
  refine lv_bipush (v := 24) hx hb dX11_feed_86 (by decide +kernel) ?_
  refine lv_bipush (v := 8) hx hb dX11_feed_88 (by decide +kernel) ?_
  refine lv_iload hx hb dX11_feed_90 (lv_at hl 1 rfl) ?_
  refine lv_iconst (v := 3) hx hb dX11_feed_92 (by decide +kernel) ?_
  refine lv_iand hx hb dX11_feed_93 ?_
  refine nt_i 0 (by decide +kernel) ?_
  refine lv_imul hx hb dX11_feed_94 ?_
  refine nt_i 0 (by decide +kernel) ?_
  refine lv_isub hx hb dX11_feed_95 ?_
  refine nt_i 24 (by decide +kernel) ?_
  refine lv_ishr hx hb dX11_feed_96 ?_
  refine lv_topi (fun y_25 ey_25 => ?_)
  obtain ⟨y_26, ey_26⟩ : ∃ z : Int32, z = Int8.toInt32 (Int32.toInt8 y_25) := ⟨_, rfl⟩
  refine lv_i2b (v := y_26) hx hb dX11_feed_97 ey_26.symm ?_
  refine ka_bast hx hb hC.1 hP hD hS 1 0 rfl rfl 4 rfl (by decide +kernel) (by decide +kernel) dX11_feed_98 (fun H locs hP hD hS => ?_)
  have hP : va_P D vwCl [(h0, .inr (11, [.ref ztape, .ref ztext, .int 0, .int 0, .int 0, .int (-1), .int 0, .int 0, .int 0, .int 0, .long 0, .ref zcores, .ref zlocks, .ref zbells, .ref ztasks, .ref zops, .ref zopSort, .ref zopNumber, .ref zkind, .ref zevery, .ref zbudget, .ref zshareTold, .ref zfirstOp, .ref zopMany, .ref zisCores, .ref zisLocks, .ref zisBells, .ref ztName, .int 0, .int 0, .ref zall, .ref zrows, .ref zpicked, .ref zpileTask, .ref zpileLock, .int 0, .ref zwas, .ref zbehind, .ref zriskRow, .ref zriskBest, .int 0, .ref zcTick, .ref zcProcessor, .ref zcTask, .int 0, .ref zgTick, .ref zgTask, .ref zgTold, .ref zgUntold, .ref zgRan, .int 0, .int 0, .ref zboxAll, .ref zboxRows, .ref zisBoxed])), (ztape, .inl (ca 0, 1720, .inl (upd f_21 4 (vp_nar .byte y_26))))] H := hP
  have hD : va_D A [(h0, .inr (11, [.ref ztape, .ref ztext, .int 0, .int 0, .int 0, .int (-1), .int 0, .int 0, .int 0, .int 0, .long 0, .ref zcores, .ref zlocks, .ref zbells, .ref ztasks, .ref zops, .ref zopSort, .ref zopNumber, .ref zkind, .ref zevery, .ref zbudget, .ref zshareTold, .ref zfirstOp, .ref zopMany, .ref zisCores, .ref zisLocks, .ref zisBells, .ref ztName, .int 0, .int 0, .ref zall, .ref zrows, .ref zpicked, .ref zpileTask, .ref zpileLock, .int 0, .ref zwas, .ref zbehind, .ref zriskRow, .ref zriskBest, .int 0, .ref zcTick, .ref zcProcessor, .ref zcTask, .int 0, .ref zgTick, .ref zgTask, .ref zgTold, .ref zgUntold, .ref zgRan, .int 0, .int 0, .ref zboxAll, .ref zboxRows, .ref zisBoxed])), (ztape, .inl (ca 0, 1720, .inl (upd f_21 4 (vp_nar .byte y_26))))] := hD
  generalize (upd f_21 4 (vp_nar .byte y_26)) = f_27 at hP hD
  refine lv_iinc (v := 5) (lv' := [(6, .int 5), (7, .int x2), (0, .ref h0), (1, .int x1), (2, .int x2), (3, .int x3), (4, .int x4), (5, .int x5)]) hx hb dX11_feed_99 hl (k := 1) rfl (by decide +kernel) (by decide +kernel) rfl (fun ls hl => ?_)
  refine lv_goto (tgt := 18) hx hb dX11_feed_102 (by decide +kernel) ?_
  refine lv_iload hx hb dX11_feed_18 (lv_at hl 0 rfl) ?_
  refine lv_bipush (v := 20) hx hb dX11_feed_20 (by decide +kernel) ?_
  refine lv_icmp_ge (tgt := 105) hx hb dX11_feed_22 (by decide +kernel) (fun c_28 => absurd c_28 (by decide +kernel)) (fun c_28 => ?_)
  refine lv_iload hx hb dX11_feed_25 (lv_at hl 0 rfl) ?_
  refine lv_iconst (v := 4) hx hb dX11_feed_27 (by decide +kernel) ?_
  refine lv_icmp_ge (tgt := 35) hx hb dX11_feed_28 (by decide +kernel) (fun c_29 => ?_) (fun c_29 => absurd (by decide +kernel) c_29)
  refine lv_iload hx hb dX11_feed_35 (lv_at hl 0 rfl) ?_
  refine lv_bipush (v := 8) hx hb dX11_feed_37 (by decide +kernel) ?_
  refine lv_icmp_ge (tgt := 46) hx hb dX11_feed_39 (by decide +kernel) (fun c_30 => absurd c_30 (by decide +kernel)) (fun c_30 => ?_)
  refine lv_iload_n hx hb dX11_feed_42 rfl (lv_at hl 4 rfl) ?_
  refine lv_goto (tgt := 71) hx hb dX11_feed_43 (by decide +kernel) ?_
  refine lv_istore (lv' := [(7, .int x2), (6, .int 5), (0, .ref h0), (1, .int x1), (2, .int x2), (3, .int x3), (4, .int x4), (5, .int x5)]) hx hb dX11_feed_71 hl (by decide +kernel) rfl (fun ls hl => ?_)
  refine lv_aload_n hx hb dX11_feed_73 rfl (lv_at hl 2 rfl) ?_
  refine va_get (D := D) (ci := 11) (v := .ref ztape) (C := RX11) (T := TX11) (N := 55) hx hb hts iw_X11_feed_11 hown hC.1 hP 0 rfl rfl 0 (by decide +kernel) (hts (.fieldLink RX11 7 "FairWheelModel" "tape" "[B") (by decide +kernel)) (fun _ h9 => h9) rfl dX11_feed_74 ?_
  refine lv_aload_n hx hb dX11_feed_77 rfl (lv_at hl 2 rfl) ?_
  refine va_get (D := D) (ci := 11) (v := .int 0) (C := RX11) (T := TX11) (N := 55) hx hb hts iw_X11_feed_11 hown hC.1 hP 0 rfl rfl 2 (by decide +kernel) (hts (.fieldLink RX11 241 "FairWheelModel" "taped" "I") (by decide +kernel)) (fun _ h9 => h9) rfl dX11_feed_78 ?_
  refine lv_iload hx hb dX11_feed_81 (lv_at hl 1 rfl) ?_
  refine lv_iadd hx hb dX11_feed_83 ?_
  refine nt_i 5 (by decide +kernel) ?_
  refine lv_iload hx hb dX11_feed_84 (lv_at hl 0 rfl) ?_
  refine lv_bipush (v := 24) hx hb dX11_feed_86 (by decide +kernel) ?_
  refine lv_bipush (v := 8) hx hb dX11_feed_88 (by decide +kernel) ?_
  refine lv_iload hx hb dX11_feed_90 (lv_at hl 1 rfl) ?_
  refine lv_iconst (v := 3) hx hb dX11_feed_92 (by decide +kernel) ?_
  refine lv_iand hx hb dX11_feed_93 ?_
  refine nt_i 1 (by decide +kernel) ?_
  refine lv_imul hx hb dX11_feed_94 ?_
  refine nt_i 8 (by decide +kernel) ?_
  refine lv_isub hx hb dX11_feed_95 ?_
  refine nt_i 16 (by decide +kernel) ?_
  refine lv_ishr hx hb dX11_feed_96 ?_
  refine lv_topi (fun y_31 ey_31 => ?_)
  obtain ⟨y_32, ey_32⟩ : ∃ z : Int32, z = Int8.toInt32 (Int32.toInt8 y_31) := ⟨_, rfl⟩
  refine lv_i2b (v := y_32) hx hb dX11_feed_97 ey_32.symm ?_
  refine ka_bast hx hb hC.1 hP hD hS 1 0 rfl rfl 5 rfl (by decide +kernel) (by decide +kernel) dX11_feed_98 (fun H locs hP hD hS => ?_)
  have hP : va_P D vwCl [(h0, .inr (11, [.ref ztape, .ref ztext, .int 0, .int 0, .int 0, .int (-1), .int 0, .int 0, .int 0, .int 0, .long 0, .ref zcores, .ref zlocks, .ref zbells, .ref ztasks, .ref zops, .ref zopSort, .ref zopNumber, .ref zkind, .ref zevery, .ref zbudget, .ref zshareTold, .ref zfirstOp, .ref zopMany, .ref zisCores, .ref zisLocks, .ref zisBells, .ref ztName, .int 0, .int 0, .ref zall, .ref zrows, .ref zpicked, .ref zpileTask, .ref zpileLock, .int 0, .ref zwas, .ref zbehind, .ref zriskRow, .ref zriskBest, .int 0, .ref zcTick, .ref zcProcessor, .ref zcTask, .int 0, .ref zgTick, .ref zgTask, .ref zgTold, .ref zgUntold, .ref zgRan, .int 0, .int 0, .ref zboxAll, .ref zboxRows, .ref zisBoxed])), (ztape, .inl (ca 0, 1720, .inl (upd f_27 5 (vp_nar .byte y_32))))] H := hP
  have hD : va_D A [(h0, .inr (11, [.ref ztape, .ref ztext, .int 0, .int 0, .int 0, .int (-1), .int 0, .int 0, .int 0, .int 0, .long 0, .ref zcores, .ref zlocks, .ref zbells, .ref ztasks, .ref zops, .ref zopSort, .ref zopNumber, .ref zkind, .ref zevery, .ref zbudget, .ref zshareTold, .ref zfirstOp, .ref zopMany, .ref zisCores, .ref zisLocks, .ref zisBells, .ref ztName, .int 0, .int 0, .ref zall, .ref zrows, .ref zpicked, .ref zpileTask, .ref zpileLock, .int 0, .ref zwas, .ref zbehind, .ref zriskRow, .ref zriskBest, .int 0, .ref zcTick, .ref zcProcessor, .ref zcTask, .int 0, .ref zgTick, .ref zgTask, .ref zgTold, .ref zgUntold, .ref zgRan, .int 0, .int 0, .ref zboxAll, .ref zboxRows, .ref zisBoxed])), (ztape, .inl (ca 0, 1720, .inl (upd f_27 5 (vp_nar .byte y_32))))] := hD
  generalize (upd f_27 5 (vp_nar .byte y_32)) = f_33 at hP hD
  refine lv_iinc (v := 6) (lv' := [(6, .int 6), (7, .int x2), (0, .ref h0), (1, .int x1), (2, .int x2), (3, .int x3), (4, .int x4), (5, .int x5)]) hx hb dX11_feed_99 hl (k := 1) rfl (by decide +kernel) (by decide +kernel) rfl (fun ls hl => ?_)
  refine lv_goto (tgt := 18) hx hb dX11_feed_102 (by decide +kernel) ?_
  refine lv_iload hx hb dX11_feed_18 (lv_at hl 0 rfl) ?_
  refine lv_bipush (v := 20) hx hb dX11_feed_20 (by decide +kernel) ?_
  refine lv_icmp_ge (tgt := 105) hx hb dX11_feed_22 (by decide +kernel) (fun c_34 => absurd c_34 (by decide +kernel)) (fun c_34 => ?_)
  refine lv_iload hx hb dX11_feed_25 (lv_at hl 0 rfl) ?_
  refine lv_iconst (v := 4) hx hb dX11_feed_27 (by decide +kernel) ?_
  refine lv_icmp_ge (tgt := 35) hx hb dX11_feed_28 (by decide +kernel) (fun c_35 => ?_) (fun c_35 => absurd (by decide +kernel) c_35)
  refine lv_iload hx hb dX11_feed_35 (lv_at hl 0 rfl) ?_
  refine lv_bipush (v := 8) hx hb dX11_feed_37 (by decide +kernel) ?_
  refine lv_icmp_ge (tgt := 46) hx hb dX11_feed_39 (by decide +kernel) (fun c_36 => absurd c_36 (by decide +kernel)) (fun c_36 => ?_)
  refine lv_iload_n hx hb dX11_feed_42 rfl (lv_at hl 4 rfl) ?_
  refine lv_goto (tgt := 71) hx hb dX11_feed_43 (by decide +kernel) ?_
  refine lv_istore (lv' := [(7, .int x2), (6, .int 6), (0, .ref h0), (1, .int x1), (2, .int x2), (3, .int x3), (4, .int x4), (5, .int x5)]) hx hb dX11_feed_71 hl (by decide +kernel) rfl (fun ls hl => ?_)
  refine lv_aload_n hx hb dX11_feed_73 rfl (lv_at hl 2 rfl) ?_
  refine va_get (D := D) (ci := 11) (v := .ref ztape) (C := RX11) (T := TX11) (N := 55) hx hb hts iw_X11_feed_11 hown hC.1 hP 0 rfl rfl 0 (by decide +kernel) (hts (.fieldLink RX11 7 "FairWheelModel" "tape" "[B") (by decide +kernel)) (fun _ h9 => h9) rfl dX11_feed_74 ?_
  refine lv_aload_n hx hb dX11_feed_77 rfl (lv_at hl 2 rfl) ?_
  refine va_get (D := D) (ci := 11) (v := .int 0) (C := RX11) (T := TX11) (N := 55) hx hb hts iw_X11_feed_11 hown hC.1 hP 0 rfl rfl 2 (by decide +kernel) (hts (.fieldLink RX11 241 "FairWheelModel" "taped" "I") (by decide +kernel)) (fun _ h9 => h9) rfl dX11_feed_78 ?_
  refine lv_iload hx hb dX11_feed_81 (lv_at hl 1 rfl) ?_
  refine lv_iadd hx hb dX11_feed_83 ?_
  refine nt_i 6 (by decide +kernel) ?_
  refine lv_iload hx hb dX11_feed_84 (lv_at hl 0 rfl) ?_
  refine lv_bipush (v := 24) hx hb dX11_feed_86 (by decide +kernel) ?_
  refine lv_bipush (v := 8) hx hb dX11_feed_88 (by decide +kernel) ?_
  refine lv_iload hx hb dX11_feed_90 (lv_at hl 1 rfl) ?_
  refine lv_iconst (v := 3) hx hb dX11_feed_92 (by decide +kernel) ?_
  refine lv_iand hx hb dX11_feed_93 ?_
  refine nt_i 2 (by decide +kernel) ?_
  refine lv_imul hx hb dX11_feed_94 ?_
  refine nt_i 16 (by decide +kernel) ?_
  refine lv_isub hx hb dX11_feed_95 ?_
  refine nt_i 8 (by decide +kernel) ?_
  refine lv_ishr hx hb dX11_feed_96 ?_
  refine lv_topi (fun y_37 ey_37 => ?_)
  obtain ⟨y_38, ey_38⟩ : ∃ z : Int32, z = Int8.toInt32 (Int32.toInt8 y_37) := ⟨_, rfl⟩
  refine lv_i2b (v := y_38) hx hb dX11_feed_97 ey_38.symm ?_
  refine ka_bast hx hb hC.1 hP hD hS 1 0 rfl rfl 6 rfl (by decide +kernel) (by decide +kernel) dX11_feed_98 (fun H locs hP hD hS => ?_)
  have hP : va_P D vwCl [(h0, .inr (11, [.ref ztape, .ref ztext, .int 0, .int 0, .int 0, .int (-1), .int 0, .int 0, .int 0, .int 0, .long 0, .ref zcores, .ref zlocks, .ref zbells, .ref ztasks, .ref zops, .ref zopSort, .ref zopNumber, .ref zkind, .ref zevery, .ref zbudget, .ref zshareTold, .ref zfirstOp, .ref zopMany, .ref zisCores, .ref zisLocks, .ref zisBells, .ref ztName, .int 0, .int 0, .ref zall, .ref zrows, .ref zpicked, .ref zpileTask, .ref zpileLock, .int 0, .ref zwas, .ref zbehind, .ref zriskRow, .ref zriskBest, .int 0, .ref zcTick, .ref zcProcessor, .ref zcTask, .int 0, .ref zgTick, .ref zgTask, .ref zgTold, .ref zgUntold, .ref zgRan, .int 0, .int 0, .ref zboxAll, .ref zboxRows, .ref zisBoxed])), (ztape, .inl (ca 0, 1720, .inl (upd f_33 6 (vp_nar .byte y_38))))] H := hP
  have hD : va_D A [(h0, .inr (11, [.ref ztape, .ref ztext, .int 0, .int 0, .int 0, .int (-1), .int 0, .int 0, .int 0, .int 0, .long 0, .ref zcores, .ref zlocks, .ref zbells, .ref ztasks, .ref zops, .ref zopSort, .ref zopNumber, .ref zkind, .ref zevery, .ref zbudget, .ref zshareTold, .ref zfirstOp, .ref zopMany, .ref zisCores, .ref zisLocks, .ref zisBells, .ref ztName, .int 0, .int 0, .ref zall, .ref zrows, .ref zpicked, .ref zpileTask, .ref zpileLock, .int 0, .ref zwas, .ref zbehind, .ref zriskRow, .ref zriskBest, .int 0, .ref zcTick, .ref zcProcessor, .ref zcTask, .int 0, .ref zgTick, .ref zgTask, .ref zgTold, .ref zgUntold, .ref zgRan, .int 0, .int 0, .ref zboxAll, .ref zboxRows, .ref zisBoxed])), (ztape, .inl (ca 0, 1720, .inl (upd f_33 6 (vp_nar .byte y_38))))] := hD
  generalize (upd f_33 6 (vp_nar .byte y_38)) = f_39 at hP hD
  refine lv_iinc (v := 7) (lv' := [(6, .int 7), (7, .int x2), (0, .ref h0), (1, .int x1), (2, .int x2), (3, .int x3), (4, .int x4), (5, .int x5)]) hx hb dX11_feed_99 hl (k := 1) rfl (by decide +kernel) (by decide +kernel) rfl (fun ls hl => ?_)
  refine lv_goto (tgt := 18) hx hb dX11_feed_102 (by decide +kernel) ?_
  refine lv_iload hx hb dX11_feed_18 (lv_at hl 0 rfl) ?_
  refine lv_bipush (v := 20) hx hb dX11_feed_20 (by decide +kernel) ?_
  refine lv_icmp_ge (tgt := 105) hx hb dX11_feed_22 (by decide +kernel) (fun c_40 => absurd c_40 (by decide +kernel)) (fun c_40 => ?_)
  refine lv_iload hx hb dX11_feed_25 (lv_at hl 0 rfl) ?_
  refine lv_iconst (v := 4) hx hb dX11_feed_27 (by decide +kernel) ?_
  refine lv_icmp_ge (tgt := 35) hx hb dX11_feed_28 (by decide +kernel) (fun c_41 => ?_) (fun c_41 => absurd (by decide +kernel) c_41)
  refine lv_iload hx hb dX11_feed_35 (lv_at hl 0 rfl) ?_
  refine lv_bipush (v := 8) hx hb dX11_feed_37 (by decide +kernel) ?_
  refine lv_icmp_ge (tgt := 46) hx hb dX11_feed_39 (by decide +kernel) (fun c_42 => absurd c_42 (by decide +kernel)) (fun c_42 => ?_)
  refine lv_iload_n hx hb dX11_feed_42 rfl (lv_at hl 4 rfl) ?_
  refine lv_goto (tgt := 71) hx hb dX11_feed_43 (by decide +kernel) ?_
  refine lv_istore (lv' := [(7, .int x2), (6, .int 7), (0, .ref h0), (1, .int x1), (2, .int x2), (3, .int x3), (4, .int x4), (5, .int x5)]) hx hb dX11_feed_71 hl (by decide +kernel) rfl (fun ls hl => ?_)
  refine lv_aload_n hx hb dX11_feed_73 rfl (lv_at hl 2 rfl) ?_
  refine va_get (D := D) (ci := 11) (v := .ref ztape) (C := RX11) (T := TX11) (N := 55) hx hb hts iw_X11_feed_11 hown hC.1 hP 0 rfl rfl 0 (by decide +kernel) (hts (.fieldLink RX11 7 "FairWheelModel" "tape" "[B") (by decide +kernel)) (fun _ h9 => h9) rfl dX11_feed_74 ?_
  refine lv_aload_n hx hb dX11_feed_77 rfl (lv_at hl 2 rfl) ?_
  refine va_get (D := D) (ci := 11) (v := .int 0) (C := RX11) (T := TX11) (N := 55) hx hb hts iw_X11_feed_11 hown hC.1 hP 0 rfl rfl 2 (by decide +kernel) (hts (.fieldLink RX11 241 "FairWheelModel" "taped" "I") (by decide +kernel)) (fun _ h9 => h9) rfl dX11_feed_78 ?_
  refine lv_iload hx hb dX11_feed_81 (lv_at hl 1 rfl) ?_
  refine lv_iadd hx hb dX11_feed_83 ?_
  refine nt_i 7 (by decide +kernel) ?_
  refine lv_iload hx hb dX11_feed_84 (lv_at hl 0 rfl) ?_
  refine lv_bipush (v := 24) hx hb dX11_feed_86 (by decide +kernel) ?_
  refine lv_bipush (v := 8) hx hb dX11_feed_88 (by decide +kernel) ?_
  refine lv_iload hx hb dX11_feed_90 (lv_at hl 1 rfl) ?_
  refine lv_iconst (v := 3) hx hb dX11_feed_92 (by decide +kernel) ?_
  refine lv_iand hx hb dX11_feed_93 ?_
  refine nt_i 3 (by decide +kernel) ?_
  refine lv_imul hx hb dX11_feed_94 ?_
  refine nt_i 24 (by decide +kernel) ?_
  refine lv_isub hx hb dX11_feed_95 ?_
  refine nt_i 0 (by decide +kernel) ?_
  refine lv_ishr hx hb dX11_feed_96 ?_
  refine lv_topi (fun y_43 ey_43 => ?_)
  obtain ⟨y_44, ey_44⟩ : ∃ z : Int32, z = Int8.toInt32 (Int32.toInt8 y_43) := ⟨_, rfl⟩
  refine lv_i2b (v := y_44) hx hb dX11_feed_97 ey_44.symm ?_
  refine ka_bast hx hb hC.1 hP hD hS 1 0 rfl rfl 7 rfl (by decide +kernel) (by decide +kernel) dX11_feed_98 (fun H locs hP hD hS => ?_)
  have hP : va_P D vwCl [(h0, .inr (11, [.ref ztape, .ref ztext, .int 0, .int 0, .int 0, .int (-1), .int 0, .int 0, .int 0, .int 0, .long 0, .ref zcores, .ref zlocks, .ref zbells, .ref ztasks, .ref zops, .ref zopSort, .ref zopNumber, .ref zkind, .ref zevery, .ref zbudget, .ref zshareTold, .ref zfirstOp, .ref zopMany, .ref zisCores, .ref zisLocks, .ref zisBells, .ref ztName, .int 0, .int 0, .ref zall, .ref zrows, .ref zpicked, .ref zpileTask, .ref zpileLock, .int 0, .ref zwas, .ref zbehind, .ref zriskRow, .ref zriskBest, .int 0, .ref zcTick, .ref zcProcessor, .ref zcTask, .int 0, .ref zgTick, .ref zgTask, .ref zgTold, .ref zgUntold, .ref zgRan, .int 0, .int 0, .ref zboxAll, .ref zboxRows, .ref zisBoxed])), (ztape, .inl (ca 0, 1720, .inl (upd f_39 7 (vp_nar .byte y_44))))] H := hP
  have hD : va_D A [(h0, .inr (11, [.ref ztape, .ref ztext, .int 0, .int 0, .int 0, .int (-1), .int 0, .int 0, .int 0, .int 0, .long 0, .ref zcores, .ref zlocks, .ref zbells, .ref ztasks, .ref zops, .ref zopSort, .ref zopNumber, .ref zkind, .ref zevery, .ref zbudget, .ref zshareTold, .ref zfirstOp, .ref zopMany, .ref zisCores, .ref zisLocks, .ref zisBells, .ref ztName, .int 0, .int 0, .ref zall, .ref zrows, .ref zpicked, .ref zpileTask, .ref zpileLock, .int 0, .ref zwas, .ref zbehind, .ref zriskRow, .ref zriskBest, .int 0, .ref zcTick, .ref zcProcessor, .ref zcTask, .int 0, .ref zgTick, .ref zgTask, .ref zgTold, .ref zgUntold, .ref zgRan, .int 0, .int 0, .ref zboxAll, .ref zboxRows, .ref zisBoxed])), (ztape, .inl (ca 0, 1720, .inl (upd f_39 7 (vp_nar .byte y_44))))] := hD
  generalize (upd f_39 7 (vp_nar .byte y_44)) = f_45 at hP hD
  refine lv_iinc (v := 8) (lv' := [(6, .int 8), (7, .int x2), (0, .ref h0), (1, .int x1), (2, .int x2), (3, .int x3), (4, .int x4), (5, .int x5)]) hx hb dX11_feed_99 hl (k := 1) rfl (by decide +kernel) (by decide +kernel) rfl (fun ls hl => ?_)
  refine lv_goto (tgt := 18) hx hb dX11_feed_102 (by decide +kernel) ?_
  refine lv_iload hx hb dX11_feed_18 (lv_at hl 0 rfl) ?_
  refine lv_bipush (v := 20) hx hb dX11_feed_20 (by decide +kernel) ?_
  refine lv_icmp_ge (tgt := 105) hx hb dX11_feed_22 (by decide +kernel) (fun c_46 => absurd c_46 (by decide +kernel)) (fun c_46 => ?_)
  refine lv_iload hx hb dX11_feed_25 (lv_at hl 0 rfl) ?_
  refine lv_iconst (v := 4) hx hb dX11_feed_27 (by decide +kernel) ?_
  refine lv_icmp_ge (tgt := 35) hx hb dX11_feed_28 (by decide +kernel) (fun c_47 => ?_) (fun c_47 => absurd (by decide +kernel) c_47)
  refine lv_iload hx hb dX11_feed_35 (lv_at hl 0 rfl) ?_
  refine lv_bipush (v := 8) hx hb dX11_feed_37 (by decide +kernel) ?_
  refine lv_icmp_ge (tgt := 46) hx hb dX11_feed_39 (by decide +kernel) (fun c_48 => ?_) (fun c_48 => absurd (by decide +kernel) c_48)
  refine lv_iload hx hb dX11_feed_46 (lv_at hl 0 rfl) ?_
  refine lv_bipush (v := 12) hx hb dX11_feed_48 (by decide +kernel) ?_
  refine lv_icmp_ge (tgt := 57) hx hb dX11_feed_50 (by decide +kernel) (fun c_49 => absurd c_49 (by decide +kernel)) (fun c_49 => ?_)
  refine lv_iload_n hx hb dX11_feed_53 rfl (lv_at hl 5 rfl) ?_
  refine lv_goto (tgt := 71) hx hb dX11_feed_54 (by decide +kernel) ?_
  refine lv_istore (lv' := [(7, .int x3), (6, .int 8), (0, .ref h0), (1, .int x1), (2, .int x2), (3, .int x3), (4, .int x4), (5, .int x5)]) hx hb dX11_feed_71 hl (by decide +kernel) rfl (fun ls hl => ?_)
  refine lv_aload_n hx hb dX11_feed_73 rfl (lv_at hl 2 rfl) ?_
  refine va_get (D := D) (ci := 11) (v := .ref ztape) (C := RX11) (T := TX11) (N := 55) hx hb hts iw_X11_feed_11 hown hC.1 hP 0 rfl rfl 0 (by decide +kernel) (hts (.fieldLink RX11 7 "FairWheelModel" "tape" "[B") (by decide +kernel)) (fun _ h9 => h9) rfl dX11_feed_74 ?_
  refine lv_aload_n hx hb dX11_feed_77 rfl (lv_at hl 2 rfl) ?_
  refine va_get (D := D) (ci := 11) (v := .int 0) (C := RX11) (T := TX11) (N := 55) hx hb hts iw_X11_feed_11 hown hC.1 hP 0 rfl rfl 2 (by decide +kernel) (hts (.fieldLink RX11 241 "FairWheelModel" "taped" "I") (by decide +kernel)) (fun _ h9 => h9) rfl dX11_feed_78 ?_
  refine lv_iload hx hb dX11_feed_81 (lv_at hl 1 rfl) ?_
  refine lv_iadd hx hb dX11_feed_83 ?_
  refine nt_i 8 (by decide +kernel) ?_
  refine lv_iload hx hb dX11_feed_84 (lv_at hl 0 rfl) ?_
  refine lv_bipush (v := 24) hx hb dX11_feed_86 (by decide +kernel) ?_
  refine lv_bipush (v := 8) hx hb dX11_feed_88 (by decide +kernel) ?_
  refine lv_iload hx hb dX11_feed_90 (lv_at hl 1 rfl) ?_
  refine lv_iconst (v := 3) hx hb dX11_feed_92 (by decide +kernel) ?_
  refine lv_iand hx hb dX11_feed_93 ?_
  refine nt_i 0 (by decide +kernel) ?_
  refine lv_imul hx hb dX11_feed_94 ?_
  refine nt_i 0 (by decide +kernel) ?_
  refine lv_isub hx hb dX11_feed_95 ?_
  refine nt_i 24 (by decide +kernel) ?_
  refine lv_ishr hx hb dX11_feed_96 ?_
  refine lv_topi (fun y_50 ey_50 => ?_)
  obtain ⟨y_51, ey_51⟩ : ∃ z : Int32, z = Int8.toInt32 (Int32.toInt8 y_50) := ⟨_, rfl⟩
  refine lv_i2b (v := y_51) hx hb dX11_feed_97 ey_51.symm ?_
  refine ka_bast hx hb hC.1 hP hD hS 1 0 rfl rfl 8 rfl (by decide +kernel) (by decide +kernel) dX11_feed_98 (fun H locs hP hD hS => ?_)
  have hP : va_P D vwCl [(h0, .inr (11, [.ref ztape, .ref ztext, .int 0, .int 0, .int 0, .int (-1), .int 0, .int 0, .int 0, .int 0, .long 0, .ref zcores, .ref zlocks, .ref zbells, .ref ztasks, .ref zops, .ref zopSort, .ref zopNumber, .ref zkind, .ref zevery, .ref zbudget, .ref zshareTold, .ref zfirstOp, .ref zopMany, .ref zisCores, .ref zisLocks, .ref zisBells, .ref ztName, .int 0, .int 0, .ref zall, .ref zrows, .ref zpicked, .ref zpileTask, .ref zpileLock, .int 0, .ref zwas, .ref zbehind, .ref zriskRow, .ref zriskBest, .int 0, .ref zcTick, .ref zcProcessor, .ref zcTask, .int 0, .ref zgTick, .ref zgTask, .ref zgTold, .ref zgUntold, .ref zgRan, .int 0, .int 0, .ref zboxAll, .ref zboxRows, .ref zisBoxed])), (ztape, .inl (ca 0, 1720, .inl (upd f_45 8 (vp_nar .byte y_51))))] H := hP
  have hD : va_D A [(h0, .inr (11, [.ref ztape, .ref ztext, .int 0, .int 0, .int 0, .int (-1), .int 0, .int 0, .int 0, .int 0, .long 0, .ref zcores, .ref zlocks, .ref zbells, .ref ztasks, .ref zops, .ref zopSort, .ref zopNumber, .ref zkind, .ref zevery, .ref zbudget, .ref zshareTold, .ref zfirstOp, .ref zopMany, .ref zisCores, .ref zisLocks, .ref zisBells, .ref ztName, .int 0, .int 0, .ref zall, .ref zrows, .ref zpicked, .ref zpileTask, .ref zpileLock, .int 0, .ref zwas, .ref zbehind, .ref zriskRow, .ref zriskBest, .int 0, .ref zcTick, .ref zcProcessor, .ref zcTask, .int 0, .ref zgTick, .ref zgTask, .ref zgTold, .ref zgUntold, .ref zgRan, .int 0, .int 0, .ref zboxAll, .ref zboxRows, .ref zisBoxed])), (ztape, .inl (ca 0, 1720, .inl (upd f_45 8 (vp_nar .byte y_51))))] := hD
  generalize (upd f_45 8 (vp_nar .byte y_51)) = f_52 at hP hD
  refine lv_iinc (v := 9) (lv' := [(6, .int 9), (7, .int x3), (0, .ref h0), (1, .int x1), (2, .int x2), (3, .int x3), (4, .int x4), (5, .int x5)]) hx hb dX11_feed_99 hl (k := 1) rfl (by decide +kernel) (by decide +kernel) rfl (fun ls hl => ?_)
  refine lv_goto (tgt := 18) hx hb dX11_feed_102 (by decide +kernel) ?_
  refine lv_iload hx hb dX11_feed_18 (lv_at hl 0 rfl) ?_
  refine lv_bipush (v := 20) hx hb dX11_feed_20 (by decide +kernel) ?_
  refine lv_icmp_ge (tgt := 105) hx hb dX11_feed_22 (by decide +kernel) (fun c_53 => absurd c_53 (by decide +kernel)) (fun c_53 => ?_)
  refine lv_iload hx hb dX11_feed_25 (lv_at hl 0 rfl) ?_
  refine lv_iconst (v := 4) hx hb dX11_feed_27 (by decide +kernel) ?_
  refine lv_icmp_ge (tgt := 35) hx hb dX11_feed_28 (by decide +kernel) (fun c_54 => ?_) (fun c_54 => absurd (by decide +kernel) c_54)
  refine lv_iload hx hb dX11_feed_35 (lv_at hl 0 rfl) ?_
  refine lv_bipush (v := 8) hx hb dX11_feed_37 (by decide +kernel) ?_
  refine lv_icmp_ge (tgt := 46) hx hb dX11_feed_39 (by decide +kernel) (fun c_55 => ?_) (fun c_55 => absurd (by decide +kernel) c_55)
  refine lv_iload hx hb dX11_feed_46 (lv_at hl 0 rfl) ?_
  refine lv_bipush (v := 12) hx hb dX11_feed_48 (by decide +kernel) ?_
  refine lv_icmp_ge (tgt := 57) hx hb dX11_feed_50 (by decide +kernel) (fun c_56 => absurd c_56 (by decide +kernel)) (fun c_56 => ?_)
  refine lv_iload_n hx hb dX11_feed_53 rfl (lv_at hl 5 rfl) ?_
  refine lv_goto (tgt := 71) hx hb dX11_feed_54 (by decide +kernel) ?_
  refine lv_istore (lv' := [(7, .int x3), (6, .int 9), (0, .ref h0), (1, .int x1), (2, .int x2), (3, .int x3), (4, .int x4), (5, .int x5)]) hx hb dX11_feed_71 hl (by decide +kernel) rfl (fun ls hl => ?_)
  refine lv_aload_n hx hb dX11_feed_73 rfl (lv_at hl 2 rfl) ?_
  refine va_get (D := D) (ci := 11) (v := .ref ztape) (C := RX11) (T := TX11) (N := 55) hx hb hts iw_X11_feed_11 hown hC.1 hP 0 rfl rfl 0 (by decide +kernel) (hts (.fieldLink RX11 7 "FairWheelModel" "tape" "[B") (by decide +kernel)) (fun _ h9 => h9) rfl dX11_feed_74 ?_
  refine lv_aload_n hx hb dX11_feed_77 rfl (lv_at hl 2 rfl) ?_
  refine va_get (D := D) (ci := 11) (v := .int 0) (C := RX11) (T := TX11) (N := 55) hx hb hts iw_X11_feed_11 hown hC.1 hP 0 rfl rfl 2 (by decide +kernel) (hts (.fieldLink RX11 241 "FairWheelModel" "taped" "I") (by decide +kernel)) (fun _ h9 => h9) rfl dX11_feed_78 ?_
  refine lv_iload hx hb dX11_feed_81 (lv_at hl 1 rfl) ?_
  refine lv_iadd hx hb dX11_feed_83 ?_
  refine nt_i 9 (by decide +kernel) ?_
  refine lv_iload hx hb dX11_feed_84 (lv_at hl 0 rfl) ?_
  refine lv_bipush (v := 24) hx hb dX11_feed_86 (by decide +kernel) ?_
  refine lv_bipush (v := 8) hx hb dX11_feed_88 (by decide +kernel) ?_
  refine lv_iload hx hb dX11_feed_90 (lv_at hl 1 rfl) ?_
  refine lv_iconst (v := 3) hx hb dX11_feed_92 (by decide +kernel) ?_
  refine lv_iand hx hb dX11_feed_93 ?_
  refine nt_i 1 (by decide +kernel) ?_
  refine lv_imul hx hb dX11_feed_94 ?_
  refine nt_i 8 (by decide +kernel) ?_
  refine lv_isub hx hb dX11_feed_95 ?_
  refine nt_i 16 (by decide +kernel) ?_
  refine lv_ishr hx hb dX11_feed_96 ?_
  refine lv_topi (fun y_57 ey_57 => ?_)
  obtain ⟨y_58, ey_58⟩ : ∃ z : Int32, z = Int8.toInt32 (Int32.toInt8 y_57) := ⟨_, rfl⟩
  refine lv_i2b (v := y_58) hx hb dX11_feed_97 ey_58.symm ?_
  refine ka_bast hx hb hC.1 hP hD hS 1 0 rfl rfl 9 rfl (by decide +kernel) (by decide +kernel) dX11_feed_98 (fun H locs hP hD hS => ?_)
  have hP : va_P D vwCl [(h0, .inr (11, [.ref ztape, .ref ztext, .int 0, .int 0, .int 0, .int (-1), .int 0, .int 0, .int 0, .int 0, .long 0, .ref zcores, .ref zlocks, .ref zbells, .ref ztasks, .ref zops, .ref zopSort, .ref zopNumber, .ref zkind, .ref zevery, .ref zbudget, .ref zshareTold, .ref zfirstOp, .ref zopMany, .ref zisCores, .ref zisLocks, .ref zisBells, .ref ztName, .int 0, .int 0, .ref zall, .ref zrows, .ref zpicked, .ref zpileTask, .ref zpileLock, .int 0, .ref zwas, .ref zbehind, .ref zriskRow, .ref zriskBest, .int 0, .ref zcTick, .ref zcProcessor, .ref zcTask, .int 0, .ref zgTick, .ref zgTask, .ref zgTold, .ref zgUntold, .ref zgRan, .int 0, .int 0, .ref zboxAll, .ref zboxRows, .ref zisBoxed])), (ztape, .inl (ca 0, 1720, .inl (upd f_52 9 (vp_nar .byte y_58))))] H := hP
  have hD : va_D A [(h0, .inr (11, [.ref ztape, .ref ztext, .int 0, .int 0, .int 0, .int (-1), .int 0, .int 0, .int 0, .int 0, .long 0, .ref zcores, .ref zlocks, .ref zbells, .ref ztasks, .ref zops, .ref zopSort, .ref zopNumber, .ref zkind, .ref zevery, .ref zbudget, .ref zshareTold, .ref zfirstOp, .ref zopMany, .ref zisCores, .ref zisLocks, .ref zisBells, .ref ztName, .int 0, .int 0, .ref zall, .ref zrows, .ref zpicked, .ref zpileTask, .ref zpileLock, .int 0, .ref zwas, .ref zbehind, .ref zriskRow, .ref zriskBest, .int 0, .ref zcTick, .ref zcProcessor, .ref zcTask, .int 0, .ref zgTick, .ref zgTask, .ref zgTold, .ref zgUntold, .ref zgRan, .int 0, .int 0, .ref zboxAll, .ref zboxRows, .ref zisBoxed])), (ztape, .inl (ca 0, 1720, .inl (upd f_52 9 (vp_nar .byte y_58))))] := hD
  generalize (upd f_52 9 (vp_nar .byte y_58)) = f_59 at hP hD
  refine lv_iinc (v := 10) (lv' := [(6, .int 10), (7, .int x3), (0, .ref h0), (1, .int x1), (2, .int x2), (3, .int x3), (4, .int x4), (5, .int x5)]) hx hb dX11_feed_99 hl (k := 1) rfl (by decide +kernel) (by decide +kernel) rfl (fun ls hl => ?_)
  refine lv_goto (tgt := 18) hx hb dX11_feed_102 (by decide +kernel) ?_
  refine lv_iload hx hb dX11_feed_18 (lv_at hl 0 rfl) ?_
  refine lv_bipush (v := 20) hx hb dX11_feed_20 (by decide +kernel) ?_
  refine lv_icmp_ge (tgt := 105) hx hb dX11_feed_22 (by decide +kernel) (fun c_60 => absurd c_60 (by decide +kernel)) (fun c_60 => ?_)
  refine lv_iload hx hb dX11_feed_25 (lv_at hl 0 rfl) ?_
  refine lv_iconst (v := 4) hx hb dX11_feed_27 (by decide +kernel) ?_
  refine lv_icmp_ge (tgt := 35) hx hb dX11_feed_28 (by decide +kernel) (fun c_61 => ?_) (fun c_61 => absurd (by decide +kernel) c_61)
  refine lv_iload hx hb dX11_feed_35 (lv_at hl 0 rfl) ?_
  refine lv_bipush (v := 8) hx hb dX11_feed_37 (by decide +kernel) ?_
  refine lv_icmp_ge (tgt := 46) hx hb dX11_feed_39 (by decide +kernel) (fun c_62 => ?_) (fun c_62 => absurd (by decide +kernel) c_62)
  refine lv_iload hx hb dX11_feed_46 (lv_at hl 0 rfl) ?_
  refine lv_bipush (v := 12) hx hb dX11_feed_48 (by decide +kernel) ?_
  refine lv_icmp_ge (tgt := 57) hx hb dX11_feed_50 (by decide +kernel) (fun c_63 => absurd c_63 (by decide +kernel)) (fun c_63 => ?_)
  refine lv_iload_n hx hb dX11_feed_53 rfl (lv_at hl 5 rfl) ?_
  refine lv_goto (tgt := 71) hx hb dX11_feed_54 (by decide +kernel) ?_
  refine lv_istore (lv' := [(7, .int x3), (6, .int 10), (0, .ref h0), (1, .int x1), (2, .int x2), (3, .int x3), (4, .int x4), (5, .int x5)]) hx hb dX11_feed_71 hl (by decide +kernel) rfl (fun ls hl => ?_)
  refine lv_aload_n hx hb dX11_feed_73 rfl (lv_at hl 2 rfl) ?_
  refine va_get (D := D) (ci := 11) (v := .ref ztape) (C := RX11) (T := TX11) (N := 55) hx hb hts iw_X11_feed_11 hown hC.1 hP 0 rfl rfl 0 (by decide +kernel) (hts (.fieldLink RX11 7 "FairWheelModel" "tape" "[B") (by decide +kernel)) (fun _ h9 => h9) rfl dX11_feed_74 ?_
  refine lv_aload_n hx hb dX11_feed_77 rfl (lv_at hl 2 rfl) ?_
  refine va_get (D := D) (ci := 11) (v := .int 0) (C := RX11) (T := TX11) (N := 55) hx hb hts iw_X11_feed_11 hown hC.1 hP 0 rfl rfl 2 (by decide +kernel) (hts (.fieldLink RX11 241 "FairWheelModel" "taped" "I") (by decide +kernel)) (fun _ h9 => h9) rfl dX11_feed_78 ?_
  refine lv_iload hx hb dX11_feed_81 (lv_at hl 1 rfl) ?_
  refine lv_iadd hx hb dX11_feed_83 ?_
  refine nt_i 10 (by decide +kernel) ?_
  refine lv_iload hx hb dX11_feed_84 (lv_at hl 0 rfl) ?_
  refine lv_bipush (v := 24) hx hb dX11_feed_86 (by decide +kernel) ?_
  refine lv_bipush (v := 8) hx hb dX11_feed_88 (by decide +kernel) ?_
  refine lv_iload hx hb dX11_feed_90 (lv_at hl 1 rfl) ?_
  refine lv_iconst (v := 3) hx hb dX11_feed_92 (by decide +kernel) ?_
  refine lv_iand hx hb dX11_feed_93 ?_
  refine nt_i 2 (by decide +kernel) ?_
  refine lv_imul hx hb dX11_feed_94 ?_
  refine nt_i 16 (by decide +kernel) ?_
  refine lv_isub hx hb dX11_feed_95 ?_
  refine nt_i 8 (by decide +kernel) ?_
  refine lv_ishr hx hb dX11_feed_96 ?_
  refine lv_topi (fun y_64 ey_64 => ?_)
  obtain ⟨y_65, ey_65⟩ : ∃ z : Int32, z = Int8.toInt32 (Int32.toInt8 y_64) := ⟨_, rfl⟩
  refine lv_i2b (v := y_65) hx hb dX11_feed_97 ey_65.symm ?_
  refine ka_bast hx hb hC.1 hP hD hS 1 0 rfl rfl 10 rfl (by decide +kernel) (by decide +kernel) dX11_feed_98 (fun H locs hP hD hS => ?_)
  have hP : va_P D vwCl [(h0, .inr (11, [.ref ztape, .ref ztext, .int 0, .int 0, .int 0, .int (-1), .int 0, .int 0, .int 0, .int 0, .long 0, .ref zcores, .ref zlocks, .ref zbells, .ref ztasks, .ref zops, .ref zopSort, .ref zopNumber, .ref zkind, .ref zevery, .ref zbudget, .ref zshareTold, .ref zfirstOp, .ref zopMany, .ref zisCores, .ref zisLocks, .ref zisBells, .ref ztName, .int 0, .int 0, .ref zall, .ref zrows, .ref zpicked, .ref zpileTask, .ref zpileLock, .int 0, .ref zwas, .ref zbehind, .ref zriskRow, .ref zriskBest, .int 0, .ref zcTick, .ref zcProcessor, .ref zcTask, .int 0, .ref zgTick, .ref zgTask, .ref zgTold, .ref zgUntold, .ref zgRan, .int 0, .int 0, .ref zboxAll, .ref zboxRows, .ref zisBoxed])), (ztape, .inl (ca 0, 1720, .inl (upd f_59 10 (vp_nar .byte y_65))))] H := hP
  have hD : va_D A [(h0, .inr (11, [.ref ztape, .ref ztext, .int 0, .int 0, .int 0, .int (-1), .int 0, .int 0, .int 0, .int 0, .long 0, .ref zcores, .ref zlocks, .ref zbells, .ref ztasks, .ref zops, .ref zopSort, .ref zopNumber, .ref zkind, .ref zevery, .ref zbudget, .ref zshareTold, .ref zfirstOp, .ref zopMany, .ref zisCores, .ref zisLocks, .ref zisBells, .ref ztName, .int 0, .int 0, .ref zall, .ref zrows, .ref zpicked, .ref zpileTask, .ref zpileLock, .int 0, .ref zwas, .ref zbehind, .ref zriskRow, .ref zriskBest, .int 0, .ref zcTick, .ref zcProcessor, .ref zcTask, .int 0, .ref zgTick, .ref zgTask, .ref zgTold, .ref zgUntold, .ref zgRan, .int 0, .int 0, .ref zboxAll, .ref zboxRows, .ref zisBoxed])), (ztape, .inl (ca 0, 1720, .inl (upd f_59 10 (vp_nar .byte y_65))))] := hD
  generalize (upd f_59 10 (vp_nar .byte y_65)) = f_66 at hP hD
  refine lv_iinc (v := 11) (lv' := [(6, .int 11), (7, .int x3), (0, .ref h0), (1, .int x1), (2, .int x2), (3, .int x3), (4, .int x4), (5, .int x5)]) hx hb dX11_feed_99 hl (k := 1) rfl (by decide +kernel) (by decide +kernel) rfl (fun ls hl => ?_)
  refine lv_goto (tgt := 18) hx hb dX11_feed_102 (by decide +kernel) ?_
  refine lv_iload hx hb dX11_feed_18 (lv_at hl 0 rfl) ?_
  refine lv_bipush (v := 20) hx hb dX11_feed_20 (by decide +kernel) ?_
  refine lv_icmp_ge (tgt := 105) hx hb dX11_feed_22 (by decide +kernel) (fun c_67 => absurd c_67 (by decide +kernel)) (fun c_67 => ?_)
  refine lv_iload hx hb dX11_feed_25 (lv_at hl 0 rfl) ?_
  refine lv_iconst (v := 4) hx hb dX11_feed_27 (by decide +kernel) ?_
  refine lv_icmp_ge (tgt := 35) hx hb dX11_feed_28 (by decide +kernel) (fun c_68 => ?_) (fun c_68 => absurd (by decide +kernel) c_68)
  refine lv_iload hx hb dX11_feed_35 (lv_at hl 0 rfl) ?_
  refine lv_bipush (v := 8) hx hb dX11_feed_37 (by decide +kernel) ?_
  refine lv_icmp_ge (tgt := 46) hx hb dX11_feed_39 (by decide +kernel) (fun c_69 => ?_) (fun c_69 => absurd (by decide +kernel) c_69)
  refine lv_iload hx hb dX11_feed_46 (lv_at hl 0 rfl) ?_
  refine lv_bipush (v := 12) hx hb dX11_feed_48 (by decide +kernel) ?_
  refine lv_icmp_ge (tgt := 57) hx hb dX11_feed_50 (by decide +kernel) (fun c_70 => absurd c_70 (by decide +kernel)) (fun c_70 => ?_)
  refine lv_iload_n hx hb dX11_feed_53 rfl (lv_at hl 5 rfl) ?_
  refine lv_goto (tgt := 71) hx hb dX11_feed_54 (by decide +kernel) ?_
  refine lv_istore (lv' := [(7, .int x3), (6, .int 11), (0, .ref h0), (1, .int x1), (2, .int x2), (3, .int x3), (4, .int x4), (5, .int x5)]) hx hb dX11_feed_71 hl (by decide +kernel) rfl (fun ls hl => ?_)
  refine lv_aload_n hx hb dX11_feed_73 rfl (lv_at hl 2 rfl) ?_
  refine va_get (D := D) (ci := 11) (v := .ref ztape) (C := RX11) (T := TX11) (N := 55) hx hb hts iw_X11_feed_11 hown hC.1 hP 0 rfl rfl 0 (by decide +kernel) (hts (.fieldLink RX11 7 "FairWheelModel" "tape" "[B") (by decide +kernel)) (fun _ h9 => h9) rfl dX11_feed_74 ?_
  refine lv_aload_n hx hb dX11_feed_77 rfl (lv_at hl 2 rfl) ?_
  refine va_get (D := D) (ci := 11) (v := .int 0) (C := RX11) (T := TX11) (N := 55) hx hb hts iw_X11_feed_11 hown hC.1 hP 0 rfl rfl 2 (by decide +kernel) (hts (.fieldLink RX11 241 "FairWheelModel" "taped" "I") (by decide +kernel)) (fun _ h9 => h9) rfl dX11_feed_78 ?_
  refine lv_iload hx hb dX11_feed_81 (lv_at hl 1 rfl) ?_
  refine lv_iadd hx hb dX11_feed_83 ?_
  refine nt_i 11 (by decide +kernel) ?_
  refine lv_iload hx hb dX11_feed_84 (lv_at hl 0 rfl) ?_
  refine lv_bipush (v := 24) hx hb dX11_feed_86 (by decide +kernel) ?_
  refine lv_bipush (v := 8) hx hb dX11_feed_88 (by decide +kernel) ?_
  refine lv_iload hx hb dX11_feed_90 (lv_at hl 1 rfl) ?_
  refine lv_iconst (v := 3) hx hb dX11_feed_92 (by decide +kernel) ?_
  refine lv_iand hx hb dX11_feed_93 ?_
  refine nt_i 3 (by decide +kernel) ?_
  refine lv_imul hx hb dX11_feed_94 ?_
  refine nt_i 24 (by decide +kernel) ?_
  refine lv_isub hx hb dX11_feed_95 ?_
  refine nt_i 0 (by decide +kernel) ?_
  refine lv_ishr hx hb dX11_feed_96 ?_
  refine lv_topi (fun y_71 ey_71 => ?_)
  obtain ⟨y_72, ey_72⟩ : ∃ z : Int32, z = Int8.toInt32 (Int32.toInt8 y_71) := ⟨_, rfl⟩
  refine lv_i2b (v := y_72) hx hb dX11_feed_97 ey_72.symm ?_
  refine ka_bast hx hb hC.1 hP hD hS 1 0 rfl rfl 11 rfl (by decide +kernel) (by decide +kernel) dX11_feed_98 (fun H locs hP hD hS => ?_)
  have hP : va_P D vwCl [(h0, .inr (11, [.ref ztape, .ref ztext, .int 0, .int 0, .int 0, .int (-1), .int 0, .int 0, .int 0, .int 0, .long 0, .ref zcores, .ref zlocks, .ref zbells, .ref ztasks, .ref zops, .ref zopSort, .ref zopNumber, .ref zkind, .ref zevery, .ref zbudget, .ref zshareTold, .ref zfirstOp, .ref zopMany, .ref zisCores, .ref zisLocks, .ref zisBells, .ref ztName, .int 0, .int 0, .ref zall, .ref zrows, .ref zpicked, .ref zpileTask, .ref zpileLock, .int 0, .ref zwas, .ref zbehind, .ref zriskRow, .ref zriskBest, .int 0, .ref zcTick, .ref zcProcessor, .ref zcTask, .int 0, .ref zgTick, .ref zgTask, .ref zgTold, .ref zgUntold, .ref zgRan, .int 0, .int 0, .ref zboxAll, .ref zboxRows, .ref zisBoxed])), (ztape, .inl (ca 0, 1720, .inl (upd f_66 11 (vp_nar .byte y_72))))] H := hP
  have hD : va_D A [(h0, .inr (11, [.ref ztape, .ref ztext, .int 0, .int 0, .int 0, .int (-1), .int 0, .int 0, .int 0, .int 0, .long 0, .ref zcores, .ref zlocks, .ref zbells, .ref ztasks, .ref zops, .ref zopSort, .ref zopNumber, .ref zkind, .ref zevery, .ref zbudget, .ref zshareTold, .ref zfirstOp, .ref zopMany, .ref zisCores, .ref zisLocks, .ref zisBells, .ref ztName, .int 0, .int 0, .ref zall, .ref zrows, .ref zpicked, .ref zpileTask, .ref zpileLock, .int 0, .ref zwas, .ref zbehind, .ref zriskRow, .ref zriskBest, .int 0, .ref zcTick, .ref zcProcessor, .ref zcTask, .int 0, .ref zgTick, .ref zgTask, .ref zgTold, .ref zgUntold, .ref zgRan, .int 0, .int 0, .ref zboxAll, .ref zboxRows, .ref zisBoxed])), (ztape, .inl (ca 0, 1720, .inl (upd f_66 11 (vp_nar .byte y_72))))] := hD
  generalize (upd f_66 11 (vp_nar .byte y_72)) = f_73 at hP hD
  refine lv_iinc (v := 12) (lv' := [(6, .int 12), (7, .int x3), (0, .ref h0), (1, .int x1), (2, .int x2), (3, .int x3), (4, .int x4), (5, .int x5)]) hx hb dX11_feed_99 hl (k := 1) rfl (by decide +kernel) (by decide +kernel) rfl (fun ls hl => ?_)
  refine lv_goto (tgt := 18) hx hb dX11_feed_102 (by decide +kernel) ?_
  refine lv_iload hx hb dX11_feed_18 (lv_at hl 0 rfl) ?_
  refine lv_bipush (v := 20) hx hb dX11_feed_20 (by decide +kernel) ?_
  refine lv_icmp_ge (tgt := 105) hx hb dX11_feed_22 (by decide +kernel) (fun c_74 => absurd c_74 (by decide +kernel)) (fun c_74 => ?_)
  refine lv_iload hx hb dX11_feed_25 (lv_at hl 0 rfl) ?_
  refine lv_iconst (v := 4) hx hb dX11_feed_27 (by decide +kernel) ?_
  refine lv_icmp_ge (tgt := 35) hx hb dX11_feed_28 (by decide +kernel) (fun c_75 => ?_) (fun c_75 => absurd (by decide +kernel) c_75)
  refine lv_iload hx hb dX11_feed_35 (lv_at hl 0 rfl) ?_
  refine lv_bipush (v := 8) hx hb dX11_feed_37 (by decide +kernel) ?_
  refine lv_icmp_ge (tgt := 46) hx hb dX11_feed_39 (by decide +kernel) (fun c_76 => ?_) (fun c_76 => absurd (by decide +kernel) c_76)
  refine lv_iload hx hb dX11_feed_46 (lv_at hl 0 rfl) ?_
  refine lv_bipush (v := 12) hx hb dX11_feed_48 (by decide +kernel) ?_
  refine lv_icmp_ge (tgt := 57) hx hb dX11_feed_50 (by decide +kernel) (fun c_77 => ?_) (fun c_77 => absurd (by decide +kernel) c_77)
  refine lv_iload hx hb dX11_feed_57 (lv_at hl 0 rfl) ?_
  refine lv_bipush (v := 16) hx hb dX11_feed_59 (by decide +kernel) ?_
  refine lv_icmp_ge (tgt := 69) hx hb dX11_feed_61 (by decide +kernel) (fun c_78 => absurd c_78 (by decide +kernel)) (fun c_78 => ?_)
  refine lv_iload hx hb dX11_feed_64 (lv_at hl 6 rfl) ?_
  refine lv_goto (tgt := 71) hx hb dX11_feed_66 (by decide +kernel) ?_
  refine lv_istore (lv' := [(7, .int x4), (6, .int 12), (0, .ref h0), (1, .int x1), (2, .int x2), (3, .int x3), (4, .int x4), (5, .int x5)]) hx hb dX11_feed_71 hl (by decide +kernel) rfl (fun ls hl => ?_)
  refine lv_aload_n hx hb dX11_feed_73 rfl (lv_at hl 2 rfl) ?_
  refine va_get (D := D) (ci := 11) (v := .ref ztape) (C := RX11) (T := TX11) (N := 55) hx hb hts iw_X11_feed_11 hown hC.1 hP 0 rfl rfl 0 (by decide +kernel) (hts (.fieldLink RX11 7 "FairWheelModel" "tape" "[B") (by decide +kernel)) (fun _ h9 => h9) rfl dX11_feed_74 ?_
  refine lv_aload_n hx hb dX11_feed_77 rfl (lv_at hl 2 rfl) ?_
  refine va_get (D := D) (ci := 11) (v := .int 0) (C := RX11) (T := TX11) (N := 55) hx hb hts iw_X11_feed_11 hown hC.1 hP 0 rfl rfl 2 (by decide +kernel) (hts (.fieldLink RX11 241 "FairWheelModel" "taped" "I") (by decide +kernel)) (fun _ h9 => h9) rfl dX11_feed_78 ?_
  refine lv_iload hx hb dX11_feed_81 (lv_at hl 1 rfl) ?_
  refine lv_iadd hx hb dX11_feed_83 ?_
  refine nt_i 12 (by decide +kernel) ?_
  refine lv_iload hx hb dX11_feed_84 (lv_at hl 0 rfl) ?_
  refine lv_bipush (v := 24) hx hb dX11_feed_86 (by decide +kernel) ?_
  refine lv_bipush (v := 8) hx hb dX11_feed_88 (by decide +kernel) ?_
  refine lv_iload hx hb dX11_feed_90 (lv_at hl 1 rfl) ?_
  refine lv_iconst (v := 3) hx hb dX11_feed_92 (by decide +kernel) ?_
  refine lv_iand hx hb dX11_feed_93 ?_
  refine nt_i 0 (by decide +kernel) ?_
  refine lv_imul hx hb dX11_feed_94 ?_
  refine nt_i 0 (by decide +kernel) ?_
  refine lv_isub hx hb dX11_feed_95 ?_
  refine nt_i 24 (by decide +kernel) ?_
  refine lv_ishr hx hb dX11_feed_96 ?_
  refine lv_topi (fun y_79 ey_79 => ?_)
  obtain ⟨y_80, ey_80⟩ : ∃ z : Int32, z = Int8.toInt32 (Int32.toInt8 y_79) := ⟨_, rfl⟩
  refine lv_i2b (v := y_80) hx hb dX11_feed_97 ey_80.symm ?_
  refine ka_bast hx hb hC.1 hP hD hS 1 0 rfl rfl 12 rfl (by decide +kernel) (by decide +kernel) dX11_feed_98 (fun H locs hP hD hS => ?_)
  have hP : va_P D vwCl [(h0, .inr (11, [.ref ztape, .ref ztext, .int 0, .int 0, .int 0, .int (-1), .int 0, .int 0, .int 0, .int 0, .long 0, .ref zcores, .ref zlocks, .ref zbells, .ref ztasks, .ref zops, .ref zopSort, .ref zopNumber, .ref zkind, .ref zevery, .ref zbudget, .ref zshareTold, .ref zfirstOp, .ref zopMany, .ref zisCores, .ref zisLocks, .ref zisBells, .ref ztName, .int 0, .int 0, .ref zall, .ref zrows, .ref zpicked, .ref zpileTask, .ref zpileLock, .int 0, .ref zwas, .ref zbehind, .ref zriskRow, .ref zriskBest, .int 0, .ref zcTick, .ref zcProcessor, .ref zcTask, .int 0, .ref zgTick, .ref zgTask, .ref zgTold, .ref zgUntold, .ref zgRan, .int 0, .int 0, .ref zboxAll, .ref zboxRows, .ref zisBoxed])), (ztape, .inl (ca 0, 1720, .inl (upd f_73 12 (vp_nar .byte y_80))))] H := hP
  have hD : va_D A [(h0, .inr (11, [.ref ztape, .ref ztext, .int 0, .int 0, .int 0, .int (-1), .int 0, .int 0, .int 0, .int 0, .long 0, .ref zcores, .ref zlocks, .ref zbells, .ref ztasks, .ref zops, .ref zopSort, .ref zopNumber, .ref zkind, .ref zevery, .ref zbudget, .ref zshareTold, .ref zfirstOp, .ref zopMany, .ref zisCores, .ref zisLocks, .ref zisBells, .ref ztName, .int 0, .int 0, .ref zall, .ref zrows, .ref zpicked, .ref zpileTask, .ref zpileLock, .int 0, .ref zwas, .ref zbehind, .ref zriskRow, .ref zriskBest, .int 0, .ref zcTick, .ref zcProcessor, .ref zcTask, .int 0, .ref zgTick, .ref zgTask, .ref zgTold, .ref zgUntold, .ref zgRan, .int 0, .int 0, .ref zboxAll, .ref zboxRows, .ref zisBoxed])), (ztape, .inl (ca 0, 1720, .inl (upd f_73 12 (vp_nar .byte y_80))))] := hD
  generalize (upd f_73 12 (vp_nar .byte y_80)) = f_81 at hP hD
  refine lv_iinc (v := 13) (lv' := [(6, .int 13), (7, .int x4), (0, .ref h0), (1, .int x1), (2, .int x2), (3, .int x3), (4, .int x4), (5, .int x5)]) hx hb dX11_feed_99 hl (k := 1) rfl (by decide +kernel) (by decide +kernel) rfl (fun ls hl => ?_)
  refine lv_goto (tgt := 18) hx hb dX11_feed_102 (by decide +kernel) ?_
  refine lv_iload hx hb dX11_feed_18 (lv_at hl 0 rfl) ?_
  refine lv_bipush (v := 20) hx hb dX11_feed_20 (by decide +kernel) ?_
  refine lv_icmp_ge (tgt := 105) hx hb dX11_feed_22 (by decide +kernel) (fun c_82 => absurd c_82 (by decide +kernel)) (fun c_82 => ?_)
  refine lv_iload hx hb dX11_feed_25 (lv_at hl 0 rfl) ?_
  refine lv_iconst (v := 4) hx hb dX11_feed_27 (by decide +kernel) ?_
  refine lv_icmp_ge (tgt := 35) hx hb dX11_feed_28 (by decide +kernel) (fun c_83 => ?_) (fun c_83 => absurd (by decide +kernel) c_83)
  refine lv_iload hx hb dX11_feed_35 (lv_at hl 0 rfl) ?_
  refine lv_bipush (v := 8) hx hb dX11_feed_37 (by decide +kernel) ?_
  refine lv_icmp_ge (tgt := 46) hx hb dX11_feed_39 (by decide +kernel) (fun c_84 => ?_) (fun c_84 => absurd (by decide +kernel) c_84)
  refine lv_iload hx hb dX11_feed_46 (lv_at hl 0 rfl) ?_
  refine lv_bipush (v := 12) hx hb dX11_feed_48 (by decide +kernel) ?_
  refine lv_icmp_ge (tgt := 57) hx hb dX11_feed_50 (by decide +kernel) (fun c_85 => ?_) (fun c_85 => absurd (by decide +kernel) c_85)
  refine lv_iload hx hb dX11_feed_57 (lv_at hl 0 rfl) ?_
  refine lv_bipush (v := 16) hx hb dX11_feed_59 (by decide +kernel) ?_
  refine lv_icmp_ge (tgt := 69) hx hb dX11_feed_61 (by decide +kernel) (fun c_86 => absurd c_86 (by decide +kernel)) (fun c_86 => ?_)
  refine lv_iload hx hb dX11_feed_64 (lv_at hl 6 rfl) ?_
  refine lv_goto (tgt := 71) hx hb dX11_feed_66 (by decide +kernel) ?_
  refine lv_istore (lv' := [(7, .int x4), (6, .int 13), (0, .ref h0), (1, .int x1), (2, .int x2), (3, .int x3), (4, .int x4), (5, .int x5)]) hx hb dX11_feed_71 hl (by decide +kernel) rfl (fun ls hl => ?_)
  refine lv_aload_n hx hb dX11_feed_73 rfl (lv_at hl 2 rfl) ?_
  refine va_get (D := D) (ci := 11) (v := .ref ztape) (C := RX11) (T := TX11) (N := 55) hx hb hts iw_X11_feed_11 hown hC.1 hP 0 rfl rfl 0 (by decide +kernel) (hts (.fieldLink RX11 7 "FairWheelModel" "tape" "[B") (by decide +kernel)) (fun _ h9 => h9) rfl dX11_feed_74 ?_
  refine lv_aload_n hx hb dX11_feed_77 rfl (lv_at hl 2 rfl) ?_
  refine va_get (D := D) (ci := 11) (v := .int 0) (C := RX11) (T := TX11) (N := 55) hx hb hts iw_X11_feed_11 hown hC.1 hP 0 rfl rfl 2 (by decide +kernel) (hts (.fieldLink RX11 241 "FairWheelModel" "taped" "I") (by decide +kernel)) (fun _ h9 => h9) rfl dX11_feed_78 ?_
  refine lv_iload hx hb dX11_feed_81 (lv_at hl 1 rfl) ?_
  refine lv_iadd hx hb dX11_feed_83 ?_
  refine nt_i 13 (by decide +kernel) ?_
  refine lv_iload hx hb dX11_feed_84 (lv_at hl 0 rfl) ?_
  refine lv_bipush (v := 24) hx hb dX11_feed_86 (by decide +kernel) ?_
  refine lv_bipush (v := 8) hx hb dX11_feed_88 (by decide +kernel) ?_
  refine lv_iload hx hb dX11_feed_90 (lv_at hl 1 rfl) ?_
  refine lv_iconst (v := 3) hx hb dX11_feed_92 (by decide +kernel) ?_
  refine lv_iand hx hb dX11_feed_93 ?_
  refine nt_i 1 (by decide +kernel) ?_
  refine lv_imul hx hb dX11_feed_94 ?_
  refine nt_i 8 (by decide +kernel) ?_
  refine lv_isub hx hb dX11_feed_95 ?_
  refine nt_i 16 (by decide +kernel) ?_
  refine lv_ishr hx hb dX11_feed_96 ?_
  refine lv_topi (fun y_87 ey_87 => ?_)
  obtain ⟨y_88, ey_88⟩ : ∃ z : Int32, z = Int8.toInt32 (Int32.toInt8 y_87) := ⟨_, rfl⟩
  refine lv_i2b (v := y_88) hx hb dX11_feed_97 ey_88.symm ?_
  refine ka_bast hx hb hC.1 hP hD hS 1 0 rfl rfl 13 rfl (by decide +kernel) (by decide +kernel) dX11_feed_98 (fun H locs hP hD hS => ?_)
  have hP : va_P D vwCl [(h0, .inr (11, [.ref ztape, .ref ztext, .int 0, .int 0, .int 0, .int (-1), .int 0, .int 0, .int 0, .int 0, .long 0, .ref zcores, .ref zlocks, .ref zbells, .ref ztasks, .ref zops, .ref zopSort, .ref zopNumber, .ref zkind, .ref zevery, .ref zbudget, .ref zshareTold, .ref zfirstOp, .ref zopMany, .ref zisCores, .ref zisLocks, .ref zisBells, .ref ztName, .int 0, .int 0, .ref zall, .ref zrows, .ref zpicked, .ref zpileTask, .ref zpileLock, .int 0, .ref zwas, .ref zbehind, .ref zriskRow, .ref zriskBest, .int 0, .ref zcTick, .ref zcProcessor, .ref zcTask, .int 0, .ref zgTick, .ref zgTask, .ref zgTold, .ref zgUntold, .ref zgRan, .int 0, .int 0, .ref zboxAll, .ref zboxRows, .ref zisBoxed])), (ztape, .inl (ca 0, 1720, .inl (upd f_81 13 (vp_nar .byte y_88))))] H := hP
  have hD : va_D A [(h0, .inr (11, [.ref ztape, .ref ztext, .int 0, .int 0, .int 0, .int (-1), .int 0, .int 0, .int 0, .int 0, .long 0, .ref zcores, .ref zlocks, .ref zbells, .ref ztasks, .ref zops, .ref zopSort, .ref zopNumber, .ref zkind, .ref zevery, .ref zbudget, .ref zshareTold, .ref zfirstOp, .ref zopMany, .ref zisCores, .ref zisLocks, .ref zisBells, .ref ztName, .int 0, .int 0, .ref zall, .ref zrows, .ref zpicked, .ref zpileTask, .ref zpileLock, .int 0, .ref zwas, .ref zbehind, .ref zriskRow, .ref zriskBest, .int 0, .ref zcTick, .ref zcProcessor, .ref zcTask, .int 0, .ref zgTick, .ref zgTask, .ref zgTold, .ref zgUntold, .ref zgRan, .int 0, .int 0, .ref zboxAll, .ref zboxRows, .ref zisBoxed])), (ztape, .inl (ca 0, 1720, .inl (upd f_81 13 (vp_nar .byte y_88))))] := hD
  generalize (upd f_81 13 (vp_nar .byte y_88)) = f_89 at hP hD
  refine lv_iinc (v := 14) (lv' := [(6, .int 14), (7, .int x4), (0, .ref h0), (1, .int x1), (2, .int x2), (3, .int x3), (4, .int x4), (5, .int x5)]) hx hb dX11_feed_99 hl (k := 1) rfl (by decide +kernel) (by decide +kernel) rfl (fun ls hl => ?_)
  refine lv_goto (tgt := 18) hx hb dX11_feed_102 (by decide +kernel) ?_
  refine lv_iload hx hb dX11_feed_18 (lv_at hl 0 rfl) ?_
  refine lv_bipush (v := 20) hx hb dX11_feed_20 (by decide +kernel) ?_
  refine lv_icmp_ge (tgt := 105) hx hb dX11_feed_22 (by decide +kernel) (fun c_90 => absurd c_90 (by decide +kernel)) (fun c_90 => ?_)
  refine lv_iload hx hb dX11_feed_25 (lv_at hl 0 rfl) ?_
  refine lv_iconst (v := 4) hx hb dX11_feed_27 (by decide +kernel) ?_
  refine lv_icmp_ge (tgt := 35) hx hb dX11_feed_28 (by decide +kernel) (fun c_91 => ?_) (fun c_91 => absurd (by decide +kernel) c_91)
  refine lv_iload hx hb dX11_feed_35 (lv_at hl 0 rfl) ?_
  refine lv_bipush (v := 8) hx hb dX11_feed_37 (by decide +kernel) ?_
  refine lv_icmp_ge (tgt := 46) hx hb dX11_feed_39 (by decide +kernel) (fun c_92 => ?_) (fun c_92 => absurd (by decide +kernel) c_92)
  refine lv_iload hx hb dX11_feed_46 (lv_at hl 0 rfl) ?_
  refine lv_bipush (v := 12) hx hb dX11_feed_48 (by decide +kernel) ?_
  refine lv_icmp_ge (tgt := 57) hx hb dX11_feed_50 (by decide +kernel) (fun c_93 => ?_) (fun c_93 => absurd (by decide +kernel) c_93)
  refine lv_iload hx hb dX11_feed_57 (lv_at hl 0 rfl) ?_
  refine lv_bipush (v := 16) hx hb dX11_feed_59 (by decide +kernel) ?_
  refine lv_icmp_ge (tgt := 69) hx hb dX11_feed_61 (by decide +kernel) (fun c_94 => absurd c_94 (by decide +kernel)) (fun c_94 => ?_)
  refine lv_iload hx hb dX11_feed_64 (lv_at hl 6 rfl) ?_
  refine lv_goto (tgt := 71) hx hb dX11_feed_66 (by decide +kernel) ?_
  refine lv_istore (lv' := [(7, .int x4), (6, .int 14), (0, .ref h0), (1, .int x1), (2, .int x2), (3, .int x3), (4, .int x4), (5, .int x5)]) hx hb dX11_feed_71 hl (by decide +kernel) rfl (fun ls hl => ?_)
  refine lv_aload_n hx hb dX11_feed_73 rfl (lv_at hl 2 rfl) ?_
  refine va_get (D := D) (ci := 11) (v := .ref ztape) (C := RX11) (T := TX11) (N := 55) hx hb hts iw_X11_feed_11 hown hC.1 hP 0 rfl rfl 0 (by decide +kernel) (hts (.fieldLink RX11 7 "FairWheelModel" "tape" "[B") (by decide +kernel)) (fun _ h9 => h9) rfl dX11_feed_74 ?_
  refine lv_aload_n hx hb dX11_feed_77 rfl (lv_at hl 2 rfl) ?_
  refine va_get (D := D) (ci := 11) (v := .int 0) (C := RX11) (T := TX11) (N := 55) hx hb hts iw_X11_feed_11 hown hC.1 hP 0 rfl rfl 2 (by decide +kernel) (hts (.fieldLink RX11 241 "FairWheelModel" "taped" "I") (by decide +kernel)) (fun _ h9 => h9) rfl dX11_feed_78 ?_
  refine lv_iload hx hb dX11_feed_81 (lv_at hl 1 rfl) ?_
  refine lv_iadd hx hb dX11_feed_83 ?_
  refine nt_i 14 (by decide +kernel) ?_
  refine lv_iload hx hb dX11_feed_84 (lv_at hl 0 rfl) ?_
  refine lv_bipush (v := 24) hx hb dX11_feed_86 (by decide +kernel) ?_
  refine lv_bipush (v := 8) hx hb dX11_feed_88 (by decide +kernel) ?_
  refine lv_iload hx hb dX11_feed_90 (lv_at hl 1 rfl) ?_
  refine lv_iconst (v := 3) hx hb dX11_feed_92 (by decide +kernel) ?_
  refine lv_iand hx hb dX11_feed_93 ?_
  refine nt_i 2 (by decide +kernel) ?_
  refine lv_imul hx hb dX11_feed_94 ?_
  refine nt_i 16 (by decide +kernel) ?_
  refine lv_isub hx hb dX11_feed_95 ?_
  refine nt_i 8 (by decide +kernel) ?_
  refine lv_ishr hx hb dX11_feed_96 ?_
  refine lv_topi (fun y_95 ey_95 => ?_)
  obtain ⟨y_96, ey_96⟩ : ∃ z : Int32, z = Int8.toInt32 (Int32.toInt8 y_95) := ⟨_, rfl⟩
  refine lv_i2b (v := y_96) hx hb dX11_feed_97 ey_96.symm ?_
  refine ka_bast hx hb hC.1 hP hD hS 1 0 rfl rfl 14 rfl (by decide +kernel) (by decide +kernel) dX11_feed_98 (fun H locs hP hD hS => ?_)
  have hP : va_P D vwCl [(h0, .inr (11, [.ref ztape, .ref ztext, .int 0, .int 0, .int 0, .int (-1), .int 0, .int 0, .int 0, .int 0, .long 0, .ref zcores, .ref zlocks, .ref zbells, .ref ztasks, .ref zops, .ref zopSort, .ref zopNumber, .ref zkind, .ref zevery, .ref zbudget, .ref zshareTold, .ref zfirstOp, .ref zopMany, .ref zisCores, .ref zisLocks, .ref zisBells, .ref ztName, .int 0, .int 0, .ref zall, .ref zrows, .ref zpicked, .ref zpileTask, .ref zpileLock, .int 0, .ref zwas, .ref zbehind, .ref zriskRow, .ref zriskBest, .int 0, .ref zcTick, .ref zcProcessor, .ref zcTask, .int 0, .ref zgTick, .ref zgTask, .ref zgTold, .ref zgUntold, .ref zgRan, .int 0, .int 0, .ref zboxAll, .ref zboxRows, .ref zisBoxed])), (ztape, .inl (ca 0, 1720, .inl (upd f_89 14 (vp_nar .byte y_96))))] H := hP
  have hD : va_D A [(h0, .inr (11, [.ref ztape, .ref ztext, .int 0, .int 0, .int 0, .int (-1), .int 0, .int 0, .int 0, .int 0, .long 0, .ref zcores, .ref zlocks, .ref zbells, .ref ztasks, .ref zops, .ref zopSort, .ref zopNumber, .ref zkind, .ref zevery, .ref zbudget, .ref zshareTold, .ref zfirstOp, .ref zopMany, .ref zisCores, .ref zisLocks, .ref zisBells, .ref ztName, .int 0, .int 0, .ref zall, .ref zrows, .ref zpicked, .ref zpileTask, .ref zpileLock, .int 0, .ref zwas, .ref zbehind, .ref zriskRow, .ref zriskBest, .int 0, .ref zcTick, .ref zcProcessor, .ref zcTask, .int 0, .ref zgTick, .ref zgTask, .ref zgTold, .ref zgUntold, .ref zgRan, .int 0, .int 0, .ref zboxAll, .ref zboxRows, .ref zisBoxed])), (ztape, .inl (ca 0, 1720, .inl (upd f_89 14 (vp_nar .byte y_96))))] := hD
  generalize (upd f_89 14 (vp_nar .byte y_96)) = f_97 at hP hD
  refine lv_iinc (v := 15) (lv' := [(6, .int 15), (7, .int x4), (0, .ref h0), (1, .int x1), (2, .int x2), (3, .int x3), (4, .int x4), (5, .int x5)]) hx hb dX11_feed_99 hl (k := 1) rfl (by decide +kernel) (by decide +kernel) rfl (fun ls hl => ?_)
  refine lv_goto (tgt := 18) hx hb dX11_feed_102 (by decide +kernel) ?_
  refine lv_iload hx hb dX11_feed_18 (lv_at hl 0 rfl) ?_
  refine lv_bipush (v := 20) hx hb dX11_feed_20 (by decide +kernel) ?_
  refine lv_icmp_ge (tgt := 105) hx hb dX11_feed_22 (by decide +kernel) (fun c_98 => absurd c_98 (by decide +kernel)) (fun c_98 => ?_)
  refine lv_iload hx hb dX11_feed_25 (lv_at hl 0 rfl) ?_
  refine lv_iconst (v := 4) hx hb dX11_feed_27 (by decide +kernel) ?_
  refine lv_icmp_ge (tgt := 35) hx hb dX11_feed_28 (by decide +kernel) (fun c_99 => ?_) (fun c_99 => absurd (by decide +kernel) c_99)
  refine lv_iload hx hb dX11_feed_35 (lv_at hl 0 rfl) ?_
  refine lv_bipush (v := 8) hx hb dX11_feed_37 (by decide +kernel) ?_
  refine lv_icmp_ge (tgt := 46) hx hb dX11_feed_39 (by decide +kernel) (fun c_100 => ?_) (fun c_100 => absurd (by decide +kernel) c_100)
  refine lv_iload hx hb dX11_feed_46 (lv_at hl 0 rfl) ?_
  refine lv_bipush (v := 12) hx hb dX11_feed_48 (by decide +kernel) ?_
  refine lv_icmp_ge (tgt := 57) hx hb dX11_feed_50 (by decide +kernel) (fun c_101 => ?_) (fun c_101 => absurd (by decide +kernel) c_101)
  refine lv_iload hx hb dX11_feed_57 (lv_at hl 0 rfl) ?_
  refine lv_bipush (v := 16) hx hb dX11_feed_59 (by decide +kernel) ?_
  refine lv_icmp_ge (tgt := 69) hx hb dX11_feed_61 (by decide +kernel) (fun c_102 => absurd c_102 (by decide +kernel)) (fun c_102 => ?_)
  refine lv_iload hx hb dX11_feed_64 (lv_at hl 6 rfl) ?_
  refine lv_goto (tgt := 71) hx hb dX11_feed_66 (by decide +kernel) ?_
  refine lv_istore (lv' := [(7, .int x4), (6, .int 15), (0, .ref h0), (1, .int x1), (2, .int x2), (3, .int x3), (4, .int x4), (5, .int x5)]) hx hb dX11_feed_71 hl (by decide +kernel) rfl (fun ls hl => ?_)
  refine lv_aload_n hx hb dX11_feed_73 rfl (lv_at hl 2 rfl) ?_
  refine va_get (D := D) (ci := 11) (v := .ref ztape) (C := RX11) (T := TX11) (N := 55) hx hb hts iw_X11_feed_11 hown hC.1 hP 0 rfl rfl 0 (by decide +kernel) (hts (.fieldLink RX11 7 "FairWheelModel" "tape" "[B") (by decide +kernel)) (fun _ h9 => h9) rfl dX11_feed_74 ?_
  refine lv_aload_n hx hb dX11_feed_77 rfl (lv_at hl 2 rfl) ?_
  refine va_get (D := D) (ci := 11) (v := .int 0) (C := RX11) (T := TX11) (N := 55) hx hb hts iw_X11_feed_11 hown hC.1 hP 0 rfl rfl 2 (by decide +kernel) (hts (.fieldLink RX11 241 "FairWheelModel" "taped" "I") (by decide +kernel)) (fun _ h9 => h9) rfl dX11_feed_78 ?_
  refine lv_iload hx hb dX11_feed_81 (lv_at hl 1 rfl) ?_
  refine lv_iadd hx hb dX11_feed_83 ?_
  refine nt_i 15 (by decide +kernel) ?_
  refine lv_iload hx hb dX11_feed_84 (lv_at hl 0 rfl) ?_
  refine lv_bipush (v := 24) hx hb dX11_feed_86 (by decide +kernel) ?_
  refine lv_bipush (v := 8) hx hb dX11_feed_88 (by decide +kernel) ?_
  refine lv_iload hx hb dX11_feed_90 (lv_at hl 1 rfl) ?_
  refine lv_iconst (v := 3) hx hb dX11_feed_92 (by decide +kernel) ?_
  refine lv_iand hx hb dX11_feed_93 ?_
  refine nt_i 3 (by decide +kernel) ?_
  refine lv_imul hx hb dX11_feed_94 ?_
  refine nt_i 24 (by decide +kernel) ?_
  refine lv_isub hx hb dX11_feed_95 ?_
  refine nt_i 0 (by decide +kernel) ?_
  refine lv_ishr hx hb dX11_feed_96 ?_
  refine lv_topi (fun y_103 ey_103 => ?_)
  obtain ⟨y_104, ey_104⟩ : ∃ z : Int32, z = Int8.toInt32 (Int32.toInt8 y_103) := ⟨_, rfl⟩
  refine lv_i2b (v := y_104) hx hb dX11_feed_97 ey_104.symm ?_
  refine ka_bast hx hb hC.1 hP hD hS 1 0 rfl rfl 15 rfl (by decide +kernel) (by decide +kernel) dX11_feed_98 (fun H locs hP hD hS => ?_)
  have hP : va_P D vwCl [(h0, .inr (11, [.ref ztape, .ref ztext, .int 0, .int 0, .int 0, .int (-1), .int 0, .int 0, .int 0, .int 0, .long 0, .ref zcores, .ref zlocks, .ref zbells, .ref ztasks, .ref zops, .ref zopSort, .ref zopNumber, .ref zkind, .ref zevery, .ref zbudget, .ref zshareTold, .ref zfirstOp, .ref zopMany, .ref zisCores, .ref zisLocks, .ref zisBells, .ref ztName, .int 0, .int 0, .ref zall, .ref zrows, .ref zpicked, .ref zpileTask, .ref zpileLock, .int 0, .ref zwas, .ref zbehind, .ref zriskRow, .ref zriskBest, .int 0, .ref zcTick, .ref zcProcessor, .ref zcTask, .int 0, .ref zgTick, .ref zgTask, .ref zgTold, .ref zgUntold, .ref zgRan, .int 0, .int 0, .ref zboxAll, .ref zboxRows, .ref zisBoxed])), (ztape, .inl (ca 0, 1720, .inl (upd f_97 15 (vp_nar .byte y_104))))] H := hP
  have hD : va_D A [(h0, .inr (11, [.ref ztape, .ref ztext, .int 0, .int 0, .int 0, .int (-1), .int 0, .int 0, .int 0, .int 0, .long 0, .ref zcores, .ref zlocks, .ref zbells, .ref ztasks, .ref zops, .ref zopSort, .ref zopNumber, .ref zkind, .ref zevery, .ref zbudget, .ref zshareTold, .ref zfirstOp, .ref zopMany, .ref zisCores, .ref zisLocks, .ref zisBells, .ref ztName, .int 0, .int 0, .ref zall, .ref zrows, .ref zpicked, .ref zpileTask, .ref zpileLock, .int 0, .ref zwas, .ref zbehind, .ref zriskRow, .ref zriskBest, .int 0, .ref zcTick, .ref zcProcessor, .ref zcTask, .int 0, .ref zgTick, .ref zgTask, .ref zgTold, .ref zgUntold, .ref zgRan, .int 0, .int 0, .ref zboxAll, .ref zboxRows, .ref zisBoxed])), (ztape, .inl (ca 0, 1720, .inl (upd f_97 15 (vp_nar .byte y_104))))] := hD
  generalize (upd f_97 15 (vp_nar .byte y_104)) = f_105 at hP hD
  refine lv_iinc (v := 16) (lv' := [(6, .int 16), (7, .int x4), (0, .ref h0), (1, .int x1), (2, .int x2), (3, .int x3), (4, .int x4), (5, .int x5)]) hx hb dX11_feed_99 hl (k := 1) rfl (by decide +kernel) (by decide +kernel) rfl (fun ls hl => ?_)
  refine lv_goto (tgt := 18) hx hb dX11_feed_102 (by decide +kernel) ?_
  refine lv_iload hx hb dX11_feed_18 (lv_at hl 0 rfl) ?_
  refine lv_bipush (v := 20) hx hb dX11_feed_20 (by decide +kernel) ?_
  refine lv_icmp_ge (tgt := 105) hx hb dX11_feed_22 (by decide +kernel) (fun c_106 => absurd c_106 (by decide +kernel)) (fun c_106 => ?_)
  refine lv_iload hx hb dX11_feed_25 (lv_at hl 0 rfl) ?_
  refine lv_iconst (v := 4) hx hb dX11_feed_27 (by decide +kernel) ?_
  refine lv_icmp_ge (tgt := 35) hx hb dX11_feed_28 (by decide +kernel) (fun c_107 => ?_) (fun c_107 => absurd (by decide +kernel) c_107)
  refine lv_iload hx hb dX11_feed_35 (lv_at hl 0 rfl) ?_
  refine lv_bipush (v := 8) hx hb dX11_feed_37 (by decide +kernel) ?_
  refine lv_icmp_ge (tgt := 46) hx hb dX11_feed_39 (by decide +kernel) (fun c_108 => ?_) (fun c_108 => absurd (by decide +kernel) c_108)
  refine lv_iload hx hb dX11_feed_46 (lv_at hl 0 rfl) ?_
  refine lv_bipush (v := 12) hx hb dX11_feed_48 (by decide +kernel) ?_
  refine lv_icmp_ge (tgt := 57) hx hb dX11_feed_50 (by decide +kernel) (fun c_109 => ?_) (fun c_109 => absurd (by decide +kernel) c_109)
  refine lv_iload hx hb dX11_feed_57 (lv_at hl 0 rfl) ?_
  refine lv_bipush (v := 16) hx hb dX11_feed_59 (by decide +kernel) ?_
  refine lv_icmp_ge (tgt := 69) hx hb dX11_feed_61 (by decide +kernel) (fun c_110 => ?_) (fun c_110 => absurd (by decide +kernel) c_110)
  refine lv_iload hx hb dX11_feed_69 (lv_at hl 7 rfl) ?_
  refine lv_istore (lv' := [(7, .int x5), (6, .int 16), (0, .ref h0), (1, .int x1), (2, .int x2), (3, .int x3), (4, .int x4), (5, .int x5)]) hx hb dX11_feed_71 hl (by decide +kernel) rfl (fun ls hl => ?_)
  refine lv_aload_n hx hb dX11_feed_73 rfl (lv_at hl 2 rfl) ?_
  refine va_get (D := D) (ci := 11) (v := .ref ztape) (C := RX11) (T := TX11) (N := 55) hx hb hts iw_X11_feed_11 hown hC.1 hP 0 rfl rfl 0 (by decide +kernel) (hts (.fieldLink RX11 7 "FairWheelModel" "tape" "[B") (by decide +kernel)) (fun _ h9 => h9) rfl dX11_feed_74 ?_
  refine lv_aload_n hx hb dX11_feed_77 rfl (lv_at hl 2 rfl) ?_
  refine va_get (D := D) (ci := 11) (v := .int 0) (C := RX11) (T := TX11) (N := 55) hx hb hts iw_X11_feed_11 hown hC.1 hP 0 rfl rfl 2 (by decide +kernel) (hts (.fieldLink RX11 241 "FairWheelModel" "taped" "I") (by decide +kernel)) (fun _ h9 => h9) rfl dX11_feed_78 ?_
  refine lv_iload hx hb dX11_feed_81 (lv_at hl 1 rfl) ?_
  refine lv_iadd hx hb dX11_feed_83 ?_
  refine nt_i 16 (by decide +kernel) ?_
  refine lv_iload hx hb dX11_feed_84 (lv_at hl 0 rfl) ?_
  refine lv_bipush (v := 24) hx hb dX11_feed_86 (by decide +kernel) ?_
  refine lv_bipush (v := 8) hx hb dX11_feed_88 (by decide +kernel) ?_
  refine lv_iload hx hb dX11_feed_90 (lv_at hl 1 rfl) ?_
  refine lv_iconst (v := 3) hx hb dX11_feed_92 (by decide +kernel) ?_
  refine lv_iand hx hb dX11_feed_93 ?_
  refine nt_i 0 (by decide +kernel) ?_
  refine lv_imul hx hb dX11_feed_94 ?_
  refine nt_i 0 (by decide +kernel) ?_
  refine lv_isub hx hb dX11_feed_95 ?_
  refine nt_i 24 (by decide +kernel) ?_
  refine lv_ishr hx hb dX11_feed_96 ?_
  refine lv_topi (fun y_111 ey_111 => ?_)
  obtain ⟨y_112, ey_112⟩ : ∃ z : Int32, z = Int8.toInt32 (Int32.toInt8 y_111) := ⟨_, rfl⟩
  refine lv_i2b (v := y_112) hx hb dX11_feed_97 ey_112.symm ?_
  refine ka_bast hx hb hC.1 hP hD hS 1 0 rfl rfl 16 rfl (by decide +kernel) (by decide +kernel) dX11_feed_98 (fun H locs hP hD hS => ?_)
  have hP : va_P D vwCl [(h0, .inr (11, [.ref ztape, .ref ztext, .int 0, .int 0, .int 0, .int (-1), .int 0, .int 0, .int 0, .int 0, .long 0, .ref zcores, .ref zlocks, .ref zbells, .ref ztasks, .ref zops, .ref zopSort, .ref zopNumber, .ref zkind, .ref zevery, .ref zbudget, .ref zshareTold, .ref zfirstOp, .ref zopMany, .ref zisCores, .ref zisLocks, .ref zisBells, .ref ztName, .int 0, .int 0, .ref zall, .ref zrows, .ref zpicked, .ref zpileTask, .ref zpileLock, .int 0, .ref zwas, .ref zbehind, .ref zriskRow, .ref zriskBest, .int 0, .ref zcTick, .ref zcProcessor, .ref zcTask, .int 0, .ref zgTick, .ref zgTask, .ref zgTold, .ref zgUntold, .ref zgRan, .int 0, .int 0, .ref zboxAll, .ref zboxRows, .ref zisBoxed])), (ztape, .inl (ca 0, 1720, .inl (upd f_105 16 (vp_nar .byte y_112))))] H := hP
  have hD : va_D A [(h0, .inr (11, [.ref ztape, .ref ztext, .int 0, .int 0, .int 0, .int (-1), .int 0, .int 0, .int 0, .int 0, .long 0, .ref zcores, .ref zlocks, .ref zbells, .ref ztasks, .ref zops, .ref zopSort, .ref zopNumber, .ref zkind, .ref zevery, .ref zbudget, .ref zshareTold, .ref zfirstOp, .ref zopMany, .ref zisCores, .ref zisLocks, .ref zisBells, .ref ztName, .int 0, .int 0, .ref zall, .ref zrows, .ref zpicked, .ref zpileTask, .ref zpileLock, .int 0, .ref zwas, .ref zbehind, .ref zriskRow, .ref zriskBest, .int 0, .ref zcTick, .ref zcProcessor, .ref zcTask, .int 0, .ref zgTick, .ref zgTask, .ref zgTold, .ref zgUntold, .ref zgRan, .int 0, .int 0, .ref zboxAll, .ref zboxRows, .ref zisBoxed])), (ztape, .inl (ca 0, 1720, .inl (upd f_105 16 (vp_nar .byte y_112))))] := hD
  generalize (upd f_105 16 (vp_nar .byte y_112)) = f_113 at hP hD
  refine lv_iinc (v := 17) (lv' := [(6, .int 17), (7, .int x5), (0, .ref h0), (1, .int x1), (2, .int x2), (3, .int x3), (4, .int x4), (5, .int x5)]) hx hb dX11_feed_99 hl (k := 1) rfl (by decide +kernel) (by decide +kernel) rfl (fun ls hl => ?_)
  refine lv_goto (tgt := 18) hx hb dX11_feed_102 (by decide +kernel) ?_
  refine lv_iload hx hb dX11_feed_18 (lv_at hl 0 rfl) ?_
  refine lv_bipush (v := 20) hx hb dX11_feed_20 (by decide +kernel) ?_
  refine lv_icmp_ge (tgt := 105) hx hb dX11_feed_22 (by decide +kernel) (fun c_114 => absurd c_114 (by decide +kernel)) (fun c_114 => ?_)
  refine lv_iload hx hb dX11_feed_25 (lv_at hl 0 rfl) ?_
  refine lv_iconst (v := 4) hx hb dX11_feed_27 (by decide +kernel) ?_
  refine lv_icmp_ge (tgt := 35) hx hb dX11_feed_28 (by decide +kernel) (fun c_115 => ?_) (fun c_115 => absurd (by decide +kernel) c_115)
  refine lv_iload hx hb dX11_feed_35 (lv_at hl 0 rfl) ?_
  refine lv_bipush (v := 8) hx hb dX11_feed_37 (by decide +kernel) ?_
  refine lv_icmp_ge (tgt := 46) hx hb dX11_feed_39 (by decide +kernel) (fun c_116 => ?_) (fun c_116 => absurd (by decide +kernel) c_116)
  refine lv_iload hx hb dX11_feed_46 (lv_at hl 0 rfl) ?_
  refine lv_bipush (v := 12) hx hb dX11_feed_48 (by decide +kernel) ?_
  refine lv_icmp_ge (tgt := 57) hx hb dX11_feed_50 (by decide +kernel) (fun c_117 => ?_) (fun c_117 => absurd (by decide +kernel) c_117)
  refine lv_iload hx hb dX11_feed_57 (lv_at hl 0 rfl) ?_
  refine lv_bipush (v := 16) hx hb dX11_feed_59 (by decide +kernel) ?_
  refine lv_icmp_ge (tgt := 69) hx hb dX11_feed_61 (by decide +kernel) (fun c_118 => ?_) (fun c_118 => absurd (by decide +kernel) c_118)
  refine lv_iload hx hb dX11_feed_69 (lv_at hl 7 rfl) ?_
  refine lv_istore (lv' := [(7, .int x5), (6, .int 17), (0, .ref h0), (1, .int x1), (2, .int x2), (3, .int x3), (4, .int x4), (5, .int x5)]) hx hb dX11_feed_71 hl (by decide +kernel) rfl (fun ls hl => ?_)
  refine lv_aload_n hx hb dX11_feed_73 rfl (lv_at hl 2 rfl) ?_
  refine va_get (D := D) (ci := 11) (v := .ref ztape) (C := RX11) (T := TX11) (N := 55) hx hb hts iw_X11_feed_11 hown hC.1 hP 0 rfl rfl 0 (by decide +kernel) (hts (.fieldLink RX11 7 "FairWheelModel" "tape" "[B") (by decide +kernel)) (fun _ h9 => h9) rfl dX11_feed_74 ?_
  refine lv_aload_n hx hb dX11_feed_77 rfl (lv_at hl 2 rfl) ?_
  refine va_get (D := D) (ci := 11) (v := .int 0) (C := RX11) (T := TX11) (N := 55) hx hb hts iw_X11_feed_11 hown hC.1 hP 0 rfl rfl 2 (by decide +kernel) (hts (.fieldLink RX11 241 "FairWheelModel" "taped" "I") (by decide +kernel)) (fun _ h9 => h9) rfl dX11_feed_78 ?_
  refine lv_iload hx hb dX11_feed_81 (lv_at hl 1 rfl) ?_
  refine lv_iadd hx hb dX11_feed_83 ?_
  refine nt_i 17 (by decide +kernel) ?_
  refine lv_iload hx hb dX11_feed_84 (lv_at hl 0 rfl) ?_
  refine lv_bipush (v := 24) hx hb dX11_feed_86 (by decide +kernel) ?_
  refine lv_bipush (v := 8) hx hb dX11_feed_88 (by decide +kernel) ?_
  refine lv_iload hx hb dX11_feed_90 (lv_at hl 1 rfl) ?_
  refine lv_iconst (v := 3) hx hb dX11_feed_92 (by decide +kernel) ?_
  refine lv_iand hx hb dX11_feed_93 ?_
  refine nt_i 1 (by decide +kernel) ?_
  refine lv_imul hx hb dX11_feed_94 ?_
  refine nt_i 8 (by decide +kernel) ?_
  refine lv_isub hx hb dX11_feed_95 ?_
  refine nt_i 16 (by decide +kernel) ?_
  refine lv_ishr hx hb dX11_feed_96 ?_
  refine lv_topi (fun y_119 ey_119 => ?_)
  obtain ⟨y_120, ey_120⟩ : ∃ z : Int32, z = Int8.toInt32 (Int32.toInt8 y_119) := ⟨_, rfl⟩
  refine lv_i2b (v := y_120) hx hb dX11_feed_97 ey_120.symm ?_
  refine ka_bast hx hb hC.1 hP hD hS 1 0 rfl rfl 17 rfl (by decide +kernel) (by decide +kernel) dX11_feed_98 (fun H locs hP hD hS => ?_)
  have hP : va_P D vwCl [(h0, .inr (11, [.ref ztape, .ref ztext, .int 0, .int 0, .int 0, .int (-1), .int 0, .int 0, .int 0, .int 0, .long 0, .ref zcores, .ref zlocks, .ref zbells, .ref ztasks, .ref zops, .ref zopSort, .ref zopNumber, .ref zkind, .ref zevery, .ref zbudget, .ref zshareTold, .ref zfirstOp, .ref zopMany, .ref zisCores, .ref zisLocks, .ref zisBells, .ref ztName, .int 0, .int 0, .ref zall, .ref zrows, .ref zpicked, .ref zpileTask, .ref zpileLock, .int 0, .ref zwas, .ref zbehind, .ref zriskRow, .ref zriskBest, .int 0, .ref zcTick, .ref zcProcessor, .ref zcTask, .int 0, .ref zgTick, .ref zgTask, .ref zgTold, .ref zgUntold, .ref zgRan, .int 0, .int 0, .ref zboxAll, .ref zboxRows, .ref zisBoxed])), (ztape, .inl (ca 0, 1720, .inl (upd f_113 17 (vp_nar .byte y_120))))] H := hP
  have hD : va_D A [(h0, .inr (11, [.ref ztape, .ref ztext, .int 0, .int 0, .int 0, .int (-1), .int 0, .int 0, .int 0, .int 0, .long 0, .ref zcores, .ref zlocks, .ref zbells, .ref ztasks, .ref zops, .ref zopSort, .ref zopNumber, .ref zkind, .ref zevery, .ref zbudget, .ref zshareTold, .ref zfirstOp, .ref zopMany, .ref zisCores, .ref zisLocks, .ref zisBells, .ref ztName, .int 0, .int 0, .ref zall, .ref zrows, .ref zpicked, .ref zpileTask, .ref zpileLock, .int 0, .ref zwas, .ref zbehind, .ref zriskRow, .ref zriskBest, .int 0, .ref zcTick, .ref zcProcessor, .ref zcTask, .int 0, .ref zgTick, .ref zgTask, .ref zgTold, .ref zgUntold, .ref zgRan, .int 0, .int 0, .ref zboxAll, .ref zboxRows, .ref zisBoxed])), (ztape, .inl (ca 0, 1720, .inl (upd f_113 17 (vp_nar .byte y_120))))] := hD
  generalize (upd f_113 17 (vp_nar .byte y_120)) = f_121 at hP hD
  refine lv_iinc (v := 18) (lv' := [(6, .int 18), (7, .int x5), (0, .ref h0), (1, .int x1), (2, .int x2), (3, .int x3), (4, .int x4), (5, .int x5)]) hx hb dX11_feed_99 hl (k := 1) rfl (by decide +kernel) (by decide +kernel) rfl (fun ls hl => ?_)
  refine lv_goto (tgt := 18) hx hb dX11_feed_102 (by decide +kernel) ?_
  refine lv_iload hx hb dX11_feed_18 (lv_at hl 0 rfl) ?_
  refine lv_bipush (v := 20) hx hb dX11_feed_20 (by decide +kernel) ?_
  refine lv_icmp_ge (tgt := 105) hx hb dX11_feed_22 (by decide +kernel) (fun c_122 => absurd c_122 (by decide +kernel)) (fun c_122 => ?_)
  refine lv_iload hx hb dX11_feed_25 (lv_at hl 0 rfl) ?_
  refine lv_iconst (v := 4) hx hb dX11_feed_27 (by decide +kernel) ?_
  refine lv_icmp_ge (tgt := 35) hx hb dX11_feed_28 (by decide +kernel) (fun c_123 => ?_) (fun c_123 => absurd (by decide +kernel) c_123)
  refine lv_iload hx hb dX11_feed_35 (lv_at hl 0 rfl) ?_
  refine lv_bipush (v := 8) hx hb dX11_feed_37 (by decide +kernel) ?_
  refine lv_icmp_ge (tgt := 46) hx hb dX11_feed_39 (by decide +kernel) (fun c_124 => ?_) (fun c_124 => absurd (by decide +kernel) c_124)
  refine lv_iload hx hb dX11_feed_46 (lv_at hl 0 rfl) ?_
  refine lv_bipush (v := 12) hx hb dX11_feed_48 (by decide +kernel) ?_
  refine lv_icmp_ge (tgt := 57) hx hb dX11_feed_50 (by decide +kernel) (fun c_125 => ?_) (fun c_125 => absurd (by decide +kernel) c_125)
  refine lv_iload hx hb dX11_feed_57 (lv_at hl 0 rfl) ?_
  refine lv_bipush (v := 16) hx hb dX11_feed_59 (by decide +kernel) ?_
  refine lv_icmp_ge (tgt := 69) hx hb dX11_feed_61 (by decide +kernel) (fun c_126 => ?_) (fun c_126 => absurd (by decide +kernel) c_126)
  refine lv_iload hx hb dX11_feed_69 (lv_at hl 7 rfl) ?_
  refine lv_istore (lv' := [(7, .int x5), (6, .int 18), (0, .ref h0), (1, .int x1), (2, .int x2), (3, .int x3), (4, .int x4), (5, .int x5)]) hx hb dX11_feed_71 hl (by decide +kernel) rfl (fun ls hl => ?_)
  refine lv_aload_n hx hb dX11_feed_73 rfl (lv_at hl 2 rfl) ?_
  refine va_get (D := D) (ci := 11) (v := .ref ztape) (C := RX11) (T := TX11) (N := 55) hx hb hts iw_X11_feed_11 hown hC.1 hP 0 rfl rfl 0 (by decide +kernel) (hts (.fieldLink RX11 7 "FairWheelModel" "tape" "[B") (by decide +kernel)) (fun _ h9 => h9) rfl dX11_feed_74 ?_
  refine lv_aload_n hx hb dX11_feed_77 rfl (lv_at hl 2 rfl) ?_
  refine va_get (D := D) (ci := 11) (v := .int 0) (C := RX11) (T := TX11) (N := 55) hx hb hts iw_X11_feed_11 hown hC.1 hP 0 rfl rfl 2 (by decide +kernel) (hts (.fieldLink RX11 241 "FairWheelModel" "taped" "I") (by decide +kernel)) (fun _ h9 => h9) rfl dX11_feed_78 ?_
  refine lv_iload hx hb dX11_feed_81 (lv_at hl 1 rfl) ?_
  refine lv_iadd hx hb dX11_feed_83 ?_
  refine nt_i 18 (by decide +kernel) ?_
  refine lv_iload hx hb dX11_feed_84 (lv_at hl 0 rfl) ?_
  refine lv_bipush (v := 24) hx hb dX11_feed_86 (by decide +kernel) ?_
  refine lv_bipush (v := 8) hx hb dX11_feed_88 (by decide +kernel) ?_
  refine lv_iload hx hb dX11_feed_90 (lv_at hl 1 rfl) ?_
  refine lv_iconst (v := 3) hx hb dX11_feed_92 (by decide +kernel) ?_
  refine lv_iand hx hb dX11_feed_93 ?_
  refine nt_i 2 (by decide +kernel) ?_
  refine lv_imul hx hb dX11_feed_94 ?_
  refine nt_i 16 (by decide +kernel) ?_
  refine lv_isub hx hb dX11_feed_95 ?_
  refine nt_i 8 (by decide +kernel) ?_
  refine lv_ishr hx hb dX11_feed_96 ?_
  refine lv_topi (fun y_127 ey_127 => ?_)
  obtain ⟨y_128, ey_128⟩ : ∃ z : Int32, z = Int8.toInt32 (Int32.toInt8 y_127) := ⟨_, rfl⟩
  refine lv_i2b (v := y_128) hx hb dX11_feed_97 ey_128.symm ?_
  refine ka_bast hx hb hC.1 hP hD hS 1 0 rfl rfl 18 rfl (by decide +kernel) (by decide +kernel) dX11_feed_98 (fun H locs hP hD hS => ?_)
  have hP : va_P D vwCl [(h0, .inr (11, [.ref ztape, .ref ztext, .int 0, .int 0, .int 0, .int (-1), .int 0, .int 0, .int 0, .int 0, .long 0, .ref zcores, .ref zlocks, .ref zbells, .ref ztasks, .ref zops, .ref zopSort, .ref zopNumber, .ref zkind, .ref zevery, .ref zbudget, .ref zshareTold, .ref zfirstOp, .ref zopMany, .ref zisCores, .ref zisLocks, .ref zisBells, .ref ztName, .int 0, .int 0, .ref zall, .ref zrows, .ref zpicked, .ref zpileTask, .ref zpileLock, .int 0, .ref zwas, .ref zbehind, .ref zriskRow, .ref zriskBest, .int 0, .ref zcTick, .ref zcProcessor, .ref zcTask, .int 0, .ref zgTick, .ref zgTask, .ref zgTold, .ref zgUntold, .ref zgRan, .int 0, .int 0, .ref zboxAll, .ref zboxRows, .ref zisBoxed])), (ztape, .inl (ca 0, 1720, .inl (upd f_121 18 (vp_nar .byte y_128))))] H := hP
  have hD : va_D A [(h0, .inr (11, [.ref ztape, .ref ztext, .int 0, .int 0, .int 0, .int (-1), .int 0, .int 0, .int 0, .int 0, .long 0, .ref zcores, .ref zlocks, .ref zbells, .ref ztasks, .ref zops, .ref zopSort, .ref zopNumber, .ref zkind, .ref zevery, .ref zbudget, .ref zshareTold, .ref zfirstOp, .ref zopMany, .ref zisCores, .ref zisLocks, .ref zisBells, .ref ztName, .int 0, .int 0, .ref zall, .ref zrows, .ref zpicked, .ref zpileTask, .ref zpileLock, .int 0, .ref zwas, .ref zbehind, .ref zriskRow, .ref zriskBest, .int 0, .ref zcTick, .ref zcProcessor, .ref zcTask, .int 0, .ref zgTick, .ref zgTask, .ref zgTold, .ref zgUntold, .ref zgRan, .int 0, .int 0, .ref zboxAll, .ref zboxRows, .ref zisBoxed])), (ztape, .inl (ca 0, 1720, .inl (upd f_121 18 (vp_nar .byte y_128))))] := hD
  generalize (upd f_121 18 (vp_nar .byte y_128)) = f_129 at hP hD
  refine lv_iinc (v := 19) (lv' := [(6, .int 19), (7, .int x5), (0, .ref h0), (1, .int x1), (2, .int x2), (3, .int x3), (4, .int x4), (5, .int x5)]) hx hb dX11_feed_99 hl (k := 1) rfl (by decide +kernel) (by decide +kernel) rfl (fun ls hl => ?_)
  refine lv_goto (tgt := 18) hx hb dX11_feed_102 (by decide +kernel) ?_
  refine lv_iload hx hb dX11_feed_18 (lv_at hl 0 rfl) ?_
  refine lv_bipush (v := 20) hx hb dX11_feed_20 (by decide +kernel) ?_
  refine lv_icmp_ge (tgt := 105) hx hb dX11_feed_22 (by decide +kernel) (fun c_130 => absurd c_130 (by decide +kernel)) (fun c_130 => ?_)
  refine lv_iload hx hb dX11_feed_25 (lv_at hl 0 rfl) ?_
  refine lv_iconst (v := 4) hx hb dX11_feed_27 (by decide +kernel) ?_
  refine lv_icmp_ge (tgt := 35) hx hb dX11_feed_28 (by decide +kernel) (fun c_131 => ?_) (fun c_131 => absurd (by decide +kernel) c_131)
  refine lv_iload hx hb dX11_feed_35 (lv_at hl 0 rfl) ?_
  refine lv_bipush (v := 8) hx hb dX11_feed_37 (by decide +kernel) ?_
  refine lv_icmp_ge (tgt := 46) hx hb dX11_feed_39 (by decide +kernel) (fun c_132 => ?_) (fun c_132 => absurd (by decide +kernel) c_132)
  refine lv_iload hx hb dX11_feed_46 (lv_at hl 0 rfl) ?_
  refine lv_bipush (v := 12) hx hb dX11_feed_48 (by decide +kernel) ?_
  refine lv_icmp_ge (tgt := 57) hx hb dX11_feed_50 (by decide +kernel) (fun c_133 => ?_) (fun c_133 => absurd (by decide +kernel) c_133)
  refine lv_iload hx hb dX11_feed_57 (lv_at hl 0 rfl) ?_
  refine lv_bipush (v := 16) hx hb dX11_feed_59 (by decide +kernel) ?_
  refine lv_icmp_ge (tgt := 69) hx hb dX11_feed_61 (by decide +kernel) (fun c_134 => ?_) (fun c_134 => absurd (by decide +kernel) c_134)
  refine lv_iload hx hb dX11_feed_69 (lv_at hl 7 rfl) ?_
  refine lv_istore (lv' := [(7, .int x5), (6, .int 19), (0, .ref h0), (1, .int x1), (2, .int x2), (3, .int x3), (4, .int x4), (5, .int x5)]) hx hb dX11_feed_71 hl (by decide +kernel) rfl (fun ls hl => ?_)
  refine lv_aload_n hx hb dX11_feed_73 rfl (lv_at hl 2 rfl) ?_
  refine va_get (D := D) (ci := 11) (v := .ref ztape) (C := RX11) (T := TX11) (N := 55) hx hb hts iw_X11_feed_11 hown hC.1 hP 0 rfl rfl 0 (by decide +kernel) (hts (.fieldLink RX11 7 "FairWheelModel" "tape" "[B") (by decide +kernel)) (fun _ h9 => h9) rfl dX11_feed_74 ?_
  refine lv_aload_n hx hb dX11_feed_77 rfl (lv_at hl 2 rfl) ?_
  refine va_get (D := D) (ci := 11) (v := .int 0) (C := RX11) (T := TX11) (N := 55) hx hb hts iw_X11_feed_11 hown hC.1 hP 0 rfl rfl 2 (by decide +kernel) (hts (.fieldLink RX11 241 "FairWheelModel" "taped" "I") (by decide +kernel)) (fun _ h9 => h9) rfl dX11_feed_78 ?_
  refine lv_iload hx hb dX11_feed_81 (lv_at hl 1 rfl) ?_
  refine lv_iadd hx hb dX11_feed_83 ?_
  refine nt_i 19 (by decide +kernel) ?_
  refine lv_iload hx hb dX11_feed_84 (lv_at hl 0 rfl) ?_
  refine lv_bipush (v := 24) hx hb dX11_feed_86 (by decide +kernel) ?_
  refine lv_bipush (v := 8) hx hb dX11_feed_88 (by decide +kernel) ?_
  refine lv_iload hx hb dX11_feed_90 (lv_at hl 1 rfl) ?_
  refine lv_iconst (v := 3) hx hb dX11_feed_92 (by decide +kernel) ?_
  refine lv_iand hx hb dX11_feed_93 ?_
  refine nt_i 3 (by decide +kernel) ?_
  refine lv_imul hx hb dX11_feed_94 ?_
  refine nt_i 24 (by decide +kernel) ?_
  refine lv_isub hx hb dX11_feed_95 ?_
  refine nt_i 0 (by decide +kernel) ?_
  refine lv_ishr hx hb dX11_feed_96 ?_
  refine lv_topi (fun y_135 ey_135 => ?_)
  obtain ⟨y_136, ey_136⟩ : ∃ z : Int32, z = Int8.toInt32 (Int32.toInt8 y_135) := ⟨_, rfl⟩
  refine lv_i2b (v := y_136) hx hb dX11_feed_97 ey_136.symm ?_
  refine ka_bast hx hb hC.1 hP hD hS 1 0 rfl rfl 19 rfl (by decide +kernel) (by decide +kernel) dX11_feed_98 (fun H locs hP hD hS => ?_)
  have hP : va_P D vwCl [(h0, .inr (11, [.ref ztape, .ref ztext, .int 0, .int 0, .int 0, .int (-1), .int 0, .int 0, .int 0, .int 0, .long 0, .ref zcores, .ref zlocks, .ref zbells, .ref ztasks, .ref zops, .ref zopSort, .ref zopNumber, .ref zkind, .ref zevery, .ref zbudget, .ref zshareTold, .ref zfirstOp, .ref zopMany, .ref zisCores, .ref zisLocks, .ref zisBells, .ref ztName, .int 0, .int 0, .ref zall, .ref zrows, .ref zpicked, .ref zpileTask, .ref zpileLock, .int 0, .ref zwas, .ref zbehind, .ref zriskRow, .ref zriskBest, .int 0, .ref zcTick, .ref zcProcessor, .ref zcTask, .int 0, .ref zgTick, .ref zgTask, .ref zgTold, .ref zgUntold, .ref zgRan, .int 0, .int 0, .ref zboxAll, .ref zboxRows, .ref zisBoxed])), (ztape, .inl (ca 0, 1720, .inl (upd f_129 19 (vp_nar .byte y_136))))] H := hP
  have hD : va_D A [(h0, .inr (11, [.ref ztape, .ref ztext, .int 0, .int 0, .int 0, .int (-1), .int 0, .int 0, .int 0, .int 0, .long 0, .ref zcores, .ref zlocks, .ref zbells, .ref ztasks, .ref zops, .ref zopSort, .ref zopNumber, .ref zkind, .ref zevery, .ref zbudget, .ref zshareTold, .ref zfirstOp, .ref zopMany, .ref zisCores, .ref zisLocks, .ref zisBells, .ref ztName, .int 0, .int 0, .ref zall, .ref zrows, .ref zpicked, .ref zpileTask, .ref zpileLock, .int 0, .ref zwas, .ref zbehind, .ref zriskRow, .ref zriskBest, .int 0, .ref zcTick, .ref zcProcessor, .ref zcTask, .int 0, .ref zgTick, .ref zgTask, .ref zgTold, .ref zgUntold, .ref zgRan, .int 0, .int 0, .ref zboxAll, .ref zboxRows, .ref zisBoxed])), (ztape, .inl (ca 0, 1720, .inl (upd f_129 19 (vp_nar .byte y_136))))] := hD
  generalize (upd f_129 19 (vp_nar .byte y_136)) = f_137 at hP hD
  refine lv_iinc (v := 20) (lv' := [(6, .int 20), (7, .int x5), (0, .ref h0), (1, .int x1), (2, .int x2), (3, .int x3), (4, .int x4), (5, .int x5)]) hx hb dX11_feed_99 hl (k := 1) rfl (by decide +kernel) (by decide +kernel) rfl (fun ls hl => ?_)
  refine lv_goto (tgt := 18) hx hb dX11_feed_102 (by decide +kernel) ?_
  refine lv_iload hx hb dX11_feed_18 (lv_at hl 0 rfl) ?_
  refine lv_bipush (v := 20) hx hb dX11_feed_20 (by decide +kernel) ?_
  refine lv_icmp_ge (tgt := 105) hx hb dX11_feed_22 (by decide +kernel) (fun c_138 => ?_) (fun c_138 => absurd (by decide +kernel) c_138)
  refine lv_aload_n hx hb dX11_feed_105 rfl (lv_at hl 2 rfl) ?_
  refine lv_dup hx hb dX11_feed_106 rfl ?_
  refine va_get (D := D) (ci := 11) (v := .int 0) (C := RX11) (T := TX11) (N := 55) hx hb hts iw_X11_feed_11 hown hC.1 hP 0 rfl rfl 2 (by decide +kernel) (hts (.fieldLink RX11 241 "FairWheelModel" "taped" "I") (by decide +kernel)) (fun _ h9 => h9) rfl dX11_feed_107 ?_
  refine lv_bipush (v := 20) hx hb dX11_feed_110 (by decide +kernel) ?_
  refine lv_iadd hx hb dX11_feed_112 ?_
  refine nt_i 20 (by decide +kernel) ?_
  refine va_put (D := D) (ci := 11) (v := .int 20) (ty := .int) (C := RX11) (T := TX11) (N := 55) hx hb hts iw_X11_feed_11 tyX11 tyX11_ok nmX11 hown hC.1 hP hD hS 0 rfl rfl 2 (by decide +kernel) (hts (.fieldLink RX11 241 "FairWheelModel" "taped" "I") (by decide +kernel)) (fun _ h9 => h9) rfl (by decide +kernel) rfl rfl (Nat.le_of_ble_eq_true rfl) dX11_feed_113 (fun H locs hP hD hS => ?_)
  have hP : va_P D vwCl [(h0, .inr (11, [.ref ztape, .ref ztext, .int 20, .int 0, .int 0, .int (-1), .int 0, .int 0, .int 0, .int 0, .long 0, .ref zcores, .ref zlocks, .ref zbells, .ref ztasks, .ref zops, .ref zopSort, .ref zopNumber, .ref zkind, .ref zevery, .ref zbudget, .ref zshareTold, .ref zfirstOp, .ref zopMany, .ref zisCores, .ref zisLocks, .ref zisBells, .ref ztName, .int 0, .int 0, .ref zall, .ref zrows, .ref zpicked, .ref zpileTask, .ref zpileLock, .int 0, .ref zwas, .ref zbehind, .ref zriskRow, .ref zriskBest, .int 0, .ref zcTick, .ref zcProcessor, .ref zcTask, .int 0, .ref zgTick, .ref zgTask, .ref zgTold, .ref zgUntold, .ref zgRan, .int 0, .int 0, .ref zboxAll, .ref zboxRows, .ref zisBoxed])), (ztape, .inl (ca 0, 1720, .inl f_137))] H := hP
  have hD : va_D A [(h0, .inr (11, [.ref ztape, .ref ztext, .int 20, .int 0, .int 0, .int (-1), .int 0, .int 0, .int 0, .int 0, .long 0, .ref zcores, .ref zlocks, .ref zbells, .ref ztasks, .ref zops, .ref zopSort, .ref zopNumber, .ref zkind, .ref zevery, .ref zbudget, .ref zshareTold, .ref zfirstOp, .ref zopMany, .ref zisCores, .ref zisLocks, .ref zisBells, .ref ztName, .int 0, .int 0, .ref zall, .ref zrows, .ref zpicked, .ref zpileTask, .ref zpileLock, .int 0, .ref zwas, .ref zbehind, .ref zriskRow, .ref zriskBest, .int 0, .ref zcTick, .ref zcProcessor, .ref zcTask, .int 0, .ref zgTick, .ref zgTask, .ref zgTold, .ref zgUntold, .ref zgRan, .int 0, .int 0, .ref zboxAll, .ref zboxRows, .ref zisBoxed])), (ztape, .inl (ca 0, 1720, .inl f_137))] := hD
  refine lv_aload_n hx hb dX11_feed_116 rfl (lv_at hl 2 rfl) ?_
  refine va_get (D := D) (ci := 11) (v := .int 20) (C := RX11) (T := TX11) (N := 55) hx hb hts iw_X11_feed_11 hown hC.1 hP 0 rfl rfl 2 (by decide +kernel) (hts (.fieldLink RX11 241 "FairWheelModel" "taped" "I") (by decide +kernel)) (fun _ h9 => h9) rfl dX11_feed_117 ?_
  exact W.iret (v := 20) hx hb hr (fun t ht hW => ⟨⟨20, (), rfl, rfl, by rw [ht]; exact hP.sub [] rfl, hDA (hD.sub [] (by decide +kernel) rfl)⟩, hS.F ht⟩) hS.2.2 dX11_feed_120
theorem iw_X11_end_11 : ∀ w ∈ u_ws RX11 TX11 55, w ∈ wsX11_end := by decide +kernel
def sp_k_X11_end (x1 : Int32) : Int32 := (if x1 < 0 then (-1) else (if x1 ≤ 0 then x1 else (-1)))
set_option maxHeartbeats 4000000 in
set_option maxRecDepth 100000 in
theorem k_X11_end (l : Launch) (D : va_G) (ca : Nat → ClassId) (sz : Nat) (h0 : Nat) (ztape : Nat) (ztext : Nat) (zcores : Nat) (zlocks : Nat) (zbells : Nat) (ztasks : Nat) (zops : Nat) (zopSort : Nat) (zopNumber : Nat) (zkind : Nat) (zevery : Nat) (zbudget : Nat) (zshareTold : Nat) (zfirstOp : Nat) (zopMany : Nat) (zisCores : Nat) (zisLocks : Nat) (zisBells : Nat) (ztName : Nat) (zall : Nat) (zrows : Nat) (zpicked : Nat) (zpileTask : Nat) (zpileLock : Nat) (zwas : Nat) (zbehind : Nat) (zriskRow : Nat) (zriskBest : Nat) (zcTick : Nat) (zcProcessor : Nat) (zcTask : Nat) (zgTick : Nat) (zgTask : Nat) (zgTold : Nat) (zgUntold : Nat) (zgRan : Nat) (zboxAll : Nat) (zboxRows : Nat) (zisBoxed : Nat) (x1 : Int32) : Met l yX11_end wsX11_end ({ frames := 0, cells := 0, slots := 0, locals := 0 }) (PC [.ref h0, .int x1] sz D ca [(h0, .inr (11, [.ref ztape, .ref ztext, .int 0, .int 0, .int 0, .int (-1), .int 0, .int 0, .int 0, .int 0, .long 0, .ref zcores, .ref zlocks, .ref zbells, .ref ztasks, .ref zops, .ref zopSort, .ref zopNumber, .ref zkind, .ref zevery, .ref zbudget, .ref zshareTold, .ref zfirstOp, .ref zopMany, .ref zisCores, .ref zisLocks, .ref zisBells, .ref ztName, .int 0, .int 0, .ref zall, .ref zrows, .ref zpicked, .ref zpileTask, .ref zpileLock, .int 0, .ref zwas, .ref zbehind, .ref zriskRow, .ref zriskBest, .int 0, .ref zcTick, .ref zcProcessor, .ref zcTask, .int 0, .ref zgTick, .ref zgTask, .ref zgTold, .ref zgUntold, .ref zgRan, .int 0, .int 0, .ref zboxAll, .ref zboxRows, .ref zisBoxed]))]) (QI (fun (r : Int32) (u : Unit) => r = sp_k_X11_end x1) (fun (_ : Unit) => []) [(h0, .inr (11, [.ref ztape, .ref ztext, .int 0, .int 0, .int 0, .int (-1), .int 0, .int 0, .int 0, .int 0, .long 0, .ref zcores, .ref zlocks, .ref zbells, .ref ztasks, .ref zops, .ref zopSort, .ref zopNumber, .ref zkind, .ref zevery, .ref zbudget, .ref zshareTold, .ref zfirstOp, .ref zopMany, .ref zisCores, .ref zisLocks, .ref zisBells, .ref ztName, .int 0, .int 0, .ref zall, .ref zrows, .ref zpicked, .ref zpileTask, .ref zpileLock, .int 0, .ref zwas, .ref zbehind, .ref zriskRow, .ref zriskBest, .int 0, .ref zcTick, .ref zcProcessor, .ref zcTask, .int 0, .ref zgTick, .ref zgTask, .ref zgTold, .ref zgUntold, .ref zgRan, .int 0, .int 0, .ref zboxAll, .ref zboxRows, .ref zisBoxed]))] sz D) 0 0 (va_A [(h0, .inr (11, [.ref ztape, .ref ztext, .int 0, .int 0, .int 0, .int (-1), .int 0, .int 0, .int 0, .int 0, .long 0, .ref zcores, .ref zlocks, .ref zbells, .ref ztasks, .ref zops, .ref zopSort, .ref zopNumber, .ref zkind, .ref zevery, .ref zbudget, .ref zshareTold, .ref zfirstOp, .ref zopMany, .ref zisCores, .ref zisLocks, .ref zisBells, .ref ztName, .int 0, .int 0, .ref zall, .ref zrows, .ref zpicked, .ref zpileTask, .ref zpileLock, .int 0, .ref zwas, .ref zbehind, .ref zriskRow, .ref zriskBest, .int 0, .ref zcTick, .ref zcProcessor, .ref zcTask, .int 0, .ref zgTick, .ref zgTask, .ref zgTold, .ref zgUntold, .ref zgRan, .int 0, .int 0, .ref zboxAll, .ref zboxRows, .ref zisBoxed]))] sz) := by
  refine Met.ofW (cc := cX11_end) (maxL := 2) (ret := (some .int)) (by decide +kernel) rfl ?_
  intro p e s m args below meth c s₁ B hml hv
  obtain ⟨rfl, hsz, hP, hC, hD0⟩ := hv
  have hx := B.exec
  have hb := B.bytes
  have hr := B.returns
  have hts := atoms_spec (ws := wsX11_end) B.pre
  have hown : s.vm.findClass RX11 = some m.cls := findClass_of_methodNamed B.named
  have hlocks := B.notSynchronized
  subst hsz
  have hD := hD0.self (sz := s.heap.size)
  dsimp only [QV, QI, QL, BQ]
  generalize hAe : va_A [(h0, .inr (11, [.ref ztape, .ref ztext, .int 0, .int 0, .int 0, .int (-1), .int 0, .int 0, .int 0, .int 0, .long 0, .ref zcores, .ref zlocks, .ref zbells, .ref ztasks, .ref zops, .ref zopSort, .ref zopNumber, .ref zkind, .ref zevery, .ref zbudget, .ref zshareTold, .ref zfirstOp, .ref zopMany, .ref zisCores, .ref zisLocks, .ref zisBells, .ref ztName, .int 0, .int 0, .ref zall, .ref zrows, .ref zpicked, .ref zpileTask, .ref zpileLock, .int 0, .ref zwas, .ref zbehind, .ref zriskRow, .ref zriskBest, .int 0, .ref zcTick, .ref zcProcessor, .ref zcTask, .int 0, .ref zgTick, .ref zgTask, .ref zgTold, .ref zgUntold, .ref zgRan, .int 0, .int 0, .ref zboxAll, .ref zboxRows, .ref zisBoxed]))] s.heap.size = A at hD ⊢
  have hA : ∀ q : Nat, s.heap.size ≤ q → A q := fun q h => by rw [← hAe]; exact Or.inr h
  have hDA : ∀ {w : va_W}, va_D A w → va_D (va_A [(h0, .inr (11, [.ref ztape, .ref ztext, .int 0, .int 0, .int 0, .int (-1), .int 0, .int 0, .int 0, .int 0, .long 0, .ref zcores, .ref zlocks, .ref zbells, .ref ztasks, .ref zops, .ref zopSort, .ref zopNumber, .ref zkind, .ref zevery, .ref zbudget, .ref zshareTold, .ref zfirstOp, .ref zopMany, .ref zisCores, .ref zisLocks, .ref zisBells, .ref ztName, .int 0, .int 0, .ref zall, .ref zrows, .ref zpicked, .ref zpileTask, .ref zpileLock, .int 0, .ref zwas, .ref zbehind, .ref zriskRow, .ref zriskBest, .int 0, .ref zcTick, .ref zcProcessor, .ref zcTask, .int 0, .ref zgTick, .ref zgTask, .ref zgTold, .ref zgUntold, .ref zgRan, .int 0, .int 0, .ref zboxAll, .ref zboxRows, .ref zisBoxed]))] s.heap.size) w := fun h => by rw [hAe]; exact h
  have hS : va_S A s.heap s.heap [] := va_S.rf
  have hP : va_P D vwCl [(h0, .inr (11, [.ref ztape, .ref ztext, .int 0, .int 0, .int 0, .int (-1), .int 0, .int 0, .int 0, .int 0, .long 0, .ref zcores, .ref zlocks, .ref zbells, .ref ztasks, .ref zops, .ref zopSort, .ref zopNumber, .ref zkind, .ref zevery, .ref zbudget, .ref zshareTold, .ref zfirstOp, .ref zopMany, .ref zisCores, .ref zisLocks, .ref zisBells, .ref ztName, .int 0, .int 0, .ref zall, .ref zrows, .ref zpicked, .ref zpileTask, .ref zpileLock, .int 0, .ref zwas, .ref zbehind, .ref zriskRow, .ref zriskBest, .int 0, .ref zcTick, .ref zcProcessor, .ref zcTask, .int 0, .ref zgTick, .ref zgTask, .ref zgTold, .ref zgUntold, .ref zgRan, .int 0, .int 0, .ref zboxAll, .ref zboxRows, .ref zisBoxed]))] s.heap := hP
  have hl := lv_entry ([.ref h0, .int x1]) (n := 2) (Nat.le_of_ble_eq_true rfl)
  rw [lg_entry_eq]
  generalize (lg_sl ([.ref h0, .int x1]) ++ List.replicate (2 - (lg_sl ([.ref h0, .int x1])).length) Slot.unset).toArray = ls at hl ⊢
  have hl : lv_has ls 2 [(0, .ref h0), (1, .int x1)] := hl
  refine lv_iload_n hx hb dX11_end_0 rfl (lv_at hl 1 rfl) ?_
  refine lv_if_lt (tgt := 12) hx hb dX11_end_1 (by decide +kernel) (fun c_1 => ?_) (fun c_1 => ?_)
  · refine lv_iconst (v := (-1)) hx hb dX11_end_12 (by decide +kernel) ?_
    exact W.iret (v := (-1)) hx hb hr (fun t ht hW => ⟨⟨(-1), (), rfl, (by unfold sp_k_X11_end; rw [if_pos c_1]), by rw [ht]; exact hP.sub [] rfl, hDA (hD.sub [] (by decide +kernel) rfl)⟩, hS.F ht⟩) hS.2.2 dX11_end_13
  · refine lv_iload_n hx hb dX11_end_4 rfl (lv_at hl 1 rfl) ?_
    refine lv_aload_n hx hb dX11_end_5 rfl (lv_at hl 0 rfl) ?_
    refine va_get (D := D) (ci := 11) (v := .int 0) (C := RX11) (T := TX11) (N := 55) hx hb hts iw_X11_end_11 hown hC.1 hP 0 rfl rfl 2 (by decide +kernel) (hts (.fieldLink RX11 241 "FairWheelModel" "taped" "I") (by decide +kernel)) (fun _ h9 => h9) rfl dX11_end_6 ?_
    refine lv_icmp_le (tgt := 14) hx hb dX11_end_9 (by decide +kernel) (fun c_2 => ?_) (fun c_2 => ?_)
    · refine lv_aload_n hx hb dX11_end_14 rfl (lv_at hl 0 rfl) ?_
      refine lv_iload_n hx hb dX11_end_15 rfl (lv_at hl 1 rfl) ?_
      refine va_put (D := D) (ci := 11) (v := .int x1) (ty := .int) (C := RX11) (T := TX11) (N := 55) hx hb hts iw_X11_end_11 tyX11 tyX11_ok nmX11 hown hC.1 hP hD hS 0 rfl rfl 2 (by decide +kernel) (hts (.fieldLink RX11 241 "FairWheelModel" "taped" "I") (by decide +kernel)) (fun _ h9 => h9) rfl (by decide +kernel) rfl rfl (Nat.le_of_ble_eq_true rfl) dX11_end_16 (fun H locs hP hD hS => ?_)
      have hP : va_P D vwCl [(h0, .inr (11, [.ref ztape, .ref ztext, .int x1, .int 0, .int 0, .int (-1), .int 0, .int 0, .int 0, .int 0, .long 0, .ref zcores, .ref zlocks, .ref zbells, .ref ztasks, .ref zops, .ref zopSort, .ref zopNumber, .ref zkind, .ref zevery, .ref zbudget, .ref zshareTold, .ref zfirstOp, .ref zopMany, .ref zisCores, .ref zisLocks, .ref zisBells, .ref ztName, .int 0, .int 0, .ref zall, .ref zrows, .ref zpicked, .ref zpileTask, .ref zpileLock, .int 0, .ref zwas, .ref zbehind, .ref zriskRow, .ref zriskBest, .int 0, .ref zcTick, .ref zcProcessor, .ref zcTask, .int 0, .ref zgTick, .ref zgTask, .ref zgTold, .ref zgUntold, .ref zgRan, .int 0, .int 0, .ref zboxAll, .ref zboxRows, .ref zisBoxed]))] H := hP
      have hD : va_D A [(h0, .inr (11, [.ref ztape, .ref ztext, .int x1, .int 0, .int 0, .int (-1), .int 0, .int 0, .int 0, .int 0, .long 0, .ref zcores, .ref zlocks, .ref zbells, .ref ztasks, .ref zops, .ref zopSort, .ref zopNumber, .ref zkind, .ref zevery, .ref zbudget, .ref zshareTold, .ref zfirstOp, .ref zopMany, .ref zisCores, .ref zisLocks, .ref zisBells, .ref ztName, .int 0, .int 0, .ref zall, .ref zrows, .ref zpicked, .ref zpileTask, .ref zpileLock, .int 0, .ref zwas, .ref zbehind, .ref zriskRow, .ref zriskBest, .int 0, .ref zcTick, .ref zcProcessor, .ref zcTask, .int 0, .ref zgTick, .ref zgTask, .ref zgTold, .ref zgUntold, .ref zgRan, .int 0, .int 0, .ref zboxAll, .ref zboxRows, .ref zisBoxed]))] := hD
      refine lv_iload_n hx hb dX11_end_19 rfl (lv_at hl 1 rfl) ?_
      exact W.iret (v := x1) hx hb hr (fun t ht hW => ⟨⟨x1, (), rfl, (by unfold sp_k_X11_end; rw [if_neg c_1, if_pos c_2]), by rw [ht]; exact hP.sub [] rfl, hDA (hD.sub [] (by decide +kernel) rfl)⟩, hS.F ht⟩) hS.2.2 dX11_end_20
    · refine lv_iconst (v := (-1)) hx hb dX11_end_12 (by decide +kernel) ?_
      exact W.iret (v := (-1)) hx hb hr (fun t ht hW => ⟨⟨(-1), (), rfl, (by unfold sp_k_X11_end; rw [if_neg c_1, if_neg c_2]), by rw [ht]; exact hP.sub [] rfl, hDA (hD.sub [] (by decide +kernel) rfl)⟩, hS.F ht⟩) hS.2.2 dX11_end_13
theorem iw_X11_fault_11 : ∀ w ∈ u_ws RX11 TX11 55, w ∈ wsX11_fault := by decide +kernel
def sp_k_X11_fault (x1 : Int32) : Int32 := (if x1 = 0 then 0 else (if x1 = 1 then (-1) else (-1)))
set_option maxHeartbeats 4000000 in
set_option maxRecDepth 100000 in
theorem k_X11_fault (l : Launch) (D : va_G) (ca : Nat → ClassId) (sz : Nat) (h0 : Nat) (ztape : Nat) (ztext : Nat) (zcores : Nat) (zlocks : Nat) (zbells : Nat) (ztasks : Nat) (zops : Nat) (zopSort : Nat) (zopNumber : Nat) (zkind : Nat) (zevery : Nat) (zbudget : Nat) (zshareTold : Nat) (zfirstOp : Nat) (zopMany : Nat) (zisCores : Nat) (zisLocks : Nat) (zisBells : Nat) (ztName : Nat) (zall : Nat) (zrows : Nat) (zpicked : Nat) (zpileTask : Nat) (zpileLock : Nat) (zwas : Nat) (zbehind : Nat) (zriskRow : Nat) (zriskBest : Nat) (zcTick : Nat) (zcProcessor : Nat) (zcTask : Nat) (zgTick : Nat) (zgTask : Nat) (zgTold : Nat) (zgUntold : Nat) (zgRan : Nat) (zboxAll : Nat) (zboxRows : Nat) (zisBoxed : Nat) (x1 : Int32) : Met l yX11_fault wsX11_fault ({ frames := 0, cells := 0, slots := 0, locals := 0 }) (PC [.ref h0, .int x1] sz D ca [(h0, .inr (11, [.ref ztape, .ref ztext, .int 0, .int 0, .int 0, .int (-1), .int 0, .int 0, .int 0, .int 0, .long 0, .ref zcores, .ref zlocks, .ref zbells, .ref ztasks, .ref zops, .ref zopSort, .ref zopNumber, .ref zkind, .ref zevery, .ref zbudget, .ref zshareTold, .ref zfirstOp, .ref zopMany, .ref zisCores, .ref zisLocks, .ref zisBells, .ref ztName, .int 0, .int 0, .ref zall, .ref zrows, .ref zpicked, .ref zpileTask, .ref zpileLock, .int 0, .ref zwas, .ref zbehind, .ref zriskRow, .ref zriskBest, .int 0, .ref zcTick, .ref zcProcessor, .ref zcTask, .int 0, .ref zgTick, .ref zgTask, .ref zgTold, .ref zgUntold, .ref zgRan, .int 0, .int 0, .ref zboxAll, .ref zboxRows, .ref zisBoxed]))]) (QI (fun (r : Int32) (u : Unit) => r = sp_k_X11_fault x1) (fun (_ : Unit) => []) [(h0, .inr (11, [.ref ztape, .ref ztext, .int 0, .int 0, .int 0, .int (-1), .int 0, .int 0, .int 0, .int 0, .long 0, .ref zcores, .ref zlocks, .ref zbells, .ref ztasks, .ref zops, .ref zopSort, .ref zopNumber, .ref zkind, .ref zevery, .ref zbudget, .ref zshareTold, .ref zfirstOp, .ref zopMany, .ref zisCores, .ref zisLocks, .ref zisBells, .ref ztName, .int 0, .int 0, .ref zall, .ref zrows, .ref zpicked, .ref zpileTask, .ref zpileLock, .int 0, .ref zwas, .ref zbehind, .ref zriskRow, .ref zriskBest, .int 0, .ref zcTick, .ref zcProcessor, .ref zcTask, .int 0, .ref zgTick, .ref zgTask, .ref zgTold, .ref zgUntold, .ref zgRan, .int 0, .int 0, .ref zboxAll, .ref zboxRows, .ref zisBoxed]))] sz D) 0 0 (va_A [(h0, .inr (11, [.ref ztape, .ref ztext, .int 0, .int 0, .int 0, .int (-1), .int 0, .int 0, .int 0, .int 0, .long 0, .ref zcores, .ref zlocks, .ref zbells, .ref ztasks, .ref zops, .ref zopSort, .ref zopNumber, .ref zkind, .ref zevery, .ref zbudget, .ref zshareTold, .ref zfirstOp, .ref zopMany, .ref zisCores, .ref zisLocks, .ref zisBells, .ref ztName, .int 0, .int 0, .ref zall, .ref zrows, .ref zpicked, .ref zpileTask, .ref zpileLock, .int 0, .ref zwas, .ref zbehind, .ref zriskRow, .ref zriskBest, .int 0, .ref zcTick, .ref zcProcessor, .ref zcTask, .int 0, .ref zgTick, .ref zgTask, .ref zgTold, .ref zgUntold, .ref zgRan, .int 0, .int 0, .ref zboxAll, .ref zboxRows, .ref zisBoxed]))] sz) := by
  refine Met.ofW (cc := cX11_fault) (maxL := 2) (ret := (some .int)) (by decide +kernel) rfl ?_
  intro p e s m args below meth c s₁ B hml hv
  obtain ⟨rfl, hsz, hP, hC, hD0⟩ := hv
  have hx := B.exec
  have hb := B.bytes
  have hr := B.returns
  have hts := atoms_spec (ws := wsX11_fault) B.pre
  have hown : s.vm.findClass RX11 = some m.cls := findClass_of_methodNamed B.named
  have hlocks := B.notSynchronized
  subst hsz
  have hD := hD0.self (sz := s.heap.size)
  dsimp only [QV, QI, QL, BQ]
  generalize hAe : va_A [(h0, .inr (11, [.ref ztape, .ref ztext, .int 0, .int 0, .int 0, .int (-1), .int 0, .int 0, .int 0, .int 0, .long 0, .ref zcores, .ref zlocks, .ref zbells, .ref ztasks, .ref zops, .ref zopSort, .ref zopNumber, .ref zkind, .ref zevery, .ref zbudget, .ref zshareTold, .ref zfirstOp, .ref zopMany, .ref zisCores, .ref zisLocks, .ref zisBells, .ref ztName, .int 0, .int 0, .ref zall, .ref zrows, .ref zpicked, .ref zpileTask, .ref zpileLock, .int 0, .ref zwas, .ref zbehind, .ref zriskRow, .ref zriskBest, .int 0, .ref zcTick, .ref zcProcessor, .ref zcTask, .int 0, .ref zgTick, .ref zgTask, .ref zgTold, .ref zgUntold, .ref zgRan, .int 0, .int 0, .ref zboxAll, .ref zboxRows, .ref zisBoxed]))] s.heap.size = A at hD ⊢
  have hA : ∀ q : Nat, s.heap.size ≤ q → A q := fun q h => by rw [← hAe]; exact Or.inr h
  have hDA : ∀ {w : va_W}, va_D A w → va_D (va_A [(h0, .inr (11, [.ref ztape, .ref ztext, .int 0, .int 0, .int 0, .int (-1), .int 0, .int 0, .int 0, .int 0, .long 0, .ref zcores, .ref zlocks, .ref zbells, .ref ztasks, .ref zops, .ref zopSort, .ref zopNumber, .ref zkind, .ref zevery, .ref zbudget, .ref zshareTold, .ref zfirstOp, .ref zopMany, .ref zisCores, .ref zisLocks, .ref zisBells, .ref ztName, .int 0, .int 0, .ref zall, .ref zrows, .ref zpicked, .ref zpileTask, .ref zpileLock, .int 0, .ref zwas, .ref zbehind, .ref zriskRow, .ref zriskBest, .int 0, .ref zcTick, .ref zcProcessor, .ref zcTask, .int 0, .ref zgTick, .ref zgTask, .ref zgTold, .ref zgUntold, .ref zgRan, .int 0, .int 0, .ref zboxAll, .ref zboxRows, .ref zisBoxed]))] s.heap.size) w := fun h => by rw [hAe]; exact h
  have hS : va_S A s.heap s.heap [] := va_S.rf
  have hP : va_P D vwCl [(h0, .inr (11, [.ref ztape, .ref ztext, .int 0, .int 0, .int 0, .int (-1), .int 0, .int 0, .int 0, .int 0, .long 0, .ref zcores, .ref zlocks, .ref zbells, .ref ztasks, .ref zops, .ref zopSort, .ref zopNumber, .ref zkind, .ref zevery, .ref zbudget, .ref zshareTold, .ref zfirstOp, .ref zopMany, .ref zisCores, .ref zisLocks, .ref zisBells, .ref ztName, .int 0, .int 0, .ref zall, .ref zrows, .ref zpicked, .ref zpileTask, .ref zpileLock, .int 0, .ref zwas, .ref zbehind, .ref zriskRow, .ref zriskBest, .int 0, .ref zcTick, .ref zcProcessor, .ref zcTask, .int 0, .ref zgTick, .ref zgTask, .ref zgTold, .ref zgUntold, .ref zgRan, .int 0, .int 0, .ref zboxAll, .ref zboxRows, .ref zisBoxed]))] s.heap := hP
  have hl := lv_entry ([.ref h0, .int x1]) (n := 2) (Nat.le_of_ble_eq_true rfl)
  rw [lg_entry_eq]
  generalize (lg_sl ([.ref h0, .int x1]) ++ List.replicate (2 - (lg_sl ([.ref h0, .int x1])).length) Slot.unset).toArray = ls at hl ⊢
  have hl : lv_has ls 2 [(0, .ref h0), (1, .int x1)] := hl
  refine lv_iload_n hx hb dX11_fault_0 rfl (lv_at hl 1 rfl) ?_
  refine lv_if_ne (tgt := 11) hx hb dX11_fault_1 (by decide +kernel) (fun c_1 => ?_) (fun c_1 => ?_)
  · refine lv_iload_n hx hb dX11_fault_11 rfl (lv_at hl 1 rfl) ?_
    refine lv_iconst (v := 1) hx hb dX11_fault_12 (by decide +kernel) ?_
    refine lv_icmp_ne (tgt := 23) hx hb dX11_fault_13 (by decide +kernel) (fun c_2 => ?_) (fun c_2 => ?_)
    · refine lv_iconst (v := (-1)) hx hb dX11_fault_23 (by decide +kernel) ?_
      exact W.iret (v := (-1)) hx hb hr (fun t ht hW => ⟨⟨(-1), (), rfl, (by unfold sp_k_X11_fault; rw [if_neg c_1, if_neg c_2]), by rw [ht]; exact hP.sub [] rfl, hDA (hD.sub [] (by decide +kernel) rfl)⟩, hS.F ht⟩) hS.2.2 dX11_fault_24
    · refine lv_aload_n hx hb dX11_fault_16 rfl (lv_at hl 0 rfl) ?_
      refine va_get (D := D) (ci := 11) (v := .int (-1)) (C := RX11) (T := TX11) (N := 55) hx hb hts iw_X11_fault_11 hown hC.1 hP 0 rfl rfl 5 (by decide +kernel) (hts (.fieldLink RX11 16 "FairWheelModel" "faultPlace" "I") (by decide +kernel)) (fun _ h9 => h9) rfl dX11_fault_17 ?_
      refine lv_goto (tgt := 24) hx hb dX11_fault_20 (by decide +kernel) ?_
      exact W.iret (v := (-1)) hx hb hr (fun t ht hW => ⟨⟨(-1), (), rfl, (by unfold sp_k_X11_fault; rw [if_neg c_1, if_pos c_2]), by rw [ht]; exact hP.sub [] rfl, hDA (hD.sub [] (by decide +kernel) rfl)⟩, hS.F ht⟩) hS.2.2 dX11_fault_24
  · refine lv_aload_n hx hb dX11_fault_4 rfl (lv_at hl 0 rfl) ?_
    refine va_get (D := D) (ci := 11) (v := .int 0) (C := RX11) (T := TX11) (N := 55) hx hb hts iw_X11_fault_11 hown hC.1 hP 0 rfl rfl 4 (by decide +kernel) (hts (.fieldLink RX11 143 "FairWheelModel" "faultKind" "I") (by decide +kernel)) (fun _ h9 => h9) rfl dX11_fault_5 ?_
    refine lv_goto (tgt := 24) hx hb dX11_fault_8 (by decide +kernel) ?_
    exact W.iret (v := 0) hx hb hr (fun t ht hW => ⟨⟨0, (), rfl, (by unfold sp_k_X11_fault; rw [if_pos c_1]), by rw [ht]; exact hP.sub [] rfl, hDA (hD.sub [] (by decide +kernel) rfl)⟩, hS.F ht⟩) hS.2.2 dX11_fault_24
theorem iw_X11_chosen_11 : ∀ w ∈ u_ws RX11 TX11 55, w ∈ wsX11_chosen := by decide +kernel
set_option maxHeartbeats 4000000 in
set_option maxRecDepth 100000 in
theorem k_X11_chosen (l : Launch) (D : va_G) (ca : Nat → ClassId) (sz : Nat) (h0 : Nat) (ztape : Nat) (ztext : Nat) (zcores : Nat) (zlocks : Nat) (zbells : Nat) (ztasks : Nat) (zops : Nat) (zopSort : Nat) (zopNumber : Nat) (zkind : Nat) (zevery : Nat) (zbudget : Nat) (zshareTold : Nat) (zfirstOp : Nat) (zopMany : Nat) (zisCores : Nat) (zisLocks : Nat) (zisBells : Nat) (ztName : Nat) (zall : Nat) (zrows : Nat) (zpicked : Nat) (zpileTask : Nat) (zpileLock : Nat) (zwas : Nat) (zbehind : Nat) (zriskRow : Nat) (zriskBest : Nat) (zcTick : Nat) (zcProcessor : Nat) (zcTask : Nat) (zgTick : Nat) (zgTask : Nat) (zgTold : Nat) (zgUntold : Nat) (zgRan : Nat) (zboxAll : Nat) (zboxRows : Nat) (zisBoxed : Nat) (fa : Nat → Int32) (x1 : Int32) (x2 : Int32) (ha : fa 330 = 0) : Met l yX11_chosen wsX11_chosen ({ frames := 1, cells := 0, slots := 0, locals := 22 }) (PC [.ref h0, .int x1, .int x2] sz D ca [(h0, .inr (11, [.ref ztape, .ref ztext, .int 0, .int 0, .int 0, .int (-1), .int 0, .int 0, .int 0, .int 0, .long 0, .ref zcores, .ref zlocks, .ref zbells, .ref ztasks, .ref zops, .ref zopSort, .ref zopNumber, .ref zkind, .ref zevery, .ref zbudget, .ref zshareTold, .ref zfirstOp, .ref zopMany, .ref zisCores, .ref zisLocks, .ref zisBells, .ref ztName, .int 0, .int 0, .ref zall, .ref zrows, .ref zpicked, .ref zpileTask, .ref zpileLock, .int 0, .ref zwas, .ref zbehind, .ref zriskRow, .ref zriskBest, .int 0, .ref zcTick, .ref zcProcessor, .ref zcTask, .int 0, .ref zgTick, .ref zgTask, .ref zgTold, .ref zgUntold, .ref zgRan, .int 0, .int 0, .ref zboxAll, .ref zboxRows, .ref zisBoxed])), (zall, .inl (ca 1, 340, .inl fa))]) (QI (fun (r : Int32) (u : Unit) => r = (-1)) (fun (_ : Unit) => []) [(h0, .inr (11, [.ref ztape, .ref ztext, .int 0, .int 0, .int 0, .int (-1), .int 0, .int 0, .int 0, .int 0, .long 0, .ref zcores, .ref zlocks, .ref zbells, .ref ztasks, .ref zops, .ref zopSort, .ref zopNumber, .ref zkind, .ref zevery, .ref zbudget, .ref zshareTold, .ref zfirstOp, .ref zopMany, .ref zisCores, .ref zisLocks, .ref zisBells, .ref ztName, .int 0, .int 0, .ref zall, .ref zrows, .ref zpicked, .ref zpileTask, .ref zpileLock, .int 0, .ref zwas, .ref zbehind, .ref zriskRow, .ref zriskBest, .int 0, .ref zcTick, .ref zcProcessor, .ref zcTask, .int 0, .ref zgTick, .ref zgTask, .ref zgTold, .ref zgUntold, .ref zgRan, .int 0, .int 0, .ref zboxAll, .ref zboxRows, .ref zisBoxed])), (zall, .inl (ca 1, 340, .inl fa))] sz D) 0 0 (va_A [(h0, .inr (11, [.ref ztape, .ref ztext, .int 0, .int 0, .int 0, .int (-1), .int 0, .int 0, .int 0, .int 0, .long 0, .ref zcores, .ref zlocks, .ref zbells, .ref ztasks, .ref zops, .ref zopSort, .ref zopNumber, .ref zkind, .ref zevery, .ref zbudget, .ref zshareTold, .ref zfirstOp, .ref zopMany, .ref zisCores, .ref zisLocks, .ref zisBells, .ref ztName, .int 0, .int 0, .ref zall, .ref zrows, .ref zpicked, .ref zpileTask, .ref zpileLock, .int 0, .ref zwas, .ref zbehind, .ref zriskRow, .ref zriskBest, .int 0, .ref zcTick, .ref zcProcessor, .ref zcTask, .int 0, .ref zgTick, .ref zgTask, .ref zgTold, .ref zgUntold, .ref zgRan, .int 0, .int 0, .ref zboxAll, .ref zboxRows, .ref zisBoxed])), (zall, .inl (ca 1, 340, .inl fa))] sz) := by
  refine Met.ofW (cc := cX11_chosen) (maxL := 3) (ret := (some .int)) (by decide +kernel) rfl ?_
  intro p e s m args below meth c s₁ B hml hv
  obtain ⟨rfl, hsz, hP, hC, hD0⟩ := hv
  have hx := B.exec
  have hb := B.bytes
  have hr := B.returns
  have hts := atoms_spec (ws := wsX11_chosen) B.pre
  have hown : s.vm.findClass RX11 = some m.cls := findClass_of_methodNamed B.named
  have hlocks := B.notSynchronized
  subst hsz
  have hD := hD0.self (sz := s.heap.size)
  dsimp only [QV, QI, QL, BQ]
  generalize hAe : va_A [(h0, .inr (11, [.ref ztape, .ref ztext, .int 0, .int 0, .int 0, .int (-1), .int 0, .int 0, .int 0, .int 0, .long 0, .ref zcores, .ref zlocks, .ref zbells, .ref ztasks, .ref zops, .ref zopSort, .ref zopNumber, .ref zkind, .ref zevery, .ref zbudget, .ref zshareTold, .ref zfirstOp, .ref zopMany, .ref zisCores, .ref zisLocks, .ref zisBells, .ref ztName, .int 0, .int 0, .ref zall, .ref zrows, .ref zpicked, .ref zpileTask, .ref zpileLock, .int 0, .ref zwas, .ref zbehind, .ref zriskRow, .ref zriskBest, .int 0, .ref zcTick, .ref zcProcessor, .ref zcTask, .int 0, .ref zgTick, .ref zgTask, .ref zgTold, .ref zgUntold, .ref zgRan, .int 0, .int 0, .ref zboxAll, .ref zboxRows, .ref zisBoxed])), (zall, .inl (ca 1, 340, .inl fa))] s.heap.size = A at hD ⊢
  have hA : ∀ q : Nat, s.heap.size ≤ q → A q := fun q h => by rw [← hAe]; exact Or.inr h
  have hDA : ∀ {w : va_W}, va_D A w → va_D (va_A [(h0, .inr (11, [.ref ztape, .ref ztext, .int 0, .int 0, .int 0, .int (-1), .int 0, .int 0, .int 0, .int 0, .long 0, .ref zcores, .ref zlocks, .ref zbells, .ref ztasks, .ref zops, .ref zopSort, .ref zopNumber, .ref zkind, .ref zevery, .ref zbudget, .ref zshareTold, .ref zfirstOp, .ref zopMany, .ref zisCores, .ref zisLocks, .ref zisBells, .ref ztName, .int 0, .int 0, .ref zall, .ref zrows, .ref zpicked, .ref zpileTask, .ref zpileLock, .int 0, .ref zwas, .ref zbehind, .ref zriskRow, .ref zriskBest, .int 0, .ref zcTick, .ref zcProcessor, .ref zcTask, .int 0, .ref zgTick, .ref zgTask, .ref zgTold, .ref zgUntold, .ref zgRan, .int 0, .int 0, .ref zboxAll, .ref zboxRows, .ref zisBoxed])), (zall, .inl (ca 1, 340, .inl fa))] s.heap.size) w := fun h => by rw [hAe]; exact h
  have hS : va_S A s.heap s.heap [] := va_S.rf
  have hP : va_P D vwCl [(h0, .inr (11, [.ref ztape, .ref ztext, .int 0, .int 0, .int 0, .int (-1), .int 0, .int 0, .int 0, .int 0, .long 0, .ref zcores, .ref zlocks, .ref zbells, .ref ztasks, .ref zops, .ref zopSort, .ref zopNumber, .ref zkind, .ref zevery, .ref zbudget, .ref zshareTold, .ref zfirstOp, .ref zopMany, .ref zisCores, .ref zisLocks, .ref zisBells, .ref ztName, .int 0, .int 0, .ref zall, .ref zrows, .ref zpicked, .ref zpileTask, .ref zpileLock, .int 0, .ref zwas, .ref zbehind, .ref zriskRow, .ref zriskBest, .int 0, .ref zcTick, .ref zcProcessor, .ref zcTask, .int 0, .ref zgTick, .ref zgTask, .ref zgTold, .ref zgUntold, .ref zgRan, .int 0, .int 0, .ref zboxAll, .ref zboxRows, .ref zisBoxed])), (zall, .inl (ca 1, 340, .inl fa))] s.heap := hP
  have hl := lv_entry ([.ref h0, .int x1, .int x2]) (n := 3) (Nat.le_of_ble_eq_true rfl)
  rw [lg_entry_eq]
  generalize (lg_sl ([.ref h0, .int x1, .int x2]) ++ List.replicate (3 - (lg_sl ([.ref h0, .int x1, .int x2])).length) Slot.unset).toArray = ls at hl ⊢
  have hl : lv_has ls 3 [(0, .ref h0), (1, .int x1), (2, .int x2)] := hl
  refine lv_iload_n hx hb dX11_chosen_0 rfl (lv_at hl 1 rfl) ?_
  refine lv_iconst (v := 0) hx hb dX11_chosen_1 (by decide +kernel) ?_
  refine lv_aload_n hx hb dX11_chosen_2 rfl (lv_at hl 0 rfl) ?_
  refine va_get (D := D) (ci := 11) (v := .ref zall) (C := RX11) (T := TX11) (N := 55) hx hb hts iw_X11_chosen_11 hown hC.1 hP 0 rfl rfl 30 (by decide +kernel) (hts (.fieldLink RX11 74 "FairWheelModel" "all" "[I") (by decide +kernel)) (fun _ h9 => h9) rfl dX11_chosen_3 ?_
  refine lv_sipush (v := 330) hx hb dX11_chosen_6 (by decide +kernel) ?_
  refine ka_iald hx hb hC.1 hP 1 1 rfl rfl 330 rfl (by decide +kernel) (by decide +kernel) dX11_chosen_9 ?_
  refine nt_i 0 ha ?_
  refine lv_iconst (v := 1) hx hb dX11_chosen_10 (by decide +kernel) ?_
  refine lv_isub hx hb dX11_chosen_11 ?_
  refine nt_i (-1) (by decide +kernel) ?_
  refine kc_i (wr := [(h0, .inr (11, [.ref ztape, .ref ztext, .int 0, .int 0, .int 0, .int (-1), .int 0, .int 0, .int 0, .int 0, .long 0, .ref zcores, .ref zlocks, .ref zbells, .ref ztasks, .ref zops, .ref zopSort, .ref zopNumber, .ref zkind, .ref zevery, .ref zbudget, .ref zshareTold, .ref zfirstOp, .ref zopMany, .ref zisCores, .ref zisLocks, .ref zisBells, .ref ztName, .int 0, .int 0, .ref zall, .ref zrows, .ref zpicked, .ref zpileTask, .ref zpileLock, .int 0, .ref zwas, .ref zbehind, .ref zriskRow, .ref zriskBest, .int 0, .ref zcTick, .ref zcProcessor, .ref zcTask, .int 0, .ref zgTick, .ref zgTask, .ref zgTold, .ref zgUntold, .ref zgRan, .int 0, .int 0, .ref zboxAll, .ref zboxRows, .ref zisBoxed])), (zall, .inl (ca 1, 340, .inl fa))]) (va_runS (As := [.int x1, .int 0, .int (-1)]) (rest := []) ⟨hx, hb, hml, hown, hts⟩ (k_X11_isIn_0_m1 l D ca s.heap.size x1) (va_cwS 3 hts gX11_chosen_X11_isIn rfl rfl rfl (by decide +kernel) ⟨(Nat.le_of_ble_eq_true rfl), (Nat.le_of_ble_eq_true rfl)⟩) (PC.preS hC hP hD [] rfl (by decide +kernel)) rfl rfl hl.1 rfl (lv_room (Nat.le_of_ble_eq_true rfl)) dX11_chosen_12 ⟨(Nat.le_of_ble_eq_true rfl), (Nat.le_of_ble_eq_true rfl)⟩) hP hD hS hA [] [0, 1] rfl rfl (by decide +kernel) (by decide +kernel) (fun r_1 u_3 H locs hw_2 hP hD hS => ?_)
  subst hw_2
  have hP : va_P D vwCl [(h0, .inr (11, [.ref ztape, .ref ztext, .int 0, .int 0, .int 0, .int (-1), .int 0, .int 0, .int 0, .int 0, .long 0, .ref zcores, .ref zlocks, .ref zbells, .ref ztasks, .ref zops, .ref zopSort, .ref zopNumber, .ref zkind, .ref zevery, .ref zbudget, .ref zshareTold, .ref zfirstOp, .ref zopMany, .ref zisCores, .ref zisLocks, .ref zisBells, .ref ztName, .int 0, .int 0, .ref zall, .ref zrows, .ref zpicked, .ref zpileTask, .ref zpileLock, .int 0, .ref zwas, .ref zbehind, .ref zriskRow, .ref zriskBest, .int 0, .ref zcTick, .ref zcProcessor, .ref zcTask, .int 0, .ref zgTick, .ref zgTask, .ref zgTold, .ref zgUntold, .ref zgRan, .int 0, .int 0, .ref zboxAll, .ref zboxRows, .ref zisBoxed])), (zall, .inl (ca 1, 340, .inl fa))] H := hP
  have hD : va_D A [(h0, .inr (11, [.ref ztape, .ref ztext, .int 0, .int 0, .int 0, .int (-1), .int 0, .int 0, .int 0, .int 0, .long 0, .ref zcores, .ref zlocks, .ref zbells, .ref ztasks, .ref zops, .ref zopSort, .ref zopNumber, .ref zkind, .ref zevery, .ref zbudget, .ref zshareTold, .ref zfirstOp, .ref zopMany, .ref zisCores, .ref zisLocks, .ref zisBells, .ref ztName, .int 0, .int 0, .ref zall, .ref zrows, .ref zpicked, .ref zpileTask, .ref zpileLock, .int 0, .ref zwas, .ref zbehind, .ref zriskRow, .ref zriskBest, .int 0, .ref zcTick, .ref zcProcessor, .ref zcTask, .int 0, .ref zgTick, .ref zgTask, .ref zgTold, .ref zgUntold, .ref zgRan, .int 0, .int 0, .ref zboxAll, .ref zboxRows, .ref zisBoxed])), (zall, .inl (ca 1, 340, .inl fa))] := hD
  refine lv_if_eq (tgt := 50) hx hb dX11_chosen_15 (by decide +kernel) (fun c_4 => ?_) (fun c_4 => absurd (by decide +kernel) c_4)
  refine lv_iconst (v := (-1)) hx hb dX11_chosen_50 (by decide +kernel) ?_
  exact W.iret (v := (-1)) hx hb hr (fun t ht hW => ⟨⟨(-1), (), rfl, rfl, by rw [ht]; exact hP.sub [] rfl, hDA (hD.sub [] (by decide +kernel) rfl)⟩, hS.F ht⟩) hS.2.2 dX11_chosen_51
set_option maxHeartbeats 4000000 in
set_option maxRecDepth 100000 in
theorem k_X11_task (l : Launch) (D : va_G) (ca : Nat → ClassId) (sz : Nat) (h0 : Nat) (ztape : Nat) (ztext : Nat) (zcores : Nat) (zlocks : Nat) (zbells : Nat) (ztasks : Nat) (zops : Nat) (zopSort : Nat) (zopNumber : Nat) (zkind : Nat) (zevery : Nat) (zbudget : Nat) (zshareTold : Nat) (zfirstOp : Nat) (zopMany : Nat) (zisCores : Nat) (zisLocks : Nat) (zisBells : Nat) (ztName : Nat) (zall : Nat) (zrows : Nat) (zpicked : Nat) (zpileTask : Nat) (zpileLock : Nat) (zwas : Nat) (zbehind : Nat) (zriskRow : Nat) (zriskBest : Nat) (zcTick : Nat) (zcProcessor : Nat) (zcTask : Nat) (zgTick : Nat) (zgTask : Nat) (zgTold : Nat) (zgUntold : Nat) (zgRan : Nat) (zboxAll : Nat) (zboxRows : Nat) (zisBoxed : Nat) (x1 : Int32) (x2 : Int32) : Met l yX11_task wsX11_task ({ frames := 2, cells := 0, slots := 0, locals := 43 }) (PC [.ref h0, .int x1, .int x2] sz D ca [(h0, .inr (11, [.ref ztape, .ref ztext, .int 0, .int 0, .int 0, .int (-1), .int 0, .int 0, .int 0, .int 0, .long 0, .ref zcores, .ref zlocks, .ref zbells, .ref ztasks, .ref zops, .ref zopSort, .ref zopNumber, .ref zkind, .ref zevery, .ref zbudget, .ref zshareTold, .ref zfirstOp, .ref zopMany, .ref zisCores, .ref zisLocks, .ref zisBells, .ref ztName, .int 0, .int 0, .ref zall, .ref zrows, .ref zpicked, .ref zpileTask, .ref zpileLock, .int 0, .ref zwas, .ref zbehind, .ref zriskRow, .ref zriskBest, .int 0, .ref zcTick, .ref zcProcessor, .ref zcTask, .int 0, .ref zgTick, .ref zgTask, .ref zgTold, .ref zgUntold, .ref zgRan, .int 0, .int 0, .ref zboxAll, .ref zboxRows, .ref zisBoxed])), (ztasks, .inl (ca 1, 2, .inl (fun _ => 0)))]) (QI (fun (r : Int32) (u : Unit) => r = (-2)) (fun (_ : Unit) => []) [(h0, .inr (11, [.ref ztape, .ref ztext, .int 0, .int 0, .int 0, .int (-1), .int 0, .int 0, .int 0, .int 0, .long 0, .ref zcores, .ref zlocks, .ref zbells, .ref ztasks, .ref zops, .ref zopSort, .ref zopNumber, .ref zkind, .ref zevery, .ref zbudget, .ref zshareTold, .ref zfirstOp, .ref zopMany, .ref zisCores, .ref zisLocks, .ref zisBells, .ref ztName, .int 0, .int 0, .ref zall, .ref zrows, .ref zpicked, .ref zpileTask, .ref zpileLock, .int 0, .ref zwas, .ref zbehind, .ref zriskRow, .ref zriskBest, .int 0, .ref zcTick, .ref zcProcessor, .ref zcTask, .int 0, .ref zgTick, .ref zgTask, .ref zgTold, .ref zgUntold, .ref zgRan, .int 0, .int 0, .ref zboxAll, .ref zboxRows, .ref zisBoxed])), (ztasks, .inl (ca 1, 2, .inl (fun _ => 0)))] sz D) 0 0 (va_A [(h0, .inr (11, [.ref ztape, .ref ztext, .int 0, .int 0, .int 0, .int (-1), .int 0, .int 0, .int 0, .int 0, .long 0, .ref zcores, .ref zlocks, .ref zbells, .ref ztasks, .ref zops, .ref zopSort, .ref zopNumber, .ref zkind, .ref zevery, .ref zbudget, .ref zshareTold, .ref zfirstOp, .ref zopMany, .ref zisCores, .ref zisLocks, .ref zisBells, .ref ztName, .int 0, .int 0, .ref zall, .ref zrows, .ref zpicked, .ref zpileTask, .ref zpileLock, .int 0, .ref zwas, .ref zbehind, .ref zriskRow, .ref zriskBest, .int 0, .ref zcTick, .ref zcProcessor, .ref zcTask, .int 0, .ref zgTick, .ref zgTask, .ref zgTold, .ref zgUntold, .ref zgRan, .int 0, .int 0, .ref zboxAll, .ref zboxRows, .ref zisBoxed])), (ztasks, .inl (ca 1, 2, .inl (fun _ => 0)))] sz) := by
  refine Met.ofW (cc := cX11_task) (maxL := 3) (ret := (some .int)) (by decide +kernel) rfl ?_
  intro p e s m args below meth c s₁ B hml hv
  obtain ⟨rfl, hsz, hP, hC, hD0⟩ := hv
  have hx := B.exec
  have hb := B.bytes
  have hr := B.returns
  have hts := atoms_spec (ws := wsX11_task) B.pre
  have hown : s.vm.findClass RX11 = some m.cls := findClass_of_methodNamed B.named
  have hlocks := B.notSynchronized
  subst hsz
  have hD := hD0.self (sz := s.heap.size)
  dsimp only [QV, QI, QL, BQ]
  generalize hAe : va_A [(h0, .inr (11, [.ref ztape, .ref ztext, .int 0, .int 0, .int 0, .int (-1), .int 0, .int 0, .int 0, .int 0, .long 0, .ref zcores, .ref zlocks, .ref zbells, .ref ztasks, .ref zops, .ref zopSort, .ref zopNumber, .ref zkind, .ref zevery, .ref zbudget, .ref zshareTold, .ref zfirstOp, .ref zopMany, .ref zisCores, .ref zisLocks, .ref zisBells, .ref ztName, .int 0, .int 0, .ref zall, .ref zrows, .ref zpicked, .ref zpileTask, .ref zpileLock, .int 0, .ref zwas, .ref zbehind, .ref zriskRow, .ref zriskBest, .int 0, .ref zcTick, .ref zcProcessor, .ref zcTask, .int 0, .ref zgTick, .ref zgTask, .ref zgTold, .ref zgUntold, .ref zgRan, .int 0, .int 0, .ref zboxAll, .ref zboxRows, .ref zisBoxed])), (ztasks, .inl (ca 1, 2, .inl (fun _ => 0)))] s.heap.size = A at hD ⊢
  have hA : ∀ q : Nat, s.heap.size ≤ q → A q := fun q h => by rw [← hAe]; exact Or.inr h
  have hDA : ∀ {w : va_W}, va_D A w → va_D (va_A [(h0, .inr (11, [.ref ztape, .ref ztext, .int 0, .int 0, .int 0, .int (-1), .int 0, .int 0, .int 0, .int 0, .long 0, .ref zcores, .ref zlocks, .ref zbells, .ref ztasks, .ref zops, .ref zopSort, .ref zopNumber, .ref zkind, .ref zevery, .ref zbudget, .ref zshareTold, .ref zfirstOp, .ref zopMany, .ref zisCores, .ref zisLocks, .ref zisBells, .ref ztName, .int 0, .int 0, .ref zall, .ref zrows, .ref zpicked, .ref zpileTask, .ref zpileLock, .int 0, .ref zwas, .ref zbehind, .ref zriskRow, .ref zriskBest, .int 0, .ref zcTick, .ref zcProcessor, .ref zcTask, .int 0, .ref zgTick, .ref zgTask, .ref zgTold, .ref zgUntold, .ref zgRan, .int 0, .int 0, .ref zboxAll, .ref zboxRows, .ref zisBoxed])), (ztasks, .inl (ca 1, 2, .inl (fun _ => 0)))] s.heap.size) w := fun h => by rw [hAe]; exact h
  have hS : va_S A s.heap s.heap [] := va_S.rf
  have hP : va_P D vwCl [(h0, .inr (11, [.ref ztape, .ref ztext, .int 0, .int 0, .int 0, .int (-1), .int 0, .int 0, .int 0, .int 0, .long 0, .ref zcores, .ref zlocks, .ref zbells, .ref ztasks, .ref zops, .ref zopSort, .ref zopNumber, .ref zkind, .ref zevery, .ref zbudget, .ref zshareTold, .ref zfirstOp, .ref zopMany, .ref zisCores, .ref zisLocks, .ref zisBells, .ref ztName, .int 0, .int 0, .ref zall, .ref zrows, .ref zpicked, .ref zpileTask, .ref zpileLock, .int 0, .ref zwas, .ref zbehind, .ref zriskRow, .ref zriskBest, .int 0, .ref zcTick, .ref zcProcessor, .ref zcTask, .int 0, .ref zgTick, .ref zgTask, .ref zgTold, .ref zgUntold, .ref zgRan, .int 0, .int 0, .ref zboxAll, .ref zboxRows, .ref zisBoxed])), (ztasks, .inl (ca 1, 2, .inl (fun _ => 0)))] s.heap := hP
  have hl := lv_entry ([.ref h0, .int x1, .int x2]) (n := 3) (Nat.le_of_ble_eq_true rfl)
  rw [lg_entry_eq]
  generalize (lg_sl ([.ref h0, .int x1, .int x2]) ++ List.replicate (3 - (lg_sl ([.ref h0, .int x1, .int x2])).length) Slot.unset).toArray = ls at hl ⊢
  have hl : lv_has ls 3 [(0, .ref h0), (1, .int x1), (2, .int x2)] := hl
  refine lv_aload_n hx hb dX11_task_0 rfl (lv_at hl 0 rfl) ?_
  refine lv_iload_n hx hb dX11_task_1 rfl (lv_at hl 1 rfl) ?_
  refine kc_i (wr := []) (va_runV (As := [.int x1]) (rest := []) ⟨hx, hb, hml, hown, hts⟩ (k_X11_isTask l D ca s.heap.size h0 ztape ztext zcores zlocks zbells ztasks zops zopSort zopNumber zkind zevery zbudget zshareTold zfirstOp zopMany zisCores zisLocks zisBells ztName zall zrows zpicked zpileTask zpileLock zwas zbehind zriskRow zriskBest zcTick zcProcessor zcTask zgTick zgTask zgTold zgUntold zgRan zboxAll zboxRows zisBoxed 0 0 0 (-1) 0 0 0 0 0 0 0 0 0 0 0 x1) (cwV 1 hts gX11_task_X11_isTask rfl rfl rfl (by decide +kernel) ⟨(Nat.le_of_ble_eq_true rfl), (Nat.le_of_ble_eq_true rfl)⟩) (PC.preV (ci := 11) hC hP hD [0, 1] rfl (by decide +kernel) rfl rfl) rfl rfl hl.1 rfl (lv_room (Nat.le_of_ble_eq_true rfl)) dX11_task_2 ⟨(Nat.le_of_ble_eq_true rfl), (Nat.le_of_ble_eq_true rfl)⟩) hP hD hS hA [0, 1] [] rfl rfl (by decide +kernel) (by decide +kernel) (fun r_1 u_3 H locs hw_2 hP hD hS => ?_)
  subst hw_2
  have hP : va_P D vwCl [(h0, .inr (11, [.ref ztape, .ref ztext, .int 0, .int 0, .int 0, .int (-1), .int 0, .int 0, .int 0, .int 0, .long 0, .ref zcores, .ref zlocks, .ref zbells, .ref ztasks, .ref zops, .ref zopSort, .ref zopNumber, .ref zkind, .ref zevery, .ref zbudget, .ref zshareTold, .ref zfirstOp, .ref zopMany, .ref zisCores, .ref zisLocks, .ref zisBells, .ref ztName, .int 0, .int 0, .ref zall, .ref zrows, .ref zpicked, .ref zpileTask, .ref zpileLock, .int 0, .ref zwas, .ref zbehind, .ref zriskRow, .ref zriskBest, .int 0, .ref zcTick, .ref zcProcessor, .ref zcTask, .int 0, .ref zgTick, .ref zgTask, .ref zgTold, .ref zgUntold, .ref zgRan, .int 0, .int 0, .ref zboxAll, .ref zboxRows, .ref zisBoxed])), (ztasks, .inl (ca 1, 2, .inl (fun _ => 0)))] H := hP
  have hD : va_D A [(h0, .inr (11, [.ref ztape, .ref ztext, .int 0, .int 0, .int 0, .int (-1), .int 0, .int 0, .int 0, .int 0, .long 0, .ref zcores, .ref zlocks, .ref zbells, .ref ztasks, .ref zops, .ref zopSort, .ref zopNumber, .ref zkind, .ref zevery, .ref zbudget, .ref zshareTold, .ref zfirstOp, .ref zopMany, .ref zisCores, .ref zisLocks, .ref zisBells, .ref ztName, .int 0, .int 0, .ref zall, .ref zrows, .ref zpicked, .ref zpileTask, .ref zpileLock, .int 0, .ref zwas, .ref zbehind, .ref zriskRow, .ref zriskBest, .int 0, .ref zcTick, .ref zcProcessor, .ref zcTask, .int 0, .ref zgTick, .ref zgTask, .ref zgTold, .ref zgUntold, .ref zgRan, .int 0, .int 0, .ref zboxAll, .ref zboxRows, .ref zisBoxed])), (ztasks, .inl (ca 1, 2, .inl (fun _ => 0)))] := hD
  refine lv_if_ne (tgt := 11) hx hb dX11_task_5 (by decide +kernel) (fun c_4 => absurd (by decide +kernel) c_4) (fun c_4 => ?_)
  refine lv_bipush (v := (-2)) hx hb dX11_task_8 (by decide +kernel) ?_
  exact W.iret (v := (-2)) hx hb hr (fun t ht hW => ⟨⟨(-2), (), rfl, rfl, by rw [ht]; exact hP.sub [] rfl, hDA (hD.sub [] (by decide +kernel) rfl)⟩, hS.F ht⟩) hS.2.2 dX11_task_10
set_option maxHeartbeats 4000000 in
set_option maxRecDepth 100000 in
theorem k_X11_place (l : Launch) (D : va_G) (ca : Nat → ClassId) (sz : Nat) (h0 : Nat) (ztape : Nat) (ztext : Nat) (zcores : Nat) (zlocks : Nat) (zbells : Nat) (ztasks : Nat) (zops : Nat) (zopSort : Nat) (zopNumber : Nat) (zkind : Nat) (zevery : Nat) (zbudget : Nat) (zshareTold : Nat) (zfirstOp : Nat) (zopMany : Nat) (zisCores : Nat) (zisLocks : Nat) (zisBells : Nat) (ztName : Nat) (zall : Nat) (zrows : Nat) (zpicked : Nat) (zpileTask : Nat) (zpileLock : Nat) (zwas : Nat) (zbehind : Nat) (zriskRow : Nat) (zriskBest : Nat) (zcTick : Nat) (zcProcessor : Nat) (zcTask : Nat) (zgTick : Nat) (zgTask : Nat) (zgTold : Nat) (zgUntold : Nat) (zgRan : Nat) (zboxAll : Nat) (zboxRows : Nat) (zisBoxed : Nat) (x1 : Int32) : Met l yX11_place wsX11_place ({ frames := 2, cells := 0, slots := 0, locals := 43 }) (PC [.ref h0, .int x1] sz D ca [(h0, .inr (11, [.ref ztape, .ref ztext, .int 0, .int 0, .int 0, .int (-1), .int 0, .int 0, .int 0, .int 0, .long 0, .ref zcores, .ref zlocks, .ref zbells, .ref ztasks, .ref zops, .ref zopSort, .ref zopNumber, .ref zkind, .ref zevery, .ref zbudget, .ref zshareTold, .ref zfirstOp, .ref zopMany, .ref zisCores, .ref zisLocks, .ref zisBells, .ref ztName, .int 0, .int 0, .ref zall, .ref zrows, .ref zpicked, .ref zpileTask, .ref zpileLock, .int 0, .ref zwas, .ref zbehind, .ref zriskRow, .ref zriskBest, .int 0, .ref zcTick, .ref zcProcessor, .ref zcTask, .int 0, .ref zgTick, .ref zgTask, .ref zgTold, .ref zgUntold, .ref zgRan, .int 0, .int 0, .ref zboxAll, .ref zboxRows, .ref zisBoxed])), (ztasks, .inl (ca 1, 2, .inl (fun _ => 0)))]) (QI (fun (r : Int32) (u : Unit) => r = (-1)) (fun (_ : Unit) => []) [(h0, .inr (11, [.ref ztape, .ref ztext, .int 0, .int 0, .int 0, .int (-1), .int 0, .int 0, .int 0, .int 0, .long 0, .ref zcores, .ref zlocks, .ref zbells, .ref ztasks, .ref zops, .ref zopSort, .ref zopNumber, .ref zkind, .ref zevery, .ref zbudget, .ref zshareTold, .ref zfirstOp, .ref zopMany, .ref zisCores, .ref zisLocks, .ref zisBells, .ref ztName, .int 0, .int 0, .ref zall, .ref zrows, .ref zpicked, .ref zpileTask, .ref zpileLock, .int 0, .ref zwas, .ref zbehind, .ref zriskRow, .ref zriskBest, .int 0, .ref zcTick, .ref zcProcessor, .ref zcTask, .int 0, .ref zgTick, .ref zgTask, .ref zgTold, .ref zgUntold, .ref zgRan, .int 0, .int 0, .ref zboxAll, .ref zboxRows, .ref zisBoxed])), (ztasks, .inl (ca 1, 2, .inl (fun _ => 0)))] sz D) 0 0 (va_A [(h0, .inr (11, [.ref ztape, .ref ztext, .int 0, .int 0, .int 0, .int (-1), .int 0, .int 0, .int 0, .int 0, .long 0, .ref zcores, .ref zlocks, .ref zbells, .ref ztasks, .ref zops, .ref zopSort, .ref zopNumber, .ref zkind, .ref zevery, .ref zbudget, .ref zshareTold, .ref zfirstOp, .ref zopMany, .ref zisCores, .ref zisLocks, .ref zisBells, .ref ztName, .int 0, .int 0, .ref zall, .ref zrows, .ref zpicked, .ref zpileTask, .ref zpileLock, .int 0, .ref zwas, .ref zbehind, .ref zriskRow, .ref zriskBest, .int 0, .ref zcTick, .ref zcProcessor, .ref zcTask, .int 0, .ref zgTick, .ref zgTask, .ref zgTold, .ref zgUntold, .ref zgRan, .int 0, .int 0, .ref zboxAll, .ref zboxRows, .ref zisBoxed])), (ztasks, .inl (ca 1, 2, .inl (fun _ => 0)))] sz) := by
  refine Met.ofW (cc := cX11_place) (maxL := 2) (ret := (some .int)) (by decide +kernel) rfl ?_
  intro p e s m args below meth c s₁ B hml hv
  obtain ⟨rfl, hsz, hP, hC, hD0⟩ := hv
  have hx := B.exec
  have hb := B.bytes
  have hr := B.returns
  have hts := atoms_spec (ws := wsX11_place) B.pre
  have hown : s.vm.findClass RX11 = some m.cls := findClass_of_methodNamed B.named
  have hlocks := B.notSynchronized
  subst hsz
  have hD := hD0.self (sz := s.heap.size)
  dsimp only [QV, QI, QL, BQ]
  generalize hAe : va_A [(h0, .inr (11, [.ref ztape, .ref ztext, .int 0, .int 0, .int 0, .int (-1), .int 0, .int 0, .int 0, .int 0, .long 0, .ref zcores, .ref zlocks, .ref zbells, .ref ztasks, .ref zops, .ref zopSort, .ref zopNumber, .ref zkind, .ref zevery, .ref zbudget, .ref zshareTold, .ref zfirstOp, .ref zopMany, .ref zisCores, .ref zisLocks, .ref zisBells, .ref ztName, .int 0, .int 0, .ref zall, .ref zrows, .ref zpicked, .ref zpileTask, .ref zpileLock, .int 0, .ref zwas, .ref zbehind, .ref zriskRow, .ref zriskBest, .int 0, .ref zcTick, .ref zcProcessor, .ref zcTask, .int 0, .ref zgTick, .ref zgTask, .ref zgTold, .ref zgUntold, .ref zgRan, .int 0, .int 0, .ref zboxAll, .ref zboxRows, .ref zisBoxed])), (ztasks, .inl (ca 1, 2, .inl (fun _ => 0)))] s.heap.size = A at hD ⊢
  have hA : ∀ q : Nat, s.heap.size ≤ q → A q := fun q h => by rw [← hAe]; exact Or.inr h
  have hDA : ∀ {w : va_W}, va_D A w → va_D (va_A [(h0, .inr (11, [.ref ztape, .ref ztext, .int 0, .int 0, .int 0, .int (-1), .int 0, .int 0, .int 0, .int 0, .long 0, .ref zcores, .ref zlocks, .ref zbells, .ref ztasks, .ref zops, .ref zopSort, .ref zopNumber, .ref zkind, .ref zevery, .ref zbudget, .ref zshareTold, .ref zfirstOp, .ref zopMany, .ref zisCores, .ref zisLocks, .ref zisBells, .ref ztName, .int 0, .int 0, .ref zall, .ref zrows, .ref zpicked, .ref zpileTask, .ref zpileLock, .int 0, .ref zwas, .ref zbehind, .ref zriskRow, .ref zriskBest, .int 0, .ref zcTick, .ref zcProcessor, .ref zcTask, .int 0, .ref zgTick, .ref zgTask, .ref zgTold, .ref zgUntold, .ref zgRan, .int 0, .int 0, .ref zboxAll, .ref zboxRows, .ref zisBoxed])), (ztasks, .inl (ca 1, 2, .inl (fun _ => 0)))] s.heap.size) w := fun h => by rw [hAe]; exact h
  have hS : va_S A s.heap s.heap [] := va_S.rf
  have hP : va_P D vwCl [(h0, .inr (11, [.ref ztape, .ref ztext, .int 0, .int 0, .int 0, .int (-1), .int 0, .int 0, .int 0, .int 0, .long 0, .ref zcores, .ref zlocks, .ref zbells, .ref ztasks, .ref zops, .ref zopSort, .ref zopNumber, .ref zkind, .ref zevery, .ref zbudget, .ref zshareTold, .ref zfirstOp, .ref zopMany, .ref zisCores, .ref zisLocks, .ref zisBells, .ref ztName, .int 0, .int 0, .ref zall, .ref zrows, .ref zpicked, .ref zpileTask, .ref zpileLock, .int 0, .ref zwas, .ref zbehind, .ref zriskRow, .ref zriskBest, .int 0, .ref zcTick, .ref zcProcessor, .ref zcTask, .int 0, .ref zgTick, .ref zgTask, .ref zgTold, .ref zgUntold, .ref zgRan, .int 0, .int 0, .ref zboxAll, .ref zboxRows, .ref zisBoxed])), (ztasks, .inl (ca 1, 2, .inl (fun _ => 0)))] s.heap := hP
  have hl := lv_entry ([.ref h0, .int x1]) (n := 2) (Nat.le_of_ble_eq_true rfl)
  rw [lg_entry_eq]
  generalize (lg_sl ([.ref h0, .int x1]) ++ List.replicate (2 - (lg_sl ([.ref h0, .int x1])).length) Slot.unset).toArray = ls at hl ⊢
  have hl : lv_has ls 2 [(0, .ref h0), (1, .int x1)] := hl
  refine lv_aload_n hx hb dX11_place_0 rfl (lv_at hl 0 rfl) ?_
  refine lv_iload_n hx hb dX11_place_1 rfl (lv_at hl 1 rfl) ?_
  refine kc_i (wr := []) (va_runV (As := [.int x1]) (rest := []) ⟨hx, hb, hml, hown, hts⟩ (k_X11_isTask l D ca s.heap.size h0 ztape ztext zcores zlocks zbells ztasks zops zopSort zopNumber zkind zevery zbudget zshareTold zfirstOp zopMany zisCores zisLocks zisBells ztName zall zrows zpicked zpileTask zpileLock zwas zbehind zriskRow zriskBest zcTick zcProcessor zcTask zgTick zgTask zgTold zgUntold zgRan zboxAll zboxRows zisBoxed 0 0 0 (-1) 0 0 0 0 0 0 0 0 0 0 0 x1) (cwV 1 hts gX11_place_X11_isTask rfl rfl rfl (by decide +kernel) ⟨(Nat.le_of_ble_eq_true rfl), (Nat.le_of_ble_eq_true rfl)⟩) (PC.preV (ci := 11) hC hP hD [0, 1] rfl (by decide +kernel) rfl rfl) rfl rfl hl.1 rfl (lv_room (Nat.le_of_ble_eq_true rfl)) dX11_place_2 ⟨(Nat.le_of_ble_eq_true rfl), (Nat.le_of_ble_eq_true rfl)⟩) hP hD hS hA [0, 1] [] rfl rfl (by decide +kernel) (by decide +kernel) (fun r_1 u_3 H locs hw_2 hP hD hS => ?_)
  subst hw_2
  have hP : va_P D vwCl [(h0, .inr (11, [.ref ztape, .ref ztext, .int 0, .int 0, .int 0, .int (-1), .int 0, .int 0, .int 0, .int 0, .long 0, .ref zcores, .ref zlocks, .ref zbells, .ref ztasks, .ref zops, .ref zopSort, .ref zopNumber, .ref zkind, .ref zevery, .ref zbudget, .ref zshareTold, .ref zfirstOp, .ref zopMany, .ref zisCores, .ref zisLocks, .ref zisBells, .ref ztName, .int 0, .int 0, .ref zall, .ref zrows, .ref zpicked, .ref zpileTask, .ref zpileLock, .int 0, .ref zwas, .ref zbehind, .ref zriskRow, .ref zriskBest, .int 0, .ref zcTick, .ref zcProcessor, .ref zcTask, .int 0, .ref zgTick, .ref zgTask, .ref zgTold, .ref zgUntold, .ref zgRan, .int 0, .int 0, .ref zboxAll, .ref zboxRows, .ref zisBoxed])), (ztasks, .inl (ca 1, 2, .inl (fun _ => 0)))] H := hP
  have hD : va_D A [(h0, .inr (11, [.ref ztape, .ref ztext, .int 0, .int 0, .int 0, .int (-1), .int 0, .int 0, .int 0, .int 0, .long 0, .ref zcores, .ref zlocks, .ref zbells, .ref ztasks, .ref zops, .ref zopSort, .ref zopNumber, .ref zkind, .ref zevery, .ref zbudget, .ref zshareTold, .ref zfirstOp, .ref zopMany, .ref zisCores, .ref zisLocks, .ref zisBells, .ref ztName, .int 0, .int 0, .ref zall, .ref zrows, .ref zpicked, .ref zpileTask, .ref zpileLock, .int 0, .ref zwas, .ref zbehind, .ref zriskRow, .ref zriskBest, .int 0, .ref zcTick, .ref zcProcessor, .ref zcTask, .int 0, .ref zgTick, .ref zgTask, .ref zgTold, .ref zgUntold, .ref zgRan, .int 0, .int 0, .ref zboxAll, .ref zboxRows, .ref zisBoxed])), (ztasks, .inl (ca 1, 2, .inl (fun _ => 0)))] := hD
  refine lv_if_eq (tgt := 26) hx hb dX11_place_5 (by decide +kernel) (fun c_4 => ?_) (fun c_4 => absurd (by decide +kernel) c_4)
  refine lv_iconst (v := (-1)) hx hb dX11_place_26 (by decide +kernel) ?_
  exact W.iret (v := (-1)) hx hb hr (fun t ht hW => ⟨⟨(-1), (), rfl, rfl, by rw [ht]; exact hP.sub [] rfl, hDA (hD.sub [] (by decide +kernel) rfl)⟩, hS.F ht⟩) hS.2.2 dX11_place_27
set_option maxHeartbeats 4000000 in
set_option maxRecDepth 100000 in
theorem k_X11_ring (l : Launch) (D : va_G) (ca : Nat → ClassId) (sz : Nat) (h0 : Nat) (ztape : Nat) (ztext : Nat) (zcores : Nat) (zlocks : Nat) (zbells : Nat) (ztasks : Nat) (zops : Nat) (zopSort : Nat) (zopNumber : Nat) (zkind : Nat) (zevery : Nat) (zbudget : Nat) (zshareTold : Nat) (zfirstOp : Nat) (zopMany : Nat) (zisCores : Nat) (zisLocks : Nat) (zisBells : Nat) (ztName : Nat) (zall : Nat) (zrows : Nat) (zpicked : Nat) (zpileTask : Nat) (zpileLock : Nat) (zwas : Nat) (zbehind : Nat) (zriskRow : Nat) (zriskBest : Nat) (zcTick : Nat) (zcProcessor : Nat) (zcTask : Nat) (zgTick : Nat) (zgTask : Nat) (zgTold : Nat) (zgUntold : Nat) (zgRan : Nat) (zboxAll : Nat) (zboxRows : Nat) (zisBoxed : Nat) (x1 : Int32) (x2 : Int32) : Met l yX11_ring wsX11_ring ({ frames := 2, cells := 0, slots := 0, locals := 43 }) (PC [.ref h0, .int x1, .int x2] sz D ca [(h0, .inr (11, [.ref ztape, .ref ztext, .int 0, .int 0, .int 0, .int (-1), .int 0, .int 0, .int 0, .int 0, .long 0, .ref zcores, .ref zlocks, .ref zbells, .ref ztasks, .ref zops, .ref zopSort, .ref zopNumber, .ref zkind, .ref zevery, .ref zbudget, .ref zshareTold, .ref zfirstOp, .ref zopMany, .ref zisCores, .ref zisLocks, .ref zisBells, .ref ztName, .int 0, .int 0, .ref zall, .ref zrows, .ref zpicked, .ref zpileTask, .ref zpileLock, .int 0, .ref zwas, .ref zbehind, .ref zriskRow, .ref zriskBest, .int 0, .ref zcTick, .ref zcProcessor, .ref zcTask, .int 0, .ref zgTick, .ref zgTask, .ref zgTold, .ref zgUntold, .ref zgRan, .int 0, .int 0, .ref zboxAll, .ref zboxRows, .ref zisBoxed])), (ztasks, .inl (ca 1, 2, .inl (fun _ => 0)))]) (QI (fun (r : Int32) (u : Unit) => r = (-1)) (fun (_ : Unit) => []) [(h0, .inr (11, [.ref ztape, .ref ztext, .int 0, .int 0, .int 0, .int (-1), .int 0, .int 0, .int 0, .int 0, .long 0, .ref zcores, .ref zlocks, .ref zbells, .ref ztasks, .ref zops, .ref zopSort, .ref zopNumber, .ref zkind, .ref zevery, .ref zbudget, .ref zshareTold, .ref zfirstOp, .ref zopMany, .ref zisCores, .ref zisLocks, .ref zisBells, .ref ztName, .int 0, .int 0, .ref zall, .ref zrows, .ref zpicked, .ref zpileTask, .ref zpileLock, .int 0, .ref zwas, .ref zbehind, .ref zriskRow, .ref zriskBest, .int 0, .ref zcTick, .ref zcProcessor, .ref zcTask, .int 0, .ref zgTick, .ref zgTask, .ref zgTold, .ref zgUntold, .ref zgRan, .int 0, .int 0, .ref zboxAll, .ref zboxRows, .ref zisBoxed])), (ztasks, .inl (ca 1, 2, .inl (fun _ => 0)))] sz D) 0 0 (va_A [(h0, .inr (11, [.ref ztape, .ref ztext, .int 0, .int 0, .int 0, .int (-1), .int 0, .int 0, .int 0, .int 0, .long 0, .ref zcores, .ref zlocks, .ref zbells, .ref ztasks, .ref zops, .ref zopSort, .ref zopNumber, .ref zkind, .ref zevery, .ref zbudget, .ref zshareTold, .ref zfirstOp, .ref zopMany, .ref zisCores, .ref zisLocks, .ref zisBells, .ref ztName, .int 0, .int 0, .ref zall, .ref zrows, .ref zpicked, .ref zpileTask, .ref zpileLock, .int 0, .ref zwas, .ref zbehind, .ref zriskRow, .ref zriskBest, .int 0, .ref zcTick, .ref zcProcessor, .ref zcTask, .int 0, .ref zgTick, .ref zgTask, .ref zgTold, .ref zgUntold, .ref zgRan, .int 0, .int 0, .ref zboxAll, .ref zboxRows, .ref zisBoxed])), (ztasks, .inl (ca 1, 2, .inl (fun _ => 0)))] sz) := by
  refine Met.ofW (cc := cX11_ring) (maxL := 3) (ret := (some .int)) (by decide +kernel) rfl ?_
  intro p e s m args below meth c s₁ B hml hv
  obtain ⟨rfl, hsz, hP, hC, hD0⟩ := hv
  have hx := B.exec
  have hb := B.bytes
  have hr := B.returns
  have hts := atoms_spec (ws := wsX11_ring) B.pre
  have hown : s.vm.findClass RX11 = some m.cls := findClass_of_methodNamed B.named
  have hlocks := B.notSynchronized
  subst hsz
  have hD := hD0.self (sz := s.heap.size)
  dsimp only [QV, QI, QL, BQ]
  generalize hAe : va_A [(h0, .inr (11, [.ref ztape, .ref ztext, .int 0, .int 0, .int 0, .int (-1), .int 0, .int 0, .int 0, .int 0, .long 0, .ref zcores, .ref zlocks, .ref zbells, .ref ztasks, .ref zops, .ref zopSort, .ref zopNumber, .ref zkind, .ref zevery, .ref zbudget, .ref zshareTold, .ref zfirstOp, .ref zopMany, .ref zisCores, .ref zisLocks, .ref zisBells, .ref ztName, .int 0, .int 0, .ref zall, .ref zrows, .ref zpicked, .ref zpileTask, .ref zpileLock, .int 0, .ref zwas, .ref zbehind, .ref zriskRow, .ref zriskBest, .int 0, .ref zcTick, .ref zcProcessor, .ref zcTask, .int 0, .ref zgTick, .ref zgTask, .ref zgTold, .ref zgUntold, .ref zgRan, .int 0, .int 0, .ref zboxAll, .ref zboxRows, .ref zisBoxed])), (ztasks, .inl (ca 1, 2, .inl (fun _ => 0)))] s.heap.size = A at hD ⊢
  have hA : ∀ q : Nat, s.heap.size ≤ q → A q := fun q h => by rw [← hAe]; exact Or.inr h
  have hDA : ∀ {w : va_W}, va_D A w → va_D (va_A [(h0, .inr (11, [.ref ztape, .ref ztext, .int 0, .int 0, .int 0, .int (-1), .int 0, .int 0, .int 0, .int 0, .long 0, .ref zcores, .ref zlocks, .ref zbells, .ref ztasks, .ref zops, .ref zopSort, .ref zopNumber, .ref zkind, .ref zevery, .ref zbudget, .ref zshareTold, .ref zfirstOp, .ref zopMany, .ref zisCores, .ref zisLocks, .ref zisBells, .ref ztName, .int 0, .int 0, .ref zall, .ref zrows, .ref zpicked, .ref zpileTask, .ref zpileLock, .int 0, .ref zwas, .ref zbehind, .ref zriskRow, .ref zriskBest, .int 0, .ref zcTick, .ref zcProcessor, .ref zcTask, .int 0, .ref zgTick, .ref zgTask, .ref zgTold, .ref zgUntold, .ref zgRan, .int 0, .int 0, .ref zboxAll, .ref zboxRows, .ref zisBoxed])), (ztasks, .inl (ca 1, 2, .inl (fun _ => 0)))] s.heap.size) w := fun h => by rw [hAe]; exact h
  have hS : va_S A s.heap s.heap [] := va_S.rf
  have hP : va_P D vwCl [(h0, .inr (11, [.ref ztape, .ref ztext, .int 0, .int 0, .int 0, .int (-1), .int 0, .int 0, .int 0, .int 0, .long 0, .ref zcores, .ref zlocks, .ref zbells, .ref ztasks, .ref zops, .ref zopSort, .ref zopNumber, .ref zkind, .ref zevery, .ref zbudget, .ref zshareTold, .ref zfirstOp, .ref zopMany, .ref zisCores, .ref zisLocks, .ref zisBells, .ref ztName, .int 0, .int 0, .ref zall, .ref zrows, .ref zpicked, .ref zpileTask, .ref zpileLock, .int 0, .ref zwas, .ref zbehind, .ref zriskRow, .ref zriskBest, .int 0, .ref zcTick, .ref zcProcessor, .ref zcTask, .int 0, .ref zgTick, .ref zgTask, .ref zgTold, .ref zgUntold, .ref zgRan, .int 0, .int 0, .ref zboxAll, .ref zboxRows, .ref zisBoxed])), (ztasks, .inl (ca 1, 2, .inl (fun _ => 0)))] s.heap := hP
  have hl := lv_entry ([.ref h0, .int x1, .int x2]) (n := 3) (Nat.le_of_ble_eq_true rfl)
  rw [lg_entry_eq]
  generalize (lg_sl ([.ref h0, .int x1, .int x2]) ++ List.replicate (3 - (lg_sl ([.ref h0, .int x1, .int x2])).length) Slot.unset).toArray = ls at hl ⊢
  have hl : lv_has ls 3 [(0, .ref h0), (1, .int x1), (2, .int x2)] := hl
  refine lv_aload_n hx hb dX11_ring_0 rfl (lv_at hl 0 rfl) ?_
  refine lv_iload_n hx hb dX11_ring_1 rfl (lv_at hl 1 rfl) ?_
  refine kc_i (wr := []) (va_runV (As := [.int x1]) (rest := []) ⟨hx, hb, hml, hown, hts⟩ (k_X11_isTask l D ca s.heap.size h0 ztape ztext zcores zlocks zbells ztasks zops zopSort zopNumber zkind zevery zbudget zshareTold zfirstOp zopMany zisCores zisLocks zisBells ztName zall zrows zpicked zpileTask zpileLock zwas zbehind zriskRow zriskBest zcTick zcProcessor zcTask zgTick zgTask zgTold zgUntold zgRan zboxAll zboxRows zisBoxed 0 0 0 (-1) 0 0 0 0 0 0 0 0 0 0 0 x1) (cwV 1 hts gX11_ring_X11_isTask rfl rfl rfl (by decide +kernel) ⟨(Nat.le_of_ble_eq_true rfl), (Nat.le_of_ble_eq_true rfl)⟩) (PC.preV (ci := 11) hC hP hD [0, 1] rfl (by decide +kernel) rfl rfl) rfl rfl hl.1 rfl (lv_room (Nat.le_of_ble_eq_true rfl)) dX11_ring_2 ⟨(Nat.le_of_ble_eq_true rfl), (Nat.le_of_ble_eq_true rfl)⟩) hP hD hS hA [0, 1] [] rfl rfl (by decide +kernel) (by decide +kernel) (fun r_1 u_3 H locs hw_2 hP hD hS => ?_)
  subst hw_2
  have hP : va_P D vwCl [(h0, .inr (11, [.ref ztape, .ref ztext, .int 0, .int 0, .int 0, .int (-1), .int 0, .int 0, .int 0, .int 0, .long 0, .ref zcores, .ref zlocks, .ref zbells, .ref ztasks, .ref zops, .ref zopSort, .ref zopNumber, .ref zkind, .ref zevery, .ref zbudget, .ref zshareTold, .ref zfirstOp, .ref zopMany, .ref zisCores, .ref zisLocks, .ref zisBells, .ref ztName, .int 0, .int 0, .ref zall, .ref zrows, .ref zpicked, .ref zpileTask, .ref zpileLock, .int 0, .ref zwas, .ref zbehind, .ref zriskRow, .ref zriskBest, .int 0, .ref zcTick, .ref zcProcessor, .ref zcTask, .int 0, .ref zgTick, .ref zgTask, .ref zgTold, .ref zgUntold, .ref zgRan, .int 0, .int 0, .ref zboxAll, .ref zboxRows, .ref zisBoxed])), (ztasks, .inl (ca 1, 2, .inl (fun _ => 0)))] H := hP
  have hD : va_D A [(h0, .inr (11, [.ref ztape, .ref ztext, .int 0, .int 0, .int 0, .int (-1), .int 0, .int 0, .int 0, .int 0, .long 0, .ref zcores, .ref zlocks, .ref zbells, .ref ztasks, .ref zops, .ref zopSort, .ref zopNumber, .ref zkind, .ref zevery, .ref zbudget, .ref zshareTold, .ref zfirstOp, .ref zopMany, .ref zisCores, .ref zisLocks, .ref zisBells, .ref ztName, .int 0, .int 0, .ref zall, .ref zrows, .ref zpicked, .ref zpileTask, .ref zpileLock, .int 0, .ref zwas, .ref zbehind, .ref zriskRow, .ref zriskBest, .int 0, .ref zcTick, .ref zcProcessor, .ref zcTask, .int 0, .ref zgTick, .ref zgTask, .ref zgTold, .ref zgUntold, .ref zgRan, .int 0, .int 0, .ref zboxAll, .ref zboxRows, .ref zisBoxed])), (ztasks, .inl (ca 1, 2, .inl (fun _ => 0)))] := hD
  refine lv_if_eq (tgt := 37) hx hb dX11_ring_5 (by decide +kernel) (fun c_4 => ?_) (fun c_4 => absurd (by decide +kernel) c_4)
  refine lv_iconst (v := (-1)) hx hb dX11_ring_37 (by decide +kernel) ?_
  exact W.iret (v := (-1)) hx hb hr (fun t ht hW => ⟨⟨(-1), (), rfl, rfl, by rw [ht]; exact hP.sub [] rfl, hDA (hD.sub [] (by decide +kernel) rfl)⟩, hS.F ht⟩) hS.2.2 dX11_ring_38
set_option maxHeartbeats 4000000 in
set_option maxRecDepth 100000 in
theorem k_X11_share (l : Launch) (D : va_G) (ca : Nat → ClassId) (sz : Nat) (h0 : Nat) (ztape : Nat) (ztext : Nat) (zcores : Nat) (zlocks : Nat) (zbells : Nat) (ztasks : Nat) (zops : Nat) (zopSort : Nat) (zopNumber : Nat) (zkind : Nat) (zevery : Nat) (zbudget : Nat) (zshareTold : Nat) (zfirstOp : Nat) (zopMany : Nat) (zisCores : Nat) (zisLocks : Nat) (zisBells : Nat) (ztName : Nat) (zall : Nat) (zrows : Nat) (zpicked : Nat) (zpileTask : Nat) (zpileLock : Nat) (zwas : Nat) (zbehind : Nat) (zriskRow : Nat) (zriskBest : Nat) (zcTick : Nat) (zcProcessor : Nat) (zcTask : Nat) (zgTick : Nat) (zgTask : Nat) (zgTold : Nat) (zgUntold : Nat) (zgRan : Nat) (zboxAll : Nat) (zboxRows : Nat) (zisBoxed : Nat) (x1 : Int32) (x2 : Int32) : Met l yX11_share wsX11_share ({ frames := 2, cells := 0, slots := 0, locals := 43 }) (PC [.ref h0, .int x1, .int x2] sz D ca [(h0, .inr (11, [.ref ztape, .ref ztext, .int 0, .int 0, .int 0, .int (-1), .int 0, .int 0, .int 0, .int 0, .long 0, .ref zcores, .ref zlocks, .ref zbells, .ref ztasks, .ref zops, .ref zopSort, .ref zopNumber, .ref zkind, .ref zevery, .ref zbudget, .ref zshareTold, .ref zfirstOp, .ref zopMany, .ref zisCores, .ref zisLocks, .ref zisBells, .ref ztName, .int 0, .int 0, .ref zall, .ref zrows, .ref zpicked, .ref zpileTask, .ref zpileLock, .int 0, .ref zwas, .ref zbehind, .ref zriskRow, .ref zriskBest, .int 0, .ref zcTick, .ref zcProcessor, .ref zcTask, .int 0, .ref zgTick, .ref zgTask, .ref zgTold, .ref zgUntold, .ref zgRan, .int 0, .int 0, .ref zboxAll, .ref zboxRows, .ref zisBoxed])), (ztasks, .inl (ca 1, 2, .inl (fun _ => 0)))]) (QI (fun (r : Int32) (u : Unit) => r = (-1)) (fun (_ : Unit) => []) [(h0, .inr (11, [.ref ztape, .ref ztext, .int 0, .int 0, .int 0, .int (-1), .int 0, .int 0, .int 0, .int 0, .long 0, .ref zcores, .ref zlocks, .ref zbells, .ref ztasks, .ref zops, .ref zopSort, .ref zopNumber, .ref zkind, .ref zevery, .ref zbudget, .ref zshareTold, .ref zfirstOp, .ref zopMany, .ref zisCores, .ref zisLocks, .ref zisBells, .ref ztName, .int 0, .int 0, .ref zall, .ref zrows, .ref zpicked, .ref zpileTask, .ref zpileLock, .int 0, .ref zwas, .ref zbehind, .ref zriskRow, .ref zriskBest, .int 0, .ref zcTick, .ref zcProcessor, .ref zcTask, .int 0, .ref zgTick, .ref zgTask, .ref zgTold, .ref zgUntold, .ref zgRan, .int 0, .int 0, .ref zboxAll, .ref zboxRows, .ref zisBoxed])), (ztasks, .inl (ca 1, 2, .inl (fun _ => 0)))] sz D) 0 0 (va_A [(h0, .inr (11, [.ref ztape, .ref ztext, .int 0, .int 0, .int 0, .int (-1), .int 0, .int 0, .int 0, .int 0, .long 0, .ref zcores, .ref zlocks, .ref zbells, .ref ztasks, .ref zops, .ref zopSort, .ref zopNumber, .ref zkind, .ref zevery, .ref zbudget, .ref zshareTold, .ref zfirstOp, .ref zopMany, .ref zisCores, .ref zisLocks, .ref zisBells, .ref ztName, .int 0, .int 0, .ref zall, .ref zrows, .ref zpicked, .ref zpileTask, .ref zpileLock, .int 0, .ref zwas, .ref zbehind, .ref zriskRow, .ref zriskBest, .int 0, .ref zcTick, .ref zcProcessor, .ref zcTask, .int 0, .ref zgTick, .ref zgTask, .ref zgTold, .ref zgUntold, .ref zgRan, .int 0, .int 0, .ref zboxAll, .ref zboxRows, .ref zisBoxed])), (ztasks, .inl (ca 1, 2, .inl (fun _ => 0)))] sz) := by
  refine Met.ofW (cc := cX11_share) (maxL := 4) (ret := (some .int)) (by decide +kernel) rfl ?_
  intro p e s m args below meth c s₁ B hml hv
  obtain ⟨rfl, hsz, hP, hC, hD0⟩ := hv
  have hx := B.exec
  have hb := B.bytes
  have hr := B.returns
  have hts := atoms_spec (ws := wsX11_share) B.pre
  have hown : s.vm.findClass RX11 = some m.cls := findClass_of_methodNamed B.named
  have hlocks := B.notSynchronized
  subst hsz
  have hD := hD0.self (sz := s.heap.size)
  dsimp only [QV, QI, QL, BQ]
  generalize hAe : va_A [(h0, .inr (11, [.ref ztape, .ref ztext, .int 0, .int 0, .int 0, .int (-1), .int 0, .int 0, .int 0, .int 0, .long 0, .ref zcores, .ref zlocks, .ref zbells, .ref ztasks, .ref zops, .ref zopSort, .ref zopNumber, .ref zkind, .ref zevery, .ref zbudget, .ref zshareTold, .ref zfirstOp, .ref zopMany, .ref zisCores, .ref zisLocks, .ref zisBells, .ref ztName, .int 0, .int 0, .ref zall, .ref zrows, .ref zpicked, .ref zpileTask, .ref zpileLock, .int 0, .ref zwas, .ref zbehind, .ref zriskRow, .ref zriskBest, .int 0, .ref zcTick, .ref zcProcessor, .ref zcTask, .int 0, .ref zgTick, .ref zgTask, .ref zgTold, .ref zgUntold, .ref zgRan, .int 0, .int 0, .ref zboxAll, .ref zboxRows, .ref zisBoxed])), (ztasks, .inl (ca 1, 2, .inl (fun _ => 0)))] s.heap.size = A at hD ⊢
  have hA : ∀ q : Nat, s.heap.size ≤ q → A q := fun q h => by rw [← hAe]; exact Or.inr h
  have hDA : ∀ {w : va_W}, va_D A w → va_D (va_A [(h0, .inr (11, [.ref ztape, .ref ztext, .int 0, .int 0, .int 0, .int (-1), .int 0, .int 0, .int 0, .int 0, .long 0, .ref zcores, .ref zlocks, .ref zbells, .ref ztasks, .ref zops, .ref zopSort, .ref zopNumber, .ref zkind, .ref zevery, .ref zbudget, .ref zshareTold, .ref zfirstOp, .ref zopMany, .ref zisCores, .ref zisLocks, .ref zisBells, .ref ztName, .int 0, .int 0, .ref zall, .ref zrows, .ref zpicked, .ref zpileTask, .ref zpileLock, .int 0, .ref zwas, .ref zbehind, .ref zriskRow, .ref zriskBest, .int 0, .ref zcTick, .ref zcProcessor, .ref zcTask, .int 0, .ref zgTick, .ref zgTask, .ref zgTold, .ref zgUntold, .ref zgRan, .int 0, .int 0, .ref zboxAll, .ref zboxRows, .ref zisBoxed])), (ztasks, .inl (ca 1, 2, .inl (fun _ => 0)))] s.heap.size) w := fun h => by rw [hAe]; exact h
  have hS : va_S A s.heap s.heap [] := va_S.rf
  have hP : va_P D vwCl [(h0, .inr (11, [.ref ztape, .ref ztext, .int 0, .int 0, .int 0, .int (-1), .int 0, .int 0, .int 0, .int 0, .long 0, .ref zcores, .ref zlocks, .ref zbells, .ref ztasks, .ref zops, .ref zopSort, .ref zopNumber, .ref zkind, .ref zevery, .ref zbudget, .ref zshareTold, .ref zfirstOp, .ref zopMany, .ref zisCores, .ref zisLocks, .ref zisBells, .ref ztName, .int 0, .int 0, .ref zall, .ref zrows, .ref zpicked, .ref zpileTask, .ref zpileLock, .int 0, .ref zwas, .ref zbehind, .ref zriskRow, .ref zriskBest, .int 0, .ref zcTick, .ref zcProcessor, .ref zcTask, .int 0, .ref zgTick, .ref zgTask, .ref zgTold, .ref zgUntold, .ref zgRan, .int 0, .int 0, .ref zboxAll, .ref zboxRows, .ref zisBoxed])), (ztasks, .inl (ca 1, 2, .inl (fun _ => 0)))] s.heap := hP
  have hl := lv_entry ([.ref h0, .int x1, .int x2]) (n := 4) (Nat.le_of_ble_eq_true rfl)
  rw [lg_entry_eq]
  generalize (lg_sl ([.ref h0, .int x1, .int x2]) ++ List.replicate (4 - (lg_sl ([.ref h0, .int x1, .int x2])).length) Slot.unset).toArray = ls at hl ⊢
  have hl : lv_has ls 4 [(0, .ref h0), (1, .int x1), (2, .int x2)] := hl
  refine lv_aload_n hx hb dX11_share_0 rfl (lv_at hl 0 rfl) ?_
  refine lv_iload_n hx hb dX11_share_1 rfl (lv_at hl 1 rfl) ?_
  refine kc_i (wr := []) (va_runV (As := [.int x1]) (rest := []) ⟨hx, hb, hml, hown, hts⟩ (k_X11_isTask l D ca s.heap.size h0 ztape ztext zcores zlocks zbells ztasks zops zopSort zopNumber zkind zevery zbudget zshareTold zfirstOp zopMany zisCores zisLocks zisBells ztName zall zrows zpicked zpileTask zpileLock zwas zbehind zriskRow zriskBest zcTick zcProcessor zcTask zgTick zgTask zgTold zgUntold zgRan zboxAll zboxRows zisBoxed 0 0 0 (-1) 0 0 0 0 0 0 0 0 0 0 0 x1) (cwV 1 hts gX11_share_X11_isTask rfl rfl rfl (by decide +kernel) ⟨(Nat.le_of_ble_eq_true rfl), (Nat.le_of_ble_eq_true rfl)⟩) (PC.preV (ci := 11) hC hP hD [0, 1] rfl (by decide +kernel) rfl rfl) rfl rfl hl.1 rfl (lv_room (Nat.le_of_ble_eq_true rfl)) dX11_share_2 ⟨(Nat.le_of_ble_eq_true rfl), (Nat.le_of_ble_eq_true rfl)⟩) hP hD hS hA [0, 1] [] rfl rfl (by decide +kernel) (by decide +kernel) (fun r_1 u_3 H locs hw_2 hP hD hS => ?_)
  subst hw_2
  have hP : va_P D vwCl [(h0, .inr (11, [.ref ztape, .ref ztext, .int 0, .int 0, .int 0, .int (-1), .int 0, .int 0, .int 0, .int 0, .long 0, .ref zcores, .ref zlocks, .ref zbells, .ref ztasks, .ref zops, .ref zopSort, .ref zopNumber, .ref zkind, .ref zevery, .ref zbudget, .ref zshareTold, .ref zfirstOp, .ref zopMany, .ref zisCores, .ref zisLocks, .ref zisBells, .ref ztName, .int 0, .int 0, .ref zall, .ref zrows, .ref zpicked, .ref zpileTask, .ref zpileLock, .int 0, .ref zwas, .ref zbehind, .ref zriskRow, .ref zriskBest, .int 0, .ref zcTick, .ref zcProcessor, .ref zcTask, .int 0, .ref zgTick, .ref zgTask, .ref zgTold, .ref zgUntold, .ref zgRan, .int 0, .int 0, .ref zboxAll, .ref zboxRows, .ref zisBoxed])), (ztasks, .inl (ca 1, 2, .inl (fun _ => 0)))] H := hP
  have hD : va_D A [(h0, .inr (11, [.ref ztape, .ref ztext, .int 0, .int 0, .int 0, .int (-1), .int 0, .int 0, .int 0, .int 0, .long 0, .ref zcores, .ref zlocks, .ref zbells, .ref ztasks, .ref zops, .ref zopSort, .ref zopNumber, .ref zkind, .ref zevery, .ref zbudget, .ref zshareTold, .ref zfirstOp, .ref zopMany, .ref zisCores, .ref zisLocks, .ref zisBells, .ref ztName, .int 0, .int 0, .ref zall, .ref zrows, .ref zpicked, .ref zpileTask, .ref zpileLock, .int 0, .ref zwas, .ref zbehind, .ref zriskRow, .ref zriskBest, .int 0, .ref zcTick, .ref zcProcessor, .ref zcTask, .int 0, .ref zgTick, .ref zgTask, .ref zgTold, .ref zgUntold, .ref zgRan, .int 0, .int 0, .ref zboxAll, .ref zboxRows, .ref zisBoxed])), (ztasks, .inl (ca 1, 2, .inl (fun _ => 0)))] := hD
  refine lv_if_eq (tgt := 29) hx hb dX11_share_5 (by decide +kernel) (fun c_4 => ?_) (fun c_4 => absurd (by decide +kernel) c_4)
  refine lv_iconst (v := (-1)) hx hb dX11_share_29 (by decide +kernel) ?_
  exact W.iret (v := (-1)) hx hb hr (fun t ht hW => ⟨⟨(-1), (), rfl, rfl, by rw [ht]; exact hP.sub [] rfl, hDA (hD.sub [] (by decide +kernel) rfl)⟩, hS.F ht⟩) hS.2.2 dX11_share_30
set_option maxHeartbeats 4000000 in
set_option maxRecDepth 100000 in
theorem k_X11_kill (l : Launch) (D : va_G) (ca : Nat → ClassId) (sz : Nat) (h0 : Nat) (ztape : Nat) (ztext : Nat) (zcores : Nat) (zlocks : Nat) (zbells : Nat) (ztasks : Nat) (zops : Nat) (zopSort : Nat) (zopNumber : Nat) (zkind : Nat) (zevery : Nat) (zbudget : Nat) (zshareTold : Nat) (zfirstOp : Nat) (zopMany : Nat) (zisCores : Nat) (zisLocks : Nat) (zisBells : Nat) (ztName : Nat) (zall : Nat) (zrows : Nat) (zpicked : Nat) (zpileTask : Nat) (zpileLock : Nat) (zwas : Nat) (zbehind : Nat) (zriskRow : Nat) (zriskBest : Nat) (zcTick : Nat) (zcProcessor : Nat) (zcTask : Nat) (zgTick : Nat) (zgTask : Nat) (zgTold : Nat) (zgUntold : Nat) (zgRan : Nat) (zboxAll : Nat) (zboxRows : Nat) (zisBoxed : Nat) (x1 : Int32) : Met l yX11_kill wsX11_kill ({ frames := 2, cells := 0, slots := 0, locals := 43 }) (PC [.ref h0, .int x1] sz D ca [(h0, .inr (11, [.ref ztape, .ref ztext, .int 0, .int 0, .int 0, .int (-1), .int 0, .int 0, .int 0, .int 0, .long 0, .ref zcores, .ref zlocks, .ref zbells, .ref ztasks, .ref zops, .ref zopSort, .ref zopNumber, .ref zkind, .ref zevery, .ref zbudget, .ref zshareTold, .ref zfirstOp, .ref zopMany, .ref zisCores, .ref zisLocks, .ref zisBells, .ref ztName, .int 0, .int 0, .ref zall, .ref zrows, .ref zpicked, .ref zpileTask, .ref zpileLock, .int 0, .ref zwas, .ref zbehind, .ref zriskRow, .ref zriskBest, .int 0, .ref zcTick, .ref zcProcessor, .ref zcTask, .int 0, .ref zgTick, .ref zgTask, .ref zgTold, .ref zgUntold, .ref zgRan, .int 0, .int 0, .ref zboxAll, .ref zboxRows, .ref zisBoxed])), (ztasks, .inl (ca 1, 2, .inl (fun _ => 0)))]) (QI (fun (r : Int32) (u : Unit) => r = 0) (fun (_ : Unit) => []) [(h0, .inr (11, [.ref ztape, .ref ztext, .int 0, .int 0, .int 0, .int (-1), .int 0, .int 0, .int 0, .int 0, .long 0, .ref zcores, .ref zlocks, .ref zbells, .ref ztasks, .ref zops, .ref zopSort, .ref zopNumber, .ref zkind, .ref zevery, .ref zbudget, .ref zshareTold, .ref zfirstOp, .ref zopMany, .ref zisCores, .ref zisLocks, .ref zisBells, .ref ztName, .int 0, .int 0, .ref zall, .ref zrows, .ref zpicked, .ref zpileTask, .ref zpileLock, .int 0, .ref zwas, .ref zbehind, .ref zriskRow, .ref zriskBest, .int 0, .ref zcTick, .ref zcProcessor, .ref zcTask, .int 0, .ref zgTick, .ref zgTask, .ref zgTold, .ref zgUntold, .ref zgRan, .int 0, .int 0, .ref zboxAll, .ref zboxRows, .ref zisBoxed])), (ztasks, .inl (ca 1, 2, .inl (fun _ => 0)))] sz D) 0 0 (va_A [(h0, .inr (11, [.ref ztape, .ref ztext, .int 0, .int 0, .int 0, .int (-1), .int 0, .int 0, .int 0, .int 0, .long 0, .ref zcores, .ref zlocks, .ref zbells, .ref ztasks, .ref zops, .ref zopSort, .ref zopNumber, .ref zkind, .ref zevery, .ref zbudget, .ref zshareTold, .ref zfirstOp, .ref zopMany, .ref zisCores, .ref zisLocks, .ref zisBells, .ref ztName, .int 0, .int 0, .ref zall, .ref zrows, .ref zpicked, .ref zpileTask, .ref zpileLock, .int 0, .ref zwas, .ref zbehind, .ref zriskRow, .ref zriskBest, .int 0, .ref zcTick, .ref zcProcessor, .ref zcTask, .int 0, .ref zgTick, .ref zgTask, .ref zgTold, .ref zgUntold, .ref zgRan, .int 0, .int 0, .ref zboxAll, .ref zboxRows, .ref zisBoxed])), (ztasks, .inl (ca 1, 2, .inl (fun _ => 0)))] sz) := by
  refine Met.ofW (cc := cX11_kill) (maxL := 2) (ret := (some .boolean)) (by decide +kernel) rfl ?_
  intro p e s m args below meth c s₁ B hml hv
  obtain ⟨rfl, hsz, hP, hC, hD0⟩ := hv
  have hx := B.exec
  have hb := B.bytes
  have hr := B.returns
  have hts := atoms_spec (ws := wsX11_kill) B.pre
  have hown : s.vm.findClass RX11 = some m.cls := findClass_of_methodNamed B.named
  have hlocks := B.notSynchronized
  subst hsz
  have hD := hD0.self (sz := s.heap.size)
  dsimp only [QV, QI, QL, BQ]
  generalize hAe : va_A [(h0, .inr (11, [.ref ztape, .ref ztext, .int 0, .int 0, .int 0, .int (-1), .int 0, .int 0, .int 0, .int 0, .long 0, .ref zcores, .ref zlocks, .ref zbells, .ref ztasks, .ref zops, .ref zopSort, .ref zopNumber, .ref zkind, .ref zevery, .ref zbudget, .ref zshareTold, .ref zfirstOp, .ref zopMany, .ref zisCores, .ref zisLocks, .ref zisBells, .ref ztName, .int 0, .int 0, .ref zall, .ref zrows, .ref zpicked, .ref zpileTask, .ref zpileLock, .int 0, .ref zwas, .ref zbehind, .ref zriskRow, .ref zriskBest, .int 0, .ref zcTick, .ref zcProcessor, .ref zcTask, .int 0, .ref zgTick, .ref zgTask, .ref zgTold, .ref zgUntold, .ref zgRan, .int 0, .int 0, .ref zboxAll, .ref zboxRows, .ref zisBoxed])), (ztasks, .inl (ca 1, 2, .inl (fun _ => 0)))] s.heap.size = A at hD ⊢
  have hA : ∀ q : Nat, s.heap.size ≤ q → A q := fun q h => by rw [← hAe]; exact Or.inr h
  have hDA : ∀ {w : va_W}, va_D A w → va_D (va_A [(h0, .inr (11, [.ref ztape, .ref ztext, .int 0, .int 0, .int 0, .int (-1), .int 0, .int 0, .int 0, .int 0, .long 0, .ref zcores, .ref zlocks, .ref zbells, .ref ztasks, .ref zops, .ref zopSort, .ref zopNumber, .ref zkind, .ref zevery, .ref zbudget, .ref zshareTold, .ref zfirstOp, .ref zopMany, .ref zisCores, .ref zisLocks, .ref zisBells, .ref ztName, .int 0, .int 0, .ref zall, .ref zrows, .ref zpicked, .ref zpileTask, .ref zpileLock, .int 0, .ref zwas, .ref zbehind, .ref zriskRow, .ref zriskBest, .int 0, .ref zcTick, .ref zcProcessor, .ref zcTask, .int 0, .ref zgTick, .ref zgTask, .ref zgTold, .ref zgUntold, .ref zgRan, .int 0, .int 0, .ref zboxAll, .ref zboxRows, .ref zisBoxed])), (ztasks, .inl (ca 1, 2, .inl (fun _ => 0)))] s.heap.size) w := fun h => by rw [hAe]; exact h
  have hS : va_S A s.heap s.heap [] := va_S.rf
  have hP : va_P D vwCl [(h0, .inr (11, [.ref ztape, .ref ztext, .int 0, .int 0, .int 0, .int (-1), .int 0, .int 0, .int 0, .int 0, .long 0, .ref zcores, .ref zlocks, .ref zbells, .ref ztasks, .ref zops, .ref zopSort, .ref zopNumber, .ref zkind, .ref zevery, .ref zbudget, .ref zshareTold, .ref zfirstOp, .ref zopMany, .ref zisCores, .ref zisLocks, .ref zisBells, .ref ztName, .int 0, .int 0, .ref zall, .ref zrows, .ref zpicked, .ref zpileTask, .ref zpileLock, .int 0, .ref zwas, .ref zbehind, .ref zriskRow, .ref zriskBest, .int 0, .ref zcTick, .ref zcProcessor, .ref zcTask, .int 0, .ref zgTick, .ref zgTask, .ref zgTold, .ref zgUntold, .ref zgRan, .int 0, .int 0, .ref zboxAll, .ref zboxRows, .ref zisBoxed])), (ztasks, .inl (ca 1, 2, .inl (fun _ => 0)))] s.heap := hP
  have hl := lv_entry ([.ref h0, .int x1]) (n := 2) (Nat.le_of_ble_eq_true rfl)
  rw [lg_entry_eq]
  generalize (lg_sl ([.ref h0, .int x1]) ++ List.replicate (2 - (lg_sl ([.ref h0, .int x1])).length) Slot.unset).toArray = ls at hl ⊢
  have hl : lv_has ls 2 [(0, .ref h0), (1, .int x1)] := hl
  refine lv_aload_n hx hb dX11_kill_0 rfl (lv_at hl 0 rfl) ?_
  refine lv_iload_n hx hb dX11_kill_1 rfl (lv_at hl 1 rfl) ?_
  refine kc_i (wr := []) (va_runV (As := [.int x1]) (rest := []) ⟨hx, hb, hml, hown, hts⟩ (k_X11_isTask l D ca s.heap.size h0 ztape ztext zcores zlocks zbells ztasks zops zopSort zopNumber zkind zevery zbudget zshareTold zfirstOp zopMany zisCores zisLocks zisBells ztName zall zrows zpicked zpileTask zpileLock zwas zbehind zriskRow zriskBest zcTick zcProcessor zcTask zgTick zgTask zgTold zgUntold zgRan zboxAll zboxRows zisBoxed 0 0 0 (-1) 0 0 0 0 0 0 0 0 0 0 0 x1) (cwV 1 hts gX11_kill_X11_isTask rfl rfl rfl (by decide +kernel) ⟨(Nat.le_of_ble_eq_true rfl), (Nat.le_of_ble_eq_true rfl)⟩) (PC.preV (ci := 11) hC hP hD [0, 1] rfl (by decide +kernel) rfl rfl) rfl rfl hl.1 rfl (lv_room (Nat.le_of_ble_eq_true rfl)) dX11_kill_2 ⟨(Nat.le_of_ble_eq_true rfl), (Nat.le_of_ble_eq_true rfl)⟩) hP hD hS hA [0, 1] [] rfl rfl (by decide +kernel) (by decide +kernel) (fun r_1 u_3 H locs hw_2 hP hD hS => ?_)
  subst hw_2
  have hP : va_P D vwCl [(h0, .inr (11, [.ref ztape, .ref ztext, .int 0, .int 0, .int 0, .int (-1), .int 0, .int 0, .int 0, .int 0, .long 0, .ref zcores, .ref zlocks, .ref zbells, .ref ztasks, .ref zops, .ref zopSort, .ref zopNumber, .ref zkind, .ref zevery, .ref zbudget, .ref zshareTold, .ref zfirstOp, .ref zopMany, .ref zisCores, .ref zisLocks, .ref zisBells, .ref ztName, .int 0, .int 0, .ref zall, .ref zrows, .ref zpicked, .ref zpileTask, .ref zpileLock, .int 0, .ref zwas, .ref zbehind, .ref zriskRow, .ref zriskBest, .int 0, .ref zcTick, .ref zcProcessor, .ref zcTask, .int 0, .ref zgTick, .ref zgTask, .ref zgTold, .ref zgUntold, .ref zgRan, .int 0, .int 0, .ref zboxAll, .ref zboxRows, .ref zisBoxed])), (ztasks, .inl (ca 1, 2, .inl (fun _ => 0)))] H := hP
  have hD : va_D A [(h0, .inr (11, [.ref ztape, .ref ztext, .int 0, .int 0, .int 0, .int (-1), .int 0, .int 0, .int 0, .int 0, .long 0, .ref zcores, .ref zlocks, .ref zbells, .ref ztasks, .ref zops, .ref zopSort, .ref zopNumber, .ref zkind, .ref zevery, .ref zbudget, .ref zshareTold, .ref zfirstOp, .ref zopMany, .ref zisCores, .ref zisLocks, .ref zisBells, .ref ztName, .int 0, .int 0, .ref zall, .ref zrows, .ref zpicked, .ref zpileTask, .ref zpileLock, .int 0, .ref zwas, .ref zbehind, .ref zriskRow, .ref zriskBest, .int 0, .ref zcTick, .ref zcProcessor, .ref zcTask, .int 0, .ref zgTick, .ref zgTask, .ref zgTold, .ref zgUntold, .ref zgRan, .int 0, .int 0, .ref zboxAll, .ref zboxRows, .ref zisBoxed])), (ztasks, .inl (ca 1, 2, .inl (fun _ => 0)))] := hD
  refine lv_if_eq (tgt := 18) hx hb dX11_kill_5 (by decide +kernel) (fun c_4 => ?_) (fun c_4 => absurd (by decide +kernel) c_4)
  refine lv_iconst (v := 0) hx hb dX11_kill_18 (by decide +kernel) ?_
  exact W.zret (v := 0) hx hb hr (rfl) (fun t ht hW => ⟨⟨0, (), rfl, rfl, by rw [ht]; exact hP.sub [] rfl, hDA (hD.sub [] (by decide +kernel) rfl)⟩, hS.F ht⟩) hS.2.2 dX11_kill_19
set_option maxHeartbeats 4000000 in
set_option maxRecDepth 100000 in
theorem k_X11_wake (l : Launch) (D : va_G) (ca : Nat → ClassId) (sz : Nat) (h0 : Nat) (ztape : Nat) (ztext : Nat) (zcores : Nat) (zlocks : Nat) (zbells : Nat) (ztasks : Nat) (zops : Nat) (zopSort : Nat) (zopNumber : Nat) (zkind : Nat) (zevery : Nat) (zbudget : Nat) (zshareTold : Nat) (zfirstOp : Nat) (zopMany : Nat) (zisCores : Nat) (zisLocks : Nat) (zisBells : Nat) (ztName : Nat) (zall : Nat) (zrows : Nat) (zpicked : Nat) (zpileTask : Nat) (zpileLock : Nat) (zwas : Nat) (zbehind : Nat) (zriskRow : Nat) (zriskBest : Nat) (zcTick : Nat) (zcProcessor : Nat) (zcTask : Nat) (zgTick : Nat) (zgTask : Nat) (zgTold : Nat) (zgUntold : Nat) (zgRan : Nat) (zboxAll : Nat) (zboxRows : Nat) (zisBoxed : Nat) (x1 : Int32) : Met l yX11_wake wsX11_wake ({ frames := 2, cells := 0, slots := 0, locals := 43 }) (PC [.ref h0, .int x1] sz D ca [(h0, .inr (11, [.ref ztape, .ref ztext, .int 0, .int 0, .int 0, .int (-1), .int 0, .int 0, .int 0, .int 0, .long 0, .ref zcores, .ref zlocks, .ref zbells, .ref ztasks, .ref zops, .ref zopSort, .ref zopNumber, .ref zkind, .ref zevery, .ref zbudget, .ref zshareTold, .ref zfirstOp, .ref zopMany, .ref zisCores, .ref zisLocks, .ref zisBells, .ref ztName, .int 0, .int 0, .ref zall, .ref zrows, .ref zpicked, .ref zpileTask, .ref zpileLock, .int 0, .ref zwas, .ref zbehind, .ref zriskRow, .ref zriskBest, .int 0, .ref zcTick, .ref zcProcessor, .ref zcTask, .int 0, .ref zgTick, .ref zgTask, .ref zgTold, .ref zgUntold, .ref zgRan, .int 0, .int 0, .ref zboxAll, .ref zboxRows, .ref zisBoxed])), (ztasks, .inl (ca 1, 2, .inl (fun _ => 0)))]) (QI (fun (r : Int32) (u : Unit) => r = 0) (fun (_ : Unit) => []) [(h0, .inr (11, [.ref ztape, .ref ztext, .int 0, .int 0, .int 0, .int (-1), .int 0, .int 0, .int 0, .int 0, .long 0, .ref zcores, .ref zlocks, .ref zbells, .ref ztasks, .ref zops, .ref zopSort, .ref zopNumber, .ref zkind, .ref zevery, .ref zbudget, .ref zshareTold, .ref zfirstOp, .ref zopMany, .ref zisCores, .ref zisLocks, .ref zisBells, .ref ztName, .int 0, .int 0, .ref zall, .ref zrows, .ref zpicked, .ref zpileTask, .ref zpileLock, .int 0, .ref zwas, .ref zbehind, .ref zriskRow, .ref zriskBest, .int 0, .ref zcTick, .ref zcProcessor, .ref zcTask, .int 0, .ref zgTick, .ref zgTask, .ref zgTold, .ref zgUntold, .ref zgRan, .int 0, .int 0, .ref zboxAll, .ref zboxRows, .ref zisBoxed])), (ztasks, .inl (ca 1, 2, .inl (fun _ => 0)))] sz D) 0 0 (va_A [(h0, .inr (11, [.ref ztape, .ref ztext, .int 0, .int 0, .int 0, .int (-1), .int 0, .int 0, .int 0, .int 0, .long 0, .ref zcores, .ref zlocks, .ref zbells, .ref ztasks, .ref zops, .ref zopSort, .ref zopNumber, .ref zkind, .ref zevery, .ref zbudget, .ref zshareTold, .ref zfirstOp, .ref zopMany, .ref zisCores, .ref zisLocks, .ref zisBells, .ref ztName, .int 0, .int 0, .ref zall, .ref zrows, .ref zpicked, .ref zpileTask, .ref zpileLock, .int 0, .ref zwas, .ref zbehind, .ref zriskRow, .ref zriskBest, .int 0, .ref zcTick, .ref zcProcessor, .ref zcTask, .int 0, .ref zgTick, .ref zgTask, .ref zgTold, .ref zgUntold, .ref zgRan, .int 0, .int 0, .ref zboxAll, .ref zboxRows, .ref zisBoxed])), (ztasks, .inl (ca 1, 2, .inl (fun _ => 0)))] sz) := by
  refine Met.ofW (cc := cX11_wake) (maxL := 2) (ret := (some .boolean)) (by decide +kernel) rfl ?_
  intro p e s m args below meth c s₁ B hml hv
  obtain ⟨rfl, hsz, hP, hC, hD0⟩ := hv
  have hx := B.exec
  have hb := B.bytes
  have hr := B.returns
  have hts := atoms_spec (ws := wsX11_wake) B.pre
  have hown : s.vm.findClass RX11 = some m.cls := findClass_of_methodNamed B.named
  have hlocks := B.notSynchronized
  subst hsz
  have hD := hD0.self (sz := s.heap.size)
  dsimp only [QV, QI, QL, BQ]
  generalize hAe : va_A [(h0, .inr (11, [.ref ztape, .ref ztext, .int 0, .int 0, .int 0, .int (-1), .int 0, .int 0, .int 0, .int 0, .long 0, .ref zcores, .ref zlocks, .ref zbells, .ref ztasks, .ref zops, .ref zopSort, .ref zopNumber, .ref zkind, .ref zevery, .ref zbudget, .ref zshareTold, .ref zfirstOp, .ref zopMany, .ref zisCores, .ref zisLocks, .ref zisBells, .ref ztName, .int 0, .int 0, .ref zall, .ref zrows, .ref zpicked, .ref zpileTask, .ref zpileLock, .int 0, .ref zwas, .ref zbehind, .ref zriskRow, .ref zriskBest, .int 0, .ref zcTick, .ref zcProcessor, .ref zcTask, .int 0, .ref zgTick, .ref zgTask, .ref zgTold, .ref zgUntold, .ref zgRan, .int 0, .int 0, .ref zboxAll, .ref zboxRows, .ref zisBoxed])), (ztasks, .inl (ca 1, 2, .inl (fun _ => 0)))] s.heap.size = A at hD ⊢
  have hA : ∀ q : Nat, s.heap.size ≤ q → A q := fun q h => by rw [← hAe]; exact Or.inr h
  have hDA : ∀ {w : va_W}, va_D A w → va_D (va_A [(h0, .inr (11, [.ref ztape, .ref ztext, .int 0, .int 0, .int 0, .int (-1), .int 0, .int 0, .int 0, .int 0, .long 0, .ref zcores, .ref zlocks, .ref zbells, .ref ztasks, .ref zops, .ref zopSort, .ref zopNumber, .ref zkind, .ref zevery, .ref zbudget, .ref zshareTold, .ref zfirstOp, .ref zopMany, .ref zisCores, .ref zisLocks, .ref zisBells, .ref ztName, .int 0, .int 0, .ref zall, .ref zrows, .ref zpicked, .ref zpileTask, .ref zpileLock, .int 0, .ref zwas, .ref zbehind, .ref zriskRow, .ref zriskBest, .int 0, .ref zcTick, .ref zcProcessor, .ref zcTask, .int 0, .ref zgTick, .ref zgTask, .ref zgTold, .ref zgUntold, .ref zgRan, .int 0, .int 0, .ref zboxAll, .ref zboxRows, .ref zisBoxed])), (ztasks, .inl (ca 1, 2, .inl (fun _ => 0)))] s.heap.size) w := fun h => by rw [hAe]; exact h
  have hS : va_S A s.heap s.heap [] := va_S.rf
  have hP : va_P D vwCl [(h0, .inr (11, [.ref ztape, .ref ztext, .int 0, .int 0, .int 0, .int (-1), .int 0, .int 0, .int 0, .int 0, .long 0, .ref zcores, .ref zlocks, .ref zbells, .ref ztasks, .ref zops, .ref zopSort, .ref zopNumber, .ref zkind, .ref zevery, .ref zbudget, .ref zshareTold, .ref zfirstOp, .ref zopMany, .ref zisCores, .ref zisLocks, .ref zisBells, .ref ztName, .int 0, .int 0, .ref zall, .ref zrows, .ref zpicked, .ref zpileTask, .ref zpileLock, .int 0, .ref zwas, .ref zbehind, .ref zriskRow, .ref zriskBest, .int 0, .ref zcTick, .ref zcProcessor, .ref zcTask, .int 0, .ref zgTick, .ref zgTask, .ref zgTold, .ref zgUntold, .ref zgRan, .int 0, .int 0, .ref zboxAll, .ref zboxRows, .ref zisBoxed])), (ztasks, .inl (ca 1, 2, .inl (fun _ => 0)))] s.heap := hP
  have hl := lv_entry ([.ref h0, .int x1]) (n := 2) (Nat.le_of_ble_eq_true rfl)
  rw [lg_entry_eq]
  generalize (lg_sl ([.ref h0, .int x1]) ++ List.replicate (2 - (lg_sl ([.ref h0, .int x1])).length) Slot.unset).toArray = ls at hl ⊢
  have hl : lv_has ls 2 [(0, .ref h0), (1, .int x1)] := hl
  refine lv_aload_n hx hb dX11_wake_0 rfl (lv_at hl 0 rfl) ?_
  refine lv_iload_n hx hb dX11_wake_1 rfl (lv_at hl 1 rfl) ?_
  refine kc_i (wr := []) (va_runV (As := [.int x1]) (rest := []) ⟨hx, hb, hml, hown, hts⟩ (k_X11_isTask l D ca s.heap.size h0 ztape ztext zcores zlocks zbells ztasks zops zopSort zopNumber zkind zevery zbudget zshareTold zfirstOp zopMany zisCores zisLocks zisBells ztName zall zrows zpicked zpileTask zpileLock zwas zbehind zriskRow zriskBest zcTick zcProcessor zcTask zgTick zgTask zgTold zgUntold zgRan zboxAll zboxRows zisBoxed 0 0 0 (-1) 0 0 0 0 0 0 0 0 0 0 0 x1) (cwV 1 hts gX11_wake_X11_isTask rfl rfl rfl (by decide +kernel) ⟨(Nat.le_of_ble_eq_true rfl), (Nat.le_of_ble_eq_true rfl)⟩) (PC.preV (ci := 11) hC hP hD [0, 1] rfl (by decide +kernel) rfl rfl) rfl rfl hl.1 rfl (lv_room (Nat.le_of_ble_eq_true rfl)) dX11_wake_2 ⟨(Nat.le_of_ble_eq_true rfl), (Nat.le_of_ble_eq_true rfl)⟩) hP hD hS hA [0, 1] [] rfl rfl (by decide +kernel) (by decide +kernel) (fun r_1 u_3 H locs hw_2 hP hD hS => ?_)
  subst hw_2
  have hP : va_P D vwCl [(h0, .inr (11, [.ref ztape, .ref ztext, .int 0, .int 0, .int 0, .int (-1), .int 0, .int 0, .int 0, .int 0, .long 0, .ref zcores, .ref zlocks, .ref zbells, .ref ztasks, .ref zops, .ref zopSort, .ref zopNumber, .ref zkind, .ref zevery, .ref zbudget, .ref zshareTold, .ref zfirstOp, .ref zopMany, .ref zisCores, .ref zisLocks, .ref zisBells, .ref ztName, .int 0, .int 0, .ref zall, .ref zrows, .ref zpicked, .ref zpileTask, .ref zpileLock, .int 0, .ref zwas, .ref zbehind, .ref zriskRow, .ref zriskBest, .int 0, .ref zcTick, .ref zcProcessor, .ref zcTask, .int 0, .ref zgTick, .ref zgTask, .ref zgTold, .ref zgUntold, .ref zgRan, .int 0, .int 0, .ref zboxAll, .ref zboxRows, .ref zisBoxed])), (ztasks, .inl (ca 1, 2, .inl (fun _ => 0)))] H := hP
  have hD : va_D A [(h0, .inr (11, [.ref ztape, .ref ztext, .int 0, .int 0, .int 0, .int (-1), .int 0, .int 0, .int 0, .int 0, .long 0, .ref zcores, .ref zlocks, .ref zbells, .ref ztasks, .ref zops, .ref zopSort, .ref zopNumber, .ref zkind, .ref zevery, .ref zbudget, .ref zshareTold, .ref zfirstOp, .ref zopMany, .ref zisCores, .ref zisLocks, .ref zisBells, .ref ztName, .int 0, .int 0, .ref zall, .ref zrows, .ref zpicked, .ref zpileTask, .ref zpileLock, .int 0, .ref zwas, .ref zbehind, .ref zriskRow, .ref zriskBest, .int 0, .ref zcTick, .ref zcProcessor, .ref zcTask, .int 0, .ref zgTick, .ref zgTask, .ref zgTold, .ref zgUntold, .ref zgRan, .int 0, .int 0, .ref zboxAll, .ref zboxRows, .ref zisBoxed])), (ztasks, .inl (ca 1, 2, .inl (fun _ => 0)))] := hD
  refine lv_if_eq (tgt := 28) hx hb dX11_wake_5 (by decide +kernel) (fun c_4 => ?_) (fun c_4 => absurd (by decide +kernel) c_4)
  refine lv_iconst (v := 0) hx hb dX11_wake_28 (by decide +kernel) ?_
  exact W.zret (v := 0) hx hb hr (rfl) (fun t ht hW => ⟨⟨0, (), rfl, rfl, by rw [ht]; exact hP.sub [] rfl, hDA (hD.sub [] (by decide +kernel) rfl)⟩, hS.F ht⟩) hS.2.2 dX11_wake_29
set_option maxHeartbeats 4000000 in
set_option maxRecDepth 100000 in
theorem k_X11_soon (l : Launch) (D : va_G) (ca : Nat → ClassId) (sz : Nat) (h0 : Nat) (ztape : Nat) (ztext : Nat) (zcores : Nat) (zlocks : Nat) (zbells : Nat) (ztasks : Nat) (zops : Nat) (zopSort : Nat) (zopNumber : Nat) (zkind : Nat) (zevery : Nat) (zbudget : Nat) (zshareTold : Nat) (zfirstOp : Nat) (zopMany : Nat) (zisCores : Nat) (zisLocks : Nat) (zisBells : Nat) (ztName : Nat) (zall : Nat) (zrows : Nat) (zpicked : Nat) (zpileTask : Nat) (zpileLock : Nat) (zwas : Nat) (zbehind : Nat) (zriskRow : Nat) (zriskBest : Nat) (zcTick : Nat) (zcProcessor : Nat) (zcTask : Nat) (zgTick : Nat) (zgTask : Nat) (zgTold : Nat) (zgUntold : Nat) (zgRan : Nat) (zboxAll : Nat) (zboxRows : Nat) (zisBoxed : Nat) (x1 : Int32) : Met l yX11_soon wsX11_soon ({ frames := 2, cells := 0, slots := 0, locals := 43 }) (PC [.ref h0, .int x1] sz D ca [(h0, .inr (11, [.ref ztape, .ref ztext, .int 0, .int 0, .int 0, .int (-1), .int 0, .int 0, .int 0, .int 0, .long 0, .ref zcores, .ref zlocks, .ref zbells, .ref ztasks, .ref zops, .ref zopSort, .ref zopNumber, .ref zkind, .ref zevery, .ref zbudget, .ref zshareTold, .ref zfirstOp, .ref zopMany, .ref zisCores, .ref zisLocks, .ref zisBells, .ref ztName, .int 0, .int 0, .ref zall, .ref zrows, .ref zpicked, .ref zpileTask, .ref zpileLock, .int 0, .ref zwas, .ref zbehind, .ref zriskRow, .ref zriskBest, .int 0, .ref zcTick, .ref zcProcessor, .ref zcTask, .int 0, .ref zgTick, .ref zgTask, .ref zgTold, .ref zgUntold, .ref zgRan, .int 0, .int 0, .ref zboxAll, .ref zboxRows, .ref zisBoxed])), (ztasks, .inl (ca 1, 2, .inl (fun _ => 0)))]) (QI (fun (r : Int32) (u : Unit) => r = (-1)) (fun (_ : Unit) => []) [(h0, .inr (11, [.ref ztape, .ref ztext, .int 0, .int 0, .int 0, .int (-1), .int 0, .int 0, .int 0, .int 0, .long 0, .ref zcores, .ref zlocks, .ref zbells, .ref ztasks, .ref zops, .ref zopSort, .ref zopNumber, .ref zkind, .ref zevery, .ref zbudget, .ref zshareTold, .ref zfirstOp, .ref zopMany, .ref zisCores, .ref zisLocks, .ref zisBells, .ref ztName, .int 0, .int 0, .ref zall, .ref zrows, .ref zpicked, .ref zpileTask, .ref zpileLock, .int 0, .ref zwas, .ref zbehind, .ref zriskRow, .ref zriskBest, .int 0, .ref zcTick, .ref zcProcessor, .ref zcTask, .int 0, .ref zgTick, .ref zgTask, .ref zgTold, .ref zgUntold, .ref zgRan, .int 0, .int 0, .ref zboxAll, .ref zboxRows, .ref zisBoxed])), (ztasks, .inl (ca 1, 2, .inl (fun _ => 0)))] sz D) 0 0 (va_A [(h0, .inr (11, [.ref ztape, .ref ztext, .int 0, .int 0, .int 0, .int (-1), .int 0, .int 0, .int 0, .int 0, .long 0, .ref zcores, .ref zlocks, .ref zbells, .ref ztasks, .ref zops, .ref zopSort, .ref zopNumber, .ref zkind, .ref zevery, .ref zbudget, .ref zshareTold, .ref zfirstOp, .ref zopMany, .ref zisCores, .ref zisLocks, .ref zisBells, .ref ztName, .int 0, .int 0, .ref zall, .ref zrows, .ref zpicked, .ref zpileTask, .ref zpileLock, .int 0, .ref zwas, .ref zbehind, .ref zriskRow, .ref zriskBest, .int 0, .ref zcTick, .ref zcProcessor, .ref zcTask, .int 0, .ref zgTick, .ref zgTask, .ref zgTold, .ref zgUntold, .ref zgRan, .int 0, .int 0, .ref zboxAll, .ref zboxRows, .ref zisBoxed])), (ztasks, .inl (ca 1, 2, .inl (fun _ => 0)))] sz) := by
  refine Met.ofW (cc := cX11_soon) (maxL := 4) (ret := (some .int)) (by decide +kernel) rfl ?_
  intro p e s m args below meth c s₁ B hml hv
  obtain ⟨rfl, hsz, hP, hC, hD0⟩ := hv
  have hx := B.exec
  have hb := B.bytes
  have hr := B.returns
  have hts := atoms_spec (ws := wsX11_soon) B.pre
  have hown : s.vm.findClass RX11 = some m.cls := findClass_of_methodNamed B.named
  have hlocks := B.notSynchronized
  subst hsz
  have hD := hD0.self (sz := s.heap.size)
  dsimp only [QV, QI, QL, BQ]
  generalize hAe : va_A [(h0, .inr (11, [.ref ztape, .ref ztext, .int 0, .int 0, .int 0, .int (-1), .int 0, .int 0, .int 0, .int 0, .long 0, .ref zcores, .ref zlocks, .ref zbells, .ref ztasks, .ref zops, .ref zopSort, .ref zopNumber, .ref zkind, .ref zevery, .ref zbudget, .ref zshareTold, .ref zfirstOp, .ref zopMany, .ref zisCores, .ref zisLocks, .ref zisBells, .ref ztName, .int 0, .int 0, .ref zall, .ref zrows, .ref zpicked, .ref zpileTask, .ref zpileLock, .int 0, .ref zwas, .ref zbehind, .ref zriskRow, .ref zriskBest, .int 0, .ref zcTick, .ref zcProcessor, .ref zcTask, .int 0, .ref zgTick, .ref zgTask, .ref zgTold, .ref zgUntold, .ref zgRan, .int 0, .int 0, .ref zboxAll, .ref zboxRows, .ref zisBoxed])), (ztasks, .inl (ca 1, 2, .inl (fun _ => 0)))] s.heap.size = A at hD ⊢
  have hA : ∀ q : Nat, s.heap.size ≤ q → A q := fun q h => by rw [← hAe]; exact Or.inr h
  have hDA : ∀ {w : va_W}, va_D A w → va_D (va_A [(h0, .inr (11, [.ref ztape, .ref ztext, .int 0, .int 0, .int 0, .int (-1), .int 0, .int 0, .int 0, .int 0, .long 0, .ref zcores, .ref zlocks, .ref zbells, .ref ztasks, .ref zops, .ref zopSort, .ref zopNumber, .ref zkind, .ref zevery, .ref zbudget, .ref zshareTold, .ref zfirstOp, .ref zopMany, .ref zisCores, .ref zisLocks, .ref zisBells, .ref ztName, .int 0, .int 0, .ref zall, .ref zrows, .ref zpicked, .ref zpileTask, .ref zpileLock, .int 0, .ref zwas, .ref zbehind, .ref zriskRow, .ref zriskBest, .int 0, .ref zcTick, .ref zcProcessor, .ref zcTask, .int 0, .ref zgTick, .ref zgTask, .ref zgTold, .ref zgUntold, .ref zgRan, .int 0, .int 0, .ref zboxAll, .ref zboxRows, .ref zisBoxed])), (ztasks, .inl (ca 1, 2, .inl (fun _ => 0)))] s.heap.size) w := fun h => by rw [hAe]; exact h
  have hS : va_S A s.heap s.heap [] := va_S.rf
  have hP : va_P D vwCl [(h0, .inr (11, [.ref ztape, .ref ztext, .int 0, .int 0, .int 0, .int (-1), .int 0, .int 0, .int 0, .int 0, .long 0, .ref zcores, .ref zlocks, .ref zbells, .ref ztasks, .ref zops, .ref zopSort, .ref zopNumber, .ref zkind, .ref zevery, .ref zbudget, .ref zshareTold, .ref zfirstOp, .ref zopMany, .ref zisCores, .ref zisLocks, .ref zisBells, .ref ztName, .int 0, .int 0, .ref zall, .ref zrows, .ref zpicked, .ref zpileTask, .ref zpileLock, .int 0, .ref zwas, .ref zbehind, .ref zriskRow, .ref zriskBest, .int 0, .ref zcTick, .ref zcProcessor, .ref zcTask, .int 0, .ref zgTick, .ref zgTask, .ref zgTold, .ref zgUntold, .ref zgRan, .int 0, .int 0, .ref zboxAll, .ref zboxRows, .ref zisBoxed])), (ztasks, .inl (ca 1, 2, .inl (fun _ => 0)))] s.heap := hP
  have hl := lv_entry ([.ref h0, .int x1]) (n := 4) (Nat.le_of_ble_eq_true rfl)
  rw [lg_entry_eq]
  generalize (lg_sl ([.ref h0, .int x1]) ++ List.replicate (4 - (lg_sl ([.ref h0, .int x1])).length) Slot.unset).toArray = ls at hl ⊢
  have hl : lv_has ls 4 [(0, .ref h0), (1, .int x1)] := hl
  refine lv_aload_n hx hb dX11_soon_0 rfl (lv_at hl 0 rfl) ?_
  refine lv_iload_n hx hb dX11_soon_1 rfl (lv_at hl 1 rfl) ?_
  refine kc_i (wr := []) (va_runV (As := [.int x1]) (rest := []) ⟨hx, hb, hml, hown, hts⟩ (k_X11_isTask l D ca s.heap.size h0 ztape ztext zcores zlocks zbells ztasks zops zopSort zopNumber zkind zevery zbudget zshareTold zfirstOp zopMany zisCores zisLocks zisBells ztName zall zrows zpicked zpileTask zpileLock zwas zbehind zriskRow zriskBest zcTick zcProcessor zcTask zgTick zgTask zgTold zgUntold zgRan zboxAll zboxRows zisBoxed 0 0 0 (-1) 0 0 0 0 0 0 0 0 0 0 0 x1) (cwV 1 hts gX11_soon_X11_isTask rfl rfl rfl (by decide +kernel) ⟨(Nat.le_of_ble_eq_true rfl), (Nat.le_of_ble_eq_true rfl)⟩) (PC.preV (ci := 11) hC hP hD [0, 1] rfl (by decide +kernel) rfl rfl) rfl rfl hl.1 rfl (lv_room (Nat.le_of_ble_eq_true rfl)) dX11_soon_2 ⟨(Nat.le_of_ble_eq_true rfl), (Nat.le_of_ble_eq_true rfl)⟩) hP hD hS hA [0, 1] [] rfl rfl (by decide +kernel) (by decide +kernel) (fun r_1 u_3 H locs hw_2 hP hD hS => ?_)
  subst hw_2
  have hP : va_P D vwCl [(h0, .inr (11, [.ref ztape, .ref ztext, .int 0, .int 0, .int 0, .int (-1), .int 0, .int 0, .int 0, .int 0, .long 0, .ref zcores, .ref zlocks, .ref zbells, .ref ztasks, .ref zops, .ref zopSort, .ref zopNumber, .ref zkind, .ref zevery, .ref zbudget, .ref zshareTold, .ref zfirstOp, .ref zopMany, .ref zisCores, .ref zisLocks, .ref zisBells, .ref ztName, .int 0, .int 0, .ref zall, .ref zrows, .ref zpicked, .ref zpileTask, .ref zpileLock, .int 0, .ref zwas, .ref zbehind, .ref zriskRow, .ref zriskBest, .int 0, .ref zcTick, .ref zcProcessor, .ref zcTask, .int 0, .ref zgTick, .ref zgTask, .ref zgTold, .ref zgUntold, .ref zgRan, .int 0, .int 0, .ref zboxAll, .ref zboxRows, .ref zisBoxed])), (ztasks, .inl (ca 1, 2, .inl (fun _ => 0)))] H := hP
  have hD : va_D A [(h0, .inr (11, [.ref ztape, .ref ztext, .int 0, .int 0, .int 0, .int (-1), .int 0, .int 0, .int 0, .int 0, .long 0, .ref zcores, .ref zlocks, .ref zbells, .ref ztasks, .ref zops, .ref zopSort, .ref zopNumber, .ref zkind, .ref zevery, .ref zbudget, .ref zshareTold, .ref zfirstOp, .ref zopMany, .ref zisCores, .ref zisLocks, .ref zisBells, .ref ztName, .int 0, .int 0, .ref zall, .ref zrows, .ref zpicked, .ref zpileTask, .ref zpileLock, .int 0, .ref zwas, .ref zbehind, .ref zriskRow, .ref zriskBest, .int 0, .ref zcTick, .ref zcProcessor, .ref zcTask, .int 0, .ref zgTick, .ref zgTask, .ref zgTold, .ref zgUntold, .ref zgRan, .int 0, .int 0, .ref zboxAll, .ref zboxRows, .ref zisBoxed])), (ztasks, .inl (ca 1, 2, .inl (fun _ => 0)))] := hD
  refine lv_if_eq (tgt := 16) hx hb dX11_soon_5 (by decide +kernel) (fun c_4 => ?_) (fun c_4 => absurd (by decide +kernel) c_4)
  refine lv_iconst (v := (-1)) hx hb dX11_soon_16 (by decide +kernel) ?_
  exact W.iret (v := (-1)) hx hb hr (fun t ht hW => ⟨⟨(-1), (), rfl, rfl, by rw [ht]; exact hP.sub [] rfl, hDA (hD.sub [] (by decide +kernel) rfl)⟩, hS.F ht⟩) hS.2.2 dX11_soon_17
set_option maxHeartbeats 4000000 in
set_option maxRecDepth 100000 in
theorem k_X11_enough (l : Launch) (D : va_G) (ca : Nat → ClassId) (sz : Nat) (h0 : Nat) (ztape : Nat) (ztext : Nat) (zcores : Nat) (zlocks : Nat) (zbells : Nat) (ztasks : Nat) (zops : Nat) (zopSort : Nat) (zopNumber : Nat) (zkind : Nat) (zevery : Nat) (zbudget : Nat) (zshareTold : Nat) (zfirstOp : Nat) (zopMany : Nat) (zisCores : Nat) (zisLocks : Nat) (zisBells : Nat) (ztName : Nat) (zall : Nat) (zrows : Nat) (zpicked : Nat) (zpileTask : Nat) (zpileLock : Nat) (zwas : Nat) (zbehind : Nat) (zriskRow : Nat) (zriskBest : Nat) (zcTick : Nat) (zcProcessor : Nat) (zcTask : Nat) (zgTick : Nat) (zgTask : Nat) (zgTold : Nat) (zgUntold : Nat) (zgRan : Nat) (zboxAll : Nat) (zboxRows : Nat) (zisBoxed : Nat) (x1 : Int32) (x2 : Int32) : Met l yX11_enough wsX11_enough ({ frames := 2, cells := 0, slots := 0, locals := 43 }) (PC [.ref h0, .int x1, .int x2] sz D ca [(h0, .inr (11, [.ref ztape, .ref ztext, .int 0, .int 0, .int 0, .int (-1), .int 0, .int 0, .int 0, .int 0, .long 0, .ref zcores, .ref zlocks, .ref zbells, .ref ztasks, .ref zops, .ref zopSort, .ref zopNumber, .ref zkind, .ref zevery, .ref zbudget, .ref zshareTold, .ref zfirstOp, .ref zopMany, .ref zisCores, .ref zisLocks, .ref zisBells, .ref ztName, .int 0, .int 0, .ref zall, .ref zrows, .ref zpicked, .ref zpileTask, .ref zpileLock, .int 0, .ref zwas, .ref zbehind, .ref zriskRow, .ref zriskBest, .int 0, .ref zcTick, .ref zcProcessor, .ref zcTask, .int 0, .ref zgTick, .ref zgTask, .ref zgTold, .ref zgUntold, .ref zgRan, .int 0, .int 0, .ref zboxAll, .ref zboxRows, .ref zisBoxed])), (ztasks, .inl (ca 1, 2, .inl (fun _ => 0)))]) (QI (fun (r : Int32) (u : Unit) => r = (-1)) (fun (_ : Unit) => []) [(h0, .inr (11, [.ref ztape, .ref ztext, .int 0, .int 0, .int 0, .int (-1), .int 0, .int 0, .int 0, .int 0, .long 0, .ref zcores, .ref zlocks, .ref zbells, .ref ztasks, .ref zops, .ref zopSort, .ref zopNumber, .ref zkind, .ref zevery, .ref zbudget, .ref zshareTold, .ref zfirstOp, .ref zopMany, .ref zisCores, .ref zisLocks, .ref zisBells, .ref ztName, .int 0, .int 0, .ref zall, .ref zrows, .ref zpicked, .ref zpileTask, .ref zpileLock, .int 0, .ref zwas, .ref zbehind, .ref zriskRow, .ref zriskBest, .int 0, .ref zcTick, .ref zcProcessor, .ref zcTask, .int 0, .ref zgTick, .ref zgTask, .ref zgTold, .ref zgUntold, .ref zgRan, .int 0, .int 0, .ref zboxAll, .ref zboxRows, .ref zisBoxed])), (ztasks, .inl (ca 1, 2, .inl (fun _ => 0)))] sz D) 0 0 (va_A [(h0, .inr (11, [.ref ztape, .ref ztext, .int 0, .int 0, .int 0, .int (-1), .int 0, .int 0, .int 0, .int 0, .long 0, .ref zcores, .ref zlocks, .ref zbells, .ref ztasks, .ref zops, .ref zopSort, .ref zopNumber, .ref zkind, .ref zevery, .ref zbudget, .ref zshareTold, .ref zfirstOp, .ref zopMany, .ref zisCores, .ref zisLocks, .ref zisBells, .ref ztName, .int 0, .int 0, .ref zall, .ref zrows, .ref zpicked, .ref zpileTask, .ref zpileLock, .int 0, .ref zwas, .ref zbehind, .ref zriskRow, .ref zriskBest, .int 0, .ref zcTick, .ref zcProcessor, .ref zcTask, .int 0, .ref zgTick, .ref zgTask, .ref zgTold, .ref zgUntold, .ref zgRan, .int 0, .int 0, .ref zboxAll, .ref zboxRows, .ref zisBoxed])), (ztasks, .inl (ca 1, 2, .inl (fun _ => 0)))] sz) := by
  refine Met.ofW (cc := cX11_enough) (maxL := 6) (ret := (some .int)) (by decide +kernel) rfl ?_
  intro p e s m args below meth c s₁ B hml hv
  obtain ⟨rfl, hsz, hP, hC, hD0⟩ := hv
  have hx := B.exec
  have hb := B.bytes
  have hr := B.returns
  have hts := atoms_spec (ws := wsX11_enough) B.pre
  have hown : s.vm.findClass RX11 = some m.cls := findClass_of_methodNamed B.named
  have hlocks := B.notSynchronized
  subst hsz
  have hD := hD0.self (sz := s.heap.size)
  dsimp only [QV, QI, QL, BQ]
  generalize hAe : va_A [(h0, .inr (11, [.ref ztape, .ref ztext, .int 0, .int 0, .int 0, .int (-1), .int 0, .int 0, .int 0, .int 0, .long 0, .ref zcores, .ref zlocks, .ref zbells, .ref ztasks, .ref zops, .ref zopSort, .ref zopNumber, .ref zkind, .ref zevery, .ref zbudget, .ref zshareTold, .ref zfirstOp, .ref zopMany, .ref zisCores, .ref zisLocks, .ref zisBells, .ref ztName, .int 0, .int 0, .ref zall, .ref zrows, .ref zpicked, .ref zpileTask, .ref zpileLock, .int 0, .ref zwas, .ref zbehind, .ref zriskRow, .ref zriskBest, .int 0, .ref zcTick, .ref zcProcessor, .ref zcTask, .int 0, .ref zgTick, .ref zgTask, .ref zgTold, .ref zgUntold, .ref zgRan, .int 0, .int 0, .ref zboxAll, .ref zboxRows, .ref zisBoxed])), (ztasks, .inl (ca 1, 2, .inl (fun _ => 0)))] s.heap.size = A at hD ⊢
  have hA : ∀ q : Nat, s.heap.size ≤ q → A q := fun q h => by rw [← hAe]; exact Or.inr h
  have hDA : ∀ {w : va_W}, va_D A w → va_D (va_A [(h0, .inr (11, [.ref ztape, .ref ztext, .int 0, .int 0, .int 0, .int (-1), .int 0, .int 0, .int 0, .int 0, .long 0, .ref zcores, .ref zlocks, .ref zbells, .ref ztasks, .ref zops, .ref zopSort, .ref zopNumber, .ref zkind, .ref zevery, .ref zbudget, .ref zshareTold, .ref zfirstOp, .ref zopMany, .ref zisCores, .ref zisLocks, .ref zisBells, .ref ztName, .int 0, .int 0, .ref zall, .ref zrows, .ref zpicked, .ref zpileTask, .ref zpileLock, .int 0, .ref zwas, .ref zbehind, .ref zriskRow, .ref zriskBest, .int 0, .ref zcTick, .ref zcProcessor, .ref zcTask, .int 0, .ref zgTick, .ref zgTask, .ref zgTold, .ref zgUntold, .ref zgRan, .int 0, .int 0, .ref zboxAll, .ref zboxRows, .ref zisBoxed])), (ztasks, .inl (ca 1, 2, .inl (fun _ => 0)))] s.heap.size) w := fun h => by rw [hAe]; exact h
  have hS : va_S A s.heap s.heap [] := va_S.rf
  have hP : va_P D vwCl [(h0, .inr (11, [.ref ztape, .ref ztext, .int 0, .int 0, .int 0, .int (-1), .int 0, .int 0, .int 0, .int 0, .long 0, .ref zcores, .ref zlocks, .ref zbells, .ref ztasks, .ref zops, .ref zopSort, .ref zopNumber, .ref zkind, .ref zevery, .ref zbudget, .ref zshareTold, .ref zfirstOp, .ref zopMany, .ref zisCores, .ref zisLocks, .ref zisBells, .ref ztName, .int 0, .int 0, .ref zall, .ref zrows, .ref zpicked, .ref zpileTask, .ref zpileLock, .int 0, .ref zwas, .ref zbehind, .ref zriskRow, .ref zriskBest, .int 0, .ref zcTick, .ref zcProcessor, .ref zcTask, .int 0, .ref zgTick, .ref zgTask, .ref zgTold, .ref zgUntold, .ref zgRan, .int 0, .int 0, .ref zboxAll, .ref zboxRows, .ref zisBoxed])), (ztasks, .inl (ca 1, 2, .inl (fun _ => 0)))] s.heap := hP
  have hl := lv_entry ([.ref h0, .int x1, .int x2]) (n := 6) (Nat.le_of_ble_eq_true rfl)
  rw [lg_entry_eq]
  generalize (lg_sl ([.ref h0, .int x1, .int x2]) ++ List.replicate (6 - (lg_sl ([.ref h0, .int x1, .int x2])).length) Slot.unset).toArray = ls at hl ⊢
  have hl : lv_has ls 6 [(0, .ref h0), (1, .int x1), (2, .int x2)] := hl
  refine lv_aload_n hx hb dX11_enough_0 rfl (lv_at hl 0 rfl) ?_
  refine lv_iload_n hx hb dX11_enough_1 rfl (lv_at hl 1 rfl) ?_
  refine kc_i (wr := []) (va_runV (As := [.int x1]) (rest := []) ⟨hx, hb, hml, hown, hts⟩ (k_X11_isTask l D ca s.heap.size h0 ztape ztext zcores zlocks zbells ztasks zops zopSort zopNumber zkind zevery zbudget zshareTold zfirstOp zopMany zisCores zisLocks zisBells ztName zall zrows zpicked zpileTask zpileLock zwas zbehind zriskRow zriskBest zcTick zcProcessor zcTask zgTick zgTask zgTold zgUntold zgRan zboxAll zboxRows zisBoxed 0 0 0 (-1) 0 0 0 0 0 0 0 0 0 0 0 x1) (cwV 1 hts gX11_enough_X11_isTask rfl rfl rfl (by decide +kernel) ⟨(Nat.le_of_ble_eq_true rfl), (Nat.le_of_ble_eq_true rfl)⟩) (PC.preV (ci := 11) hC hP hD [0, 1] rfl (by decide +kernel) rfl rfl) rfl rfl hl.1 rfl (lv_room (Nat.le_of_ble_eq_true rfl)) dX11_enough_2 ⟨(Nat.le_of_ble_eq_true rfl), (Nat.le_of_ble_eq_true rfl)⟩) hP hD hS hA [0, 1] [] rfl rfl (by decide +kernel) (by decide +kernel) (fun r_1 u_3 H locs hw_2 hP hD hS => ?_)
  subst hw_2
  have hP : va_P D vwCl [(h0, .inr (11, [.ref ztape, .ref ztext, .int 0, .int 0, .int 0, .int (-1), .int 0, .int 0, .int 0, .int 0, .long 0, .ref zcores, .ref zlocks, .ref zbells, .ref ztasks, .ref zops, .ref zopSort, .ref zopNumber, .ref zkind, .ref zevery, .ref zbudget, .ref zshareTold, .ref zfirstOp, .ref zopMany, .ref zisCores, .ref zisLocks, .ref zisBells, .ref ztName, .int 0, .int 0, .ref zall, .ref zrows, .ref zpicked, .ref zpileTask, .ref zpileLock, .int 0, .ref zwas, .ref zbehind, .ref zriskRow, .ref zriskBest, .int 0, .ref zcTick, .ref zcProcessor, .ref zcTask, .int 0, .ref zgTick, .ref zgTask, .ref zgTold, .ref zgUntold, .ref zgRan, .int 0, .int 0, .ref zboxAll, .ref zboxRows, .ref zisBoxed])), (ztasks, .inl (ca 1, 2, .inl (fun _ => 0)))] H := hP
  have hD : va_D A [(h0, .inr (11, [.ref ztape, .ref ztext, .int 0, .int 0, .int 0, .int (-1), .int 0, .int 0, .int 0, .int 0, .long 0, .ref zcores, .ref zlocks, .ref zbells, .ref ztasks, .ref zops, .ref zopSort, .ref zopNumber, .ref zkind, .ref zevery, .ref zbudget, .ref zshareTold, .ref zfirstOp, .ref zopMany, .ref zisCores, .ref zisLocks, .ref zisBells, .ref ztName, .int 0, .int 0, .ref zall, .ref zrows, .ref zpicked, .ref zpileTask, .ref zpileLock, .int 0, .ref zwas, .ref zbehind, .ref zriskRow, .ref zriskBest, .int 0, .ref zcTick, .ref zcProcessor, .ref zcTask, .int 0, .ref zgTick, .ref zgTask, .ref zgTold, .ref zgUntold, .ref zgRan, .int 0, .int 0, .ref zboxAll, .ref zboxRows, .ref zisBoxed])), (ztasks, .inl (ca 1, 2, .inl (fun _ => 0)))] := hD
  refine lv_if_eq (tgt := 28) hx hb dX11_enough_5 (by decide +kernel) (fun c_4 => ?_) (fun c_4 => absurd (by decide +kernel) c_4)
  refine lv_iconst (v := (-1)) hx hb dX11_enough_28 (by decide +kernel) ?_
  exact W.iret (v := (-1)) hx hb hr (fun t ht hW => ⟨⟨(-1), (), rfl, rfl, by rw [ht]; exact hP.sub [] rfl, hDA (hD.sub [] (by decide +kernel) rfl)⟩, hS.F ht⟩) hS.2.2 dX11_enough_29
set_option maxHeartbeats 4000000 in
set_option maxRecDepth 100000 in
theorem k_X11_fits (l : Launch) (D : va_G) (ca : Nat → ClassId) (sz : Nat) (h0 : Nat) (ztape : Nat) (ztext : Nat) (zcores : Nat) (zlocks : Nat) (zbells : Nat) (ztasks : Nat) (zops : Nat) (zopSort : Nat) (zopNumber : Nat) (zkind : Nat) (zevery : Nat) (zbudget : Nat) (zshareTold : Nat) (zfirstOp : Nat) (zopMany : Nat) (zisCores : Nat) (zisLocks : Nat) (zisBells : Nat) (ztName : Nat) (zall : Nat) (zrows : Nat) (zpicked : Nat) (zpileTask : Nat) (zpileLock : Nat) (zwas : Nat) (zbehind : Nat) (zriskRow : Nat) (zriskBest : Nat) (zcTick : Nat) (zcProcessor : Nat) (zcTask : Nat) (zgTick : Nat) (zgTask : Nat) (zgTold : Nat) (zgUntold : Nat) (zgRan : Nat) (zboxAll : Nat) (zboxRows : Nat) (zisBoxed : Nat) (x1 : Int32) (x2 : Int32) : Met l yX11_fits wsX11_fits ({ frames := 2, cells := 0, slots := 0, locals := 43 }) (PC [.ref h0, .int x1, .int x2] sz D ca [(h0, .inr (11, [.ref ztape, .ref ztext, .int 0, .int 0, .int 0, .int (-1), .int 0, .int 0, .int 0, .int 0, .long 0, .ref zcores, .ref zlocks, .ref zbells, .ref ztasks, .ref zops, .ref zopSort, .ref zopNumber, .ref zkind, .ref zevery, .ref zbudget, .ref zshareTold, .ref zfirstOp, .ref zopMany, .ref zisCores, .ref zisLocks, .ref zisBells, .ref ztName, .int 0, .int 0, .ref zall, .ref zrows, .ref zpicked, .ref zpileTask, .ref zpileLock, .int 0, .ref zwas, .ref zbehind, .ref zriskRow, .ref zriskBest, .int 0, .ref zcTick, .ref zcProcessor, .ref zcTask, .int 0, .ref zgTick, .ref zgTask, .ref zgTold, .ref zgUntold, .ref zgRan, .int 0, .int 0, .ref zboxAll, .ref zboxRows, .ref zisBoxed])), (ztasks, .inl (ca 1, 2, .inl (fun _ => 0)))]) (QL (fun (r : Int64) (u : Unit) => r = (-1)) (fun (_ : Unit) => []) [(h0, .inr (11, [.ref ztape, .ref ztext, .int 0, .int 0, .int 0, .int (-1), .int 0, .int 0, .int 0, .int 0, .long 0, .ref zcores, .ref zlocks, .ref zbells, .ref ztasks, .ref zops, .ref zopSort, .ref zopNumber, .ref zkind, .ref zevery, .ref zbudget, .ref zshareTold, .ref zfirstOp, .ref zopMany, .ref zisCores, .ref zisLocks, .ref zisBells, .ref ztName, .int 0, .int 0, .ref zall, .ref zrows, .ref zpicked, .ref zpileTask, .ref zpileLock, .int 0, .ref zwas, .ref zbehind, .ref zriskRow, .ref zriskBest, .int 0, .ref zcTick, .ref zcProcessor, .ref zcTask, .int 0, .ref zgTick, .ref zgTask, .ref zgTold, .ref zgUntold, .ref zgRan, .int 0, .int 0, .ref zboxAll, .ref zboxRows, .ref zisBoxed])), (ztasks, .inl (ca 1, 2, .inl (fun _ => 0)))] sz D) 0 0 (va_A [(h0, .inr (11, [.ref ztape, .ref ztext, .int 0, .int 0, .int 0, .int (-1), .int 0, .int 0, .int 0, .int 0, .long 0, .ref zcores, .ref zlocks, .ref zbells, .ref ztasks, .ref zops, .ref zopSort, .ref zopNumber, .ref zkind, .ref zevery, .ref zbudget, .ref zshareTold, .ref zfirstOp, .ref zopMany, .ref zisCores, .ref zisLocks, .ref zisBells, .ref ztName, .int 0, .int 0, .ref zall, .ref zrows, .ref zpicked, .ref zpileTask, .ref zpileLock, .int 0, .ref zwas, .ref zbehind, .ref zriskRow, .ref zriskBest, .int 0, .ref zcTick, .ref zcProcessor, .ref zcTask, .int 0, .ref zgTick, .ref zgTask, .ref zgTold, .ref zgUntold, .ref zgRan, .int 0, .int 0, .ref zboxAll, .ref zboxRows, .ref zisBoxed])), (ztasks, .inl (ca 1, 2, .inl (fun _ => 0)))] sz) := by
  refine Met.ofW (cc := cX11_fits) (maxL := 8) (ret := (some .long)) (by decide +kernel) rfl ?_
  intro p e s m args below meth c s₁ B hml hv
  obtain ⟨rfl, hsz, hP, hC, hD0⟩ := hv
  have hx := B.exec
  have hb := B.bytes
  have hr := B.returns
  have hts := atoms_spec (ws := wsX11_fits) B.pre
  have hown : s.vm.findClass RX11 = some m.cls := findClass_of_methodNamed B.named
  have hlocks := B.notSynchronized
  subst hsz
  have hD := hD0.self (sz := s.heap.size)
  dsimp only [QV, QI, QL, BQ]
  generalize hAe : va_A [(h0, .inr (11, [.ref ztape, .ref ztext, .int 0, .int 0, .int 0, .int (-1), .int 0, .int 0, .int 0, .int 0, .long 0, .ref zcores, .ref zlocks, .ref zbells, .ref ztasks, .ref zops, .ref zopSort, .ref zopNumber, .ref zkind, .ref zevery, .ref zbudget, .ref zshareTold, .ref zfirstOp, .ref zopMany, .ref zisCores, .ref zisLocks, .ref zisBells, .ref ztName, .int 0, .int 0, .ref zall, .ref zrows, .ref zpicked, .ref zpileTask, .ref zpileLock, .int 0, .ref zwas, .ref zbehind, .ref zriskRow, .ref zriskBest, .int 0, .ref zcTick, .ref zcProcessor, .ref zcTask, .int 0, .ref zgTick, .ref zgTask, .ref zgTold, .ref zgUntold, .ref zgRan, .int 0, .int 0, .ref zboxAll, .ref zboxRows, .ref zisBoxed])), (ztasks, .inl (ca 1, 2, .inl (fun _ => 0)))] s.heap.size = A at hD ⊢
  have hA : ∀ q : Nat, s.heap.size ≤ q → A q := fun q h => by rw [← hAe]; exact Or.inr h
  have hDA : ∀ {w : va_W}, va_D A w → va_D (va_A [(h0, .inr (11, [.ref ztape, .ref ztext, .int 0, .int 0, .int 0, .int (-1), .int 0, .int 0, .int 0, .int 0, .long 0, .ref zcores, .ref zlocks, .ref zbells, .ref ztasks, .ref zops, .ref zopSort, .ref zopNumber, .ref zkind, .ref zevery, .ref zbudget, .ref zshareTold, .ref zfirstOp, .ref zopMany, .ref zisCores, .ref zisLocks, .ref zisBells, .ref ztName, .int 0, .int 0, .ref zall, .ref zrows, .ref zpicked, .ref zpileTask, .ref zpileLock, .int 0, .ref zwas, .ref zbehind, .ref zriskRow, .ref zriskBest, .int 0, .ref zcTick, .ref zcProcessor, .ref zcTask, .int 0, .ref zgTick, .ref zgTask, .ref zgTold, .ref zgUntold, .ref zgRan, .int 0, .int 0, .ref zboxAll, .ref zboxRows, .ref zisBoxed])), (ztasks, .inl (ca 1, 2, .inl (fun _ => 0)))] s.heap.size) w := fun h => by rw [hAe]; exact h
  have hS : va_S A s.heap s.heap [] := va_S.rf
  have hP : va_P D vwCl [(h0, .inr (11, [.ref ztape, .ref ztext, .int 0, .int 0, .int 0, .int (-1), .int 0, .int 0, .int 0, .int 0, .long 0, .ref zcores, .ref zlocks, .ref zbells, .ref ztasks, .ref zops, .ref zopSort, .ref zopNumber, .ref zkind, .ref zevery, .ref zbudget, .ref zshareTold, .ref zfirstOp, .ref zopMany, .ref zisCores, .ref zisLocks, .ref zisBells, .ref ztName, .int 0, .int 0, .ref zall, .ref zrows, .ref zpicked, .ref zpileTask, .ref zpileLock, .int 0, .ref zwas, .ref zbehind, .ref zriskRow, .ref zriskBest, .int 0, .ref zcTick, .ref zcProcessor, .ref zcTask, .int 0, .ref zgTick, .ref zgTask, .ref zgTold, .ref zgUntold, .ref zgRan, .int 0, .int 0, .ref zboxAll, .ref zboxRows, .ref zisBoxed])), (ztasks, .inl (ca 1, 2, .inl (fun _ => 0)))] s.heap := hP
  have hl := lv_entry ([.ref h0, .int x1, .int x2]) (n := 8) (Nat.le_of_ble_eq_true rfl)
  rw [lg_entry_eq]
  generalize (lg_sl ([.ref h0, .int x1, .int x2]) ++ List.replicate (8 - (lg_sl ([.ref h0, .int x1, .int x2])).length) Slot.unset).toArray = ls at hl ⊢
  have hl : lv_has ls 8 [(0, .ref h0), (1, .int x1), (2, .int x2)] := hl
  refine lv_aload_n hx hb dX11_fits_0 rfl (lv_at hl 0 rfl) ?_
  refine lv_iload_n hx hb dX11_fits_1 rfl (lv_at hl 1 rfl) ?_
  refine kc_i (wr := []) (va_runV (As := [.int x1]) (rest := []) ⟨hx, hb, hml, hown, hts⟩ (k_X11_isTask l D ca s.heap.size h0 ztape ztext zcores zlocks zbells ztasks zops zopSort zopNumber zkind zevery zbudget zshareTold zfirstOp zopMany zisCores zisLocks zisBells ztName zall zrows zpicked zpileTask zpileLock zwas zbehind zriskRow zriskBest zcTick zcProcessor zcTask zgTick zgTask zgTold zgUntold zgRan zboxAll zboxRows zisBoxed 0 0 0 (-1) 0 0 0 0 0 0 0 0 0 0 0 x1) (cwV 1 hts gX11_fits_X11_isTask rfl rfl rfl (by decide +kernel) ⟨(Nat.le_of_ble_eq_true rfl), (Nat.le_of_ble_eq_true rfl)⟩) (PC.preV (ci := 11) hC hP hD [0, 1] rfl (by decide +kernel) rfl rfl) rfl rfl hl.1 rfl (lv_room (Nat.le_of_ble_eq_true rfl)) dX11_fits_2 ⟨(Nat.le_of_ble_eq_true rfl), (Nat.le_of_ble_eq_true rfl)⟩) hP hD hS hA [0, 1] [] rfl rfl (by decide +kernel) (by decide +kernel) (fun r_1 u_3 H locs hw_2 hP hD hS => ?_)
  subst hw_2
  have hP : va_P D vwCl [(h0, .inr (11, [.ref ztape, .ref ztext, .int 0, .int 0, .int 0, .int (-1), .int 0, .int 0, .int 0, .int 0, .long 0, .ref zcores, .ref zlocks, .ref zbells, .ref ztasks, .ref zops, .ref zopSort, .ref zopNumber, .ref zkind, .ref zevery, .ref zbudget, .ref zshareTold, .ref zfirstOp, .ref zopMany, .ref zisCores, .ref zisLocks, .ref zisBells, .ref ztName, .int 0, .int 0, .ref zall, .ref zrows, .ref zpicked, .ref zpileTask, .ref zpileLock, .int 0, .ref zwas, .ref zbehind, .ref zriskRow, .ref zriskBest, .int 0, .ref zcTick, .ref zcProcessor, .ref zcTask, .int 0, .ref zgTick, .ref zgTask, .ref zgTold, .ref zgUntold, .ref zgRan, .int 0, .int 0, .ref zboxAll, .ref zboxRows, .ref zisBoxed])), (ztasks, .inl (ca 1, 2, .inl (fun _ => 0)))] H := hP
  have hD : va_D A [(h0, .inr (11, [.ref ztape, .ref ztext, .int 0, .int 0, .int 0, .int (-1), .int 0, .int 0, .int 0, .int 0, .long 0, .ref zcores, .ref zlocks, .ref zbells, .ref ztasks, .ref zops, .ref zopSort, .ref zopNumber, .ref zkind, .ref zevery, .ref zbudget, .ref zshareTold, .ref zfirstOp, .ref zopMany, .ref zisCores, .ref zisLocks, .ref zisBells, .ref ztName, .int 0, .int 0, .ref zall, .ref zrows, .ref zpicked, .ref zpileTask, .ref zpileLock, .int 0, .ref zwas, .ref zbehind, .ref zriskRow, .ref zriskBest, .int 0, .ref zcTick, .ref zcProcessor, .ref zcTask, .int 0, .ref zgTick, .ref zgTask, .ref zgTold, .ref zgUntold, .ref zgRan, .int 0, .int 0, .ref zboxAll, .ref zboxRows, .ref zisBoxed])), (ztasks, .inl (ca 1, 2, .inl (fun _ => 0)))] := hD
  refine lv_if_ne (tgt := 12) hx hb dX11_fits_5 (by decide +kernel) (fun c_4 => absurd (by decide +kernel) c_4) (fun c_4 => ?_)
  refine lv_ldc2 (v := (-1)) hx hb hown (hts (.constantLong RX11 374 (-1)) (by decide +kernel)) dX11_fits_8 ?_
  exact W.lret (v := (-1)) hx hb hr (fun t ht hW => ⟨⟨(-1), (), rfl, rfl, by rw [ht]; exact hP.sub [] rfl, hDA (hD.sub [] (by decide +kernel) rfl)⟩, hS.F ht⟩) hS.2.2 dX11_fits_11
theorem iw_X11_holder_11 : ∀ w ∈ u_ws RX11 TX11 55, w ∈ wsX11_holder := by decide +kernel
set_option maxHeartbeats 4000000 in
set_option maxRecDepth 100000 in
theorem k_X11_holder (l : Launch) (D : va_G) (ca : Nat → ClassId) (sz : Nat) (h0 : Nat) (ztape : Nat) (ztext : Nat) (zcores : Nat) (zlocks : Nat) (zbells : Nat) (ztasks : Nat) (zops : Nat) (zopSort : Nat) (zopNumber : Nat) (zkind : Nat) (zevery : Nat) (zbudget : Nat) (zshareTold : Nat) (zfirstOp : Nat) (zopMany : Nat) (zisCores : Nat) (zisLocks : Nat) (zisBells : Nat) (ztName : Nat) (zall : Nat) (zrows : Nat) (zpicked : Nat) (zpileTask : Nat) (zpileLock : Nat) (zwas : Nat) (zbehind : Nat) (zriskRow : Nat) (zriskBest : Nat) (zcTick : Nat) (zcProcessor : Nat) (zcTask : Nat) (zgTick : Nat) (zgTask : Nat) (zgTold : Nat) (zgUntold : Nat) (zgRan : Nat) (zboxAll : Nat) (zboxRows : Nat) (zisBoxed : Nat) (x1 : Int32) : Met l yX11_holder wsX11_holder ({ frames := 1, cells := 0, slots := 0, locals := 22 }) (PC [.ref h0, .int x1] sz D ca [(h0, .inr (11, [.ref ztape, .ref ztext, .int 0, .int 0, .int 0, .int (-1), .int 0, .int 0, .int 0, .int 0, .long 0, .ref zcores, .ref zlocks, .ref zbells, .ref ztasks, .ref zops, .ref zopSort, .ref zopNumber, .ref zkind, .ref zevery, .ref zbudget, .ref zshareTold, .ref zfirstOp, .ref zopMany, .ref zisCores, .ref zisLocks, .ref zisBells, .ref ztName, .int 0, .int 0, .ref zall, .ref zrows, .ref zpicked, .ref zpileTask, .ref zpileLock, .int 0, .ref zwas, .ref zbehind, .ref zriskRow, .ref zriskBest, .int 0, .ref zcTick, .ref zcProcessor, .ref zcTask, .int 0, .ref zgTick, .ref zgTask, .ref zgTold, .ref zgUntold, .ref zgRan, .int 0, .int 0, .ref zboxAll, .ref zboxRows, .ref zisBoxed])), (zlocks, .inl (ca 1, 2, .inl (fun _ => 0)))]) (QI (fun (r : Int32) (u : Unit) => r = (-1)) (fun (_ : Unit) => []) [(h0, .inr (11, [.ref ztape, .ref ztext, .int 0, .int 0, .int 0, .int (-1), .int 0, .int 0, .int 0, .int 0, .long 0, .ref zcores, .ref zlocks, .ref zbells, .ref ztasks, .ref zops, .ref zopSort, .ref zopNumber, .ref zkind, .ref zevery, .ref zbudget, .ref zshareTold, .ref zfirstOp, .ref zopMany, .ref zisCores, .ref zisLocks, .ref zisBells, .ref ztName, .int 0, .int 0, .ref zall, .ref zrows, .ref zpicked, .ref zpileTask, .ref zpileLock, .int 0, .ref zwas, .ref zbehind, .ref zriskRow, .ref zriskBest, .int 0, .ref zcTick, .ref zcProcessor, .ref zcTask, .int 0, .ref zgTick, .ref zgTask, .ref zgTold, .ref zgUntold, .ref zgRan, .int 0, .int 0, .ref zboxAll, .ref zboxRows, .ref zisBoxed])), (zlocks, .inl (ca 1, 2, .inl (fun _ => 0)))] sz D) 0 0 (va_A [(h0, .inr (11, [.ref ztape, .ref ztext, .int 0, .int 0, .int 0, .int (-1), .int 0, .int 0, .int 0, .int 0, .long 0, .ref zcores, .ref zlocks, .ref zbells, .ref ztasks, .ref zops, .ref zopSort, .ref zopNumber, .ref zkind, .ref zevery, .ref zbudget, .ref zshareTold, .ref zfirstOp, .ref zopMany, .ref zisCores, .ref zisLocks, .ref zisBells, .ref ztName, .int 0, .int 0, .ref zall, .ref zrows, .ref zpicked, .ref zpileTask, .ref zpileLock, .int 0, .ref zwas, .ref zbehind, .ref zriskRow, .ref zriskBest, .int 0, .ref zcTick, .ref zcProcessor, .ref zcTask, .int 0, .ref zgTick, .ref zgTask, .ref zgTold, .ref zgUntold, .ref zgRan, .int 0, .int 0, .ref zboxAll, .ref zboxRows, .ref zisBoxed])), (zlocks, .inl (ca 1, 2, .inl (fun _ => 0)))] sz) := by
  refine Met.ofW (cc := cX11_holder) (maxL := 2) (ret := (some .int)) (by decide +kernel) rfl ?_
  intro p e s m args below meth c s₁ B hml hv
  obtain ⟨rfl, hsz, hP, hC, hD0⟩ := hv
  have hx := B.exec
  have hb := B.bytes
  have hr := B.returns
  have hts := atoms_spec (ws := wsX11_holder) B.pre
  have hown : s.vm.findClass RX11 = some m.cls := findClass_of_methodNamed B.named
  have hlocks := B.notSynchronized
  subst hsz
  have hD := hD0.self (sz := s.heap.size)
  dsimp only [QV, QI, QL, BQ]
  generalize hAe : va_A [(h0, .inr (11, [.ref ztape, .ref ztext, .int 0, .int 0, .int 0, .int (-1), .int 0, .int 0, .int 0, .int 0, .long 0, .ref zcores, .ref zlocks, .ref zbells, .ref ztasks, .ref zops, .ref zopSort, .ref zopNumber, .ref zkind, .ref zevery, .ref zbudget, .ref zshareTold, .ref zfirstOp, .ref zopMany, .ref zisCores, .ref zisLocks, .ref zisBells, .ref ztName, .int 0, .int 0, .ref zall, .ref zrows, .ref zpicked, .ref zpileTask, .ref zpileLock, .int 0, .ref zwas, .ref zbehind, .ref zriskRow, .ref zriskBest, .int 0, .ref zcTick, .ref zcProcessor, .ref zcTask, .int 0, .ref zgTick, .ref zgTask, .ref zgTold, .ref zgUntold, .ref zgRan, .int 0, .int 0, .ref zboxAll, .ref zboxRows, .ref zisBoxed])), (zlocks, .inl (ca 1, 2, .inl (fun _ => 0)))] s.heap.size = A at hD ⊢
  have hA : ∀ q : Nat, s.heap.size ≤ q → A q := fun q h => by rw [← hAe]; exact Or.inr h
  have hDA : ∀ {w : va_W}, va_D A w → va_D (va_A [(h0, .inr (11, [.ref ztape, .ref ztext, .int 0, .int 0, .int 0, .int (-1), .int 0, .int 0, .int 0, .int 0, .long 0, .ref zcores, .ref zlocks, .ref zbells, .ref ztasks, .ref zops, .ref zopSort, .ref zopNumber, .ref zkind, .ref zevery, .ref zbudget, .ref zshareTold, .ref zfirstOp, .ref zopMany, .ref zisCores, .ref zisLocks, .ref zisBells, .ref ztName, .int 0, .int 0, .ref zall, .ref zrows, .ref zpicked, .ref zpileTask, .ref zpileLock, .int 0, .ref zwas, .ref zbehind, .ref zriskRow, .ref zriskBest, .int 0, .ref zcTick, .ref zcProcessor, .ref zcTask, .int 0, .ref zgTick, .ref zgTask, .ref zgTold, .ref zgUntold, .ref zgRan, .int 0, .int 0, .ref zboxAll, .ref zboxRows, .ref zisBoxed])), (zlocks, .inl (ca 1, 2, .inl (fun _ => 0)))] s.heap.size) w := fun h => by rw [hAe]; exact h
  have hS : va_S A s.heap s.heap [] := va_S.rf
  have hP : va_P D vwCl [(h0, .inr (11, [.ref ztape, .ref ztext, .int 0, .int 0, .int 0, .int (-1), .int 0, .int 0, .int 0, .int 0, .long 0, .ref zcores, .ref zlocks, .ref zbells, .ref ztasks, .ref zops, .ref zopSort, .ref zopNumber, .ref zkind, .ref zevery, .ref zbudget, .ref zshareTold, .ref zfirstOp, .ref zopMany, .ref zisCores, .ref zisLocks, .ref zisBells, .ref ztName, .int 0, .int 0, .ref zall, .ref zrows, .ref zpicked, .ref zpileTask, .ref zpileLock, .int 0, .ref zwas, .ref zbehind, .ref zriskRow, .ref zriskBest, .int 0, .ref zcTick, .ref zcProcessor, .ref zcTask, .int 0, .ref zgTick, .ref zgTask, .ref zgTold, .ref zgUntold, .ref zgRan, .int 0, .int 0, .ref zboxAll, .ref zboxRows, .ref zisBoxed])), (zlocks, .inl (ca 1, 2, .inl (fun _ => 0)))] s.heap := hP
  have hl := lv_entry ([.ref h0, .int x1]) (n := 2) (Nat.le_of_ble_eq_true rfl)
  rw [lg_entry_eq]
  generalize (lg_sl ([.ref h0, .int x1]) ++ List.replicate (2 - (lg_sl ([.ref h0, .int x1])).length) Slot.unset).toArray = ls at hl ⊢
  have hl : lv_has ls 2 [(0, .ref h0), (1, .int x1)] := hl
  refine lv_iload_n hx hb dX11_holder_0 rfl (lv_at hl 1 rfl) ?_
  refine lv_iconst (v := 0) hx hb dX11_holder_1 (by decide +kernel) ?_
  refine lv_aload_n hx hb dX11_holder_2 rfl (lv_at hl 0 rfl) ?_
  refine va_get (D := D) (ci := 11) (v := .ref zlocks) (C := RX11) (T := TX11) (N := 55) hx hb hts iw_X11_holder_11 hown hC.1 hP 0 rfl rfl 12 (by decide +kernel) (hts (.fieldLink RX11 24 "FairWheelModel" "locks" "[I") (by decide +kernel)) (fun _ h9 => h9) rfl dX11_holder_3 ?_
  refine lv_aload_n hx hb dX11_holder_6 rfl (lv_at hl 0 rfl) ?_
  refine va_get (D := D) (ci := 11) (v := .int 0) (C := RX11) (T := TX11) (N := 55) hx hb hts iw_X11_holder_11 hown hC.1 hP 0 rfl rfl 28 (by decide +kernel) (hts (.fieldLink RX11 244 "FairWheelModel" "bank" "I") (by decide +kernel)) (fun _ h9 => h9) rfl dX11_holder_7 ?_
  refine ka_iald hx hb hC.1 hP 1 1 rfl rfl 0 rfl (by decide +kernel) (by decide +kernel) dX11_holder_10 ?_
  refine nt_i 0 rfl ?_
  refine lv_iconst (v := 1) hx hb dX11_holder_11 (by decide +kernel) ?_
  refine lv_isub hx hb dX11_holder_12 ?_
  refine nt_i (-1) (by decide +kernel) ?_
  refine kc_i (wr := [(h0, .inr (11, [.ref ztape, .ref ztext, .int 0, .int 0, .int 0, .int (-1), .int 0, .int 0, .int 0, .int 0, .long 0, .ref zcores, .ref zlocks, .ref zbells, .ref ztasks, .ref zops, .ref zopSort, .ref zopNumber, .ref zkind, .ref zevery, .ref zbudget, .ref zshareTold, .ref zfirstOp, .ref zopMany, .ref zisCores, .ref zisLocks, .ref zisBells, .ref ztName, .int 0, .int 0, .ref zall, .ref zrows, .ref zpicked, .ref zpileTask, .ref zpileLock, .int 0, .ref zwas, .ref zbehind, .ref zriskRow, .ref zriskBest, .int 0, .ref zcTick, .ref zcProcessor, .ref zcTask, .int 0, .ref zgTick, .ref zgTask, .ref zgTold, .ref zgUntold, .ref zgRan, .int 0, .int 0, .ref zboxAll, .ref zboxRows, .ref zisBoxed])), (zlocks, .inl (ca 1, 2, .inl (fun _ => 0)))]) (va_runS (As := [.int x1, .int 0, .int (-1)]) (rest := []) ⟨hx, hb, hml, hown, hts⟩ (k_X11_isIn_0_m1 l D ca s.heap.size x1) (va_cwS 3 hts gX11_holder_X11_isIn rfl rfl rfl (by decide +kernel) ⟨(Nat.le_of_ble_eq_true rfl), (Nat.le_of_ble_eq_true rfl)⟩) (PC.preS hC hP hD [] rfl (by decide +kernel)) rfl rfl hl.1 rfl (lv_room (Nat.le_of_ble_eq_true rfl)) dX11_holder_13 ⟨(Nat.le_of_ble_eq_true rfl), (Nat.le_of_ble_eq_true rfl)⟩) hP hD hS hA [] [0, 1] rfl rfl (by decide +kernel) (by decide +kernel) (fun r_1 u_3 H locs hw_2 hP hD hS => ?_)
  subst hw_2
  have hP : va_P D vwCl [(h0, .inr (11, [.ref ztape, .ref ztext, .int 0, .int 0, .int 0, .int (-1), .int 0, .int 0, .int 0, .int 0, .long 0, .ref zcores, .ref zlocks, .ref zbells, .ref ztasks, .ref zops, .ref zopSort, .ref zopNumber, .ref zkind, .ref zevery, .ref zbudget, .ref zshareTold, .ref zfirstOp, .ref zopMany, .ref zisCores, .ref zisLocks, .ref zisBells, .ref ztName, .int 0, .int 0, .ref zall, .ref zrows, .ref zpicked, .ref zpileTask, .ref zpileLock, .int 0, .ref zwas, .ref zbehind, .ref zriskRow, .ref zriskBest, .int 0, .ref zcTick, .ref zcProcessor, .ref zcTask, .int 0, .ref zgTick, .ref zgTask, .ref zgTold, .ref zgUntold, .ref zgRan, .int 0, .int 0, .ref zboxAll, .ref zboxRows, .ref zisBoxed])), (zlocks, .inl (ca 1, 2, .inl (fun _ => 0)))] H := hP
  have hD : va_D A [(h0, .inr (11, [.ref ztape, .ref ztext, .int 0, .int 0, .int 0, .int (-1), .int 0, .int 0, .int 0, .int 0, .long 0, .ref zcores, .ref zlocks, .ref zbells, .ref ztasks, .ref zops, .ref zopSort, .ref zopNumber, .ref zkind, .ref zevery, .ref zbudget, .ref zshareTold, .ref zfirstOp, .ref zopMany, .ref zisCores, .ref zisLocks, .ref zisBells, .ref ztName, .int 0, .int 0, .ref zall, .ref zrows, .ref zpicked, .ref zpileTask, .ref zpileLock, .int 0, .ref zwas, .ref zbehind, .ref zriskRow, .ref zriskBest, .int 0, .ref zcTick, .ref zcProcessor, .ref zcTask, .int 0, .ref zgTick, .ref zgTask, .ref zgTold, .ref zgUntold, .ref zgRan, .int 0, .int 0, .ref zboxAll, .ref zboxRows, .ref zisBoxed])), (zlocks, .inl (ca 1, 2, .inl (fun _ => 0)))] := hD
  refine lv_if_eq (tgt := 32) hx hb dX11_holder_16 (by decide +kernel) (fun c_4 => ?_) (fun c_4 => absurd (by decide +kernel) c_4)
  refine lv_iconst (v := (-1)) hx hb dX11_holder_32 (by decide +kernel) ?_
  exact W.iret (v := (-1)) hx hb hr (fun t ht hW => ⟨⟨(-1), (), rfl, rfl, by rw [ht]; exact hP.sub [] rfl, hDA (hD.sub [] (by decide +kernel) rfl)⟩, hS.F ht⟩) hS.2.2 dX11_holder_33
theorem iw_X11_waits_11 : ∀ w ∈ u_ws RX11 TX11 55, w ∈ wsX11_waits := by decide +kernel
set_option maxHeartbeats 4000000 in
set_option maxRecDepth 100000 in
theorem k_X11_waits (l : Launch) (D : va_G) (ca : Nat → ClassId) (sz : Nat) (h0 : Nat) (ztape : Nat) (ztext : Nat) (zcores : Nat) (zlocks : Nat) (zbells : Nat) (ztasks : Nat) (zops : Nat) (zopSort : Nat) (zopNumber : Nat) (zkind : Nat) (zevery : Nat) (zbudget : Nat) (zshareTold : Nat) (zfirstOp : Nat) (zopMany : Nat) (zisCores : Nat) (zisLocks : Nat) (zisBells : Nat) (ztName : Nat) (zall : Nat) (zrows : Nat) (zpicked : Nat) (zpileTask : Nat) (zpileLock : Nat) (zwas : Nat) (zbehind : Nat) (zriskRow : Nat) (zriskBest : Nat) (zcTick : Nat) (zcProcessor : Nat) (zcTask : Nat) (zgTick : Nat) (zgTask : Nat) (zgTold : Nat) (zgUntold : Nat) (zgRan : Nat) (zboxAll : Nat) (zboxRows : Nat) (zisBoxed : Nat) (x1 : Int32) : Met l yX11_waits wsX11_waits ({ frames := 1, cells := 0, slots := 0, locals := 22 }) (PC [.ref h0, .int x1] sz D ca [(h0, .inr (11, [.ref ztape, .ref ztext, .int 0, .int 0, .int 0, .int (-1), .int 0, .int 0, .int 0, .int 0, .long 0, .ref zcores, .ref zlocks, .ref zbells, .ref ztasks, .ref zops, .ref zopSort, .ref zopNumber, .ref zkind, .ref zevery, .ref zbudget, .ref zshareTold, .ref zfirstOp, .ref zopMany, .ref zisCores, .ref zisLocks, .ref zisBells, .ref ztName, .int 0, .int 0, .ref zall, .ref zrows, .ref zpicked, .ref zpileTask, .ref zpileLock, .int 0, .ref zwas, .ref zbehind, .ref zriskRow, .ref zriskBest, .int 0, .ref zcTick, .ref zcProcessor, .ref zcTask, .int 0, .ref zgTick, .ref zgTask, .ref zgTold, .ref zgUntold, .ref zgRan, .int 0, .int 0, .ref zboxAll, .ref zboxRows, .ref zisBoxed])), (zlocks, .inl (ca 1, 2, .inl (fun _ => 0)))]) (QI (fun (r : Int32) (u : Unit) => r = (-1)) (fun (_ : Unit) => []) [(h0, .inr (11, [.ref ztape, .ref ztext, .int 0, .int 0, .int 0, .int (-1), .int 0, .int 0, .int 0, .int 0, .long 0, .ref zcores, .ref zlocks, .ref zbells, .ref ztasks, .ref zops, .ref zopSort, .ref zopNumber, .ref zkind, .ref zevery, .ref zbudget, .ref zshareTold, .ref zfirstOp, .ref zopMany, .ref zisCores, .ref zisLocks, .ref zisBells, .ref ztName, .int 0, .int 0, .ref zall, .ref zrows, .ref zpicked, .ref zpileTask, .ref zpileLock, .int 0, .ref zwas, .ref zbehind, .ref zriskRow, .ref zriskBest, .int 0, .ref zcTick, .ref zcProcessor, .ref zcTask, .int 0, .ref zgTick, .ref zgTask, .ref zgTold, .ref zgUntold, .ref zgRan, .int 0, .int 0, .ref zboxAll, .ref zboxRows, .ref zisBoxed])), (zlocks, .inl (ca 1, 2, .inl (fun _ => 0)))] sz D) 0 0 (va_A [(h0, .inr (11, [.ref ztape, .ref ztext, .int 0, .int 0, .int 0, .int (-1), .int 0, .int 0, .int 0, .int 0, .long 0, .ref zcores, .ref zlocks, .ref zbells, .ref ztasks, .ref zops, .ref zopSort, .ref zopNumber, .ref zkind, .ref zevery, .ref zbudget, .ref zshareTold, .ref zfirstOp, .ref zopMany, .ref zisCores, .ref zisLocks, .ref zisBells, .ref ztName, .int 0, .int 0, .ref zall, .ref zrows, .ref zpicked, .ref zpileTask, .ref zpileLock, .int 0, .ref zwas, .ref zbehind, .ref zriskRow, .ref zriskBest, .int 0, .ref zcTick, .ref zcProcessor, .ref zcTask, .int 0, .ref zgTick, .ref zgTask, .ref zgTold, .ref zgUntold, .ref zgRan, .int 0, .int 0, .ref zboxAll, .ref zboxRows, .ref zisBoxed])), (zlocks, .inl (ca 1, 2, .inl (fun _ => 0)))] sz) := by
  refine Met.ofW (cc := cX11_waits) (maxL := 4) (ret := (some .int)) (by decide +kernel) rfl ?_
  intro p e s m args below meth c s₁ B hml hv
  obtain ⟨rfl, hsz, hP, hC, hD0⟩ := hv
  have hx := B.exec
  have hb := B.bytes
  have hr := B.returns
  have hts := atoms_spec (ws := wsX11_waits) B.pre
  have hown : s.vm.findClass RX11 = some m.cls := findClass_of_methodNamed B.named
  have hlocks := B.notSynchronized
  subst hsz
  have hD := hD0.self (sz := s.heap.size)
  dsimp only [QV, QI, QL, BQ]
  generalize hAe : va_A [(h0, .inr (11, [.ref ztape, .ref ztext, .int 0, .int 0, .int 0, .int (-1), .int 0, .int 0, .int 0, .int 0, .long 0, .ref zcores, .ref zlocks, .ref zbells, .ref ztasks, .ref zops, .ref zopSort, .ref zopNumber, .ref zkind, .ref zevery, .ref zbudget, .ref zshareTold, .ref zfirstOp, .ref zopMany, .ref zisCores, .ref zisLocks, .ref zisBells, .ref ztName, .int 0, .int 0, .ref zall, .ref zrows, .ref zpicked, .ref zpileTask, .ref zpileLock, .int 0, .ref zwas, .ref zbehind, .ref zriskRow, .ref zriskBest, .int 0, .ref zcTick, .ref zcProcessor, .ref zcTask, .int 0, .ref zgTick, .ref zgTask, .ref zgTold, .ref zgUntold, .ref zgRan, .int 0, .int 0, .ref zboxAll, .ref zboxRows, .ref zisBoxed])), (zlocks, .inl (ca 1, 2, .inl (fun _ => 0)))] s.heap.size = A at hD ⊢
  have hA : ∀ q : Nat, s.heap.size ≤ q → A q := fun q h => by rw [← hAe]; exact Or.inr h
  have hDA : ∀ {w : va_W}, va_D A w → va_D (va_A [(h0, .inr (11, [.ref ztape, .ref ztext, .int 0, .int 0, .int 0, .int (-1), .int 0, .int 0, .int 0, .int 0, .long 0, .ref zcores, .ref zlocks, .ref zbells, .ref ztasks, .ref zops, .ref zopSort, .ref zopNumber, .ref zkind, .ref zevery, .ref zbudget, .ref zshareTold, .ref zfirstOp, .ref zopMany, .ref zisCores, .ref zisLocks, .ref zisBells, .ref ztName, .int 0, .int 0, .ref zall, .ref zrows, .ref zpicked, .ref zpileTask, .ref zpileLock, .int 0, .ref zwas, .ref zbehind, .ref zriskRow, .ref zriskBest, .int 0, .ref zcTick, .ref zcProcessor, .ref zcTask, .int 0, .ref zgTick, .ref zgTask, .ref zgTold, .ref zgUntold, .ref zgRan, .int 0, .int 0, .ref zboxAll, .ref zboxRows, .ref zisBoxed])), (zlocks, .inl (ca 1, 2, .inl (fun _ => 0)))] s.heap.size) w := fun h => by rw [hAe]; exact h
  have hS : va_S A s.heap s.heap [] := va_S.rf
  have hP : va_P D vwCl [(h0, .inr (11, [.ref ztape, .ref ztext, .int 0, .int 0, .int 0, .int (-1), .int 0, .int 0, .int 0, .int 0, .long 0, .ref zcores, .ref zlocks, .ref zbells, .ref ztasks, .ref zops, .ref zopSort, .ref zopNumber, .ref zkind, .ref zevery, .ref zbudget, .ref zshareTold, .ref zfirstOp, .ref zopMany, .ref zisCores, .ref zisLocks, .ref zisBells, .ref ztName, .int 0, .int 0, .ref zall, .ref zrows, .ref zpicked, .ref zpileTask, .ref zpileLock, .int 0, .ref zwas, .ref zbehind, .ref zriskRow, .ref zriskBest, .int 0, .ref zcTick, .ref zcProcessor, .ref zcTask, .int 0, .ref zgTick, .ref zgTask, .ref zgTold, .ref zgUntold, .ref zgRan, .int 0, .int 0, .ref zboxAll, .ref zboxRows, .ref zisBoxed])), (zlocks, .inl (ca 1, 2, .inl (fun _ => 0)))] s.heap := hP
  have hl := lv_entry ([.ref h0, .int x1]) (n := 4) (Nat.le_of_ble_eq_true rfl)
  rw [lg_entry_eq]
  generalize (lg_sl ([.ref h0, .int x1]) ++ List.replicate (4 - (lg_sl ([.ref h0, .int x1])).length) Slot.unset).toArray = ls at hl ⊢
  have hl : lv_has ls 4 [(0, .ref h0), (1, .int x1)] := hl
  refine lv_iload_n hx hb dX11_waits_0 rfl (lv_at hl 1 rfl) ?_
  refine lv_iconst (v := 0) hx hb dX11_waits_1 (by decide +kernel) ?_
  refine lv_aload_n hx hb dX11_waits_2 rfl (lv_at hl 0 rfl) ?_
  refine va_get (D := D) (ci := 11) (v := .ref zlocks) (C := RX11) (T := TX11) (N := 55) hx hb hts iw_X11_waits_11 hown hC.1 hP 0 rfl rfl 12 (by decide +kernel) (hts (.fieldLink RX11 24 "FairWheelModel" "locks" "[I") (by decide +kernel)) (fun _ h9 => h9) rfl dX11_waits_3 ?_
  refine lv_aload_n hx hb dX11_waits_6 rfl (lv_at hl 0 rfl) ?_
  refine va_get (D := D) (ci := 11) (v := .int 0) (C := RX11) (T := TX11) (N := 55) hx hb hts iw_X11_waits_11 hown hC.1 hP 0 rfl rfl 28 (by decide +kernel) (hts (.fieldLink RX11 244 "FairWheelModel" "bank" "I") (by decide +kernel)) (fun _ h9 => h9) rfl dX11_waits_7 ?_
  refine ka_iald hx hb hC.1 hP 1 1 rfl rfl 0 rfl (by decide +kernel) (by decide +kernel) dX11_waits_10 ?_
  refine nt_i 0 rfl ?_
  refine lv_iconst (v := 1) hx hb dX11_waits_11 (by decide +kernel) ?_
  refine lv_isub hx hb dX11_waits_12 ?_
  refine nt_i (-1) (by decide +kernel) ?_
  refine kc_i (wr := [(h0, .inr (11, [.ref ztape, .ref ztext, .int 0, .int 0, .int 0, .int (-1), .int 0, .int 0, .int 0, .int 0, .long 0, .ref zcores, .ref zlocks, .ref zbells, .ref ztasks, .ref zops, .ref zopSort, .ref zopNumber, .ref zkind, .ref zevery, .ref zbudget, .ref zshareTold, .ref zfirstOp, .ref zopMany, .ref zisCores, .ref zisLocks, .ref zisBells, .ref ztName, .int 0, .int 0, .ref zall, .ref zrows, .ref zpicked, .ref zpileTask, .ref zpileLock, .int 0, .ref zwas, .ref zbehind, .ref zriskRow, .ref zriskBest, .int 0, .ref zcTick, .ref zcProcessor, .ref zcTask, .int 0, .ref zgTick, .ref zgTask, .ref zgTold, .ref zgUntold, .ref zgRan, .int 0, .int 0, .ref zboxAll, .ref zboxRows, .ref zisBoxed])), (zlocks, .inl (ca 1, 2, .inl (fun _ => 0)))]) (va_runS (As := [.int x1, .int 0, .int (-1)]) (rest := []) ⟨hx, hb, hml, hown, hts⟩ (k_X11_isIn_0_m1 l D ca s.heap.size x1) (va_cwS 3 hts gX11_waits_X11_isIn rfl rfl rfl (by decide +kernel) ⟨(Nat.le_of_ble_eq_true rfl), (Nat.le_of_ble_eq_true rfl)⟩) (PC.preS hC hP hD [] rfl (by decide +kernel)) rfl rfl hl.1 rfl (lv_room (Nat.le_of_ble_eq_true rfl)) dX11_waits_13 ⟨(Nat.le_of_ble_eq_true rfl), (Nat.le_of_ble_eq_true rfl)⟩) hP hD hS hA [] [0, 1] rfl rfl (by decide +kernel) (by decide +kernel) (fun r_1 u_3 H locs hw_2 hP hD hS => ?_)
  subst hw_2
  have hP : va_P D vwCl [(h0, .inr (11, [.ref ztape, .ref ztext, .int 0, .int 0, .int 0, .int (-1), .int 0, .int 0, .int 0, .int 0, .long 0, .ref zcores, .ref zlocks, .ref zbells, .ref ztasks, .ref zops, .ref zopSort, .ref zopNumber, .ref zkind, .ref zevery, .ref zbudget, .ref zshareTold, .ref zfirstOp, .ref zopMany, .ref zisCores, .ref zisLocks, .ref zisBells, .ref ztName, .int 0, .int 0, .ref zall, .ref zrows, .ref zpicked, .ref zpileTask, .ref zpileLock, .int 0, .ref zwas, .ref zbehind, .ref zriskRow, .ref zriskBest, .int 0, .ref zcTick, .ref zcProcessor, .ref zcTask, .int 0, .ref zgTick, .ref zgTask, .ref zgTold, .ref zgUntold, .ref zgRan, .int 0, .int 0, .ref zboxAll, .ref zboxRows, .ref zisBoxed])), (zlocks, .inl (ca 1, 2, .inl (fun _ => 0)))] H := hP
  have hD : va_D A [(h0, .inr (11, [.ref ztape, .ref ztext, .int 0, .int 0, .int 0, .int (-1), .int 0, .int 0, .int 0, .int 0, .long 0, .ref zcores, .ref zlocks, .ref zbells, .ref ztasks, .ref zops, .ref zopSort, .ref zopNumber, .ref zkind, .ref zevery, .ref zbudget, .ref zshareTold, .ref zfirstOp, .ref zopMany, .ref zisCores, .ref zisLocks, .ref zisBells, .ref ztName, .int 0, .int 0, .ref zall, .ref zrows, .ref zpicked, .ref zpileTask, .ref zpileLock, .int 0, .ref zwas, .ref zbehind, .ref zriskRow, .ref zriskBest, .int 0, .ref zcTick, .ref zcProcessor, .ref zcTask, .int 0, .ref zgTick, .ref zgTask, .ref zgTold, .ref zgUntold, .ref zgRan, .int 0, .int 0, .ref zboxAll, .ref zboxRows, .ref zisBoxed])), (zlocks, .inl (ca 1, 2, .inl (fun _ => 0)))] := hD
  refine lv_if_ne (tgt := 21) hx hb dX11_waits_16 (by decide +kernel) (fun c_4 => absurd (by decide +kernel) c_4) (fun c_4 => ?_)
  refine lv_iconst (v := (-1)) hx hb dX11_waits_19 (by decide +kernel) ?_
  exact W.iret (v := (-1)) hx hb hr (fun t ht hW => ⟨⟨(-1), (), rfl, rfl, by rw [ht]; exact hP.sub [] rfl, hDA (hD.sub [] (by decide +kernel) rfl)⟩, hS.F ht⟩) hS.2.2 dX11_waits_20
def sp_k_X11_load (x1 : Int32) : Int64 := (if x1 < 0 then (-1) else (if 1 < x1 then (-1) else (if x1 = 0 then 0 else 1)))
set_option maxHeartbeats 4000000 in
set_option maxRecDepth 100000 in
theorem k_X11_load (l : Launch) (D : va_G) (ca : Nat → ClassId) (sz : Nat) (h0 : Nat) (ztape : Nat) (ztext : Nat) (zcores : Nat) (zlocks : Nat) (zbells : Nat) (ztasks : Nat) (zops : Nat) (zopSort : Nat) (zopNumber : Nat) (zkind : Nat) (zevery : Nat) (zbudget : Nat) (zshareTold : Nat) (zfirstOp : Nat) (zopMany : Nat) (zisCores : Nat) (zisLocks : Nat) (zisBells : Nat) (ztName : Nat) (zall : Nat) (zrows : Nat) (zpicked : Nat) (zpileTask : Nat) (zpileLock : Nat) (zwas : Nat) (zbehind : Nat) (zriskRow : Nat) (zriskBest : Nat) (zcTick : Nat) (zcProcessor : Nat) (zcTask : Nat) (zgTick : Nat) (zgTask : Nat) (zgTold : Nat) (zgUntold : Nat) (zgRan : Nat) (zboxAll : Nat) (zboxRows : Nat) (zisBoxed : Nat) (x1 : Int32) : Met l yX11_load wsX11_load ({ frames := 1, cells := 0, slots := 0, locals := 22 }) (PC [.ref h0, .int x1] sz D ca [(h0, .inr (11, [.ref ztape, .ref ztext, .int 0, .int 0, .int 0, .int (-1), .int 0, .int 0, .int 0, .int 0, .long 0, .ref zcores, .ref zlocks, .ref zbells, .ref ztasks, .ref zops, .ref zopSort, .ref zopNumber, .ref zkind, .ref zevery, .ref zbudget, .ref zshareTold, .ref zfirstOp, .ref zopMany, .ref zisCores, .ref zisLocks, .ref zisBells, .ref ztName, .int 0, .int 0, .ref zall, .ref zrows, .ref zpicked, .ref zpileTask, .ref zpileLock, .int 0, .ref zwas, .ref zbehind, .ref zriskRow, .ref zriskBest, .int 0, .ref zcTick, .ref zcProcessor, .ref zcTask, .int 0, .ref zgTick, .ref zgTask, .ref zgTold, .ref zgUntold, .ref zgRan, .int 0, .int 0, .ref zboxAll, .ref zboxRows, .ref zisBoxed])), (ztasks, .inl (ca 1, 2, .inl (fun _ => 0)))]) (QL (fun (r : Int64) (u : Unit) => r = sp_k_X11_load x1) (fun (_ : Unit) => []) [(h0, .inr (11, [.ref ztape, .ref ztext, .int 0, .int 0, .int 0, .int (-1), .int 0, .int 0, .int 0, .int 0, .long 0, .ref zcores, .ref zlocks, .ref zbells, .ref ztasks, .ref zops, .ref zopSort, .ref zopNumber, .ref zkind, .ref zevery, .ref zbudget, .ref zshareTold, .ref zfirstOp, .ref zopMany, .ref zisCores, .ref zisLocks, .ref zisBells, .ref ztName, .int 0, .int 0, .ref zall, .ref zrows, .ref zpicked, .ref zpileTask, .ref zpileLock, .int 0, .ref zwas, .ref zbehind, .ref zriskRow, .ref zriskBest, .int 0, .ref zcTick, .ref zcProcessor, .ref zcTask, .int 0, .ref zgTick, .ref zgTask, .ref zgTold, .ref zgUntold, .ref zgRan, .int 0, .int 0, .ref zboxAll, .ref zboxRows, .ref zisBoxed])), (ztasks, .inl (ca 1, 2, .inl (fun _ => 0)))] sz D) 0 0 (va_A [(h0, .inr (11, [.ref ztape, .ref ztext, .int 0, .int 0, .int 0, .int (-1), .int 0, .int 0, .int 0, .int 0, .long 0, .ref zcores, .ref zlocks, .ref zbells, .ref ztasks, .ref zops, .ref zopSort, .ref zopNumber, .ref zkind, .ref zevery, .ref zbudget, .ref zshareTold, .ref zfirstOp, .ref zopMany, .ref zisCores, .ref zisLocks, .ref zisBells, .ref ztName, .int 0, .int 0, .ref zall, .ref zrows, .ref zpicked, .ref zpileTask, .ref zpileLock, .int 0, .ref zwas, .ref zbehind, .ref zriskRow, .ref zriskBest, .int 0, .ref zcTick, .ref zcProcessor, .ref zcTask, .int 0, .ref zgTick, .ref zgTask, .ref zgTold, .ref zgUntold, .ref zgRan, .int 0, .int 0, .ref zboxAll, .ref zboxRows, .ref zisBoxed])), (ztasks, .inl (ca 1, 2, .inl (fun _ => 0)))] sz) := by
  refine Met.ofW (cc := cX11_load) (maxL := 10) (ret := (some .long)) (by decide +kernel) rfl ?_
  intro p e s m args below meth c s₁ B hml hv
  obtain ⟨rfl, hsz, hP, hC, hD0⟩ := hv
  have hx := B.exec
  have hb := B.bytes
  have hr := B.returns
  have hts := atoms_spec (ws := wsX11_load) B.pre
  have hown : s.vm.findClass RX11 = some m.cls := findClass_of_methodNamed B.named
  have hlocks := B.notSynchronized
  subst hsz
  have hD := hD0.self (sz := s.heap.size)
  dsimp only [QV, QI, QL, BQ]
  generalize hAe : va_A [(h0, .inr (11, [.ref ztape, .ref ztext, .int 0, .int 0, .int 0, .int (-1), .int 0, .int 0, .int 0, .int 0, .long 0, .ref zcores, .ref zlocks, .ref zbells, .ref ztasks, .ref zops, .ref zopSort, .ref zopNumber, .ref zkind, .ref zevery, .ref zbudget, .ref zshareTold, .ref zfirstOp, .ref zopMany, .ref zisCores, .ref zisLocks, .ref zisBells, .ref ztName, .int 0, .int 0, .ref zall, .ref zrows, .ref zpicked, .ref zpileTask, .ref zpileLock, .int 0, .ref zwas, .ref zbehind, .ref zriskRow, .ref zriskBest, .int 0, .ref zcTick, .ref zcProcessor, .ref zcTask, .int 0, .ref zgTick, .ref zgTask, .ref zgTold, .ref zgUntold, .ref zgRan, .int 0, .int 0, .ref zboxAll, .ref zboxRows, .ref zisBoxed])), (ztasks, .inl (ca 1, 2, .inl (fun _ => 0)))] s.heap.size = A at hD ⊢
  have hA : ∀ q : Nat, s.heap.size ≤ q → A q := fun q h => by rw [← hAe]; exact Or.inr h
  have hDA : ∀ {w : va_W}, va_D A w → va_D (va_A [(h0, .inr (11, [.ref ztape, .ref ztext, .int 0, .int 0, .int 0, .int (-1), .int 0, .int 0, .int 0, .int 0, .long 0, .ref zcores, .ref zlocks, .ref zbells, .ref ztasks, .ref zops, .ref zopSort, .ref zopNumber, .ref zkind, .ref zevery, .ref zbudget, .ref zshareTold, .ref zfirstOp, .ref zopMany, .ref zisCores, .ref zisLocks, .ref zisBells, .ref ztName, .int 0, .int 0, .ref zall, .ref zrows, .ref zpicked, .ref zpileTask, .ref zpileLock, .int 0, .ref zwas, .ref zbehind, .ref zriskRow, .ref zriskBest, .int 0, .ref zcTick, .ref zcProcessor, .ref zcTask, .int 0, .ref zgTick, .ref zgTask, .ref zgTold, .ref zgUntold, .ref zgRan, .int 0, .int 0, .ref zboxAll, .ref zboxRows, .ref zisBoxed])), (ztasks, .inl (ca 1, 2, .inl (fun _ => 0)))] s.heap.size) w := fun h => by rw [hAe]; exact h
  have hS : va_S A s.heap s.heap [] := va_S.rf
  have hP : va_P D vwCl [(h0, .inr (11, [.ref ztape, .ref ztext, .int 0, .int 0, .int 0, .int (-1), .int 0, .int 0, .int 0, .int 0, .long 0, .ref zcores, .ref zlocks, .ref zbells, .ref ztasks, .ref zops, .ref zopSort, .ref zopNumber, .ref zkind, .ref zevery, .ref zbudget, .ref zshareTold, .ref zfirstOp, .ref zopMany, .ref zisCores, .ref zisLocks, .ref zisBells, .ref ztName, .int 0, .int 0, .ref zall, .ref zrows, .ref zpicked, .ref zpileTask, .ref zpileLock, .int 0, .ref zwas, .ref zbehind, .ref zriskRow, .ref zriskBest, .int 0, .ref zcTick, .ref zcProcessor, .ref zcTask, .int 0, .ref zgTick, .ref zgTask, .ref zgTold, .ref zgUntold, .ref zgRan, .int 0, .int 0, .ref zboxAll, .ref zboxRows, .ref zisBoxed])), (ztasks, .inl (ca 1, 2, .inl (fun _ => 0)))] s.heap := hP
  have hl := lv_entry ([.ref h0, .int x1]) (n := 10) (Nat.le_of_ble_eq_true rfl)
  rw [lg_entry_eq]
  generalize (lg_sl ([.ref h0, .int x1]) ++ List.replicate (10 - (lg_sl ([.ref h0, .int x1])).length) Slot.unset).toArray = ls at hl ⊢
  have hl : lv_has ls 10 [(0, .ref h0), (1, .int x1)] := hl
  refine lv_iload_n hx hb dX11_load_0 rfl (lv_at hl 1 rfl) ?_
  refine lv_iconst (v := 0) hx hb dX11_load_1 (by decide +kernel) ?_
  refine lv_iconst (v := 1) hx hb dX11_load_2 (by decide +kernel) ?_
  refine kc_i (wr := [(h0, .inr (11, [.ref ztape, .ref ztext, .int 0, .int 0, .int 0, .int (-1), .int 0, .int 0, .int 0, .int 0, .long 0, .ref zcores, .ref zlocks, .ref zbells, .ref ztasks, .ref zops, .ref zopSort, .ref zopNumber, .ref zkind, .ref zevery, .ref zbudget, .ref zshareTold, .ref zfirstOp, .ref zopMany, .ref zisCores, .ref zisLocks, .ref zisBells, .ref ztName, .int 0, .int 0, .ref zall, .ref zrows, .ref zpicked, .ref zpileTask, .ref zpileLock, .int 0, .ref zwas, .ref zbehind, .ref zriskRow, .ref zriskBest, .int 0, .ref zcTick, .ref zcProcessor, .ref zcTask, .int 0, .ref zgTick, .ref zgTask, .ref zgTold, .ref zgUntold, .ref zgRan, .int 0, .int 0, .ref zboxAll, .ref zboxRows, .ref zisBoxed])), (ztasks, .inl (ca 1, 2, .inl (fun _ => 0)))]) (va_runS (As := [.int x1, .int 0, .int 1]) (rest := []) ⟨hx, hb, hml, hown, hts⟩ (k_X11_isIn_0_1 l D ca s.heap.size x1) (va_cwS 3 hts gX11_load_X11_isIn rfl rfl rfl (by decide +kernel) ⟨(Nat.le_of_ble_eq_true rfl), (Nat.le_of_ble_eq_true rfl)⟩) (PC.preS hC hP hD [] rfl (by decide +kernel)) rfl rfl hl.1 rfl (lv_room (Nat.le_of_ble_eq_true rfl)) dX11_load_3 ⟨(Nat.le_of_ble_eq_true rfl), (Nat.le_of_ble_eq_true rfl)⟩) hP hD hS hA [] [0, 1] rfl rfl (by decide +kernel) (by decide +kernel) (fun r_1 u_3 H locs hw_2 hP hD hS => ?_)
  have hP : va_P D vwCl [(h0, .inr (11, [.ref ztape, .ref ztext, .int 0, .int 0, .int 0, .int (-1), .int 0, .int 0, .int 0, .int 0, .long 0, .ref zcores, .ref zlocks, .ref zbells, .ref ztasks, .ref zops, .ref zopSort, .ref zopNumber, .ref zkind, .ref zevery, .ref zbudget, .ref zshareTold, .ref zfirstOp, .ref zopMany, .ref zisCores, .ref zisLocks, .ref zisBells, .ref ztName, .int 0, .int 0, .ref zall, .ref zrows, .ref zpicked, .ref zpileTask, .ref zpileLock, .int 0, .ref zwas, .ref zbehind, .ref zriskRow, .ref zriskBest, .int 0, .ref zcTick, .ref zcProcessor, .ref zcTask, .int 0, .ref zgTick, .ref zgTask, .ref zgTold, .ref zgUntold, .ref zgRan, .int 0, .int 0, .ref zboxAll, .ref zboxRows, .ref zisBoxed])), (ztasks, .inl (ca 1, 2, .inl (fun _ => 0)))] H := hP
  have hD : va_D A [(h0, .inr (11, [.ref ztape, .ref ztext, .int 0, .int 0, .int 0, .int (-1), .int 0, .int 0, .int 0, .int 0, .long 0, .ref zcores, .ref zlocks, .ref zbells, .ref ztasks, .ref zops, .ref zopSort, .ref zopNumber, .ref zkind, .ref zevery, .ref zbudget, .ref zshareTold, .ref zfirstOp, .ref zopMany, .ref zisCores, .ref zisLocks, .ref zisBells, .ref ztName, .int 0, .int 0, .ref zall, .ref zrows, .ref zpicked, .ref zpileTask, .ref zpileLock, .int 0, .ref zwas, .ref zbehind, .ref zriskRow, .ref zriskBest, .int 0, .ref zcTick, .ref zcProcessor, .ref zcTask, .int 0, .ref zgTick, .ref zgTask, .ref zgTold, .ref zgUntold, .ref zgRan, .int 0, .int 0, .ref zboxAll, .ref zboxRows, .ref zisBoxed])), (ztasks, .inl (ca 1, 2, .inl (fun _ => 0)))] := hD
  rcases Decidable.em (x1 < 0) with c_4 | c_4
  · obtain rfl : r_1 = 0 := hw_2.trans (by unfold sp_k_X11_isIn_0_1; rw [if_pos c_4])
    refine lv_if_ne (tgt := 13) hx hb dX11_load_6 (by decide +kernel) (fun c_5 => absurd (by decide +kernel) c_5) (fun c_5 => ?_)
    refine lv_ldc2 (v := (-1)) hx hb hown (hts (.constantLong RX11 374 (-1)) (by decide +kernel)) dX11_load_9 ?_
    exact W.lret (v := (-1)) hx hb hr (fun t ht hW => ⟨⟨(-1), (), rfl, (by unfold sp_k_X11_load; rw [if_pos c_4]), by rw [ht]; exact hP.sub [] rfl, hDA (hD.sub [] (by decide +kernel) rfl)⟩, hS.F ht⟩) hS.2.2 dX11_load_12
  · rcases Decidable.em (1 < x1) with c_6 | c_6
    · obtain rfl : r_1 = 0 := hw_2.trans (by unfold sp_k_X11_isIn_0_1; rw [if_neg c_4, if_pos c_6])
      refine lv_if_ne (tgt := 13) hx hb dX11_load_6 (by decide +kernel) (fun c_7 => absurd (by decide +kernel) c_7) (fun c_7 => ?_)
      refine lv_ldc2 (v := (-1)) hx hb hown (hts (.constantLong RX11 374 (-1)) (by decide +kernel)) dX11_load_9 ?_
      exact W.lret (v := (-1)) hx hb hr (fun t ht hW => ⟨⟨(-1), (), rfl, (by unfold sp_k_X11_load; rw [if_neg c_4, if_pos c_6]), by rw [ht]; exact hP.sub [] rfl, hDA (hD.sub [] (by decide +kernel) rfl)⟩, hS.F ht⟩) hS.2.2 dX11_load_12
    · obtain rfl : r_1 = 1 := hw_2.trans (by unfold sp_k_X11_isIn_0_1; rw [if_neg c_4, if_neg c_6])
      refine lv_if_ne (tgt := 13) hx hb dX11_load_6 (by decide +kernel) (fun c_8 => ?_) (fun c_8 => absurd c_8 (by decide +kernel))
      refine lv_lconst (v := 0) hx hb dX11_load_13 (by decide +kernel) ?_
      refine lv_lstore_n (lv' := [(2, .long 0), (0, .ref h0), (1, .int x1)]) hx hb dX11_load_14 rfl hl (by decide +kernel) rfl (fun ls hl => ?_)
      refine lv_lconst (v := 1) hx hb dX11_load_15 (by decide +kernel) ?_
      refine lv_lstore (lv' := [(4, .long 1), (2, .long 0), (0, .ref h0), (1, .int x1)]) hx hb dX11_load_16 hl (by decide +kernel) rfl (fun ls hl => ?_)
      refine lv_iconst (v := 0) hx hb dX11_load_18 (by decide +kernel) ?_
      refine lv_istore (lv' := [(6, .int 0), (4, .long 1), (2, .long 0), (0, .ref h0), (1, .int x1)]) hx hb dX11_load_19 hl (by decide +kernel) rfl (fun ls hl => ?_)
      refine lv_iload hx hb dX11_load_21 (lv_at hl 0 rfl) ?_
      refine lv_aload_n hx hb dX11_load_23 rfl (lv_at hl 3 rfl) ?_
      refine kc_i (wr := []) (va_runV (As := []) (rest := [.int 0]) ⟨hx, hb, hml, hown, hts⟩ (k_X11_taskMany_0 l D ca H.size h0 ztape ztext zcores zlocks zbells ztasks zops zopSort zopNumber zkind zevery zbudget zshareTold zfirstOp zopMany zisCores zisLocks zisBells ztName zall zrows zpicked zpileTask zpileLock zwas zbehind zriskRow zriskBest zcTick zcProcessor zcTask zgTick zgTask zgTold zgUntold zgRan zboxAll zboxRows zisBoxed 0 0 0 (-1) 0 0 0 0 0 0 0 0 0 0 0) (cwV 0 hts gX11_load_X11_taskMany rfl rfl rfl (by decide +kernel) ⟨(Nat.le_of_ble_eq_true rfl), (Nat.le_of_ble_eq_true rfl)⟩) (PC.preV (ci := 11) hC hP hD [0, 1] rfl (by decide +kernel) rfl rfl) rfl rfl hl.1 rfl (lv_room (Nat.le_of_ble_eq_true rfl)) dX11_load_24 ⟨(Nat.le_of_ble_eq_true rfl), (Nat.le_of_ble_eq_true rfl)⟩) hP hD hS hA [0, 1] [] rfl rfl (by decide +kernel) (by decide +kernel) (fun r_9 u_11 H locs hw_10 hP hD hS => ?_)
      subst hw_10
      have hP : va_P D vwCl [(h0, .inr (11, [.ref ztape, .ref ztext, .int 0, .int 0, .int 0, .int (-1), .int 0, .int 0, .int 0, .int 0, .long 0, .ref zcores, .ref zlocks, .ref zbells, .ref ztasks, .ref zops, .ref zopSort, .ref zopNumber, .ref zkind, .ref zevery, .ref zbudget, .ref zshareTold, .ref zfirstOp, .ref zopMany, .ref zisCores, .ref zisLocks, .ref zisBells, .ref ztName, .int 0, .int 0, .ref zall, .ref zrows, .ref zpicked, .ref zpileTask, .ref zpileLock, .int 0, .ref zwas, .ref zbehind, .ref zriskRow, .ref zriskBest, .int 0, .ref zcTick, .ref zcProcessor, .ref zcTask, .int 0, .ref zgTick, .ref zgTask, .ref zgTold, .ref zgUntold, .ref zgRan, .int 0, .int 0, .ref zboxAll, .ref zboxRows, .ref zisBoxed])), (ztasks, .inl (ca 1, 2, .inl (fun _ => 0)))] H := hP
      have hD : va_D A [(h0, .inr (11, [.ref ztape, .ref ztext, .int 0, .int 0, .int 0, .int (-1), .int 0, .int 0, .int 0, .int 0, .long 0, .ref zcores, .ref zlocks, .ref zbells, .ref ztasks, .ref zops, .ref zopSort, .ref zopNumber, .ref zkind, .ref zevery, .ref zbudget, .ref zshareTold, .ref zfirstOp, .ref zopMany, .ref zisCores, .ref zisLocks, .ref zisBells, .ref ztName, .int 0, .int 0, .ref zall, .ref zrows, .ref zpicked, .ref zpileTask, .ref zpileLock, .int 0, .ref zwas, .ref zbehind, .ref zriskRow, .ref zriskBest, .int 0, .ref zcTick, .ref zcProcessor, .ref zcTask, .int 0, .ref zgTick, .ref zgTask, .ref zgTold, .ref zgUntold, .ref zgRan, .int 0, .int 0, .ref zboxAll, .ref zboxRows, .ref zisBoxed])), (ztasks, .inl (ca 1, 2, .inl (fun _ => 0)))] := hD
      refine lv_icmp_ge (tgt := 130) hx hb dX11_load_27 (by decide +kernel) (fun c_12 => ?_) (fun c_12 => absurd (by decide +kernel) c_12)
      refine lv_iload_n hx hb dX11_load_130 rfl (lv_at hl 4 rfl) ?_
      refine lv_if_ne (tgt := 138) hx hb dX11_load_131 (by decide +kernel) (fun c_13 => ?_) (fun c_13 => ?_)
      · refine lv_lload hx hb dX11_load_138 (lv_at hl 1 rfl) ?_
        exact W.lret (v := 1) hx hb hr (fun t ht hW => ⟨⟨1, (), rfl, (by unfold sp_k_X11_load; rw [if_neg c_4, if_neg c_6, if_neg c_13]), by rw [ht]; exact hP.sub [] rfl, hDA (hD.sub [] (by decide +kernel) rfl)⟩, hS.F ht⟩) hS.2.2 dX11_load_140
      · refine lv_lload_n hx hb dX11_load_134 rfl (lv_at hl 2 rfl) ?_
        refine lv_goto (tgt := 140) hx hb dX11_load_135 (by decide +kernel) ?_
        exact W.lret (v := 0) hx hb hr (fun t ht hW => ⟨⟨0, (), rfl, (by unfold sp_k_X11_load; rw [if_neg c_4, if_neg c_6, if_pos c_13]), by rw [ht]; exact hP.sub [] rfl, hDA (hD.sub [] (by decide +kernel) rfl)⟩, hS.F ht⟩) hS.2.2 dX11_load_140
theorem iw_X11_tell_11 : ∀ w ∈ u_ws RX11 TX11 55, w ∈ wsX11_tell := by decide +kernel
def sp_k_X11_tell (x1 : Int32) (x2 : Int32) (x3 : Int32) : Int32 := (if x1 < 0 then (-1) else (if 1999 < x1 then (-1) else (if x2 < 0 then (-1) else (if 3 < x2 then (-1) else (if x3 < (-1) then (-1) else (if 9 < x3 then (-1) else 1))))))
set_option maxHeartbeats 4000000 in
set_option maxRecDepth 100000 in
theorem k_X11_tell (l : Launch) (D : va_G) (ca : Nat → ClassId) (sz : Nat) (h0 : Nat) (ztape : Nat) (ztext : Nat) (zcores : Nat) (zlocks : Nat) (zbells : Nat) (ztasks : Nat) (zops : Nat) (zopSort : Nat) (zopNumber : Nat) (zkind : Nat) (zevery : Nat) (zbudget : Nat) (zshareTold : Nat) (zfirstOp : Nat) (zopMany : Nat) (zisCores : Nat) (zisLocks : Nat) (zisBells : Nat) (ztName : Nat) (zall : Nat) (zrows : Nat) (zpicked : Nat) (zpileTask : Nat) (zpileLock : Nat) (zwas : Nat) (zbehind : Nat) (zriskRow : Nat) (zriskBest : Nat) (zcTick : Nat) (zcProcessor : Nat) (zcTask : Nat) (zgTick : Nat) (zgTask : Nat) (zgTold : Nat) (zgUntold : Nat) (zgRan : Nat) (zboxAll : Nat) (zboxRows : Nat) (zisBoxed : Nat) (f1 : Nat → Int32) (f2 : Nat → Int32) (f3 : Nat → Int32) (x1 : Int32) (x2 : Int32) (x3 : Int32) : Met l yX11_tell wsX11_tell ({ frames := 1, cells := 0, slots := 0, locals := 22 }) (PC [.ref h0, .int x1, .int x2, .int x3] sz D ca [(h0, .inr (11, [.ref ztape, .ref ztext, .int 0, .int 0, .int 0, .int (-1), .int 0, .int 0, .int 0, .int 0, .long 0, .ref zcores, .ref zlocks, .ref zbells, .ref ztasks, .ref zops, .ref zopSort, .ref zopNumber, .ref zkind, .ref zevery, .ref zbudget, .ref zshareTold, .ref zfirstOp, .ref zopMany, .ref zisCores, .ref zisLocks, .ref zisBells, .ref ztName, .int 0, .int 0, .ref zall, .ref zrows, .ref zpicked, .ref zpileTask, .ref zpileLock, .int 0, .ref zwas, .ref zbehind, .ref zriskRow, .ref zriskBest, .int 0, .ref zcTick, .ref zcProcessor, .ref zcTask, .int 0, .ref zgTick, .ref zgTask, .ref zgTold, .ref zgUntold, .ref zgRan, .int 0, .int 0, .ref zboxAll, .ref zboxRows, .ref zisBoxed])), (zcTick, .inl (ca 1, 60, .inl f1)), (zcProcessor, .inl (ca 1, 60, .inl f2)), (zcTask, .inl (ca 1, 60, .inl f3))]) (QI (fun (r : Int32) (u : Unit) => r = sp_k_X11_tell x1 x2 x3) (fun (_ : Unit) => []) [(h0, .inr (11, [.ref ztape, .ref ztext, .int 0, .int 0, .int 0, .int (-1), .int 0, .int 0, .int 0, .int 0, .long 0, .ref zcores, .ref zlocks, .ref zbells, .ref ztasks, .ref zops, .ref zopSort, .ref zopNumber, .ref zkind, .ref zevery, .ref zbudget, .ref zshareTold, .ref zfirstOp, .ref zopMany, .ref zisCores, .ref zisLocks, .ref zisBells, .ref ztName, .int 0, .int 0, .ref zall, .ref zrows, .ref zpicked, .ref zpileTask, .ref zpileLock, .int 0, .ref zwas, .ref zbehind, .ref zriskRow, .ref zriskBest, .int 0, .ref zcTick, .ref zcProcessor, .ref zcTask, .int 0, .ref zgTick, .ref zgTask, .ref zgTold, .ref zgUntold, .ref zgRan, .int 0, .int 0, .ref zboxAll, .ref zboxRows, .ref zisBoxed])), (zcTick, .inl (ca 1, 60, .inl f1)), (zcProcessor, .inl (ca 1, 60, .inl f2)), (zcTask, .inl (ca 1, 60, .inl f3))] sz D) 0 0 (va_A [(h0, .inr (11, [.ref ztape, .ref ztext, .int 0, .int 0, .int 0, .int (-1), .int 0, .int 0, .int 0, .int 0, .long 0, .ref zcores, .ref zlocks, .ref zbells, .ref ztasks, .ref zops, .ref zopSort, .ref zopNumber, .ref zkind, .ref zevery, .ref zbudget, .ref zshareTold, .ref zfirstOp, .ref zopMany, .ref zisCores, .ref zisLocks, .ref zisBells, .ref ztName, .int 0, .int 0, .ref zall, .ref zrows, .ref zpicked, .ref zpileTask, .ref zpileLock, .int 0, .ref zwas, .ref zbehind, .ref zriskRow, .ref zriskBest, .int 0, .ref zcTick, .ref zcProcessor, .ref zcTask, .int 0, .ref zgTick, .ref zgTask, .ref zgTold, .ref zgUntold, .ref zgRan, .int 0, .int 0, .ref zboxAll, .ref zboxRows, .ref zisBoxed])), (zcTick, .inl (ca 1, 60, .inl f1)), (zcProcessor, .inl (ca 1, 60, .inl f2)), (zcTask, .inl (ca 1, 60, .inl f3))] sz) := by
  refine Met.ofW (cc := cX11_tell) (maxL := 4) (ret := (some .int)) (by decide +kernel) rfl ?_
  intro p e s m args below meth c s₁ B hml hv
  obtain ⟨rfl, hsz, hP, hC, hD0⟩ := hv
  have hx := B.exec
  have hb := B.bytes
  have hr := B.returns
  have hts := atoms_spec (ws := wsX11_tell) B.pre
  have hown : s.vm.findClass RX11 = some m.cls := findClass_of_methodNamed B.named
  have hlocks := B.notSynchronized
  subst hsz
  have hD := hD0.self (sz := s.heap.size)
  dsimp only [QV, QI, QL, BQ]
  generalize hAe : va_A [(h0, .inr (11, [.ref ztape, .ref ztext, .int 0, .int 0, .int 0, .int (-1), .int 0, .int 0, .int 0, .int 0, .long 0, .ref zcores, .ref zlocks, .ref zbells, .ref ztasks, .ref zops, .ref zopSort, .ref zopNumber, .ref zkind, .ref zevery, .ref zbudget, .ref zshareTold, .ref zfirstOp, .ref zopMany, .ref zisCores, .ref zisLocks, .ref zisBells, .ref ztName, .int 0, .int 0, .ref zall, .ref zrows, .ref zpicked, .ref zpileTask, .ref zpileLock, .int 0, .ref zwas, .ref zbehind, .ref zriskRow, .ref zriskBest, .int 0, .ref zcTick, .ref zcProcessor, .ref zcTask, .int 0, .ref zgTick, .ref zgTask, .ref zgTold, .ref zgUntold, .ref zgRan, .int 0, .int 0, .ref zboxAll, .ref zboxRows, .ref zisBoxed])), (zcTick, .inl (ca 1, 60, .inl f1)), (zcProcessor, .inl (ca 1, 60, .inl f2)), (zcTask, .inl (ca 1, 60, .inl f3))] s.heap.size = A at hD ⊢
  have hA : ∀ q : Nat, s.heap.size ≤ q → A q := fun q h => by rw [← hAe]; exact Or.inr h
  have hDA : ∀ {w : va_W}, va_D A w → va_D (va_A [(h0, .inr (11, [.ref ztape, .ref ztext, .int 0, .int 0, .int 0, .int (-1), .int 0, .int 0, .int 0, .int 0, .long 0, .ref zcores, .ref zlocks, .ref zbells, .ref ztasks, .ref zops, .ref zopSort, .ref zopNumber, .ref zkind, .ref zevery, .ref zbudget, .ref zshareTold, .ref zfirstOp, .ref zopMany, .ref zisCores, .ref zisLocks, .ref zisBells, .ref ztName, .int 0, .int 0, .ref zall, .ref zrows, .ref zpicked, .ref zpileTask, .ref zpileLock, .int 0, .ref zwas, .ref zbehind, .ref zriskRow, .ref zriskBest, .int 0, .ref zcTick, .ref zcProcessor, .ref zcTask, .int 0, .ref zgTick, .ref zgTask, .ref zgTold, .ref zgUntold, .ref zgRan, .int 0, .int 0, .ref zboxAll, .ref zboxRows, .ref zisBoxed])), (zcTick, .inl (ca 1, 60, .inl f1)), (zcProcessor, .inl (ca 1, 60, .inl f2)), (zcTask, .inl (ca 1, 60, .inl f3))] s.heap.size) w := fun h => by rw [hAe]; exact h
  have hS : va_S A s.heap s.heap [] := va_S.rf
  have hP : va_P D vwCl [(h0, .inr (11, [.ref ztape, .ref ztext, .int 0, .int 0, .int 0, .int (-1), .int 0, .int 0, .int 0, .int 0, .long 0, .ref zcores, .ref zlocks, .ref zbells, .ref ztasks, .ref zops, .ref zopSort, .ref zopNumber, .ref zkind, .ref zevery, .ref zbudget, .ref zshareTold, .ref zfirstOp, .ref zopMany, .ref zisCores, .ref zisLocks, .ref zisBells, .ref ztName, .int 0, .int 0, .ref zall, .ref zrows, .ref zpicked, .ref zpileTask, .ref zpileLock, .int 0, .ref zwas, .ref zbehind, .ref zriskRow, .ref zriskBest, .int 0, .ref zcTick, .ref zcProcessor, .ref zcTask, .int 0, .ref zgTick, .ref zgTask, .ref zgTold, .ref zgUntold, .ref zgRan, .int 0, .int 0, .ref zboxAll, .ref zboxRows, .ref zisBoxed])), (zcTick, .inl (ca 1, 60, .inl f1)), (zcProcessor, .inl (ca 1, 60, .inl f2)), (zcTask, .inl (ca 1, 60, .inl f3))] s.heap := hP
  have hl := lv_entry ([.ref h0, .int x1, .int x2, .int x3]) (n := 4) (Nat.le_of_ble_eq_true rfl)
  rw [lg_entry_eq]
  generalize (lg_sl ([.ref h0, .int x1, .int x2, .int x3]) ++ List.replicate (4 - (lg_sl ([.ref h0, .int x1, .int x2, .int x3])).length) Slot.unset).toArray = ls at hl ⊢
  have hl : lv_has ls 4 [(0, .ref h0), (1, .int x1), (2, .int x2), (3, .int x3)] := hl
  refine lv_iload_n hx hb dX11_tell_0 rfl (lv_at hl 1 rfl) ?_
  refine lv_iconst (v := 0) hx hb dX11_tell_1 (by decide +kernel) ?_
  refine lv_sipush (v := 1999) hx hb dX11_tell_2 (by decide +kernel) ?_
  refine kc_i (wr := [(h0, .inr (11, [.ref ztape, .ref ztext, .int 0, .int 0, .int 0, .int (-1), .int 0, .int 0, .int 0, .int 0, .long 0, .ref zcores, .ref zlocks, .ref zbells, .ref ztasks, .ref zops, .ref zopSort, .ref zopNumber, .ref zkind, .ref zevery, .ref zbudget, .ref zshareTold, .ref zfirstOp, .ref zopMany, .ref zisCores, .ref zisLocks, .ref zisBells, .ref ztName, .int 0, .int 0, .ref zall, .ref zrows, .ref zpicked, .ref zpileTask, .ref zpileLock, .int 0, .ref zwas, .ref zbehind, .ref zriskRow, .ref zriskBest, .int 0, .ref zcTick, .ref zcProcessor, .ref zcTask, .int 0, .ref zgTick, .ref zgTask, .ref zgTold, .ref zgUntold, .ref zgRan, .int 0, .int 0, .ref zboxAll, .ref zboxRows, .ref zisBoxed])), (zcTick, .inl (ca 1, 60, .inl f1)), (zcProcessor, .inl (ca 1, 60, .inl f2)), (zcTask, .inl (ca 1, 60, .inl f3))]) (va_runS (As := [.int x1, .int 0, .int 1999]) (rest := []) ⟨hx, hb, hml, hown, hts⟩ (k_X11_isIn_0_1999 l D ca s.heap.size x1) (va_cwS 3 hts gX11_tell_X11_isIn rfl rfl rfl (by decide +kernel) ⟨(Nat.le_of_ble_eq_true rfl), (Nat.le_of_ble_eq_true rfl)⟩) (PC.preS hC hP hD [] rfl (by decide +kernel)) rfl rfl hl.1 rfl (lv_room (Nat.le_of_ble_eq_true rfl)) dX11_tell_5 ⟨(Nat.le_of_ble_eq_true rfl), (Nat.le_of_ble_eq_true rfl)⟩) hP hD hS hA [] [0, 1, 2, 3] rfl rfl (by decide +kernel) (by decide +kernel) (fun r_1 u_3 H locs hw_2 hP hD hS => ?_)
  have hP : va_P D vwCl [(h0, .inr (11, [.ref ztape, .ref ztext, .int 0, .int 0, .int 0, .int (-1), .int 0, .int 0, .int 0, .int 0, .long 0, .ref zcores, .ref zlocks, .ref zbells, .ref ztasks, .ref zops, .ref zopSort, .ref zopNumber, .ref zkind, .ref zevery, .ref zbudget, .ref zshareTold, .ref zfirstOp, .ref zopMany, .ref zisCores, .ref zisLocks, .ref zisBells, .ref ztName, .int 0, .int 0, .ref zall, .ref zrows, .ref zpicked, .ref zpileTask, .ref zpileLock, .int 0, .ref zwas, .ref zbehind, .ref zriskRow, .ref zriskBest, .int 0, .ref zcTick, .ref zcProcessor, .ref zcTask, .int 0, .ref zgTick, .ref zgTask, .ref zgTold, .ref zgUntold, .ref zgRan, .int 0, .int 0, .ref zboxAll, .ref zboxRows, .ref zisBoxed])), (zcTick, .inl (ca 1, 60, .inl f1)), (zcProcessor, .inl (ca 1, 60, .inl f2)), (zcTask, .inl (ca 1, 60, .inl f3))] H := hP
  have hD : va_D A [(h0, .inr (11, [.ref ztape, .ref ztext, .int 0, .int 0, .int 0, .int (-1), .int 0, .int 0, .int 0, .int 0, .long 0, .ref zcores, .ref zlocks, .ref zbells, .ref ztasks, .ref zops, .ref zopSort, .ref zopNumber, .ref zkind, .ref zevery, .ref zbudget, .ref zshareTold, .ref zfirstOp, .ref zopMany, .ref zisCores, .ref zisLocks, .ref zisBells, .ref ztName, .int 0, .int 0, .ref zall, .ref zrows, .ref zpicked, .ref zpileTask, .ref zpileLock, .int 0, .ref zwas, .ref zbehind, .ref zriskRow, .ref zriskBest, .int 0, .ref zcTick, .ref zcProcessor, .ref zcTask, .int 0, .ref zgTick, .ref zgTask, .ref zgTold, .ref zgUntold, .ref zgRan, .int 0, .int 0, .ref zboxAll, .ref zboxRows, .ref zisBoxed])), (zcTick, .inl (ca 1, 60, .inl f1)), (zcProcessor, .inl (ca 1, 60, .inl f2)), (zcTask, .inl (ca 1, 60, .inl f3))] := hD
  rcases Decidable.em (x1 < 0) with c_4 | c_4
  · obtain rfl : r_1 = 0 := hw_2.trans (by unfold sp_k_X11_isIn_0_1999; rw [if_pos c_4])
    refine lv_if_eq (tgt := 39) hx hb dX11_tell_8 (by decide +kernel) (fun c_5 => ?_) (fun c_5 => absurd (by decide +kernel) c_5)
    refine lv_iconst (v := (-1)) hx hb dX11_tell_39 (by decide +kernel) ?_
    exact W.iret (v := (-1)) hx hb hr (fun t ht hW => ⟨⟨(-1), (), rfl, (by unfold sp_k_X11_tell; rw [if_pos c_4]), by rw [ht]; exact hP.sub [] rfl, hDA (hD.sub [] (by decide +kernel) rfl)⟩, hS.F ht⟩) hS.2.2 dX11_tell_40
  · rcases Decidable.em (1999 < x1) with c_6 | c_6
    · obtain rfl : r_1 = 0 := hw_2.trans (by unfold sp_k_X11_isIn_0_1999; rw [if_neg c_4, if_pos c_6])
      refine lv_if_eq (tgt := 39) hx hb dX11_tell_8 (by decide +kernel) (fun c_7 => ?_) (fun c_7 => absurd (by decide +kernel) c_7)
      refine lv_iconst (v := (-1)) hx hb dX11_tell_39 (by decide +kernel) ?_
      exact W.iret (v := (-1)) hx hb hr (fun t ht hW => ⟨⟨(-1), (), rfl, (by unfold sp_k_X11_tell; rw [if_neg c_4, if_pos c_6]), by rw [ht]; exact hP.sub [] rfl, hDA (hD.sub [] (by decide +kernel) rfl)⟩, hS.F ht⟩) hS.2.2 dX11_tell_40
    · obtain rfl : r_1 = 1 := hw_2.trans (by unfold sp_k_X11_isIn_0_1999; rw [if_neg c_4, if_neg c_6])
      refine lv_if_eq (tgt := 39) hx hb dX11_tell_8 (by decide +kernel) (fun c_8 => absurd c_8 (by decide +kernel)) (fun c_8 => ?_)
      refine lv_iload_n hx hb dX11_tell_11 rfl (lv_at hl 2 rfl) ?_
      refine lv_iconst (v := 0) hx hb dX11_tell_12 (by decide +kernel) ?_
      refine lv_iconst (v := 3) hx hb dX11_tell_13 (by decide +kernel) ?_
      refine kc_i (wr := [(h0, .inr (11, [.ref ztape, .ref ztext, .int 0, .int 0, .int 0, .int (-1), .int 0, .int 0, .int 0, .int 0, .long 0, .ref zcores, .ref zlocks, .ref zbells, .ref ztasks, .ref zops, .ref zopSort, .ref zopNumber, .ref zkind, .ref zevery, .ref zbudget, .ref zshareTold, .ref zfirstOp, .ref zopMany, .ref zisCores, .ref zisLocks, .ref zisBells, .ref ztName, .int 0, .int 0, .ref zall, .ref zrows, .ref zpicked, .ref zpileTask, .ref zpileLock, .int 0, .ref zwas, .ref zbehind, .ref zriskRow, .ref zriskBest, .int 0, .ref zcTick, .ref zcProcessor, .ref zcTask, .int 0, .ref zgTick, .ref zgTask, .ref zgTold, .ref zgUntold, .ref zgRan, .int 0, .int 0, .ref zboxAll, .ref zboxRows, .ref zisBoxed])), (zcTick, .inl (ca 1, 60, .inl f1)), (zcProcessor, .inl (ca 1, 60, .inl f2)), (zcTask, .inl (ca 1, 60, .inl f3))]) (va_runS (As := [.int x2, .int 0, .int 3]) (rest := []) ⟨hx, hb, hml, hown, hts⟩ (k_X11_isIn_0_3 l D ca H.size x2) (va_cwS 3 hts gX11_tell_X11_isIn rfl rfl rfl (by decide +kernel) ⟨(Nat.le_of_ble_eq_true rfl), (Nat.le_of_ble_eq_true rfl)⟩) (PC.preS hC hP hD [] rfl (by decide +kernel)) rfl rfl hl.1 rfl (lv_room (Nat.le_of_ble_eq_true rfl)) dX11_tell_14 ⟨(Nat.le_of_ble_eq_true rfl), (Nat.le_of_ble_eq_true rfl)⟩) hP hD hS hA [] [0, 1, 2, 3] rfl rfl (by decide +kernel) (by decide +kernel) (fun r_9 u_11 H locs hw_10 hP hD hS => ?_)
      have hP : va_P D vwCl [(h0, .inr (11, [.ref ztape, .ref ztext, .int 0, .int 0, .int 0, .int (-1), .int 0, .int 0, .int 0, .int 0, .long 0, .ref zcores, .ref zlocks, .ref zbells, .ref ztasks, .ref zops, .ref zopSort, .ref zopNumber, .ref zkind, .ref zevery, .ref zbudget, .ref zshareTold, .ref zfirstOp, .ref zopMany, .ref zisCores, .ref zisLocks, .ref zisBells, .ref ztName, .int 0, .int 0, .ref zall, .ref zrows, .ref zpicked, .ref zpileTask, .ref zpileLock, .int 0, .ref zwas, .ref zbehind, .ref zriskRow, .ref zriskBest, .int 0, .ref zcTick, .ref zcProcessor, .ref zcTask, .int 0, .ref zgTick, .ref zgTask, .ref zgTold, .ref zgUntold, .ref zgRan, .int 0, .int 0, .ref zboxAll, .ref zboxRows, .ref zisBoxed])), (zcTick, .inl (ca 1, 60, .inl f1)), (zcProcessor, .inl (ca 1, 60, .inl f2)), (zcTask, .inl (ca 1, 60, .inl f3))] H := hP
      have hD : va_D A [(h0, .inr (11, [.ref ztape, .ref ztext, .int 0, .int 0, .int 0, .int (-1), .int 0, .int 0, .int 0, .int 0, .long 0, .ref zcores, .ref zlocks, .ref zbells, .ref ztasks, .ref zops, .ref zopSort, .ref zopNumber, .ref zkind, .ref zevery, .ref zbudget, .ref zshareTold, .ref zfirstOp, .ref zopMany, .ref zisCores, .ref zisLocks, .ref zisBells, .ref ztName, .int 0, .int 0, .ref zall, .ref zrows, .ref zpicked, .ref zpileTask, .ref zpileLock, .int 0, .ref zwas, .ref zbehind, .ref zriskRow, .ref zriskBest, .int 0, .ref zcTick, .ref zcProcessor, .ref zcTask, .int 0, .ref zgTick, .ref zgTask, .ref zgTold, .ref zgUntold, .ref zgRan, .int 0, .int 0, .ref zboxAll, .ref zboxRows, .ref zisBoxed])), (zcTick, .inl (ca 1, 60, .inl f1)), (zcProcessor, .inl (ca 1, 60, .inl f2)), (zcTask, .inl (ca 1, 60, .inl f3))] := hD
      rcases Decidable.em (x2 < 0) with c_12 | c_12
      · obtain rfl : r_9 = 0 := hw_10.trans (by unfold sp_k_X11_isIn_0_3; rw [if_pos c_12])
        refine lv_if_eq (tgt := 39) hx hb dX11_tell_17 (by decide +kernel) (fun c_13 => ?_) (fun c_13 => absurd (by decide +kernel) c_13)
        refine lv_iconst (v := (-1)) hx hb dX11_tell_39 (by decide +kernel) ?_
        exact W.iret (v := (-1)) hx hb hr (fun t ht hW => ⟨⟨(-1), (), rfl, (by unfold sp_k_X11_tell; rw [if_neg c_4, if_neg c_6, if_pos c_12]), by rw [ht]; exact hP.sub [] rfl, hDA (hD.sub [] (by decide +kernel) rfl)⟩, hS.F ht⟩) hS.2.2 dX11_tell_40
      · rcases Decidable.em (3 < x2) with c_14 | c_14
        · obtain rfl : r_9 = 0 := hw_10.trans (by unfold sp_k_X11_isIn_0_3; rw [if_neg c_12, if_pos c_14])
          refine lv_if_eq (tgt := 39) hx hb dX11_tell_17 (by decide +kernel) (fun c_15 => ?_) (fun c_15 => absurd (by decide +kernel) c_15)
          refine lv_iconst (v := (-1)) hx hb dX11_tell_39 (by decide +kernel) ?_
          exact W.iret (v := (-1)) hx hb hr (fun t ht hW => ⟨⟨(-1), (), rfl, (by unfold sp_k_X11_tell; rw [if_neg c_4, if_neg c_6, if_neg c_12, if_pos c_14]), by rw [ht]; exact hP.sub [] rfl, hDA (hD.sub [] (by decide +kernel) rfl)⟩, hS.F ht⟩) hS.2.2 dX11_tell_40
        · obtain rfl : r_9 = 1 := hw_10.trans (by unfold sp_k_X11_isIn_0_3; rw [if_neg c_12, if_neg c_14])
          refine lv_if_eq (tgt := 39) hx hb dX11_tell_17 (by decide +kernel) (fun c_16 => absurd c_16 (by decide +kernel)) (fun c_16 => ?_)
          refine lv_iload_n hx hb dX11_tell_20 rfl (lv_at hl 3 rfl) ?_
          refine lv_iconst (v := (-1)) hx hb dX11_tell_21 (by decide +kernel) ?_
          refine lv_bipush (v := 9) hx hb dX11_tell_22 (by decide +kernel) ?_
          refine kc_i (wr := [(h0, .inr (11, [.ref ztape, .ref ztext, .int 0, .int 0, .int 0, .int (-1), .int 0, .int 0, .int 0, .int 0, .long 0, .ref zcores, .ref zlocks, .ref zbells, .ref ztasks, .ref zops, .ref zopSort, .ref zopNumber, .ref zkind, .ref zevery, .ref zbudget, .ref zshareTold, .ref zfirstOp, .ref zopMany, .ref zisCores, .ref zisLocks, .ref zisBells, .ref ztName, .int 0, .int 0, .ref zall, .ref zrows, .ref zpicked, .ref zpileTask, .ref zpileLock, .int 0, .ref zwas, .ref zbehind, .ref zriskRow, .ref zriskBest, .int 0, .ref zcTick, .ref zcProcessor, .ref zcTask, .int 0, .ref zgTick, .ref zgTask, .ref zgTold, .ref zgUntold, .ref zgRan, .int 0, .int 0, .ref zboxAll, .ref zboxRows, .ref zisBoxed])), (zcTick, .inl (ca 1, 60, .inl f1)), (zcProcessor, .inl (ca 1, 60, .inl f2)), (zcTask, .inl (ca 1, 60, .inl f3))]) (va_runS (As := [.int x3, .int (-1), .int 9]) (rest := []) ⟨hx, hb, hml, hown, hts⟩ (k_X11_isIn_m1_9 l D ca H.size x3) (va_cwS 3 hts gX11_tell_X11_isIn rfl rfl rfl (by decide +kernel) ⟨(Nat.le_of_ble_eq_true rfl), (Nat.le_of_ble_eq_true rfl)⟩) (PC.preS hC hP hD [] rfl (by decide +kernel)) rfl rfl hl.1 rfl (lv_room (Nat.le_of_ble_eq_true rfl)) dX11_tell_24 ⟨(Nat.le_of_ble_eq_true rfl), (Nat.le_of_ble_eq_true rfl)⟩) hP hD hS hA [] [0, 1, 2, 3] rfl rfl (by decide +kernel) (by decide +kernel) (fun r_17 u_19 H locs hw_18 hP hD hS => ?_)
          have hP : va_P D vwCl [(h0, .inr (11, [.ref ztape, .ref ztext, .int 0, .int 0, .int 0, .int (-1), .int 0, .int 0, .int 0, .int 0, .long 0, .ref zcores, .ref zlocks, .ref zbells, .ref ztasks, .ref zops, .ref zopSort, .ref zopNumber, .ref zkind, .ref zevery, .ref zbudget, .ref zshareTold, .ref zfirstOp, .ref zopMany, .ref zisCores, .ref zisLocks, .ref zisBells, .ref ztName, .int 0, .int 0, .ref zall, .ref zrows, .ref zpicked, .ref zpileTask, .ref zpileLock, .int 0, .ref zwas, .ref zbehind, .ref zriskRow, .ref zriskBest, .int 0, .ref zcTick, .ref zcProcessor, .ref zcTask, .int 0, .ref zgTick, .ref zgTask, .ref zgTold, .ref zgUntold, .ref zgRan, .int 0, .int 0, .ref zboxAll, .ref zboxRows, .ref zisBoxed])), (zcTick, .inl (ca 1, 60, .inl f1)), (zcProcessor, .inl (ca 1, 60, .inl f2)), (zcTask, .inl (ca 1, 60, .inl f3))] H := hP
          have hD : va_D A [(h0, .inr (11, [.ref ztape, .ref ztext, .int 0, .int 0, .int 0, .int (-1), .int 0, .int 0, .int 0, .int 0, .long 0, .ref zcores, .ref zlocks, .ref zbells, .ref ztasks, .ref zops, .ref zopSort, .ref zopNumber, .ref zkind, .ref zevery, .ref zbudget, .ref zshareTold, .ref zfirstOp, .ref zopMany, .ref zisCores, .ref zisLocks, .ref zisBells, .ref ztName, .int 0, .int 0, .ref zall, .ref zrows, .ref zpicked, .ref zpileTask, .ref zpileLock, .int 0, .ref zwas, .ref zbehind, .ref zriskRow, .ref zriskBest, .int 0, .ref zcTick, .ref zcProcessor, .ref zcTask, .int 0, .ref zgTick, .ref zgTask, .ref zgTold, .ref zgUntold, .ref zgRan, .int 0, .int 0, .ref zboxAll, .ref zboxRows, .ref zisBoxed])), (zcTick, .inl (ca 1, 60, .inl f1)), (zcProcessor, .inl (ca 1, 60, .inl f2)), (zcTask, .inl (ca 1, 60, .inl f3))] := hD
          rcases Decidable.em (x3 < (-1)) with c_20 | c_20
          · obtain rfl : r_17 = 0 := hw_18.trans (by unfold sp_k_X11_isIn_m1_9; rw [if_pos c_20])
            refine lv_if_eq (tgt := 39) hx hb dX11_tell_27 (by decide +kernel) (fun c_21 => ?_) (fun c_21 => absurd (by decide +kernel) c_21)
            refine lv_iconst (v := (-1)) hx hb dX11_tell_39 (by decide +kernel) ?_
            exact W.iret (v := (-1)) hx hb hr (fun t ht hW => ⟨⟨(-1), (), rfl, (by unfold sp_k_X11_tell; rw [if_neg c_4, if_neg c_6, if_neg c_12, if_neg c_14, if_pos c_20]), by rw [ht]; exact hP.sub [] rfl, hDA (hD.sub [] (by decide +kernel) rfl)⟩, hS.F ht⟩) hS.2.2 dX11_tell_40
          · rcases Decidable.em (9 < x3) with c_22 | c_22
            · obtain rfl : r_17 = 0 := hw_18.trans (by unfold sp_k_X11_isIn_m1_9; rw [if_neg c_20, if_pos c_22])
              refine lv_if_eq (tgt := 39) hx hb dX11_tell_27 (by decide +kernel) (fun c_23 => ?_) (fun c_23 => absurd (by decide +kernel) c_23)
              refine lv_iconst (v := (-1)) hx hb dX11_tell_39 (by decide +kernel) ?_
              exact W.iret (v := (-1)) hx hb hr (fun t ht hW => ⟨⟨(-1), (), rfl, (by unfold sp_k_X11_tell; rw [if_neg c_4, if_neg c_6, if_neg c_12, if_neg c_14, if_neg c_20, if_pos c_22]), by rw [ht]; exact hP.sub [] rfl, hDA (hD.sub [] (by decide +kernel) rfl)⟩, hS.F ht⟩) hS.2.2 dX11_tell_40
            · obtain rfl : r_17 = 1 := hw_18.trans (by unfold sp_k_X11_isIn_m1_9; rw [if_neg c_20, if_neg c_22])
              refine lv_if_eq (tgt := 39) hx hb dX11_tell_27 (by decide +kernel) (fun c_24 => absurd c_24 (by decide +kernel)) (fun c_24 => ?_)
              refine lv_aload_n hx hb dX11_tell_30 rfl (lv_at hl 0 rfl) ?_
              refine va_get (D := D) (ci := 11) (v := .int 0) (C := RX11) (T := TX11) (N := 55) hx hb hts iw_X11_tell_11 hown hC.1 hP 0 rfl rfl 44 (by decide +kernel) (hts (.fieldLink RX11 250 "FairWheelModel" "toldMany" "I") (by decide +kernel)) (fun _ h9 => h9) rfl dX11_tell_31 ?_
              refine lv_bipush (v := 60) hx hb dX11_tell_34 (by decide +kernel) ?_
              refine lv_icmp_ne (tgt := 41) hx hb dX11_tell_36 (by decide +kernel) (fun c_25 => ?_) (fun c_25 => absurd c_25 (by decide +kernel))
              refine lv_aload_n hx hb dX11_tell_41 rfl (lv_at hl 0 rfl) ?_
              refine va_get (D := D) (ci := 11) (v := .ref zcTick) (C := RX11) (T := TX11) (N := 55) hx hb hts iw_X11_tell_11 hown hC.1 hP 0 rfl rfl 41 (by decide +kernel) (hts (.fieldLink RX11 101 "FairWheelModel" "cTick" "[I") (by decide +kernel)) (fun _ h9 => h9) rfl dX11_tell_42 ?_
              refine lv_aload_n hx hb dX11_tell_45 rfl (lv_at hl 0 rfl) ?_
              refine va_get (D := D) (ci := 11) (v := .int 0) (C := RX11) (T := TX11) (N := 55) hx hb hts iw_X11_tell_11 hown hC.1 hP 0 rfl rfl 44 (by decide +kernel) (hts (.fieldLink RX11 250 "FairWheelModel" "toldMany" "I") (by decide +kernel)) (fun _ h9 => h9) rfl dX11_tell_46 ?_
              refine lv_iload_n hx hb dX11_tell_49 rfl (lv_at hl 1 rfl) ?_
              refine ka_iast hx hb hC.1 hP hD hS 1 1 rfl rfl 0 rfl (by decide +kernel) (by decide +kernel) dX11_tell_50 (fun H locs hP hD hS => ?_)
              have hP : va_P D vwCl [(h0, .inr (11, [.ref ztape, .ref ztext, .int 0, .int 0, .int 0, .int (-1), .int 0, .int 0, .int 0, .int 0, .long 0, .ref zcores, .ref zlocks, .ref zbells, .ref ztasks, .ref zops, .ref zopSort, .ref zopNumber, .ref zkind, .ref zevery, .ref zbudget, .ref zshareTold, .ref zfirstOp, .ref zopMany, .ref zisCores, .ref zisLocks, .ref zisBells, .ref ztName, .int 0, .int 0, .ref zall, .ref zrows, .ref zpicked, .ref zpileTask, .ref zpileLock, .int 0, .ref zwas, .ref zbehind, .ref zriskRow, .ref zriskBest, .int 0, .ref zcTick, .ref zcProcessor, .ref zcTask, .int 0, .ref zgTick, .ref zgTask, .ref zgTold, .ref zgUntold, .ref zgRan, .int 0, .int 0, .ref zboxAll, .ref zboxRows, .ref zisBoxed])), (zcTick, .inl (ca 1, 60, .inl (upd f1 0 x1))), (zcProcessor, .inl (ca 1, 60, .inl f2)), (zcTask, .inl (ca 1, 60, .inl f3))] H := hP
              have hD : va_D A [(h0, .inr (11, [.ref ztape, .ref ztext, .int 0, .int 0, .int 0, .int (-1), .int 0, .int 0, .int 0, .int 0, .long 0, .ref zcores, .ref zlocks, .ref zbells, .ref ztasks, .ref zops, .ref zopSort, .ref zopNumber, .ref zkind, .ref zevery, .ref zbudget, .ref zshareTold, .ref zfirstOp, .ref zopMany, .ref zisCores, .ref zisLocks, .ref zisBells, .ref ztName, .int 0, .int 0, .ref zall, .ref zrows, .ref zpicked, .ref zpileTask, .ref zpileLock, .int 0, .ref zwas, .ref zbehind, .ref zriskRow, .ref zriskBest, .int 0, .ref zcTick, .ref zcProcessor, .ref zcTask, .int 0, .ref zgTick, .ref zgTask, .ref zgTold, .ref zgUntold, .ref zgRan, .int 0, .int 0, .ref zboxAll, .ref zboxRows, .ref zisBoxed])), (zcTick, .inl (ca 1, 60, .inl (upd f1 0 x1))), (zcProcessor, .inl (ca 1, 60, .inl f2)), (zcTask, .inl (ca 1, 60, .inl f3))] := hD
              refine lv_aload_n hx hb dX11_tell_51 rfl (lv_at hl 0 rfl) ?_
              refine va_get (D := D) (ci := 11) (v := .ref zcProcessor) (C := RX11) (T := TX11) (N := 55) hx hb hts iw_X11_tell_11 hown hC.1 hP 0 rfl rfl 42 (by decide +kernel) (hts (.fieldLink RX11 104 "FairWheelModel" "cProcessor" "[I") (by decide +kernel)) (fun _ h9 => h9) rfl dX11_tell_52 ?_
              refine lv_aload_n hx hb dX11_tell_55 rfl (lv_at hl 0 rfl) ?_
              refine va_get (D := D) (ci := 11) (v := .int 0) (C := RX11) (T := TX11) (N := 55) hx hb hts iw_X11_tell_11 hown hC.1 hP 0 rfl rfl 44 (by decide +kernel) (hts (.fieldLink RX11 250 "FairWheelModel" "toldMany" "I") (by decide +kernel)) (fun _ h9 => h9) rfl dX11_tell_56 ?_
              refine lv_iload_n hx hb dX11_tell_59 rfl (lv_at hl 2 rfl) ?_
              refine ka_iast hx hb hC.1 hP hD hS 2 1 rfl rfl 0 rfl (by decide +kernel) (by decide +kernel) dX11_tell_60 (fun H locs hP hD hS => ?_)
              have hP : va_P D vwCl [(h0, .inr (11, [.ref ztape, .ref ztext, .int 0, .int 0, .int 0, .int (-1), .int 0, .int 0, .int 0, .int 0, .long 0, .ref zcores, .ref zlocks, .ref zbells, .ref ztasks, .ref zops, .ref zopSort, .ref zopNumber, .ref zkind, .ref zevery, .ref zbudget, .ref zshareTold, .ref zfirstOp, .ref zopMany, .ref zisCores, .ref zisLocks, .ref zisBells, .ref ztName, .int 0, .int 0, .ref zall, .ref zrows, .ref zpicked, .ref zpileTask, .ref zpileLock, .int 0, .ref zwas, .ref zbehind, .ref zriskRow, .ref zriskBest, .int 0, .ref zcTick, .ref zcProcessor, .ref zcTask, .int 0, .ref zgTick, .ref zgTask, .ref zgTold, .ref zgUntold, .ref zgRan, .int 0, .int 0, .ref zboxAll, .ref zboxRows, .ref zisBoxed])), (zcTick, .inl (ca 1, 60, .inl (upd f1 0 x1))), (zcProcessor, .inl (ca 1, 60, .inl (upd f2 0 x2))), (zcTask, .inl (ca 1, 60, .inl f3))] H := hP
              have hD : va_D A [(h0, .inr (11, [.ref ztape, .ref ztext, .int 0, .int 0, .int 0, .int (-1), .int 0, .int 0, .int 0, .int 0, .long 0, .ref zcores, .ref zlocks, .ref zbells, .ref ztasks, .ref zops, .ref zopSort, .ref zopNumber, .ref zkind, .ref zevery, .ref zbudget, .ref zshareTold, .ref zfirstOp, .ref zopMany, .ref zisCores, .ref zisLocks, .ref zisBells, .ref ztName, .int 0, .int 0, .ref zall, .ref zrows, .ref zpicked, .ref zpileTask, .ref zpileLock, .int 0, .ref zwas, .ref zbehind, .ref zriskRow, .ref zriskBest, .int 0, .ref zcTick, .ref zcProcessor, .ref zcTask, .int 0, .ref zgTick, .ref zgTask, .ref zgTold, .ref zgUntold, .ref zgRan, .int 0, .int 0, .ref zboxAll, .ref zboxRows, .ref zisBoxed])), (zcTick, .inl (ca 1, 60, .inl (upd f1 0 x1))), (zcProcessor, .inl (ca 1, 60, .inl (upd f2 0 x2))), (zcTask, .inl (ca 1, 60, .inl f3))] := hD
              refine lv_aload_n hx hb dX11_tell_61 rfl (lv_at hl 0 rfl) ?_
              refine va_get (D := D) (ci := 11) (v := .ref zcTask) (C := RX11) (T := TX11) (N := 55) hx hb hts iw_X11_tell_11 hown hC.1 hP 0 rfl rfl 43 (by decide +kernel) (hts (.fieldLink RX11 107 "FairWheelModel" "cTask" "[I") (by decide +kernel)) (fun _ h9 => h9) rfl dX11_tell_62 ?_
              refine lv_aload_n hx hb dX11_tell_65 rfl (lv_at hl 0 rfl) ?_
              refine va_get (D := D) (ci := 11) (v := .int 0) (C := RX11) (T := TX11) (N := 55) hx hb hts iw_X11_tell_11 hown hC.1 hP 0 rfl rfl 44 (by decide +kernel) (hts (.fieldLink RX11 250 "FairWheelModel" "toldMany" "I") (by decide +kernel)) (fun _ h9 => h9) rfl dX11_tell_66 ?_
              refine lv_iload_n hx hb dX11_tell_69 rfl (lv_at hl 3 rfl) ?_
              refine ka_iast hx hb hC.1 hP hD hS 3 1 rfl rfl 0 rfl (by decide +kernel) (by decide +kernel) dX11_tell_70 (fun H locs hP hD hS => ?_)
              have hP : va_P D vwCl [(h0, .inr (11, [.ref ztape, .ref ztext, .int 0, .int 0, .int 0, .int (-1), .int 0, .int 0, .int 0, .int 0, .long 0, .ref zcores, .ref zlocks, .ref zbells, .ref ztasks, .ref zops, .ref zopSort, .ref zopNumber, .ref zkind, .ref zevery, .ref zbudget, .ref zshareTold, .ref zfirstOp, .ref zopMany, .ref zisCores, .ref zisLocks, .ref zisBells, .ref ztName, .int 0, .int 0, .ref zall, .ref zrows, .ref zpicked, .ref zpileTask, .ref zpileLock, .int 0, .ref zwas, .ref zbehind, .ref zriskRow, .ref zriskBest, .int 0, .ref zcTick, .ref zcProcessor, .ref zcTask, .int 0, .ref zgTick, .ref zgTask, .ref zgTold, .ref zgUntold, .ref zgRan, .int 0, .int 0, .ref zboxAll, .ref zboxRows, .ref zisBoxed])), (zcTick, .inl (ca 1, 60, .inl (upd f1 0 x1))), (zcProcessor, .inl (ca 1, 60, .inl (upd f2 0 x2))), (zcTask, .inl (ca 1, 60, .inl (upd f3 0 x3)))] H := hP
              have hD : va_D A [(h0, .inr (11, [.ref ztape, .ref ztext, .int 0, .int 0, .int 0, .int (-1), .int 0, .int 0, .int 0, .int 0, .long 0, .ref zcores, .ref zlocks, .ref zbells, .ref ztasks, .ref zops, .ref zopSort, .ref zopNumber, .ref zkind, .ref zevery, .ref zbudget, .ref zshareTold, .ref zfirstOp, .ref zopMany, .ref zisCores, .ref zisLocks, .ref zisBells, .ref ztName, .int 0, .int 0, .ref zall, .ref zrows, .ref zpicked, .ref zpileTask, .ref zpileLock, .int 0, .ref zwas, .ref zbehind, .ref zriskRow, .ref zriskBest, .int 0, .ref zcTick, .ref zcProcessor, .ref zcTask, .int 0, .ref zgTick, .ref zgTask, .ref zgTold, .ref zgUntold, .ref zgRan, .int 0, .int 0, .ref zboxAll, .ref zboxRows, .ref zisBoxed])), (zcTick, .inl (ca 1, 60, .inl (upd f1 0 x1))), (zcProcessor, .inl (ca 1, 60, .inl (upd f2 0 x2))), (zcTask, .inl (ca 1, 60, .inl (upd f3 0 x3)))] := hD
              refine lv_aload_n hx hb dX11_tell_71 rfl (lv_at hl 0 rfl) ?_
              refine lv_dup hx hb dX11_tell_72 rfl ?_
              refine va_get (D := D) (ci := 11) (v := .int 0) (C := RX11) (T := TX11) (N := 55) hx hb hts iw_X11_tell_11 hown hC.1 hP 0 rfl rfl 44 (by decide +kernel) (hts (.fieldLink RX11 250 "FairWheelModel" "toldMany" "I") (by decide +kernel)) (fun _ h9 => h9) rfl dX11_tell_73 ?_
              refine lv_iconst (v := 1) hx hb dX11_tell_76 (by decide +kernel) ?_
              refine lv_iadd hx hb dX11_tell_77 ?_
              refine nt_i 1 (by decide +kernel) ?_
              refine va_put (D := D) (ci := 11) (v := .int 1) (ty := .int) (C := RX11) (T := TX11) (N := 55) hx hb hts iw_X11_tell_11 tyX11 tyX11_ok nmX11 hown hC.1 hP hD hS 0 rfl rfl 44 (by decide +kernel) (hts (.fieldLink RX11 250 "FairWheelModel" "toldMany" "I") (by decide +kernel)) (fun _ h9 => h9) rfl (by decide +kernel) rfl rfl (Nat.le_of_ble_eq_true rfl) dX11_tell_78 (fun H locs hP hD hS => ?_)
              have hP : va_P D vwCl [(h0, .inr (11, [.ref ztape, .ref ztext, .int 0, .int 0, .int 0, .int (-1), .int 0, .int 0, .int 0, .int 0, .long 0, .ref zcores, .ref zlocks, .ref zbells, .ref ztasks, .ref zops, .ref zopSort, .ref zopNumber, .ref zkind, .ref zevery, .ref zbudget, .ref zshareTold, .ref zfirstOp, .ref zopMany, .ref zisCores, .ref zisLocks, .ref zisBells, .ref ztName, .int 0, .int 0, .ref zall, .ref zrows, .ref zpicked, .ref zpileTask, .ref zpileLock, .int 0, .ref zwas, .ref zbehind, .ref zriskRow, .ref zriskBest, .int 0, .ref zcTick, .ref zcProcessor, .ref zcTask, .int 1, .ref zgTick, .ref zgTask, .ref zgTold, .ref zgUntold, .ref zgRan, .int 0, .int 0, .ref zboxAll, .ref zboxRows, .ref zisBoxed])), (zcTick, .inl (ca 1, 60, .inl (upd f1 0 x1))), (zcProcessor, .inl (ca 1, 60, .inl (upd f2 0 x2))), (zcTask, .inl (ca 1, 60, .inl (upd f3 0 x3)))] H := hP
              have hD : va_D A [(h0, .inr (11, [.ref ztape, .ref ztext, .int 0, .int 0, .int 0, .int (-1), .int 0, .int 0, .int 0, .int 0, .long 0, .ref zcores, .ref zlocks, .ref zbells, .ref ztasks, .ref zops, .ref zopSort, .ref zopNumber, .ref zkind, .ref zevery, .ref zbudget, .ref zshareTold, .ref zfirstOp, .ref zopMany, .ref zisCores, .ref zisLocks, .ref zisBells, .ref ztName, .int 0, .int 0, .ref zall, .ref zrows, .ref zpicked, .ref zpileTask, .ref zpileLock, .int 0, .ref zwas, .ref zbehind, .ref zriskRow, .ref zriskBest, .int 0, .ref zcTick, .ref zcProcessor, .ref zcTask, .int 1, .ref zgTick, .ref zgTask, .ref zgTold, .ref zgUntold, .ref zgRan, .int 0, .int 0, .ref zboxAll, .ref zboxRows, .ref zisBoxed])), (zcTick, .inl (ca 1, 60, .inl (upd f1 0 x1))), (zcProcessor, .inl (ca 1, 60, .inl (upd f2 0 x2))), (zcTask, .inl (ca 1, 60, .inl (upd f3 0 x3)))] := hD
              refine lv_aload_n hx hb dX11_tell_81 rfl (lv_at hl 0 rfl) ?_
              refine va_get (D := D) (ci := 11) (v := .int 1) (C := RX11) (T := TX11) (N := 55) hx hb hts iw_X11_tell_11 hown hC.1 hP 0 rfl rfl 44 (by decide +kernel) (hts (.fieldLink RX11 250 "FairWheelModel" "toldMany" "I") (by decide +kernel)) (fun _ h9 => h9) rfl dX11_tell_82 ?_
              exact W.iret (v := 1) hx hb hr (fun t ht hW => ⟨⟨1, (), rfl, (by unfold sp_k_X11_tell; rw [if_neg c_4, if_neg c_6, if_neg c_12, if_neg c_14, if_neg c_20, if_neg c_22]), by rw [ht]; exact hP.sub [] rfl, hDA (hD.sub [] (by decide +kernel) rfl)⟩, hS.F ht⟩) hS.2.2 dX11_tell_85
theorem iw_X11_hush_11 : ∀ w ∈ u_ws RX11 TX11 55, w ∈ wsX11_hush := by decide +kernel
set_option maxHeartbeats 4000000 in
set_option maxRecDepth 100000 in
theorem k_X11_hush (l : Launch) (D : va_G) (ca : Nat → ClassId) (sz : Nat) (h0 : Nat) (ztape : Nat) (ztext : Nat) (zcores : Nat) (zlocks : Nat) (zbells : Nat) (ztasks : Nat) (zops : Nat) (zopSort : Nat) (zopNumber : Nat) (zkind : Nat) (zevery : Nat) (zbudget : Nat) (zshareTold : Nat) (zfirstOp : Nat) (zopMany : Nat) (zisCores : Nat) (zisLocks : Nat) (zisBells : Nat) (ztName : Nat) (zall : Nat) (zrows : Nat) (zpicked : Nat) (zpileTask : Nat) (zpileLock : Nat) (zwas : Nat) (zbehind : Nat) (zriskRow : Nat) (zriskBest : Nat) (zcTick : Nat) (zcProcessor : Nat) (zcTask : Nat) (zgTick : Nat) (zgTask : Nat) (zgTold : Nat) (zgUntold : Nat) (zgRan : Nat) (zboxAll : Nat) (zboxRows : Nat) (zisBoxed : Nat) : Met l yX11_hush wsX11_hush ({ frames := 0, cells := 0, slots := 0, locals := 0 }) (PC [.ref h0] sz D ca [(h0, .inr (11, [.ref ztape, .ref ztext, .int 0, .int 0, .int 0, .int (-1), .int 0, .int 0, .int 0, .int 0, .long 0, .ref zcores, .ref zlocks, .ref zbells, .ref ztasks, .ref zops, .ref zopSort, .ref zopNumber, .ref zkind, .ref zevery, .ref zbudget, .ref zshareTold, .ref zfirstOp, .ref zopMany, .ref zisCores, .ref zisLocks, .ref zisBells, .ref ztName, .int 0, .int 0, .ref zall, .ref zrows, .ref zpicked, .ref zpileTask, .ref zpileLock, .int 0, .ref zwas, .ref zbehind, .ref zriskRow, .ref zriskBest, .int 0, .ref zcTick, .ref zcProcessor, .ref zcTask, .int 0, .ref zgTick, .ref zgTask, .ref zgTold, .ref zgUntold, .ref zgRan, .int 0, .int 0, .ref zboxAll, .ref zboxRows, .ref zisBoxed]))]) (QI (fun (r : Int32) (u : Unit) => r = 0) (fun (_ : Unit) => []) [(h0, .inr (11, [.ref ztape, .ref ztext, .int 0, .int 0, .int 0, .int (-1), .int 0, .int 0, .int 0, .int 0, .long 0, .ref zcores, .ref zlocks, .ref zbells, .ref ztasks, .ref zops, .ref zopSort, .ref zopNumber, .ref zkind, .ref zevery, .ref zbudget, .ref zshareTold, .ref zfirstOp, .ref zopMany, .ref zisCores, .ref zisLocks, .ref zisBells, .ref ztName, .int 0, .int 0, .ref zall, .ref zrows, .ref zpicked, .ref zpileTask, .ref zpileLock, .int 0, .ref zwas, .ref zbehind, .ref zriskRow, .ref zriskBest, .int 0, .ref zcTick, .ref zcProcessor, .ref zcTask, .int 0, .ref zgTick, .ref zgTask, .ref zgTold, .ref zgUntold, .ref zgRan, .int 0, .int 0, .ref zboxAll, .ref zboxRows, .ref zisBoxed]))] sz D) 0 0 (va_A [(h0, .inr (11, [.ref ztape, .ref ztext, .int 0, .int 0, .int 0, .int (-1), .int 0, .int 0, .int 0, .int 0, .long 0, .ref zcores, .ref zlocks, .ref zbells, .ref ztasks, .ref zops, .ref zopSort, .ref zopNumber, .ref zkind, .ref zevery, .ref zbudget, .ref zshareTold, .ref zfirstOp, .ref zopMany, .ref zisCores, .ref zisLocks, .ref zisBells, .ref ztName, .int 0, .int 0, .ref zall, .ref zrows, .ref zpicked, .ref zpileTask, .ref zpileLock, .int 0, .ref zwas, .ref zbehind, .ref zriskRow, .ref zriskBest, .int 0, .ref zcTick, .ref zcProcessor, .ref zcTask, .int 0, .ref zgTick, .ref zgTask, .ref zgTold, .ref zgUntold, .ref zgRan, .int 0, .int 0, .ref zboxAll, .ref zboxRows, .ref zisBoxed]))] sz) := by
  refine Met.ofW (cc := cX11_hush) (maxL := 2) (ret := (some .int)) (by decide +kernel) rfl ?_
  intro p e s m args below meth c s₁ B hml hv
  obtain ⟨rfl, hsz, hP, hC, hD0⟩ := hv
  have hx := B.exec
  have hb := B.bytes
  have hr := B.returns
  have hts := atoms_spec (ws := wsX11_hush) B.pre
  have hown : s.vm.findClass RX11 = some m.cls := findClass_of_methodNamed B.named
  have hlocks := B.notSynchronized
  subst hsz
  have hD := hD0.self (sz := s.heap.size)
  dsimp only [QV, QI, QL, BQ]
  generalize hAe : va_A [(h0, .inr (11, [.ref ztape, .ref ztext, .int 0, .int 0, .int 0, .int (-1), .int 0, .int 0, .int 0, .int 0, .long 0, .ref zcores, .ref zlocks, .ref zbells, .ref ztasks, .ref zops, .ref zopSort, .ref zopNumber, .ref zkind, .ref zevery, .ref zbudget, .ref zshareTold, .ref zfirstOp, .ref zopMany, .ref zisCores, .ref zisLocks, .ref zisBells, .ref ztName, .int 0, .int 0, .ref zall, .ref zrows, .ref zpicked, .ref zpileTask, .ref zpileLock, .int 0, .ref zwas, .ref zbehind, .ref zriskRow, .ref zriskBest, .int 0, .ref zcTick, .ref zcProcessor, .ref zcTask, .int 0, .ref zgTick, .ref zgTask, .ref zgTold, .ref zgUntold, .ref zgRan, .int 0, .int 0, .ref zboxAll, .ref zboxRows, .ref zisBoxed]))] s.heap.size = A at hD ⊢
  have hA : ∀ q : Nat, s.heap.size ≤ q → A q := fun q h => by rw [← hAe]; exact Or.inr h
  have hDA : ∀ {w : va_W}, va_D A w → va_D (va_A [(h0, .inr (11, [.ref ztape, .ref ztext, .int 0, .int 0, .int 0, .int (-1), .int 0, .int 0, .int 0, .int 0, .long 0, .ref zcores, .ref zlocks, .ref zbells, .ref ztasks, .ref zops, .ref zopSort, .ref zopNumber, .ref zkind, .ref zevery, .ref zbudget, .ref zshareTold, .ref zfirstOp, .ref zopMany, .ref zisCores, .ref zisLocks, .ref zisBells, .ref ztName, .int 0, .int 0, .ref zall, .ref zrows, .ref zpicked, .ref zpileTask, .ref zpileLock, .int 0, .ref zwas, .ref zbehind, .ref zriskRow, .ref zriskBest, .int 0, .ref zcTick, .ref zcProcessor, .ref zcTask, .int 0, .ref zgTick, .ref zgTask, .ref zgTold, .ref zgUntold, .ref zgRan, .int 0, .int 0, .ref zboxAll, .ref zboxRows, .ref zisBoxed]))] s.heap.size) w := fun h => by rw [hAe]; exact h
  have hS : va_S A s.heap s.heap [] := va_S.rf
  have hP : va_P D vwCl [(h0, .inr (11, [.ref ztape, .ref ztext, .int 0, .int 0, .int 0, .int (-1), .int 0, .int 0, .int 0, .int 0, .long 0, .ref zcores, .ref zlocks, .ref zbells, .ref ztasks, .ref zops, .ref zopSort, .ref zopNumber, .ref zkind, .ref zevery, .ref zbudget, .ref zshareTold, .ref zfirstOp, .ref zopMany, .ref zisCores, .ref zisLocks, .ref zisBells, .ref ztName, .int 0, .int 0, .ref zall, .ref zrows, .ref zpicked, .ref zpileTask, .ref zpileLock, .int 0, .ref zwas, .ref zbehind, .ref zriskRow, .ref zriskBest, .int 0, .ref zcTick, .ref zcProcessor, .ref zcTask, .int 0, .ref zgTick, .ref zgTask, .ref zgTold, .ref zgUntold, .ref zgRan, .int 0, .int 0, .ref zboxAll, .ref zboxRows, .ref zisBoxed]))] s.heap := hP
  have hl := lv_entry ([.ref h0]) (n := 2) (Nat.le_of_ble_eq_true rfl)
  rw [lg_entry_eq]
  generalize (lg_sl ([.ref h0]) ++ List.replicate (2 - (lg_sl ([.ref h0])).length) Slot.unset).toArray = ls at hl ⊢
  have hl : lv_has ls 2 [(0, .ref h0)] := hl
  refine lv_aload_n hx hb dX11_hush_0 rfl (lv_at hl 0 rfl) ?_
  refine va_get (D := D) (ci := 11) (v := .int 0) (C := RX11) (T := TX11) (N := 55) hx hb hts iw_X11_hush_11 hown hC.1 hP 0 rfl rfl 44 (by decide +kernel) (hts (.fieldLink RX11 250 "FairWheelModel" "toldMany" "I") (by decide +kernel)) (fun _ h9 => h9) rfl dX11_hush_1 ?_
  refine lv_istore_n (lv' := [(1, .int 0), (0, .ref h0)]) hx hb dX11_hush_4 rfl hl (by decide +kernel) rfl (fun ls hl => ?_)
  refine lv_aload_n hx hb dX11_hush_5 rfl (lv_at hl 1 rfl) ?_
  refine lv_iconst (v := 0) hx hb dX11_hush_6 (by decide +kernel) ?_
  refine va_put (D := D) (ci := 11) (v := .int 0) (ty := .int) (C := RX11) (T := TX11) (N := 55) hx hb hts iw_X11_hush_11 tyX11 tyX11_ok nmX11 hown hC.1 hP hD hS 0 rfl rfl 44 (by decide +kernel) (hts (.fieldLink RX11 250 "FairWheelModel" "toldMany" "I") (by decide +kernel)) (fun _ h9 => h9) rfl (by decide +kernel) rfl rfl (Nat.le_of_ble_eq_true rfl) dX11_hush_7 (fun H locs hP hD hS => ?_)
  have hP : va_P D vwCl [(h0, .inr (11, [.ref ztape, .ref ztext, .int 0, .int 0, .int 0, .int (-1), .int 0, .int 0, .int 0, .int 0, .long 0, .ref zcores, .ref zlocks, .ref zbells, .ref ztasks, .ref zops, .ref zopSort, .ref zopNumber, .ref zkind, .ref zevery, .ref zbudget, .ref zshareTold, .ref zfirstOp, .ref zopMany, .ref zisCores, .ref zisLocks, .ref zisBells, .ref ztName, .int 0, .int 0, .ref zall, .ref zrows, .ref zpicked, .ref zpileTask, .ref zpileLock, .int 0, .ref zwas, .ref zbehind, .ref zriskRow, .ref zriskBest, .int 0, .ref zcTick, .ref zcProcessor, .ref zcTask, .int 0, .ref zgTick, .ref zgTask, .ref zgTold, .ref zgUntold, .ref zgRan, .int 0, .int 0, .ref zboxAll, .ref zboxRows, .ref zisBoxed]))] H := hP
  have hD : va_D A [(h0, .inr (11, [.ref ztape, .ref ztext, .int 0, .int 0, .int 0, .int (-1), .int 0, .int 0, .int 0, .int 0, .long 0, .ref zcores, .ref zlocks, .ref zbells, .ref ztasks, .ref zops, .ref zopSort, .ref zopNumber, .ref zkind, .ref zevery, .ref zbudget, .ref zshareTold, .ref zfirstOp, .ref zopMany, .ref zisCores, .ref zisLocks, .ref zisBells, .ref ztName, .int 0, .int 0, .ref zall, .ref zrows, .ref zpicked, .ref zpileTask, .ref zpileLock, .int 0, .ref zwas, .ref zbehind, .ref zriskRow, .ref zriskBest, .int 0, .ref zcTick, .ref zcProcessor, .ref zcTask, .int 0, .ref zgTick, .ref zgTask, .ref zgTold, .ref zgUntold, .ref zgRan, .int 0, .int 0, .ref zboxAll, .ref zboxRows, .ref zisBoxed]))] := hD
  refine lv_iload_n hx hb dX11_hush_10 rfl (lv_at hl 0 rfl) ?_
  exact W.iret (v := 0) hx hb hr (fun t ht hW => ⟨⟨0, (), rfl, rfl, by rw [ht]; exact hP.sub [] rfl, hDA (hD.sub [] (by decide +kernel) rfl)⟩, hS.F ht⟩) hS.2.2 dX11_hush_11
theorem iw_X11_check_11 : ∀ w ∈ u_ws RX11 TX11 55, w ∈ wsX11_check := by decide +kernel
set_option maxHeartbeats 4000000 in
set_option maxRecDepth 100000 in
theorem k_X11_check (l : Launch) (D : va_G) (ca : Nat → ClassId) (sz : Nat) (h0 : Nat) (ztape : Nat) (ztext : Nat) (zcores : Nat) (zlocks : Nat) (zbells : Nat) (ztasks : Nat) (zops : Nat) (zopSort : Nat) (zopNumber : Nat) (zkind : Nat) (zevery : Nat) (zbudget : Nat) (zshareTold : Nat) (zfirstOp : Nat) (zopMany : Nat) (zisCores : Nat) (zisLocks : Nat) (zisBells : Nat) (ztName : Nat) (zall : Nat) (zrows : Nat) (zpicked : Nat) (zpileTask : Nat) (zpileLock : Nat) (zwas : Nat) (zbehind : Nat) (zriskRow : Nat) (zriskBest : Nat) (zcTick : Nat) (zcProcessor : Nat) (zcTask : Nat) (zgTick : Nat) (zgTask : Nat) (zgTold : Nat) (zgUntold : Nat) (zgRan : Nat) (zboxAll : Nat) (zboxRows : Nat) (zisBoxed : Nat) : Met l yX11_check wsX11_check ({ frames := 0, cells := 0, slots := 0, locals := 0 }) (PC [.ref h0] sz D ca [(h0, .inr (11, [.ref ztape, .ref ztext, .int 0, .int 0, .int 0, .int (-1), .int 0, .int 0, .int 0, .int 0, .long 0, .ref zcores, .ref zlocks, .ref zbells, .ref ztasks, .ref zops, .ref zopSort, .ref zopNumber, .ref zkind, .ref zevery, .ref zbudget, .ref zshareTold, .ref zfirstOp, .ref zopMany, .ref zisCores, .ref zisLocks, .ref zisBells, .ref ztName, .int 0, .int 0, .ref zall, .ref zrows, .ref zpicked, .ref zpileTask, .ref zpileLock, .int 0, .ref zwas, .ref zbehind, .ref zriskRow, .ref zriskBest, .int 0, .ref zcTick, .ref zcProcessor, .ref zcTask, .int 0, .ref zgTick, .ref zgTask, .ref zgTold, .ref zgUntold, .ref zgRan, .int 0, .int 0, .ref zboxAll, .ref zboxRows, .ref zisBoxed]))]) (QI (fun (r : Int32) (u : Unit) => r = (-1)) (fun (_ : Unit) => []) [(h0, .inr (11, [.ref ztape, .ref ztext, .int 0, .int 0, .int 0, .int (-1), .int 0, .int 0, .int 0, .int 0, .long 0, .ref zcores, .ref zlocks, .ref zbells, .ref ztasks, .ref zops, .ref zopSort, .ref zopNumber, .ref zkind, .ref zevery, .ref zbudget, .ref zshareTold, .ref zfirstOp, .ref zopMany, .ref zisCores, .ref zisLocks, .ref zisBells, .ref ztName, .int 0, .int 0, .ref zall, .ref zrows, .ref zpicked, .ref zpileTask, .ref zpileLock, .int 0, .ref zwas, .ref zbehind, .ref zriskRow, .ref zriskBest, .int 0, .ref zcTick, .ref zcProcessor, .ref zcTask, .int 0, .ref zgTick, .ref zgTask, .ref zgTold, .ref zgUntold, .ref zgRan, .int 0, .int 0, .ref zboxAll, .ref zboxRows, .ref zisBoxed]))] sz D) 0 0 (va_A [(h0, .inr (11, [.ref ztape, .ref ztext, .int 0, .int 0, .int 0, .int (-1), .int 0, .int 0, .int 0, .int 0, .long 0, .ref zcores, .ref zlocks, .ref zbells, .ref ztasks, .ref zops, .ref zopSort, .ref zopNumber, .ref zkind, .ref zevery, .ref zbudget, .ref zshareTold, .ref zfirstOp, .ref zopMany, .ref zisCores, .ref zisLocks, .ref zisBells, .ref ztName, .int 0, .int 0, .ref zall, .ref zrows, .ref zpicked, .ref zpileTask, .ref zpileLock, .int 0, .ref zwas, .ref zbehind, .ref zriskRow, .ref zriskBest, .int 0, .ref zcTick, .ref zcProcessor, .ref zcTask, .int 0, .ref zgTick, .ref zgTask, .ref zgTold, .ref zgUntold, .ref zgRan, .int 0, .int 0, .ref zboxAll, .ref zboxRows, .ref zisBoxed]))] sz) := by
  refine Met.ofW (cc := cX11_check) (maxL := 2) (ret := (some .int)) (by decide +kernel) rfl ?_
  intro p e s m args below meth c s₁ B hml hv
  obtain ⟨rfl, hsz, hP, hC, hD0⟩ := hv
  have hx := B.exec
  have hb := B.bytes
  have hr := B.returns
  have hts := atoms_spec (ws := wsX11_check) B.pre
  have hown : s.vm.findClass RX11 = some m.cls := findClass_of_methodNamed B.named
  have hlocks := B.notSynchronized
  subst hsz
  have hD := hD0.self (sz := s.heap.size)
  dsimp only [QV, QI, QL, BQ]
  generalize hAe : va_A [(h0, .inr (11, [.ref ztape, .ref ztext, .int 0, .int 0, .int 0, .int (-1), .int 0, .int 0, .int 0, .int 0, .long 0, .ref zcores, .ref zlocks, .ref zbells, .ref ztasks, .ref zops, .ref zopSort, .ref zopNumber, .ref zkind, .ref zevery, .ref zbudget, .ref zshareTold, .ref zfirstOp, .ref zopMany, .ref zisCores, .ref zisLocks, .ref zisBells, .ref ztName, .int 0, .int 0, .ref zall, .ref zrows, .ref zpicked, .ref zpileTask, .ref zpileLock, .int 0, .ref zwas, .ref zbehind, .ref zriskRow, .ref zriskBest, .int 0, .ref zcTick, .ref zcProcessor, .ref zcTask, .int 0, .ref zgTick, .ref zgTask, .ref zgTold, .ref zgUntold, .ref zgRan, .int 0, .int 0, .ref zboxAll, .ref zboxRows, .ref zisBoxed]))] s.heap.size = A at hD ⊢
  have hA : ∀ q : Nat, s.heap.size ≤ q → A q := fun q h => by rw [← hAe]; exact Or.inr h
  have hDA : ∀ {w : va_W}, va_D A w → va_D (va_A [(h0, .inr (11, [.ref ztape, .ref ztext, .int 0, .int 0, .int 0, .int (-1), .int 0, .int 0, .int 0, .int 0, .long 0, .ref zcores, .ref zlocks, .ref zbells, .ref ztasks, .ref zops, .ref zopSort, .ref zopNumber, .ref zkind, .ref zevery, .ref zbudget, .ref zshareTold, .ref zfirstOp, .ref zopMany, .ref zisCores, .ref zisLocks, .ref zisBells, .ref ztName, .int 0, .int 0, .ref zall, .ref zrows, .ref zpicked, .ref zpileTask, .ref zpileLock, .int 0, .ref zwas, .ref zbehind, .ref zriskRow, .ref zriskBest, .int 0, .ref zcTick, .ref zcProcessor, .ref zcTask, .int 0, .ref zgTick, .ref zgTask, .ref zgTold, .ref zgUntold, .ref zgRan, .int 0, .int 0, .ref zboxAll, .ref zboxRows, .ref zisBoxed]))] s.heap.size) w := fun h => by rw [hAe]; exact h
  have hS : va_S A s.heap s.heap [] := va_S.rf
  have hP : va_P D vwCl [(h0, .inr (11, [.ref ztape, .ref ztext, .int 0, .int 0, .int 0, .int (-1), .int 0, .int 0, .int 0, .int 0, .long 0, .ref zcores, .ref zlocks, .ref zbells, .ref ztasks, .ref zops, .ref zopSort, .ref zopNumber, .ref zkind, .ref zevery, .ref zbudget, .ref zshareTold, .ref zfirstOp, .ref zopMany, .ref zisCores, .ref zisLocks, .ref zisBells, .ref ztName, .int 0, .int 0, .ref zall, .ref zrows, .ref zpicked, .ref zpileTask, .ref zpileLock, .int 0, .ref zwas, .ref zbehind, .ref zriskRow, .ref zriskBest, .int 0, .ref zcTick, .ref zcProcessor, .ref zcTask, .int 0, .ref zgTick, .ref zgTask, .ref zgTold, .ref zgUntold, .ref zgRan, .int 0, .int 0, .ref zboxAll, .ref zboxRows, .ref zisBoxed]))] s.heap := hP
  have hl := lv_entry ([.ref h0]) (n := 2) (Nat.le_of_ble_eq_true rfl)
  rw [lg_entry_eq]
  generalize (lg_sl ([.ref h0]) ++ List.replicate (2 - (lg_sl ([.ref h0])).length) Slot.unset).toArray = ls at hl ⊢
  have hl : lv_has ls 2 [(0, .ref h0)] := hl
  refine lv_iconst (v := 0) hx hb dX11_check_0 (by decide +kernel) ?_
  refine lv_istore_n (lv' := [(1, .int 0), (0, .ref h0)]) hx hb dX11_check_1 rfl hl (by decide +kernel) rfl (fun ls hl => ?_)
  refine lv_iload_n hx hb dX11_check_2 rfl (lv_at hl 0 rfl) ?_
  refine lv_aload_n hx hb dX11_check_3 rfl (lv_at hl 1 rfl) ?_
  refine va_get (D := D) (ci := 11) (v := .int 0) (C := RX11) (T := TX11) (N := 55) hx hb hts iw_X11_check_11 hown hC.1 hP 0 rfl rfl 44 (by decide +kernel) (hts (.fieldLink RX11 250 "FairWheelModel" "toldMany" "I") (by decide +kernel)) (fun _ h9 => h9) rfl dX11_check_4 ?_
  refine lv_icmp_ge (tgt := 82) hx hb dX11_check_7 (by decide +kernel) (fun c_1 => ?_) (fun c_1 => absurd (by decide +kernel) c_1)
  refine lv_iconst (v := (-1)) hx hb dX11_check_82 (by decide +kernel) ?_
  exact W.iret (v := (-1)) hx hb hr (fun t ht hW => ⟨⟨(-1), (), rfl, rfl, by rw [ht]; exact hP.sub [] rfl, hDA (hD.sub [] (by decide +kernel) rfl)⟩, hS.F ht⟩) hS.2.2 dX11_check_83
set_option maxHeartbeats 4000000 in
set_option maxRecDepth 100000 in
theorem k_X11_sight (l : Launch) (D : va_G) (ca : Nat → ClassId) (sz : Nat) (h0 : Nat) (ztape : Nat) (ztext : Nat) (zcores : Nat) (zlocks : Nat) (zbells : Nat) (ztasks : Nat) (zops : Nat) (zopSort : Nat) (zopNumber : Nat) (zkind : Nat) (zevery : Nat) (zbudget : Nat) (zshareTold : Nat) (zfirstOp : Nat) (zopMany : Nat) (zisCores : Nat) (zisLocks : Nat) (zisBells : Nat) (ztName : Nat) (zall : Nat) (zrows : Nat) (zpicked : Nat) (zpileTask : Nat) (zpileLock : Nat) (zwas : Nat) (zbehind : Nat) (zriskRow : Nat) (zriskBest : Nat) (zcTick : Nat) (zcProcessor : Nat) (zcTask : Nat) (zgTick : Nat) (zgTask : Nat) (zgTold : Nat) (zgUntold : Nat) (zgRan : Nat) (zboxAll : Nat) (zboxRows : Nat) (zisBoxed : Nat) (x1 : Int32) (x2 : Int32) (x3 : Int32) : Met l yX11_sight wsX11_sight ({ frames := 2, cells := 0, slots := 0, locals := 43 }) (PC [.ref h0, .int x1, .int x2, .int x3] sz D ca [(h0, .inr (11, [.ref ztape, .ref ztext, .int 0, .int 0, .int 0, .int (-1), .int 0, .int 0, .int 0, .int 0, .long 0, .ref zcores, .ref zlocks, .ref zbells, .ref ztasks, .ref zops, .ref zopSort, .ref zopNumber, .ref zkind, .ref zevery, .ref zbudget, .ref zshareTold, .ref zfirstOp, .ref zopMany, .ref zisCores, .ref zisLocks, .ref zisBells, .ref ztName, .int 0, .int 0, .ref zall, .ref zrows, .ref zpicked, .ref zpileTask, .ref zpileLock, .int 0, .ref zwas, .ref zbehind, .ref zriskRow, .ref zriskBest, .int 0, .ref zcTick, .ref zcProcessor, .ref zcTask, .int 0, .ref zgTick, .ref zgTask, .ref zgTold, .ref zgUntold, .ref zgRan, .int 0, .int 0, .ref zboxAll, .ref zboxRows, .ref zisBoxed])), (ztasks, .inl (ca 1, 2, .inl (fun _ => 0)))]) (QI (fun (r : Int32) (u : Unit) => r = (-1)) (fun (_ : Unit) => []) [(h0, .inr (11, [.ref ztape, .ref ztext, .int 0, .int 0, .int 0, .int (-1), .int 0, .int 0, .int 0, .int 0, .long 0, .ref zcores, .ref zlocks, .ref zbells, .ref ztasks, .ref zops, .ref zopSort, .ref zopNumber, .ref zkind, .ref zevery, .ref zbudget, .ref zshareTold, .ref zfirstOp, .ref zopMany, .ref zisCores, .ref zisLocks, .ref zisBells, .ref ztName, .int 0, .int 0, .ref zall, .ref zrows, .ref zpicked, .ref zpileTask, .ref zpileLock, .int 0, .ref zwas, .ref zbehind, .ref zriskRow, .ref zriskBest, .int 0, .ref zcTick, .ref zcProcessor, .ref zcTask, .int 0, .ref zgTick, .ref zgTask, .ref zgTold, .ref zgUntold, .ref zgRan, .int 0, .int 0, .ref zboxAll, .ref zboxRows, .ref zisBoxed])), (ztasks, .inl (ca 1, 2, .inl (fun _ => 0)))] sz D) 0 0 (va_A [(h0, .inr (11, [.ref ztape, .ref ztext, .int 0, .int 0, .int 0, .int (-1), .int 0, .int 0, .int 0, .int 0, .long 0, .ref zcores, .ref zlocks, .ref zbells, .ref ztasks, .ref zops, .ref zopSort, .ref zopNumber, .ref zkind, .ref zevery, .ref zbudget, .ref zshareTold, .ref zfirstOp, .ref zopMany, .ref zisCores, .ref zisLocks, .ref zisBells, .ref ztName, .int 0, .int 0, .ref zall, .ref zrows, .ref zpicked, .ref zpileTask, .ref zpileLock, .int 0, .ref zwas, .ref zbehind, .ref zriskRow, .ref zriskBest, .int 0, .ref zcTick, .ref zcProcessor, .ref zcTask, .int 0, .ref zgTick, .ref zgTask, .ref zgTold, .ref zgUntold, .ref zgRan, .int 0, .int 0, .ref zboxAll, .ref zboxRows, .ref zisBoxed])), (ztasks, .inl (ca 1, 2, .inl (fun _ => 0)))] sz) := by
  refine Met.ofW (cc := cX11_sight) (maxL := 4) (ret := (some .int)) (by decide +kernel) rfl ?_
  intro p e s m args below meth c s₁ B hml hv
  obtain ⟨rfl, hsz, hP, hC, hD0⟩ := hv
  have hx := B.exec
  have hb := B.bytes
  have hr := B.returns
  have hts := atoms_spec (ws := wsX11_sight) B.pre
  have hown : s.vm.findClass RX11 = some m.cls := findClass_of_methodNamed B.named
  have hlocks := B.notSynchronized
  subst hsz
  have hD := hD0.self (sz := s.heap.size)
  dsimp only [QV, QI, QL, BQ]
  generalize hAe : va_A [(h0, .inr (11, [.ref ztape, .ref ztext, .int 0, .int 0, .int 0, .int (-1), .int 0, .int 0, .int 0, .int 0, .long 0, .ref zcores, .ref zlocks, .ref zbells, .ref ztasks, .ref zops, .ref zopSort, .ref zopNumber, .ref zkind, .ref zevery, .ref zbudget, .ref zshareTold, .ref zfirstOp, .ref zopMany, .ref zisCores, .ref zisLocks, .ref zisBells, .ref ztName, .int 0, .int 0, .ref zall, .ref zrows, .ref zpicked, .ref zpileTask, .ref zpileLock, .int 0, .ref zwas, .ref zbehind, .ref zriskRow, .ref zriskBest, .int 0, .ref zcTick, .ref zcProcessor, .ref zcTask, .int 0, .ref zgTick, .ref zgTask, .ref zgTold, .ref zgUntold, .ref zgRan, .int 0, .int 0, .ref zboxAll, .ref zboxRows, .ref zisBoxed])), (ztasks, .inl (ca 1, 2, .inl (fun _ => 0)))] s.heap.size = A at hD ⊢
  have hA : ∀ q : Nat, s.heap.size ≤ q → A q := fun q h => by rw [← hAe]; exact Or.inr h
  have hDA : ∀ {w : va_W}, va_D A w → va_D (va_A [(h0, .inr (11, [.ref ztape, .ref ztext, .int 0, .int 0, .int 0, .int (-1), .int 0, .int 0, .int 0, .int 0, .long 0, .ref zcores, .ref zlocks, .ref zbells, .ref ztasks, .ref zops, .ref zopSort, .ref zopNumber, .ref zkind, .ref zevery, .ref zbudget, .ref zshareTold, .ref zfirstOp, .ref zopMany, .ref zisCores, .ref zisLocks, .ref zisBells, .ref ztName, .int 0, .int 0, .ref zall, .ref zrows, .ref zpicked, .ref zpileTask, .ref zpileLock, .int 0, .ref zwas, .ref zbehind, .ref zriskRow, .ref zriskBest, .int 0, .ref zcTick, .ref zcProcessor, .ref zcTask, .int 0, .ref zgTick, .ref zgTask, .ref zgTold, .ref zgUntold, .ref zgRan, .int 0, .int 0, .ref zboxAll, .ref zboxRows, .ref zisBoxed])), (ztasks, .inl (ca 1, 2, .inl (fun _ => 0)))] s.heap.size) w := fun h => by rw [hAe]; exact h
  have hS : va_S A s.heap s.heap [] := va_S.rf
  have hP : va_P D vwCl [(h0, .inr (11, [.ref ztape, .ref ztext, .int 0, .int 0, .int 0, .int (-1), .int 0, .int 0, .int 0, .int 0, .long 0, .ref zcores, .ref zlocks, .ref zbells, .ref ztasks, .ref zops, .ref zopSort, .ref zopNumber, .ref zkind, .ref zevery, .ref zbudget, .ref zshareTold, .ref zfirstOp, .ref zopMany, .ref zisCores, .ref zisLocks, .ref zisBells, .ref ztName, .int 0, .int 0, .ref zall, .ref zrows, .ref zpicked, .ref zpileTask, .ref zpileLock, .int 0, .ref zwas, .ref zbehind, .ref zriskRow, .ref zriskBest, .int 0, .ref zcTick, .ref zcProcessor, .ref zcTask, .int 0, .ref zgTick, .ref zgTask, .ref zgTold, .ref zgUntold, .ref zgRan, .int 0, .int 0, .ref zboxAll, .ref zboxRows, .ref zisBoxed])), (ztasks, .inl (ca 1, 2, .inl (fun _ => 0)))] s.heap := hP
  have hl := lv_entry ([.ref h0, .int x1, .int x2, .int x3]) (n := 4) (Nat.le_of_ble_eq_true rfl)
  rw [lg_entry_eq]
  generalize (lg_sl ([.ref h0, .int x1, .int x2, .int x3]) ++ List.replicate (4 - (lg_sl ([.ref h0, .int x1, .int x2, .int x3])).length) Slot.unset).toArray = ls at hl ⊢
  have hl : lv_has ls 4 [(0, .ref h0), (1, .int x1), (2, .int x2), (3, .int x3)] := hl
  refine lv_iload_n hx hb dX11_sight_0 rfl (lv_at hl 1 rfl) ?_
  refine lv_iconst (v := 0) hx hb dX11_sight_1 (by decide +kernel) ?_
  refine lv_bipush (v := 99) hx hb dX11_sight_2 (by decide +kernel) ?_
  refine kc_i (wr := [(h0, .inr (11, [.ref ztape, .ref ztext, .int 0, .int 0, .int 0, .int (-1), .int 0, .int 0, .int 0, .int 0, .long 0, .ref zcores, .ref zlocks, .ref zbells, .ref ztasks, .ref zops, .ref zopSort, .ref zopNumber, .ref zkind, .ref zevery, .ref zbudget, .ref zshareTold, .ref zfirstOp, .ref zopMany, .ref zisCores, .ref zisLocks, .ref zisBells, .ref ztName, .int 0, .int 0, .ref zall, .ref zrows, .ref zpicked, .ref zpileTask, .ref zpileLock, .int 0, .ref zwas, .ref zbehind, .ref zriskRow, .ref zriskBest, .int 0, .ref zcTick, .ref zcProcessor, .ref zcTask, .int 0, .ref zgTick, .ref zgTask, .ref zgTold, .ref zgUntold, .ref zgRan, .int 0, .int 0, .ref zboxAll, .ref zboxRows, .ref zisBoxed])), (ztasks, .inl (ca 1, 2, .inl (fun _ => 0)))]) (va_runS (As := [.int x1, .int 0, .int 99]) (rest := []) ⟨hx, hb, hml, hown, hts⟩ (k_X11_isIn_0_99 l D ca s.heap.size x1) (va_cwS 3 hts gX11_sight_X11_isIn rfl rfl rfl (by decide +kernel) ⟨(Nat.le_of_ble_eq_true rfl), (Nat.le_of_ble_eq_true rfl)⟩) (PC.preS hC hP hD [] rfl (by decide +kernel)) rfl rfl hl.1 rfl (lv_room (Nat.le_of_ble_eq_true rfl)) dX11_sight_4 ⟨(Nat.le_of_ble_eq_true rfl), (Nat.le_of_ble_eq_true rfl)⟩) hP hD hS hA [] [0, 1] rfl rfl (by decide +kernel) (by decide +kernel) (fun r_1 u_3 H locs hw_2 hP hD hS => ?_)
  have hP : va_P D vwCl [(h0, .inr (11, [.ref ztape, .ref ztext, .int 0, .int 0, .int 0, .int (-1), .int 0, .int 0, .int 0, .int 0, .long 0, .ref zcores, .ref zlocks, .ref zbells, .ref ztasks, .ref zops, .ref zopSort, .ref zopNumber, .ref zkind, .ref zevery, .ref zbudget, .ref zshareTold, .ref zfirstOp, .ref zopMany, .ref zisCores, .ref zisLocks, .ref zisBells, .ref ztName, .int 0, .int 0, .ref zall, .ref zrows, .ref zpicked, .ref zpileTask, .ref zpileLock, .int 0, .ref zwas, .ref zbehind, .ref zriskRow, .ref zriskBest, .int 0, .ref zcTick, .ref zcProcessor, .ref zcTask, .int 0, .ref zgTick, .ref zgTask, .ref zgTold, .ref zgUntold, .ref zgRan, .int 0, .int 0, .ref zboxAll, .ref zboxRows, .ref zisBoxed])), (ztasks, .inl (ca 1, 2, .inl (fun _ => 0)))] H := hP
  have hD : va_D A [(h0, .inr (11, [.ref ztape, .ref ztext, .int 0, .int 0, .int 0, .int (-1), .int 0, .int 0, .int 0, .int 0, .long 0, .ref zcores, .ref zlocks, .ref zbells, .ref ztasks, .ref zops, .ref zopSort, .ref zopNumber, .ref zkind, .ref zevery, .ref zbudget, .ref zshareTold, .ref zfirstOp, .ref zopMany, .ref zisCores, .ref zisLocks, .ref zisBells, .ref ztName, .int 0, .int 0, .ref zall, .ref zrows, .ref zpicked, .ref zpileTask, .ref zpileLock, .int 0, .ref zwas, .ref zbehind, .ref zriskRow, .ref zriskBest, .int 0, .ref zcTick, .ref zcProcessor, .ref zcTask, .int 0, .ref zgTick, .ref zgTask, .ref zgTold, .ref zgUntold, .ref zgRan, .int 0, .int 0, .ref zboxAll, .ref zboxRows, .ref zisBoxed])), (ztasks, .inl (ca 1, 2, .inl (fun _ => 0)))] := hD
  rcases Decidable.em (x1 < 0) with c_4 | c_4
  · obtain rfl : r_1 = 0 := hw_2.trans (by unfold sp_k_X11_isIn_0_99; rw [if_pos c_4])
    refine lv_if_eq (tgt := 27) hx hb dX11_sight_7 (by decide +kernel) (fun c_5 => ?_) (fun c_5 => absurd (by decide +kernel) c_5)
    refine lv_iconst (v := (-1)) hx hb dX11_sight_27 (by decide +kernel) ?_
    exact W.iret (v := (-1)) hx hb hr (fun t ht hW => ⟨⟨(-1), (), rfl, rfl, by rw [ht]; exact hP.sub [] rfl, hDA (hD.sub [] (by decide +kernel) rfl)⟩, hS.F ht⟩) hS.2.2 dX11_sight_28
  · rcases Decidable.em (99 < x1) with c_6 | c_6
    · obtain rfl : r_1 = 0 := hw_2.trans (by unfold sp_k_X11_isIn_0_99; rw [if_neg c_4, if_pos c_6])
      refine lv_if_eq (tgt := 27) hx hb dX11_sight_7 (by decide +kernel) (fun c_7 => ?_) (fun c_7 => absurd (by decide +kernel) c_7)
      refine lv_iconst (v := (-1)) hx hb dX11_sight_27 (by decide +kernel) ?_
      exact W.iret (v := (-1)) hx hb hr (fun t ht hW => ⟨⟨(-1), (), rfl, rfl, by rw [ht]; exact hP.sub [] rfl, hDA (hD.sub [] (by decide +kernel) rfl)⟩, hS.F ht⟩) hS.2.2 dX11_sight_28
    · obtain rfl : r_1 = 1 := hw_2.trans (by unfold sp_k_X11_isIn_0_99; rw [if_neg c_4, if_neg c_6])
      refine lv_if_eq (tgt := 27) hx hb dX11_sight_7 (by decide +kernel) (fun c_8 => absurd c_8 (by decide +kernel)) (fun c_8 => ?_)
      refine lv_aload_n hx hb dX11_sight_10 rfl (lv_at hl 0 rfl) ?_
      refine lv_iload_n hx hb dX11_sight_11 rfl (lv_at hl 2 rfl) ?_
      refine kc_i (wr := []) (va_runV (As := [.int x2]) (rest := []) ⟨hx, hb, hml, hown, hts⟩ (k_X11_isTask l D ca H.size h0 ztape ztext zcores zlocks zbells ztasks zops zopSort zopNumber zkind zevery zbudget zshareTold zfirstOp zopMany zisCores zisLocks zisBells ztName zall zrows zpicked zpileTask zpileLock zwas zbehind zriskRow zriskBest zcTick zcProcessor zcTask zgTick zgTask zgTold zgUntold zgRan zboxAll zboxRows zisBoxed 0 0 0 (-1) 0 0 0 0 0 0 0 0 0 0 0 x2) (cwV 1 hts gX11_sight_X11_isTask rfl rfl rfl (by decide +kernel) ⟨(Nat.le_of_ble_eq_true rfl), (Nat.le_of_ble_eq_true rfl)⟩) (PC.preV (ci := 11) hC hP hD [0, 1] rfl (by decide +kernel) rfl rfl) rfl rfl hl.1 rfl (lv_room (Nat.le_of_ble_eq_true rfl)) dX11_sight_12 ⟨(Nat.le_of_ble_eq_true rfl), (Nat.le_of_ble_eq_true rfl)⟩) hP hD hS hA [0, 1] [] rfl rfl (by decide +kernel) (by decide +kernel) (fun r_9 u_11 H locs hw_10 hP hD hS => ?_)
      subst hw_10
      have hP : va_P D vwCl [(h0, .inr (11, [.ref ztape, .ref ztext, .int 0, .int 0, .int 0, .int (-1), .int 0, .int 0, .int 0, .int 0, .long 0, .ref zcores, .ref zlocks, .ref zbells, .ref ztasks, .ref zops, .ref zopSort, .ref zopNumber, .ref zkind, .ref zevery, .ref zbudget, .ref zshareTold, .ref zfirstOp, .ref zopMany, .ref zisCores, .ref zisLocks, .ref zisBells, .ref ztName, .int 0, .int 0, .ref zall, .ref zrows, .ref zpicked, .ref zpileTask, .ref zpileLock, .int 0, .ref zwas, .ref zbehind, .ref zriskRow, .ref zriskBest, .int 0, .ref zcTick, .ref zcProcessor, .ref zcTask, .int 0, .ref zgTick, .ref zgTask, .ref zgTold, .ref zgUntold, .ref zgRan, .int 0, .int 0, .ref zboxAll, .ref zboxRows, .ref zisBoxed])), (ztasks, .inl (ca 1, 2, .inl (fun _ => 0)))] H := hP
      have hD : va_D A [(h0, .inr (11, [.ref ztape, .ref ztext, .int 0, .int 0, .int 0, .int (-1), .int 0, .int 0, .int 0, .int 0, .long 0, .ref zcores, .ref zlocks, .ref zbells, .ref ztasks, .ref zops, .ref zopSort, .ref zopNumber, .ref zkind, .ref zevery, .ref zbudget, .ref zshareTold, .ref zfirstOp, .ref zopMany, .ref zisCores, .ref zisLocks, .ref zisBells, .ref ztName, .int 0, .int 0, .ref zall, .ref zrows, .ref zpicked, .ref zpileTask, .ref zpileLock, .int 0, .ref zwas, .ref zbehind, .ref zriskRow, .ref zriskBest, .int 0, .ref zcTick, .ref zcProcessor, .ref zcTask, .int 0, .ref zgTick, .ref zgTask, .ref zgTold, .ref zgUntold, .ref zgRan, .int 0, .int 0, .ref zboxAll, .ref zboxRows, .ref zisBoxed])), (ztasks, .inl (ca 1, 2, .inl (fun _ => 0)))] := hD
      refine lv_if_eq (tgt := 27) hx hb dX11_sight_15 (by decide +kernel) (fun c_12 => ?_) (fun c_12 => absurd (by decide +kernel) c_12)
      refine lv_iconst (v := (-1)) hx hb dX11_sight_27 (by decide +kernel) ?_
      exact W.iret (v := (-1)) hx hb hr (fun t ht hW => ⟨⟨(-1), (), rfl, rfl, by rw [ht]; exact hP.sub [] rfl, hDA (hD.sub [] (by decide +kernel) rfl)⟩, hS.F ht⟩) hS.2.2 dX11_sight_28
theorem iw_X11_untell_11 : ∀ w ∈ u_ws RX11 TX11 55, w ∈ wsX11_untell := by decide +kernel
set_option maxHeartbeats 4000000 in
set_option maxRecDepth 100000 in
theorem k_X11_untell (l : Launch) (D : va_G) (ca : Nat → ClassId) (sz : Nat) (h0 : Nat) (ztape : Nat) (ztext : Nat) (zcores : Nat) (zlocks : Nat) (zbells : Nat) (ztasks : Nat) (zops : Nat) (zopSort : Nat) (zopNumber : Nat) (zkind : Nat) (zevery : Nat) (zbudget : Nat) (zshareTold : Nat) (zfirstOp : Nat) (zopMany : Nat) (zisCores : Nat) (zisLocks : Nat) (zisBells : Nat) (ztName : Nat) (zall : Nat) (zrows : Nat) (zpicked : Nat) (zpileTask : Nat) (zpileLock : Nat) (zwas : Nat) (zbehind : Nat) (zriskRow : Nat) (zriskBest : Nat) (zcTick : Nat) (zcProcessor : Nat) (zcTask : Nat) (zgTick : Nat) (zgTask : Nat) (zgTold : Nat) (zgUntold : Nat) (zgRan : Nat) (zboxAll : Nat) (zboxRows : Nat) (zisBoxed : Nat) (x1 : Int32) : Met l yX11_untell wsX11_untell ({ frames := 1, cells := 0, slots := 0, locals := 22 }) (PC [.ref h0, .int x1] sz D ca [(h0, .inr (11, [.ref ztape, .ref ztext, .int 0, .int 0, .int 0, .int (-1), .int 0, .int 0, .int 0, .int 0, .long 0, .ref zcores, .ref zlocks, .ref zbells, .ref ztasks, .ref zops, .ref zopSort, .ref zopNumber, .ref zkind, .ref zevery, .ref zbudget, .ref zshareTold, .ref zfirstOp, .ref zopMany, .ref zisCores, .ref zisLocks, .ref zisBells, .ref ztName, .int 0, .int 0, .ref zall, .ref zrows, .ref zpicked, .ref zpileTask, .ref zpileLock, .int 0, .ref zwas, .ref zbehind, .ref zriskRow, .ref zriskBest, .int 0, .ref zcTick, .ref zcProcessor, .ref zcTask, .int 0, .ref zgTick, .ref zgTask, .ref zgTold, .ref zgUntold, .ref zgRan, .int 0, .int 0, .ref zboxAll, .ref zboxRows, .ref zisBoxed]))]) (QI (fun (r : Int32) (u : Unit) => r = 0) (fun (_ : Unit) => []) [(h0, .inr (11, [.ref ztape, .ref ztext, .int 0, .int 0, .int 0, .int (-1), .int 0, .int 0, .int 0, .int 0, .long 0, .ref zcores, .ref zlocks, .ref zbells, .ref ztasks, .ref zops, .ref zopSort, .ref zopNumber, .ref zkind, .ref zevery, .ref zbudget, .ref zshareTold, .ref zfirstOp, .ref zopMany, .ref zisCores, .ref zisLocks, .ref zisBells, .ref ztName, .int 0, .int 0, .ref zall, .ref zrows, .ref zpicked, .ref zpileTask, .ref zpileLock, .int 0, .ref zwas, .ref zbehind, .ref zriskRow, .ref zriskBest, .int 0, .ref zcTick, .ref zcProcessor, .ref zcTask, .int 0, .ref zgTick, .ref zgTask, .ref zgTold, .ref zgUntold, .ref zgRan, .int 0, .int 0, .ref zboxAll, .ref zboxRows, .ref zisBoxed]))] sz D) 0 0 (va_A [(h0, .inr (11, [.ref ztape, .ref ztext, .int 0, .int 0, .int 0, .int (-1), .int 0, .int 0, .int 0, .int 0, .long 0, .ref zcores, .ref zlocks, .ref zbells, .ref ztasks, .ref zops, .ref zopSort, .ref zopNumber, .ref zkind, .ref zevery, .ref zbudget, .ref zshareTold, .ref zfirstOp, .ref zopMany, .ref zisCores, .ref zisLocks, .ref zisBells, .ref ztName, .int 0, .int 0, .ref zall, .ref zrows, .ref zpicked, .ref zpileTask, .ref zpileLock, .int 0, .ref zwas, .ref zbehind, .ref zriskRow, .ref zriskBest, .int 0, .ref zcTick, .ref zcProcessor, .ref zcTask, .int 0, .ref zgTick, .ref zgTask, .ref zgTold, .ref zgUntold, .ref zgRan, .int 0, .int 0, .ref zboxAll, .ref zboxRows, .ref zisBoxed]))] sz) := by
  refine Met.ofW (cc := cX11_untell) (maxL := 2) (ret := (some .boolean)) (by decide +kernel) rfl ?_
  intro p e s m args below meth c s₁ B hml hv
  obtain ⟨rfl, hsz, hP, hC, hD0⟩ := hv
  have hx := B.exec
  have hb := B.bytes
  have hr := B.returns
  have hts := atoms_spec (ws := wsX11_untell) B.pre
  have hown : s.vm.findClass RX11 = some m.cls := findClass_of_methodNamed B.named
  have hlocks := B.notSynchronized
  subst hsz
  have hD := hD0.self (sz := s.heap.size)
  dsimp only [QV, QI, QL, BQ]
  generalize hAe : va_A [(h0, .inr (11, [.ref ztape, .ref ztext, .int 0, .int 0, .int 0, .int (-1), .int 0, .int 0, .int 0, .int 0, .long 0, .ref zcores, .ref zlocks, .ref zbells, .ref ztasks, .ref zops, .ref zopSort, .ref zopNumber, .ref zkind, .ref zevery, .ref zbudget, .ref zshareTold, .ref zfirstOp, .ref zopMany, .ref zisCores, .ref zisLocks, .ref zisBells, .ref ztName, .int 0, .int 0, .ref zall, .ref zrows, .ref zpicked, .ref zpileTask, .ref zpileLock, .int 0, .ref zwas, .ref zbehind, .ref zriskRow, .ref zriskBest, .int 0, .ref zcTick, .ref zcProcessor, .ref zcTask, .int 0, .ref zgTick, .ref zgTask, .ref zgTold, .ref zgUntold, .ref zgRan, .int 0, .int 0, .ref zboxAll, .ref zboxRows, .ref zisBoxed]))] s.heap.size = A at hD ⊢
  have hA : ∀ q : Nat, s.heap.size ≤ q → A q := fun q h => by rw [← hAe]; exact Or.inr h
  have hDA : ∀ {w : va_W}, va_D A w → va_D (va_A [(h0, .inr (11, [.ref ztape, .ref ztext, .int 0, .int 0, .int 0, .int (-1), .int 0, .int 0, .int 0, .int 0, .long 0, .ref zcores, .ref zlocks, .ref zbells, .ref ztasks, .ref zops, .ref zopSort, .ref zopNumber, .ref zkind, .ref zevery, .ref zbudget, .ref zshareTold, .ref zfirstOp, .ref zopMany, .ref zisCores, .ref zisLocks, .ref zisBells, .ref ztName, .int 0, .int 0, .ref zall, .ref zrows, .ref zpicked, .ref zpileTask, .ref zpileLock, .int 0, .ref zwas, .ref zbehind, .ref zriskRow, .ref zriskBest, .int 0, .ref zcTick, .ref zcProcessor, .ref zcTask, .int 0, .ref zgTick, .ref zgTask, .ref zgTold, .ref zgUntold, .ref zgRan, .int 0, .int 0, .ref zboxAll, .ref zboxRows, .ref zisBoxed]))] s.heap.size) w := fun h => by rw [hAe]; exact h
  have hS : va_S A s.heap s.heap [] := va_S.rf
  have hP : va_P D vwCl [(h0, .inr (11, [.ref ztape, .ref ztext, .int 0, .int 0, .int 0, .int (-1), .int 0, .int 0, .int 0, .int 0, .long 0, .ref zcores, .ref zlocks, .ref zbells, .ref ztasks, .ref zops, .ref zopSort, .ref zopNumber, .ref zkind, .ref zevery, .ref zbudget, .ref zshareTold, .ref zfirstOp, .ref zopMany, .ref zisCores, .ref zisLocks, .ref zisBells, .ref ztName, .int 0, .int 0, .ref zall, .ref zrows, .ref zpicked, .ref zpileTask, .ref zpileLock, .int 0, .ref zwas, .ref zbehind, .ref zriskRow, .ref zriskBest, .int 0, .ref zcTick, .ref zcProcessor, .ref zcTask, .int 0, .ref zgTick, .ref zgTask, .ref zgTold, .ref zgUntold, .ref zgRan, .int 0, .int 0, .ref zboxAll, .ref zboxRows, .ref zisBoxed]))] s.heap := hP
  have hl := lv_entry ([.ref h0, .int x1]) (n := 2) (Nat.le_of_ble_eq_true rfl)
  rw [lg_entry_eq]
  generalize (lg_sl ([.ref h0, .int x1]) ++ List.replicate (2 - (lg_sl ([.ref h0, .int x1])).length) Slot.unset).toArray = ls at hl ⊢
  have hl : lv_has ls 2 [(0, .ref h0), (1, .int x1)] := hl
  refine lv_iload_n hx hb dX11_untell_0 rfl (lv_at hl 1 rfl) ?_
  refine lv_iconst (v := 0) hx hb dX11_untell_1 (by decide +kernel) ?_
  refine lv_aload_n hx hb dX11_untell_2 rfl (lv_at hl 0 rfl) ?_
  refine va_get (D := D) (ci := 11) (v := .int 0) (C := RX11) (T := TX11) (N := 55) hx hb hts iw_X11_untell_11 hown hC.1 hP 0 rfl rfl 50 (by decide +kernel) (hts (.fieldLink RX11 253 "FairWheelModel" "sights" "I") (by decide +kernel)) (fun _ h9 => h9) rfl dX11_untell_3 ?_
  refine lv_iconst (v := 1) hx hb dX11_untell_6 (by decide +kernel) ?_
  refine lv_isub hx hb dX11_untell_7 ?_
  refine nt_i (-1) (by decide +kernel) ?_
  refine kc_i (wr := [(h0, .inr (11, [.ref ztape, .ref ztext, .int 0, .int 0, .int 0, .int (-1), .int 0, .int 0, .int 0, .int 0, .long 0, .ref zcores, .ref zlocks, .ref zbells, .ref ztasks, .ref zops, .ref zopSort, .ref zopNumber, .ref zkind, .ref zevery, .ref zbudget, .ref zshareTold, .ref zfirstOp, .ref zopMany, .ref zisCores, .ref zisLocks, .ref zisBells, .ref ztName, .int 0, .int 0, .ref zall, .ref zrows, .ref zpicked, .ref zpileTask, .ref zpileLock, .int 0, .ref zwas, .ref zbehind, .ref zriskRow, .ref zriskBest, .int 0, .ref zcTick, .ref zcProcessor, .ref zcTask, .int 0, .ref zgTick, .ref zgTask, .ref zgTold, .ref zgUntold, .ref zgRan, .int 0, .int 0, .ref zboxAll, .ref zboxRows, .ref zisBoxed]))]) (va_runS (As := [.int x1, .int 0, .int (-1)]) (rest := []) ⟨hx, hb, hml, hown, hts⟩ (k_X11_isIn_0_m1 l D ca s.heap.size x1) (va_cwS 3 hts gX11_untell_X11_isIn rfl rfl rfl (by decide +kernel) ⟨(Nat.le_of_ble_eq_true rfl), (Nat.le_of_ble_eq_true rfl)⟩) (PC.preS hC hP hD [] rfl (by decide +kernel)) rfl rfl hl.1 rfl (lv_room (Nat.le_of_ble_eq_true rfl)) dX11_untell_8 ⟨(Nat.le_of_ble_eq_true rfl), (Nat.le_of_ble_eq_true rfl)⟩) hP hD hS hA [] [0] rfl rfl (by decide +kernel) (by decide +kernel) (fun r_1 u_3 H locs hw_2 hP hD hS => ?_)
  subst hw_2
  have hP : va_P D vwCl [(h0, .inr (11, [.ref ztape, .ref ztext, .int 0, .int 0, .int 0, .int (-1), .int 0, .int 0, .int 0, .int 0, .long 0, .ref zcores, .ref zlocks, .ref zbells, .ref ztasks, .ref zops, .ref zopSort, .ref zopNumber, .ref zkind, .ref zevery, .ref zbudget, .ref zshareTold, .ref zfirstOp, .ref zopMany, .ref zisCores, .ref zisLocks, .ref zisBells, .ref ztName, .int 0, .int 0, .ref zall, .ref zrows, .ref zpicked, .ref zpileTask, .ref zpileLock, .int 0, .ref zwas, .ref zbehind, .ref zriskRow, .ref zriskBest, .int 0, .ref zcTick, .ref zcProcessor, .ref zcTask, .int 0, .ref zgTick, .ref zgTask, .ref zgTold, .ref zgUntold, .ref zgRan, .int 0, .int 0, .ref zboxAll, .ref zboxRows, .ref zisBoxed]))] H := hP
  have hD : va_D A [(h0, .inr (11, [.ref ztape, .ref ztext, .int 0, .int 0, .int 0, .int (-1), .int 0, .int 0, .int 0, .int 0, .long 0, .ref zcores, .ref zlocks, .ref zbells, .ref ztasks, .ref zops, .ref zopSort, .ref zopNumber, .ref zkind, .ref zevery, .ref zbudget, .ref zshareTold, .ref zfirstOp, .ref zopMany, .ref zisCores, .ref zisLocks, .ref zisBells, .ref ztName, .int 0, .int 0, .ref zall, .ref zrows, .ref zpicked, .ref zpileTask, .ref zpileLock, .int 0, .ref zwas, .ref zbehind, .ref zriskRow, .ref zriskBest, .int 0, .ref zcTick, .ref zcProcessor, .ref zcTask, .int 0, .ref zgTick, .ref zgTask, .ref zgTold, .ref zgUntold, .ref zgRan, .int 0, .int 0, .ref zboxAll, .ref zboxRows, .ref zisBoxed]))] := hD
  refine lv_if_eq (tgt := 23) hx hb dX11_untell_11 (by decide +kernel) (fun c_4 => ?_) (fun c_4 => absurd (by decide +kernel) c_4)
  refine lv_iconst (v := 0) hx hb dX11_untell_23 (by decide +kernel) ?_
  exact W.zret (v := 0) hx hb hr (rfl) (fun t ht hW => ⟨⟨0, (), rfl, rfl, by rw [ht]; exact hP.sub [] rfl, hDA (hD.sub [] (by decide +kernel) rfl)⟩, hS.F ht⟩) hS.2.2 dX11_untell_24
theorem iw_X11_later_11 : ∀ w ∈ u_ws RX11 TX11 55, w ∈ wsX11_later := by decide +kernel
def sp_k_X11_later (x1 : Int32) : Int32 := (if x1 < 0 then (-1) else (if 1000 < x1 then (-1) else x1))
set_option maxHeartbeats 4000000 in
set_option maxRecDepth 100000 in
theorem k_X11_later (l : Launch) (D : va_G) (ca : Nat → ClassId) (sz : Nat) (h0 : Nat) (ztape : Nat) (ztext : Nat) (zcores : Nat) (zlocks : Nat) (zbells : Nat) (ztasks : Nat) (zops : Nat) (zopSort : Nat) (zopNumber : Nat) (zkind : Nat) (zevery : Nat) (zbudget : Nat) (zshareTold : Nat) (zfirstOp : Nat) (zopMany : Nat) (zisCores : Nat) (zisLocks : Nat) (zisBells : Nat) (ztName : Nat) (zall : Nat) (zrows : Nat) (zpicked : Nat) (zpileTask : Nat) (zpileLock : Nat) (zwas : Nat) (zbehind : Nat) (zriskRow : Nat) (zriskBest : Nat) (zcTick : Nat) (zcProcessor : Nat) (zcTask : Nat) (zgTick : Nat) (zgTask : Nat) (zgTold : Nat) (zgUntold : Nat) (zgRan : Nat) (zboxAll : Nat) (zboxRows : Nat) (zisBoxed : Nat) (x1 : Int32) : Met l yX11_later wsX11_later ({ frames := 1, cells := 0, slots := 0, locals := 22 }) (PC [.ref h0, .int x1] sz D ca [(h0, .inr (11, [.ref ztape, .ref ztext, .int 0, .int 0, .int 0, .int (-1), .int 0, .int 0, .int 0, .int 0, .long 0, .ref zcores, .ref zlocks, .ref zbells, .ref ztasks, .ref zops, .ref zopSort, .ref zopNumber, .ref zkind, .ref zevery, .ref zbudget, .ref zshareTold, .ref zfirstOp, .ref zopMany, .ref zisCores, .ref zisLocks, .ref zisBells, .ref ztName, .int 0, .int 0, .ref zall, .ref zrows, .ref zpicked, .ref zpileTask, .ref zpileLock, .int 0, .ref zwas, .ref zbehind, .ref zriskRow, .ref zriskBest, .int 0, .ref zcTick, .ref zcProcessor, .ref zcTask, .int 0, .ref zgTick, .ref zgTask, .ref zgTold, .ref zgUntold, .ref zgRan, .int 0, .int 0, .ref zboxAll, .ref zboxRows, .ref zisBoxed]))]) (QI (fun (r : Int32) (u : Unit) => r = sp_k_X11_later x1) (fun (_ : Unit) => []) [(h0, .inr (11, [.ref ztape, .ref ztext, .int 0, .int 0, .int 0, .int (-1), .int 0, .int 0, .int 0, .int 0, .long 0, .ref zcores, .ref zlocks, .ref zbells, .ref ztasks, .ref zops, .ref zopSort, .ref zopNumber, .ref zkind, .ref zevery, .ref zbudget, .ref zshareTold, .ref zfirstOp, .ref zopMany, .ref zisCores, .ref zisLocks, .ref zisBells, .ref ztName, .int 0, .int 0, .ref zall, .ref zrows, .ref zpicked, .ref zpileTask, .ref zpileLock, .int 0, .ref zwas, .ref zbehind, .ref zriskRow, .ref zriskBest, .int 0, .ref zcTick, .ref zcProcessor, .ref zcTask, .int 0, .ref zgTick, .ref zgTask, .ref zgTold, .ref zgUntold, .ref zgRan, .int 0, .int 0, .ref zboxAll, .ref zboxRows, .ref zisBoxed]))] sz D) 0 0 (va_A [(h0, .inr (11, [.ref ztape, .ref ztext, .int 0, .int 0, .int 0, .int (-1), .int 0, .int 0, .int 0, .int 0, .long 0, .ref zcores, .ref zlocks, .ref zbells, .ref ztasks, .ref zops, .ref zopSort, .ref zopNumber, .ref zkind, .ref zevery, .ref zbudget, .ref zshareTold, .ref zfirstOp, .ref zopMany, .ref zisCores, .ref zisLocks, .ref zisBells, .ref ztName, .int 0, .int 0, .ref zall, .ref zrows, .ref zpicked, .ref zpileTask, .ref zpileLock, .int 0, .ref zwas, .ref zbehind, .ref zriskRow, .ref zriskBest, .int 0, .ref zcTick, .ref zcProcessor, .ref zcTask, .int 0, .ref zgTick, .ref zgTask, .ref zgTold, .ref zgUntold, .ref zgRan, .int 0, .int 0, .ref zboxAll, .ref zboxRows, .ref zisBoxed]))] sz) := by
  refine Met.ofW (cc := cX11_later) (maxL := 2) (ret := (some .int)) (by decide +kernel) rfl ?_
  intro p e s m args below meth c s₁ B hml hv
  obtain ⟨rfl, hsz, hP, hC, hD0⟩ := hv
  have hx := B.exec
  have hb := B.bytes
  have hr := B.returns
  have hts := atoms_spec (ws := wsX11_later) B.pre
  have hown : s.vm.findClass RX11 = some m.cls := findClass_of_methodNamed B.named
  have hlocks := B.notSynchronized
  subst hsz
  have hD := hD0.self (sz := s.heap.size)
  dsimp only [QV, QI, QL, BQ]
  generalize hAe : va_A [(h0, .inr (11, [.ref ztape, .ref ztext, .int 0, .int 0, .int 0, .int (-1), .int 0, .int 0, .int 0, .int 0, .long 0, .ref zcores, .ref zlocks, .ref zbells, .ref ztasks, .ref zops, .ref zopSort, .ref zopNumber, .ref zkind, .ref zevery, .ref zbudget, .ref zshareTold, .ref zfirstOp, .ref zopMany, .ref zisCores, .ref zisLocks, .ref zisBells, .ref ztName, .int 0, .int 0, .ref zall, .ref zrows, .ref zpicked, .ref zpileTask, .ref zpileLock, .int 0, .ref zwas, .ref zbehind, .ref zriskRow, .ref zriskBest, .int 0, .ref zcTick, .ref zcProcessor, .ref zcTask, .int 0, .ref zgTick, .ref zgTask, .ref zgTold, .ref zgUntold, .ref zgRan, .int 0, .int 0, .ref zboxAll, .ref zboxRows, .ref zisBoxed]))] s.heap.size = A at hD ⊢
  have hA : ∀ q : Nat, s.heap.size ≤ q → A q := fun q h => by rw [← hAe]; exact Or.inr h
  have hDA : ∀ {w : va_W}, va_D A w → va_D (va_A [(h0, .inr (11, [.ref ztape, .ref ztext, .int 0, .int 0, .int 0, .int (-1), .int 0, .int 0, .int 0, .int 0, .long 0, .ref zcores, .ref zlocks, .ref zbells, .ref ztasks, .ref zops, .ref zopSort, .ref zopNumber, .ref zkind, .ref zevery, .ref zbudget, .ref zshareTold, .ref zfirstOp, .ref zopMany, .ref zisCores, .ref zisLocks, .ref zisBells, .ref ztName, .int 0, .int 0, .ref zall, .ref zrows, .ref zpicked, .ref zpileTask, .ref zpileLock, .int 0, .ref zwas, .ref zbehind, .ref zriskRow, .ref zriskBest, .int 0, .ref zcTick, .ref zcProcessor, .ref zcTask, .int 0, .ref zgTick, .ref zgTask, .ref zgTold, .ref zgUntold, .ref zgRan, .int 0, .int 0, .ref zboxAll, .ref zboxRows, .ref zisBoxed]))] s.heap.size) w := fun h => by rw [hAe]; exact h
  have hS : va_S A s.heap s.heap [] := va_S.rf
  have hP : va_P D vwCl [(h0, .inr (11, [.ref ztape, .ref ztext, .int 0, .int 0, .int 0, .int (-1), .int 0, .int 0, .int 0, .int 0, .long 0, .ref zcores, .ref zlocks, .ref zbells, .ref ztasks, .ref zops, .ref zopSort, .ref zopNumber, .ref zkind, .ref zevery, .ref zbudget, .ref zshareTold, .ref zfirstOp, .ref zopMany, .ref zisCores, .ref zisLocks, .ref zisBells, .ref ztName, .int 0, .int 0, .ref zall, .ref zrows, .ref zpicked, .ref zpileTask, .ref zpileLock, .int 0, .ref zwas, .ref zbehind, .ref zriskRow, .ref zriskBest, .int 0, .ref zcTick, .ref zcProcessor, .ref zcTask, .int 0, .ref zgTick, .ref zgTask, .ref zgTold, .ref zgUntold, .ref zgRan, .int 0, .int 0, .ref zboxAll, .ref zboxRows, .ref zisBoxed]))] s.heap := hP
  have hl := lv_entry ([.ref h0, .int x1]) (n := 2) (Nat.le_of_ble_eq_true rfl)
  rw [lg_entry_eq]
  generalize (lg_sl ([.ref h0, .int x1]) ++ List.replicate (2 - (lg_sl ([.ref h0, .int x1])).length) Slot.unset).toArray = ls at hl ⊢
  have hl : lv_has ls 2 [(0, .ref h0), (1, .int x1)] := hl
  refine lv_iload_n hx hb dX11_later_0 rfl (lv_at hl 1 rfl) ?_
  refine lv_iconst (v := 0) hx hb dX11_later_1 (by decide +kernel) ?_
  refine lv_sipush (v := 1000) hx hb dX11_later_2 (by decide +kernel) ?_
  refine kc_i (wr := [(h0, .inr (11, [.ref ztape, .ref ztext, .int 0, .int 0, .int 0, .int (-1), .int 0, .int 0, .int 0, .int 0, .long 0, .ref zcores, .ref zlocks, .ref zbells, .ref ztasks, .ref zops, .ref zopSort, .ref zopNumber, .ref zkind, .ref zevery, .ref zbudget, .ref zshareTold, .ref zfirstOp, .ref zopMany, .ref zisCores, .ref zisLocks, .ref zisBells, .ref ztName, .int 0, .int 0, .ref zall, .ref zrows, .ref zpicked, .ref zpileTask, .ref zpileLock, .int 0, .ref zwas, .ref zbehind, .ref zriskRow, .ref zriskBest, .int 0, .ref zcTick, .ref zcProcessor, .ref zcTask, .int 0, .ref zgTick, .ref zgTask, .ref zgTold, .ref zgUntold, .ref zgRan, .int 0, .int 0, .ref zboxAll, .ref zboxRows, .ref zisBoxed]))]) (va_runS (As := [.int x1, .int 0, .int 1000]) (rest := []) ⟨hx, hb, hml, hown, hts⟩ (k_X11_isIn_0_1000 l D ca s.heap.size x1) (va_cwS 3 hts gX11_later_X11_isIn rfl rfl rfl (by decide +kernel) ⟨(Nat.le_of_ble_eq_true rfl), (Nat.le_of_ble_eq_true rfl)⟩) (PC.preS hC hP hD [] rfl (by decide +kernel)) rfl rfl hl.1 rfl (lv_room (Nat.le_of_ble_eq_true rfl)) dX11_later_5 ⟨(Nat.le_of_ble_eq_true rfl), (Nat.le_of_ble_eq_true rfl)⟩) hP hD hS hA [] [0] rfl rfl (by decide +kernel) (by decide +kernel) (fun r_1 u_3 H locs hw_2 hP hD hS => ?_)
  have hP : va_P D vwCl [(h0, .inr (11, [.ref ztape, .ref ztext, .int 0, .int 0, .int 0, .int (-1), .int 0, .int 0, .int 0, .int 0, .long 0, .ref zcores, .ref zlocks, .ref zbells, .ref ztasks, .ref zops, .ref zopSort, .ref zopNumber, .ref zkind, .ref zevery, .ref zbudget, .ref zshareTold, .ref zfirstOp, .ref zopMany, .ref zisCores, .ref zisLocks, .ref zisBells, .ref ztName, .int 0, .int 0, .ref zall, .ref zrows, .ref zpicked, .ref zpileTask, .ref zpileLock, .int 0, .ref zwas, .ref zbehind, .ref zriskRow, .ref zriskBest, .int 0, .ref zcTick, .ref zcProcessor, .ref zcTask, .int 0, .ref zgTick, .ref zgTask, .ref zgTold, .ref zgUntold, .ref zgRan, .int 0, .int 0, .ref zboxAll, .ref zboxRows, .ref zisBoxed]))] H := hP
  have hD : va_D A [(h0, .inr (11, [.ref ztape, .ref ztext, .int 0, .int 0, .int 0, .int (-1), .int 0, .int 0, .int 0, .int 0, .long 0, .ref zcores, .ref zlocks, .ref zbells, .ref ztasks, .ref zops, .ref zopSort, .ref zopNumber, .ref zkind, .ref zevery, .ref zbudget, .ref zshareTold, .ref zfirstOp, .ref zopMany, .ref zisCores, .ref zisLocks, .ref zisBells, .ref ztName, .int 0, .int 0, .ref zall, .ref zrows, .ref zpicked, .ref zpileTask, .ref zpileLock, .int 0, .ref zwas, .ref zbehind, .ref zriskRow, .ref zriskBest, .int 0, .ref zcTick, .ref zcProcessor, .ref zcTask, .int 0, .ref zgTick, .ref zgTask, .ref zgTold, .ref zgUntold, .ref zgRan, .int 0, .int 0, .ref zboxAll, .ref zboxRows, .ref zisBoxed]))] := hD
  rcases Decidable.em (x1 < 0) with c_4 | c_4
  · obtain rfl : r_1 = 0 := hw_2.trans (by unfold sp_k_X11_isIn_0_1000; rw [if_pos c_4])
    refine lv_if_eq (tgt := 23) hx hb dX11_later_8 (by decide +kernel) (fun c_5 => ?_) (fun c_5 => absurd (by decide +kernel) c_5)
    refine lv_iconst (v := (-1)) hx hb dX11_later_23 (by decide +kernel) ?_
    exact W.iret (v := (-1)) hx hb hr (fun t ht hW => ⟨⟨(-1), (), rfl, (by unfold sp_k_X11_later; rw [if_pos c_4]), by rw [ht]; exact hP.sub [] rfl, hDA (hD.sub [] (by decide +kernel) rfl)⟩, hS.F ht⟩) hS.2.2 dX11_later_24
  · rcases Decidable.em (1000 < x1) with c_6 | c_6
    · obtain rfl : r_1 = 0 := hw_2.trans (by unfold sp_k_X11_isIn_0_1000; rw [if_neg c_4, if_pos c_6])
      refine lv_if_eq (tgt := 23) hx hb dX11_later_8 (by decide +kernel) (fun c_7 => ?_) (fun c_7 => absurd (by decide +kernel) c_7)
      refine lv_iconst (v := (-1)) hx hb dX11_later_23 (by decide +kernel) ?_
      exact W.iret (v := (-1)) hx hb hr (fun t ht hW => ⟨⟨(-1), (), rfl, (by unfold sp_k_X11_later; rw [if_neg c_4, if_pos c_6]), by rw [ht]; exact hP.sub [] rfl, hDA (hD.sub [] (by decide +kernel) rfl)⟩, hS.F ht⟩) hS.2.2 dX11_later_24
    · obtain rfl : r_1 = 1 := hw_2.trans (by unfold sp_k_X11_isIn_0_1000; rw [if_neg c_4, if_neg c_6])
      refine lv_if_eq (tgt := 23) hx hb dX11_later_8 (by decide +kernel) (fun c_8 => absurd c_8 (by decide +kernel)) (fun c_8 => ?_)
      refine lv_aload_n hx hb dX11_later_11 rfl (lv_at hl 0 rfl) ?_
      refine va_get (D := D) (ci := 11) (v := .int 0) (C := RX11) (T := TX11) (N := 55) hx hb hts iw_X11_later_11 hown hC.1 hP 0 rfl rfl 51 (by decide +kernel) (hts (.fieldLink RX11 392 "FairWheelModel" "time" "I") (by decide +kernel)) (fun _ h9 => h9) rfl dX11_later_12 ?_
      refine lv_iload_n hx hb dX11_later_15 rfl (lv_at hl 1 rfl) ?_
      refine lv_iadd hx hb dX11_later_16 ?_
      refine nt_i x1 (Int32.zero_add _) ?_
      refine lv_ldcw (v := 100000) hx hb hown (hts (.constant RX11 395 (100000)) (by decide +kernel)) dX11_later_17 ?_
      refine lv_icmp_le (tgt := 25) hx hb dX11_later_20 (by decide +kernel) (fun c_9 => ?_) (fun c_9 => (pr_se (Int32.not_le.mp c_9) (Int32.not_lt.mp c_6) (by decide +kernel)).elim)
      refine lv_aload_n hx hb dX11_later_25 rfl (lv_at hl 0 rfl) ?_
      refine lv_dup hx hb dX11_later_26 rfl ?_
      refine va_get (D := D) (ci := 11) (v := .int 0) (C := RX11) (T := TX11) (N := 55) hx hb hts iw_X11_later_11 hown hC.1 hP 0 rfl rfl 51 (by decide +kernel) (hts (.fieldLink RX11 392 "FairWheelModel" "time" "I") (by decide +kernel)) (fun _ h9 => h9) rfl dX11_later_27 ?_
      refine lv_iload_n hx hb dX11_later_30 rfl (lv_at hl 1 rfl) ?_
      refine lv_iadd hx hb dX11_later_31 ?_
      refine nt_i x1 (Int32.zero_add _) ?_
      refine va_put (D := D) (ci := 11) (v := .int x1) (ty := .int) (C := RX11) (T := TX11) (N := 55) hx hb hts iw_X11_later_11 tyX11 tyX11_ok nmX11 hown hC.1 hP hD hS 0 rfl rfl 51 (by decide +kernel) (hts (.fieldLink RX11 392 "FairWheelModel" "time" "I") (by decide +kernel)) (fun _ h9 => h9) rfl (by decide +kernel) rfl rfl (Nat.le_of_ble_eq_true rfl) dX11_later_32 (fun H locs hP hD hS => ?_)
      have hP : va_P D vwCl [(h0, .inr (11, [.ref ztape, .ref ztext, .int 0, .int 0, .int 0, .int (-1), .int 0, .int 0, .int 0, .int 0, .long 0, .ref zcores, .ref zlocks, .ref zbells, .ref ztasks, .ref zops, .ref zopSort, .ref zopNumber, .ref zkind, .ref zevery, .ref zbudget, .ref zshareTold, .ref zfirstOp, .ref zopMany, .ref zisCores, .ref zisLocks, .ref zisBells, .ref ztName, .int 0, .int 0, .ref zall, .ref zrows, .ref zpicked, .ref zpileTask, .ref zpileLock, .int 0, .ref zwas, .ref zbehind, .ref zriskRow, .ref zriskBest, .int 0, .ref zcTick, .ref zcProcessor, .ref zcTask, .int 0, .ref zgTick, .ref zgTask, .ref zgTold, .ref zgUntold, .ref zgRan, .int 0, .int x1, .ref zboxAll, .ref zboxRows, .ref zisBoxed]))] H := hP
      have hD : va_D A [(h0, .inr (11, [.ref ztape, .ref ztext, .int 0, .int 0, .int 0, .int (-1), .int 0, .int 0, .int 0, .int 0, .long 0, .ref zcores, .ref zlocks, .ref zbells, .ref ztasks, .ref zops, .ref zopSort, .ref zopNumber, .ref zkind, .ref zevery, .ref zbudget, .ref zshareTold, .ref zfirstOp, .ref zopMany, .ref zisCores, .ref zisLocks, .ref zisBells, .ref ztName, .int 0, .int 0, .ref zall, .ref zrows, .ref zpicked, .ref zpileTask, .ref zpileLock, .int 0, .ref zwas, .ref zbehind, .ref zriskRow, .ref zriskBest, .int 0, .ref zcTick, .ref zcProcessor, .ref zcTask, .int 0, .ref zgTick, .ref zgTask, .ref zgTold, .ref zgUntold, .ref zgRan, .int 0, .int x1, .ref zboxAll, .ref zboxRows, .ref zisBoxed]))] := hD
      refine lv_aload_n hx hb dX11_later_35 rfl (lv_at hl 0 rfl) ?_
      refine va_get (D := D) (ci := 11) (v := .int x1) (C := RX11) (T := TX11) (N := 55) hx hb hts iw_X11_later_11 hown hC.1 hP 0 rfl rfl 51 (by decide +kernel) (hts (.fieldLink RX11 392 "FairWheelModel" "time" "I") (by decide +kernel)) (fun _ h9 => h9) rfl dX11_later_36 ?_
      exact W.iret (v := x1) hx hb hr (fun t ht hW => ⟨⟨x1, (), rfl, (by unfold sp_k_X11_later; rw [if_neg c_4, if_neg c_6]), by rw [ht]; exact hP.sub [] rfl, hDA (hD.sub [] (by decide +kernel) rfl)⟩, hS.F ht⟩) hS.2.2 dX11_later_39
set_option maxHeartbeats 4000000 in
set_option maxRecDepth 100000 in
theorem k_X11_liveMany (l : Launch) (D : va_G) (ca : Nat → ClassId) (sz : Nat) (h0 : Nat) (ztape : Nat) (ztext : Nat) (zcores : Nat) (zlocks : Nat) (zbells : Nat) (ztasks : Nat) (zops : Nat) (zopSort : Nat) (zopNumber : Nat) (zkind : Nat) (zevery : Nat) (zbudget : Nat) (zshareTold : Nat) (zfirstOp : Nat) (zopMany : Nat) (zisCores : Nat) (zisLocks : Nat) (zisBells : Nat) (ztName : Nat) (zall : Nat) (zrows : Nat) (zpicked : Nat) (zpileTask : Nat) (zpileLock : Nat) (zwas : Nat) (zbehind : Nat) (zriskRow : Nat) (zriskBest : Nat) (zcTick : Nat) (zcProcessor : Nat) (zcTask : Nat) (zgTick : Nat) (zgTask : Nat) (zgTold : Nat) (zgUntold : Nat) (zgRan : Nat) (zboxAll : Nat) (zboxRows : Nat) (zisBoxed : Nat) (ntaped : Int32) (nsize : Int32) (nfaultKind : Int32) (nfaultPlace : Int32) (nat : Int32) (nend : Int32) (ntoken : Int32) (nnumber : Int32) (nname : Int64) (nrb : Int32) (npiled : Int32) (nriskMany : Int32) (ntoldMany : Int32) (nsights : Int32) (ntime : Int32) : Met l yX11_liveMany wsX11_liveMany ({ frames := 1, cells := 0, slots := 0, locals := 20 }) (PC [.ref h0] sz D ca [(h0, .inr (11, [.ref ztape, .ref ztext, .int ntaped, .int nsize, .int nfaultKind, .int nfaultPlace, .int nat, .int nend, .int ntoken, .int nnumber, .long nname, .ref zcores, .ref zlocks, .ref zbells, .ref ztasks, .ref zops, .ref zopSort, .ref zopNumber, .ref zkind, .ref zevery, .ref zbudget, .ref zshareTold, .ref zfirstOp, .ref zopMany, .ref zisCores, .ref zisLocks, .ref zisBells, .ref ztName, .int 0, .int nrb, .ref zall, .ref zrows, .ref zpicked, .ref zpileTask, .ref zpileLock, .int npiled, .ref zwas, .ref zbehind, .ref zriskRow, .ref zriskBest, .int nriskMany, .ref zcTick, .ref zcProcessor, .ref zcTask, .int ntoldMany, .ref zgTick, .ref zgTask, .ref zgTold, .ref zgUntold, .ref zgRan, .int nsights, .int ntime, .ref zboxAll, .ref zboxRows, .ref zisBoxed])), (ztasks, .inl (ca 1, 2, .inl (fun _ => 0)))]) (QI (fun (r : Int32) (u : Unit) => r = 0) (fun (_ : Unit) => [(h0, .inr (11, [.ref ztape, .ref ztext, .int ntaped, .int nsize, .int nfaultKind, .int nfaultPlace, .int nat, .int nend, .int ntoken, .int nnumber, .long nname, .ref zcores, .ref zlocks, .ref zbells, .ref ztasks, .ref zops, .ref zopSort, .ref zopNumber, .ref zkind, .ref zevery, .ref zbudget, .ref zshareTold, .ref zfirstOp, .ref zopMany, .ref zisCores, .ref zisLocks, .ref zisBells, .ref ztName, .int 0, .int nrb, .ref zall, .ref zrows, .ref zpicked, .ref zpileTask, .ref zpileLock, .int npiled, .ref zwas, .ref zbehind, .ref zriskRow, .ref zriskBest, .int nriskMany, .ref zcTick, .ref zcProcessor, .ref zcTask, .int ntoldMany, .ref zgTick, .ref zgTask, .ref zgTold, .ref zgUntold, .ref zgRan, .int nsights, .int ntime, .ref zboxAll, .ref zboxRows, .ref zisBoxed])), (ztasks, .inl (ca 1, 2, .inl (fun _ => 0)))]) [(h0, .inr (11, [.ref ztape, .ref ztext, .int ntaped, .int nsize, .int nfaultKind, .int nfaultPlace, .int nat, .int nend, .int ntoken, .int nnumber, .long nname, .ref zcores, .ref zlocks, .ref zbells, .ref ztasks, .ref zops, .ref zopSort, .ref zopNumber, .ref zkind, .ref zevery, .ref zbudget, .ref zshareTold, .ref zfirstOp, .ref zopMany, .ref zisCores, .ref zisLocks, .ref zisBells, .ref ztName, .int 0, .int nrb, .ref zall, .ref zrows, .ref zpicked, .ref zpileTask, .ref zpileLock, .int npiled, .ref zwas, .ref zbehind, .ref zriskRow, .ref zriskBest, .int nriskMany, .ref zcTick, .ref zcProcessor, .ref zcTask, .int ntoldMany, .ref zgTick, .ref zgTask, .ref zgTold, .ref zgUntold, .ref zgRan, .int nsights, .int ntime, .ref zboxAll, .ref zboxRows, .ref zisBoxed])), (ztasks, .inl (ca 1, 2, .inl (fun _ => 0)))] sz D) 0 0 (va_A [(h0, .inr (11, [.ref ztape, .ref ztext, .int ntaped, .int nsize, .int nfaultKind, .int nfaultPlace, .int nat, .int nend, .int ntoken, .int nnumber, .long nname, .ref zcores, .ref zlocks, .ref zbells, .ref ztasks, .ref zops, .ref zopSort, .ref zopNumber, .ref zkind, .ref zevery, .ref zbudget, .ref zshareTold, .ref zfirstOp, .ref zopMany, .ref zisCores, .ref zisLocks, .ref zisBells, .ref ztName, .int 0, .int nrb, .ref zall, .ref zrows, .ref zpicked, .ref zpileTask, .ref zpileLock, .int npiled, .ref zwas, .ref zbehind, .ref zriskRow, .ref zriskBest, .int nriskMany, .ref zcTick, .ref zcProcessor, .ref zcTask, .int ntoldMany, .ref zgTick, .ref zgTask, .ref zgTold, .ref zgUntold, .ref zgRan, .int nsights, .int ntime, .ref zboxAll, .ref zboxRows, .ref zisBoxed])), (ztasks, .inl (ca 1, 2, .inl (fun _ => 0)))] sz) := by
  refine Met.ofW (cc := cX11_liveMany) (maxL := 3) (ret := (some .int)) (by decide +kernel) rfl ?_
  intro p e s m args below meth c s₁ B hml hv
  obtain ⟨rfl, hsz, hP, hC, hD0⟩ := hv
  have hx := B.exec
  have hb := B.bytes
  have hr := B.returns
  have hts := atoms_spec (ws := wsX11_liveMany) B.pre
  have hown : s.vm.findClass RX11 = some m.cls := findClass_of_methodNamed B.named
  have hlocks := B.notSynchronized
  subst hsz
  have hD := hD0.self (sz := s.heap.size)
  dsimp only [QV, QI, QL, BQ]
  generalize hAe : va_A [(h0, .inr (11, [.ref ztape, .ref ztext, .int ntaped, .int nsize, .int nfaultKind, .int nfaultPlace, .int nat, .int nend, .int ntoken, .int nnumber, .long nname, .ref zcores, .ref zlocks, .ref zbells, .ref ztasks, .ref zops, .ref zopSort, .ref zopNumber, .ref zkind, .ref zevery, .ref zbudget, .ref zshareTold, .ref zfirstOp, .ref zopMany, .ref zisCores, .ref zisLocks, .ref zisBells, .ref ztName, .int 0, .int nrb, .ref zall, .ref zrows, .ref zpicked, .ref zpileTask, .ref zpileLock, .int npiled, .ref zwas, .ref zbehind, .ref zriskRow, .ref zriskBest, .int nriskMany, .ref zcTick, .ref zcProcessor, .ref zcTask, .int ntoldMany, .ref zgTick, .ref zgTask, .ref zgTold, .ref zgUntold, .ref zgRan, .int nsights, .int ntime, .ref zboxAll, .ref zboxRows, .ref zisBoxed])), (ztasks, .inl (ca 1, 2, .inl (fun _ => 0)))] s.heap.size = A at hD ⊢
  have hA : ∀ q : Nat, s.heap.size ≤ q → A q := fun q h => by rw [← hAe]; exact Or.inr h
  have hDA : ∀ {w : va_W}, va_D A w → va_D (va_A [(h0, .inr (11, [.ref ztape, .ref ztext, .int ntaped, .int nsize, .int nfaultKind, .int nfaultPlace, .int nat, .int nend, .int ntoken, .int nnumber, .long nname, .ref zcores, .ref zlocks, .ref zbells, .ref ztasks, .ref zops, .ref zopSort, .ref zopNumber, .ref zkind, .ref zevery, .ref zbudget, .ref zshareTold, .ref zfirstOp, .ref zopMany, .ref zisCores, .ref zisLocks, .ref zisBells, .ref ztName, .int 0, .int nrb, .ref zall, .ref zrows, .ref zpicked, .ref zpileTask, .ref zpileLock, .int npiled, .ref zwas, .ref zbehind, .ref zriskRow, .ref zriskBest, .int nriskMany, .ref zcTick, .ref zcProcessor, .ref zcTask, .int ntoldMany, .ref zgTick, .ref zgTask, .ref zgTold, .ref zgUntold, .ref zgRan, .int nsights, .int ntime, .ref zboxAll, .ref zboxRows, .ref zisBoxed])), (ztasks, .inl (ca 1, 2, .inl (fun _ => 0)))] s.heap.size) w := fun h => by rw [hAe]; exact h
  have hS : va_S A s.heap s.heap [] := va_S.rf
  have hP : va_P D vwCl [(h0, .inr (11, [.ref ztape, .ref ztext, .int ntaped, .int nsize, .int nfaultKind, .int nfaultPlace, .int nat, .int nend, .int ntoken, .int nnumber, .long nname, .ref zcores, .ref zlocks, .ref zbells, .ref ztasks, .ref zops, .ref zopSort, .ref zopNumber, .ref zkind, .ref zevery, .ref zbudget, .ref zshareTold, .ref zfirstOp, .ref zopMany, .ref zisCores, .ref zisLocks, .ref zisBells, .ref ztName, .int 0, .int nrb, .ref zall, .ref zrows, .ref zpicked, .ref zpileTask, .ref zpileLock, .int npiled, .ref zwas, .ref zbehind, .ref zriskRow, .ref zriskBest, .int nriskMany, .ref zcTick, .ref zcProcessor, .ref zcTask, .int ntoldMany, .ref zgTick, .ref zgTask, .ref zgTold, .ref zgUntold, .ref zgRan, .int nsights, .int ntime, .ref zboxAll, .ref zboxRows, .ref zisBoxed])), (ztasks, .inl (ca 1, 2, .inl (fun _ => 0)))] s.heap := hP
  have hl := lv_entry ([.ref h0]) (n := 3) (Nat.le_of_ble_eq_true rfl)
  rw [lg_entry_eq]
  generalize (lg_sl ([.ref h0]) ++ List.replicate (3 - (lg_sl ([.ref h0])).length) Slot.unset).toArray = ls at hl ⊢
  have hl : lv_has ls 3 [(0, .ref h0)] := hl
  refine lv_iconst (v := 0) hx hb dX11_liveMany_0 (by decide +kernel) ?_
  refine lv_istore_n (lv' := [(1, .int 0), (0, .ref h0)]) hx hb dX11_liveMany_1 rfl hl (by decide +kernel) rfl (fun ls hl => ?_)
  refine lv_iconst (v := 0) hx hb dX11_liveMany_2 (by decide +kernel) ?_
  refine lv_istore_n (lv' := [(2, .int 0), (1, .int 0), (0, .ref h0)]) hx hb dX11_liveMany_3 rfl hl (by decide +kernel) rfl (fun ls hl => ?_)
  refine lv_iload_n hx hb dX11_liveMany_4 rfl (lv_at hl 0 rfl) ?_
  refine lv_aload_n hx hb dX11_liveMany_5 rfl (lv_at hl 2 rfl) ?_
  refine kc_i (wr := []) (va_runV (As := []) (rest := [.int 0]) ⟨hx, hb, hml, hown, hts⟩ (k_X11_taskMany_0 l D ca s.heap.size h0 ztape ztext zcores zlocks zbells ztasks zops zopSort zopNumber zkind zevery zbudget zshareTold zfirstOp zopMany zisCores zisLocks zisBells ztName zall zrows zpicked zpileTask zpileLock zwas zbehind zriskRow zriskBest zcTick zcProcessor zcTask zgTick zgTask zgTold zgUntold zgRan zboxAll zboxRows zisBoxed ntaped nsize nfaultKind nfaultPlace nat nend ntoken nnumber nname nrb npiled nriskMany ntoldMany nsights ntime) (cwV 0 hts gX11_liveMany_X11_taskMany rfl rfl rfl (by decide +kernel) ⟨(Nat.le_of_ble_eq_true rfl), (Nat.le_of_ble_eq_true rfl)⟩) (PC.preV (ci := 11) hC hP hD [0, 1] rfl (by decide +kernel) rfl rfl) rfl rfl hl.1 rfl (lv_room (Nat.le_of_ble_eq_true rfl)) dX11_liveMany_6 ⟨(Nat.le_of_ble_eq_true rfl), (Nat.le_of_ble_eq_true rfl)⟩) hP hD hS hA [0, 1] [] rfl rfl (by decide +kernel) (by decide +kernel) (fun r_1 u_3 H locs hw_2 hP hD hS => ?_)
  subst hw_2
  have hP : va_P D vwCl [(h0, .inr (11, [.ref ztape, .ref ztext, .int ntaped, .int nsize, .int nfaultKind, .int nfaultPlace, .int nat, .int nend, .int ntoken, .int nnumber, .long nname, .ref zcores, .ref zlocks, .ref zbells, .ref ztasks, .ref zops, .ref zopSort, .ref zopNumber, .ref zkind, .ref zevery, .ref zbudget, .ref zshareTold, .ref zfirstOp, .ref zopMany, .ref zisCores, .ref zisLocks, .ref zisBells, .ref ztName, .int 0, .int nrb, .ref zall, .ref zrows, .ref zpicked, .ref zpileTask, .ref zpileLock, .int npiled, .ref zwas, .ref zbehind, .ref zriskRow, .ref zriskBest, .int nriskMany, .ref zcTick, .ref zcProcessor, .ref zcTask, .int ntoldMany, .ref zgTick, .ref zgTask, .ref zgTold, .ref zgUntold, .ref zgRan, .int nsights, .int ntime, .ref zboxAll, .ref zboxRows, .ref zisBoxed])), (ztasks, .inl (ca 1, 2, .inl (fun _ => 0)))] H := hP
  have hD : va_D A [(h0, .inr (11, [.ref ztape, .ref ztext, .int ntaped, .int nsize, .int nfaultKind, .int nfaultPlace, .int nat, .int nend, .int ntoken, .int nnumber, .long nname, .ref zcores, .ref zlocks, .ref zbells, .ref ztasks, .ref zops, .ref zopSort, .ref zopNumber, .ref zkind, .ref zevery, .ref zbudget, .ref zshareTold, .ref zfirstOp, .ref zopMany, .ref zisCores, .ref zisLocks, .ref zisBells, .ref ztName, .int 0, .int nrb, .ref zall, .ref zrows, .ref zpicked, .ref zpileTask, .ref zpileLock, .int npiled, .ref zwas, .ref zbehind, .ref zriskRow, .ref zriskBest, .int nriskMany, .ref zcTick, .ref zcProcessor, .ref zcTask, .int ntoldMany, .ref zgTick, .ref zgTask, .ref zgTold, .ref zgUntold, .ref zgRan, .int nsights, .int ntime, .ref zboxAll, .ref zboxRows, .ref zisBoxed])), (ztasks, .inl (ca 1, 2, .inl (fun _ => 0)))] := hD
  refine lv_icmp_ge (tgt := 36) hx hb dX11_liveMany_9 (by decide +kernel) (fun c_4 => ?_) (fun c_4 => absurd (by decide +kernel) c_4)
  refine lv_iload_n hx hb dX11_liveMany_36 rfl (lv_at hl 1 rfl) ?_
  exact W.iret (v := 0) hx hb hr (fun t ht hW => ⟨⟨0, (), rfl, rfl, by rw [ht]; exact hP.sub [0, 1] rfl, hDA (hD.sub [0, 1] (by decide +kernel) rfl)⟩, hS.F ht⟩) hS.2.2 dX11_liveMany_37
theorem iw_X11_about_11 : ∀ w ∈ u_ws RX11 TX11 55, w ∈ wsX11_about := by decide +kernel
def sp_k_X11_about (x1 : Int32) : Int32 := (if x1 = 0 then 0 else (if x1 = 1 then 1 else (if x1 = 2 then 0 else (if x1 = 3 then 0 else (if x1 = 4 then 0 else (if x1 = 5 then 0 else (if x1 = 6 then 0 else (if x1 = 7 then 0 else (if x1 = 8 then 0 else (if x1 = 9 then 0 else (if x1 = 10 then 0 else (-1))))))))))))
set_option maxHeartbeats 4000000 in
set_option maxRecDepth 100000 in
theorem k_X11_about (l : Launch) (D : va_G) (ca : Nat → ClassId) (sz : Nat) (h0 : Nat) (ztape : Nat) (ztext : Nat) (zcores : Nat) (zlocks : Nat) (zbells : Nat) (ztasks : Nat) (zops : Nat) (zopSort : Nat) (zopNumber : Nat) (zkind : Nat) (zevery : Nat) (zbudget : Nat) (zshareTold : Nat) (zfirstOp : Nat) (zopMany : Nat) (zisCores : Nat) (zisLocks : Nat) (zisBells : Nat) (ztName : Nat) (zall : Nat) (zrows : Nat) (zpicked : Nat) (zpileTask : Nat) (zpileLock : Nat) (zwas : Nat) (zbehind : Nat) (zriskRow : Nat) (zriskBest : Nat) (zcTick : Nat) (zcProcessor : Nat) (zcTask : Nat) (zgTick : Nat) (zgTask : Nat) (zgTold : Nat) (zgUntold : Nat) (zgRan : Nat) (zboxAll : Nat) (zboxRows : Nat) (zisBoxed : Nat) (fa : Nat → Int32) (x1 : Int32) (ha : fa 330 = 0) : Met l yX11_about wsX11_about ({ frames := 2, cells := 0, slots := 0, locals := 42 }) (PC [.ref h0, .int x1] sz D ca [(h0, .inr (11, [.ref ztape, .ref ztext, .int 0, .int 0, .int 0, .int (-1), .int 0, .int 0, .int 0, .int 0, .long 0, .ref zcores, .ref zlocks, .ref zbells, .ref ztasks, .ref zops, .ref zopSort, .ref zopNumber, .ref zkind, .ref zevery, .ref zbudget, .ref zshareTold, .ref zfirstOp, .ref zopMany, .ref zisCores, .ref zisLocks, .ref zisBells, .ref ztName, .int 0, .int 0, .ref zall, .ref zrows, .ref zpicked, .ref zpileTask, .ref zpileLock, .int 0, .ref zwas, .ref zbehind, .ref zriskRow, .ref zriskBest, .int 0, .ref zcTick, .ref zcProcessor, .ref zcTask, .int 0, .ref zgTick, .ref zgTask, .ref zgTold, .ref zgUntold, .ref zgRan, .int 0, .int 0, .ref zboxAll, .ref zboxRows, .ref zisBoxed])), (zcores, .inl (ca 1, 2, .inl (upd (fun _ => 0) 0 1))), (zlocks, .inl (ca 1, 2, .inl (fun _ => 0))), (zbells, .inl (ca 1, 2, .inl (fun _ => 0))), (ztasks, .inl (ca 1, 2, .inl (fun _ => 0))), (zops, .inl (ca 1, 2, .inl (fun _ => 0))), (zall, .inl (ca 1, 340, .inl fa))]) (QI (fun (r : Int32) (u : Unit) => r = sp_k_X11_about x1) (fun (_ : Unit) => []) [(h0, .inr (11, [.ref ztape, .ref ztext, .int 0, .int 0, .int 0, .int (-1), .int 0, .int 0, .int 0, .int 0, .long 0, .ref zcores, .ref zlocks, .ref zbells, .ref ztasks, .ref zops, .ref zopSort, .ref zopNumber, .ref zkind, .ref zevery, .ref zbudget, .ref zshareTold, .ref zfirstOp, .ref zopMany, .ref zisCores, .ref zisLocks, .ref zisBells, .ref ztName, .int 0, .int 0, .ref zall, .ref zrows, .ref zpicked, .ref zpileTask, .ref zpileLock, .int 0, .ref zwas, .ref zbehind, .ref zriskRow, .ref zriskBest, .int 0, .ref zcTick, .ref zcProcessor, .ref zcTask, .int 0, .ref zgTick, .ref zgTask, .ref zgTold, .ref zgUntold, .ref zgRan, .int 0, .int 0, .ref zboxAll, .ref zboxRows, .ref zisBoxed])), (zcores, .inl (ca 1, 2, .inl (upd (fun _ => 0) 0 1))), (zlocks, .inl (ca 1, 2, .inl (fun _ => 0))), (zbells, .inl (ca 1, 2, .inl (fun _ => 0))), (ztasks, .inl (ca 1, 2, .inl (fun _ => 0))), (zops, .inl (ca 1, 2, .inl (fun _ => 0))), (zall, .inl (ca 1, 340, .inl fa))] sz D) 0 0 (va_A [(h0, .inr (11, [.ref ztape, .ref ztext, .int 0, .int 0, .int 0, .int (-1), .int 0, .int 0, .int 0, .int 0, .long 0, .ref zcores, .ref zlocks, .ref zbells, .ref ztasks, .ref zops, .ref zopSort, .ref zopNumber, .ref zkind, .ref zevery, .ref zbudget, .ref zshareTold, .ref zfirstOp, .ref zopMany, .ref zisCores, .ref zisLocks, .ref zisBells, .ref ztName, .int 0, .int 0, .ref zall, .ref zrows, .ref zpicked, .ref zpileTask, .ref zpileLock, .int 0, .ref zwas, .ref zbehind, .ref zriskRow, .ref zriskBest, .int 0, .ref zcTick, .ref zcProcessor, .ref zcTask, .int 0, .ref zgTick, .ref zgTask, .ref zgTold, .ref zgUntold, .ref zgRan, .int 0, .int 0, .ref zboxAll, .ref zboxRows, .ref zisBoxed])), (zcores, .inl (ca 1, 2, .inl (upd (fun _ => 0) 0 1))), (zlocks, .inl (ca 1, 2, .inl (fun _ => 0))), (zbells, .inl (ca 1, 2, .inl (fun _ => 0))), (ztasks, .inl (ca 1, 2, .inl (fun _ => 0))), (zops, .inl (ca 1, 2, .inl (fun _ => 0))), (zall, .inl (ca 1, 340, .inl fa))] sz) := by
  refine Met.ofW (cc := cX11_about) (maxL := 2) (ret := (some .int)) (by decide +kernel) rfl ?_
  intro p e s m args below meth c s₁ B hml hv
  obtain ⟨rfl, hsz, hP, hC, hD0⟩ := hv
  have hx := B.exec
  have hb := B.bytes
  have hr := B.returns
  have hts := atoms_spec (ws := wsX11_about) B.pre
  have hown : s.vm.findClass RX11 = some m.cls := findClass_of_methodNamed B.named
  have hlocks := B.notSynchronized
  subst hsz
  have hD := hD0.self (sz := s.heap.size)
  dsimp only [QV, QI, QL, BQ]
  generalize hAe : va_A [(h0, .inr (11, [.ref ztape, .ref ztext, .int 0, .int 0, .int 0, .int (-1), .int 0, .int 0, .int 0, .int 0, .long 0, .ref zcores, .ref zlocks, .ref zbells, .ref ztasks, .ref zops, .ref zopSort, .ref zopNumber, .ref zkind, .ref zevery, .ref zbudget, .ref zshareTold, .ref zfirstOp, .ref zopMany, .ref zisCores, .ref zisLocks, .ref zisBells, .ref ztName, .int 0, .int 0, .ref zall, .ref zrows, .ref zpicked, .ref zpileTask, .ref zpileLock, .int 0, .ref zwas, .ref zbehind, .ref zriskRow, .ref zriskBest, .int 0, .ref zcTick, .ref zcProcessor, .ref zcTask, .int 0, .ref zgTick, .ref zgTask, .ref zgTold, .ref zgUntold, .ref zgRan, .int 0, .int 0, .ref zboxAll, .ref zboxRows, .ref zisBoxed])), (zcores, .inl (ca 1, 2, .inl (upd (fun _ => 0) 0 1))), (zlocks, .inl (ca 1, 2, .inl (fun _ => 0))), (zbells, .inl (ca 1, 2, .inl (fun _ => 0))), (ztasks, .inl (ca 1, 2, .inl (fun _ => 0))), (zops, .inl (ca 1, 2, .inl (fun _ => 0))), (zall, .inl (ca 1, 340, .inl fa))] s.heap.size = A at hD ⊢
  have hA : ∀ q : Nat, s.heap.size ≤ q → A q := fun q h => by rw [← hAe]; exact Or.inr h
  have hDA : ∀ {w : va_W}, va_D A w → va_D (va_A [(h0, .inr (11, [.ref ztape, .ref ztext, .int 0, .int 0, .int 0, .int (-1), .int 0, .int 0, .int 0, .int 0, .long 0, .ref zcores, .ref zlocks, .ref zbells, .ref ztasks, .ref zops, .ref zopSort, .ref zopNumber, .ref zkind, .ref zevery, .ref zbudget, .ref zshareTold, .ref zfirstOp, .ref zopMany, .ref zisCores, .ref zisLocks, .ref zisBells, .ref ztName, .int 0, .int 0, .ref zall, .ref zrows, .ref zpicked, .ref zpileTask, .ref zpileLock, .int 0, .ref zwas, .ref zbehind, .ref zriskRow, .ref zriskBest, .int 0, .ref zcTick, .ref zcProcessor, .ref zcTask, .int 0, .ref zgTick, .ref zgTask, .ref zgTold, .ref zgUntold, .ref zgRan, .int 0, .int 0, .ref zboxAll, .ref zboxRows, .ref zisBoxed])), (zcores, .inl (ca 1, 2, .inl (upd (fun _ => 0) 0 1))), (zlocks, .inl (ca 1, 2, .inl (fun _ => 0))), (zbells, .inl (ca 1, 2, .inl (fun _ => 0))), (ztasks, .inl (ca 1, 2, .inl (fun _ => 0))), (zops, .inl (ca 1, 2, .inl (fun _ => 0))), (zall, .inl (ca 1, 340, .inl fa))] s.heap.size) w := fun h => by rw [hAe]; exact h
  have hS : va_S A s.heap s.heap [] := va_S.rf
  have hP : va_P D vwCl [(h0, .inr (11, [.ref ztape, .ref ztext, .int 0, .int 0, .int 0, .int (-1), .int 0, .int 0, .int 0, .int 0, .long 0, .ref zcores, .ref zlocks, .ref zbells, .ref ztasks, .ref zops, .ref zopSort, .ref zopNumber, .ref zkind, .ref zevery, .ref zbudget, .ref zshareTold, .ref zfirstOp, .ref zopMany, .ref zisCores, .ref zisLocks, .ref zisBells, .ref ztName, .int 0, .int 0, .ref zall, .ref zrows, .ref zpicked, .ref zpileTask, .ref zpileLock, .int 0, .ref zwas, .ref zbehind, .ref zriskRow, .ref zriskBest, .int 0, .ref zcTick, .ref zcProcessor, .ref zcTask, .int 0, .ref zgTick, .ref zgTask, .ref zgTold, .ref zgUntold, .ref zgRan, .int 0, .int 0, .ref zboxAll, .ref zboxRows, .ref zisBoxed])), (zcores, .inl (ca 1, 2, .inl (upd (fun _ => 0) 0 1))), (zlocks, .inl (ca 1, 2, .inl (fun _ => 0))), (zbells, .inl (ca 1, 2, .inl (fun _ => 0))), (ztasks, .inl (ca 1, 2, .inl (fun _ => 0))), (zops, .inl (ca 1, 2, .inl (fun _ => 0))), (zall, .inl (ca 1, 340, .inl fa))] s.heap := hP
  have hl := lv_entry ([.ref h0, .int x1]) (n := 2) (Nat.le_of_ble_eq_true rfl)
  rw [lg_entry_eq]
  generalize (lg_sl ([.ref h0, .int x1]) ++ List.replicate (2 - (lg_sl ([.ref h0, .int x1])).length) Slot.unset).toArray = ls at hl ⊢
  have hl : lv_has ls 2 [(0, .ref h0), (1, .int x1)] := hl
  refine lv_iload_n hx hb dX11_about_0 rfl (lv_at hl 1 rfl) ?_
  refine (Decidable.em (x1 = 0)).elim (fun c_2 => ?_) (fun c_2 => ?_)
  · refine nt_i 0 c_2 ?_
    refine lv_tableIn (off := 59) (tgt := 60) hx hb dX11_about_1 (by decide +kernel) (by decide +kernel) (by decide +kernel) (by decide +kernel) ?_
    refine lv_aload_n hx hb dX11_about_60 rfl (lv_at hl 0 rfl) ?_
    refine kc_i (wr := [(zcores, .inl (ca 1, 2, .inl (upd (fun _ => 0) 0 1))), (zlocks, .inl (ca 1, 2, .inl (fun _ => 0))), (zbells, .inl (ca 1, 2, .inl (fun _ => 0))), (zops, .inl (ca 1, 2, .inl (fun _ => 0))), (zall, .inl (ca 1, 340, .inl fa))]) (va_runV (As := []) (rest := []) ⟨hx, hb, hml, hown, hts⟩ (k_X11_taskMany_0 l D ca s.heap.size h0 ztape ztext zcores zlocks zbells ztasks zops zopSort zopNumber zkind zevery zbudget zshareTold zfirstOp zopMany zisCores zisLocks zisBells ztName zall zrows zpicked zpileTask zpileLock zwas zbehind zriskRow zriskBest zcTick zcProcessor zcTask zgTick zgTask zgTold zgUntold zgRan zboxAll zboxRows zisBoxed 0 0 0 (-1) 0 0 0 0 0 0 0 0 0 0 0) (cwV 0 hts gX11_about_X11_taskMany rfl rfl rfl (by decide +kernel) ⟨(Nat.le_of_ble_eq_true rfl), (Nat.le_of_ble_eq_true rfl)⟩) (PC.preV (ci := 11) hC hP hD [0, 4] rfl (by decide +kernel) rfl rfl) rfl rfl hl.1 rfl (lv_room (Nat.le_of_ble_eq_true rfl)) dX11_about_61 ⟨(Nat.le_of_ble_eq_true rfl), (Nat.le_of_ble_eq_true rfl)⟩) hP hD hS hA [0, 4] [1, 2, 3, 5, 6] rfl rfl (by decide +kernel) (by decide +kernel) (fun r_3 u_5 H locs hw_4 hP hD hS => ?_)
    subst hw_4
    have hP : va_P D vwCl [(zcores, .inl (ca 1, 2, .inl (upd (fun _ => 0) 0 1))), (zlocks, .inl (ca 1, 2, .inl (fun _ => 0))), (zbells, .inl (ca 1, 2, .inl (fun _ => 0))), (zops, .inl (ca 1, 2, .inl (fun _ => 0))), (zall, .inl (ca 1, 340, .inl fa)), (h0, .inr (11, [.ref ztape, .ref ztext, .int 0, .int 0, .int 0, .int (-1), .int 0, .int 0, .int 0, .int 0, .long 0, .ref zcores, .ref zlocks, .ref zbells, .ref ztasks, .ref zops, .ref zopSort, .ref zopNumber, .ref zkind, .ref zevery, .ref zbudget, .ref zshareTold, .ref zfirstOp, .ref zopMany, .ref zisCores, .ref zisLocks, .ref zisBells, .ref ztName, .int 0, .int 0, .ref zall, .ref zrows, .ref zpicked, .ref zpileTask, .ref zpileLock, .int 0, .ref zwas, .ref zbehind, .ref zriskRow, .ref zriskBest, .int 0, .ref zcTick, .ref zcProcessor, .ref zcTask, .int 0, .ref zgTick, .ref zgTask, .ref zgTold, .ref zgUntold, .ref zgRan, .int 0, .int 0, .ref zboxAll, .ref zboxRows, .ref zisBoxed])), (ztasks, .inl (ca 1, 2, .inl (fun _ => 0)))] H := hP
    have hD : va_D A [(zcores, .inl (ca 1, 2, .inl (upd (fun _ => 0) 0 1))), (zlocks, .inl (ca 1, 2, .inl (fun _ => 0))), (zbells, .inl (ca 1, 2, .inl (fun _ => 0))), (zops, .inl (ca 1, 2, .inl (fun _ => 0))), (zall, .inl (ca 1, 340, .inl fa)), (h0, .inr (11, [.ref ztape, .ref ztext, .int 0, .int 0, .int 0, .int (-1), .int 0, .int 0, .int 0, .int 0, .long 0, .ref zcores, .ref zlocks, .ref zbells, .ref ztasks, .ref zops, .ref zopSort, .ref zopNumber, .ref zkind, .ref zevery, .ref zbudget, .ref zshareTold, .ref zfirstOp, .ref zopMany, .ref zisCores, .ref zisLocks, .ref zisBells, .ref ztName, .int 0, .int 0, .ref zall, .ref zrows, .ref zpicked, .ref zpileTask, .ref zpileLock, .int 0, .ref zwas, .ref zbehind, .ref zriskRow, .ref zriskBest, .int 0, .ref zcTick, .ref zcProcessor, .ref zcTask, .int 0, .ref zgTick, .ref zgTask, .ref zgTold, .ref zgUntold, .ref zgRan, .int 0, .int 0, .ref zboxAll, .ref zboxRows, .ref zisBoxed])), (ztasks, .inl (ca 1, 2, .inl (fun _ => 0)))] := hD
    exact W.iret (v := 0) hx hb hr (fun t ht hW => ⟨⟨0, (), rfl, (by unfold sp_k_X11_about; rw [if_pos c_2]), by rw [ht]; exact hP.sub [] rfl, hDA (hD.sub [] (by decide +kernel) rfl)⟩, hS.F ht⟩) hS.2.2 dX11_about_64
  refine (Decidable.em (x1 = 1)).elim (fun c_6 => ?_) (fun c_6 => ?_)
  · refine nt_i 1 c_6 ?_
    refine lv_tableIn (off := 64) (tgt := 65) hx hb dX11_about_1 (by decide +kernel) (by decide +kernel) (by decide +kernel) (by decide +kernel) ?_
    refine lv_aload_n hx hb dX11_about_65 rfl (lv_at hl 0 rfl) ?_
    refine va_get (D := D) (ci := 11) (v := .ref zcores) (C := RX11) (T := TX11) (N := 55) hx hb hts iw_X11_about_11 hown hC.1 hP 0 rfl rfl 11 (by decide +kernel) (hts (.fieldLink RX11 20 "FairWheelModel" "cores" "[I") (by decide +kernel)) (fun _ h9 => h9) rfl dX11_about_66 ?_
    refine lv_aload_n hx hb dX11_about_69 rfl (lv_at hl 0 rfl) ?_
    refine va_get (D := D) (ci := 11) (v := .int 0) (C := RX11) (T := TX11) (N := 55) hx hb hts iw_X11_about_11 hown hC.1 hP 0 rfl rfl 28 (by decide +kernel) (hts (.fieldLink RX11 244 "FairWheelModel" "bank" "I") (by decide +kernel)) (fun _ h9 => h9) rfl dX11_about_70 ?_
    refine ka_iald hx hb hC.1 hP 1 1 rfl rfl 0 rfl (by decide +kernel) (by decide +kernel) dX11_about_73 ?_
    refine nt_i 1 rfl ?_
    exact W.iret (v := 1) hx hb hr (fun t ht hW => ⟨⟨1, (), rfl, (by unfold sp_k_X11_about; rw [if_neg c_2, if_pos c_6]), by rw [ht]; exact hP.sub [] rfl, hDA (hD.sub [] (by decide +kernel) rfl)⟩, hS.F ht⟩) hS.2.2 dX11_about_74
  refine (Decidable.em (x1 = 2)).elim (fun c_7 => ?_) (fun c_7 => ?_)
  · refine nt_i 2 c_7 ?_
    refine lv_tableIn (off := 74) (tgt := 75) hx hb dX11_about_1 (by decide +kernel) (by decide +kernel) (by decide +kernel) (by decide +kernel) ?_
    refine lv_aload_n hx hb dX11_about_75 rfl (lv_at hl 0 rfl) ?_
    refine va_get (D := D) (ci := 11) (v := .ref zlocks) (C := RX11) (T := TX11) (N := 55) hx hb hts iw_X11_about_11 hown hC.1 hP 0 rfl rfl 12 (by decide +kernel) (hts (.fieldLink RX11 24 "FairWheelModel" "locks" "[I") (by decide +kernel)) (fun _ h9 => h9) rfl dX11_about_76 ?_
    refine lv_aload_n hx hb dX11_about_79 rfl (lv_at hl 0 rfl) ?_
    refine va_get (D := D) (ci := 11) (v := .int 0) (C := RX11) (T := TX11) (N := 55) hx hb hts iw_X11_about_11 hown hC.1 hP 0 rfl rfl 28 (by decide +kernel) (hts (.fieldLink RX11 244 "FairWheelModel" "bank" "I") (by decide +kernel)) (fun _ h9 => h9) rfl dX11_about_80 ?_
    refine ka_iald hx hb hC.1 hP 2 1 rfl rfl 0 rfl (by decide +kernel) (by decide +kernel) dX11_about_83 ?_
    refine nt_i 0 rfl ?_
    exact W.iret (v := 0) hx hb hr (fun t ht hW => ⟨⟨0, (), rfl, (by unfold sp_k_X11_about; rw [if_neg c_2, if_neg c_6, if_pos c_7]), by rw [ht]; exact hP.sub [] rfl, hDA (hD.sub [] (by decide +kernel) rfl)⟩, hS.F ht⟩) hS.2.2 dX11_about_84
  refine (Decidable.em (x1 = 3)).elim (fun c_8 => ?_) (fun c_8 => ?_)
  · refine nt_i 3 c_8 ?_
    refine lv_tableIn (off := 84) (tgt := 85) hx hb dX11_about_1 (by decide +kernel) (by decide +kernel) (by decide +kernel) (by decide +kernel) ?_
    refine lv_aload_n hx hb dX11_about_85 rfl (lv_at hl 0 rfl) ?_
    refine va_get (D := D) (ci := 11) (v := .ref zbells) (C := RX11) (T := TX11) (N := 55) hx hb hts iw_X11_about_11 hown hC.1 hP 0 rfl rfl 13 (by decide +kernel) (hts (.fieldLink RX11 27 "FairWheelModel" "bells" "[I") (by decide +kernel)) (fun _ h9 => h9) rfl dX11_about_86 ?_
    refine lv_aload_n hx hb dX11_about_89 rfl (lv_at hl 0 rfl) ?_
    refine va_get (D := D) (ci := 11) (v := .int 0) (C := RX11) (T := TX11) (N := 55) hx hb hts iw_X11_about_11 hown hC.1 hP 0 rfl rfl 28 (by decide +kernel) (hts (.fieldLink RX11 244 "FairWheelModel" "bank" "I") (by decide +kernel)) (fun _ h9 => h9) rfl dX11_about_90 ?_
    refine ka_iald hx hb hC.1 hP 3 1 rfl rfl 0 rfl (by decide +kernel) (by decide +kernel) dX11_about_93 ?_
    refine nt_i 0 rfl ?_
    exact W.iret (v := 0) hx hb hr (fun t ht hW => ⟨⟨0, (), rfl, (by unfold sp_k_X11_about; rw [if_neg c_2, if_neg c_6, if_neg c_7, if_pos c_8]), by rw [ht]; exact hP.sub [] rfl, hDA (hD.sub [] (by decide +kernel) rfl)⟩, hS.F ht⟩) hS.2.2 dX11_about_94
  refine (Decidable.em (x1 = 4)).elim (fun c_9 => ?_) (fun c_9 => ?_)
  · refine nt_i 4 c_9 ?_
    refine lv_tableIn (off := 94) (tgt := 95) hx hb dX11_about_1 (by decide +kernel) (by decide +kernel) (by decide +kernel) (by decide +kernel) ?_
    refine lv_aload_n hx hb dX11_about_95 rfl (lv_at hl 0 rfl) ?_
    refine va_get (D := D) (ci := 11) (v := .ref zall) (C := RX11) (T := TX11) (N := 55) hx hb hts iw_X11_about_11 hown hC.1 hP 0 rfl rfl 30 (by decide +kernel) (hts (.fieldLink RX11 74 "FairWheelModel" "all" "[I") (by decide +kernel)) (fun _ h9 => h9) rfl dX11_about_96 ?_
    refine lv_sipush (v := 330) hx hb dX11_about_99 (by decide +kernel) ?_
    refine ka_iald hx hb hC.1 hP 6 1 rfl rfl 330 rfl (by decide +kernel) (by decide +kernel) dX11_about_102 ?_
    refine nt_i 0 ha ?_
    exact W.iret (v := 0) hx hb hr (fun t ht hW => ⟨⟨0, (), rfl, (by unfold sp_k_X11_about; rw [if_neg c_2, if_neg c_6, if_neg c_7, if_neg c_8, if_pos c_9]), by rw [ht]; exact hP.sub [] rfl, hDA (hD.sub [] (by decide +kernel) rfl)⟩, hS.F ht⟩) hS.2.2 dX11_about_103
  refine (Decidable.em (x1 = 5)).elim (fun c_10 => ?_) (fun c_10 => ?_)
  · refine nt_i 5 c_10 ?_
    refine lv_tableIn (off := 103) (tgt := 104) hx hb dX11_about_1 (by decide +kernel) (by decide +kernel) (by decide +kernel) (by decide +kernel) ?_
    refine lv_aload_n hx hb dX11_about_104 rfl (lv_at hl 0 rfl) ?_
    refine kc_i (wr := [(zcores, .inl (ca 1, 2, .inl (upd (fun _ => 0) 0 1))), (zlocks, .inl (ca 1, 2, .inl (fun _ => 0))), (zbells, .inl (ca 1, 2, .inl (fun _ => 0))), (zops, .inl (ca 1, 2, .inl (fun _ => 0))), (zall, .inl (ca 1, 340, .inl fa))]) (va_runV (As := []) (rest := []) ⟨hx, hb, hml, hown, hts⟩ (k_X11_liveMany l D ca s.heap.size h0 ztape ztext zcores zlocks zbells ztasks zops zopSort zopNumber zkind zevery zbudget zshareTold zfirstOp zopMany zisCores zisLocks zisBells ztName zall zrows zpicked zpileTask zpileLock zwas zbehind zriskRow zriskBest zcTick zcProcessor zcTask zgTick zgTask zgTold zgUntold zgRan zboxAll zboxRows zisBoxed 0 0 0 (-1) 0 0 0 0 0 0 0 0 0 0 0) (cwV 0 hts gX11_about_X11_liveMany rfl rfl rfl (by decide +kernel) ⟨(Nat.le_of_ble_eq_true rfl), (Nat.le_of_ble_eq_true rfl)⟩) (PC.preV (ci := 11) hC hP hD [0, 4] rfl (by decide +kernel) rfl rfl) rfl rfl hl.1 rfl (lv_room (Nat.le_of_ble_eq_true rfl)) dX11_about_105 ⟨(Nat.le_of_ble_eq_true rfl), (Nat.le_of_ble_eq_true rfl)⟩) hP hD hS hA [0, 4] [1, 2, 3, 5, 6] rfl rfl (by decide +kernel) (by decide +kernel) (fun r_11 u_13 H locs hw_12 hP hD hS => ?_)
    subst hw_12
    have hP : va_P D vwCl [(zcores, .inl (ca 1, 2, .inl (upd (fun _ => 0) 0 1))), (zlocks, .inl (ca 1, 2, .inl (fun _ => 0))), (zbells, .inl (ca 1, 2, .inl (fun _ => 0))), (zops, .inl (ca 1, 2, .inl (fun _ => 0))), (zall, .inl (ca 1, 340, .inl fa)), (h0, .inr (11, [.ref ztape, .ref ztext, .int 0, .int 0, .int 0, .int (-1), .int 0, .int 0, .int 0, .int 0, .long 0, .ref zcores, .ref zlocks, .ref zbells, .ref ztasks, .ref zops, .ref zopSort, .ref zopNumber, .ref zkind, .ref zevery, .ref zbudget, .ref zshareTold, .ref zfirstOp, .ref zopMany, .ref zisCores, .ref zisLocks, .ref zisBells, .ref ztName, .int 0, .int 0, .ref zall, .ref zrows, .ref zpicked, .ref zpileTask, .ref zpileLock, .int 0, .ref zwas, .ref zbehind, .ref zriskRow, .ref zriskBest, .int 0, .ref zcTick, .ref zcProcessor, .ref zcTask, .int 0, .ref zgTick, .ref zgTask, .ref zgTold, .ref zgUntold, .ref zgRan, .int 0, .int 0, .ref zboxAll, .ref zboxRows, .ref zisBoxed])), (ztasks, .inl (ca 1, 2, .inl (fun _ => 0)))] H := hP
    have hD : va_D A [(zcores, .inl (ca 1, 2, .inl (upd (fun _ => 0) 0 1))), (zlocks, .inl (ca 1, 2, .inl (fun _ => 0))), (zbells, .inl (ca 1, 2, .inl (fun _ => 0))), (zops, .inl (ca 1, 2, .inl (fun _ => 0))), (zall, .inl (ca 1, 340, .inl fa)), (h0, .inr (11, [.ref ztape, .ref ztext, .int 0, .int 0, .int 0, .int (-1), .int 0, .int 0, .int 0, .int 0, .long 0, .ref zcores, .ref zlocks, .ref zbells, .ref ztasks, .ref zops, .ref zopSort, .ref zopNumber, .ref zkind, .ref zevery, .ref zbudget, .ref zshareTold, .ref zfirstOp, .ref zopMany, .ref zisCores, .ref zisLocks, .ref zisBells, .ref ztName, .int 0, .int 0, .ref zall, .ref zrows, .ref zpicked, .ref zpileTask, .ref zpileLock, .int 0, .ref zwas, .ref zbehind, .ref zriskRow, .ref zriskBest, .int 0, .ref zcTick, .ref zcProcessor, .ref zcTask, .int 0, .ref zgTick, .ref zgTask, .ref zgTold, .ref zgUntold, .ref zgRan, .int 0, .int 0, .ref zboxAll, .ref zboxRows, .ref zisBoxed])), (ztasks, .inl (ca 1, 2, .inl (fun _ => 0)))] := hD
    exact W.iret (v := 0) hx hb hr (fun t ht hW => ⟨⟨0, (), rfl, (by unfold sp_k_X11_about; rw [if_neg c_2, if_neg c_6, if_neg c_7, if_neg c_8, if_neg c_9, if_pos c_10]), by rw [ht]; exact hP.sub [] rfl, hDA (hD.sub [] (by decide +kernel) rfl)⟩, hS.F ht⟩) hS.2.2 dX11_about_108
  refine (Decidable.em (x1 = 6)).elim (fun c_14 => ?_) (fun c_14 => ?_)
  · refine nt_i 6 c_14 ?_
    refine lv_tableIn (off := 108) (tgt := 109) hx hb dX11_about_1 (by decide +kernel) (by decide +kernel) (by decide +kernel) (by decide +kernel) ?_
    refine lv_aload_n hx hb dX11_about_109 rfl (lv_at hl 0 rfl) ?_
    refine va_get (D := D) (ci := 11) (v := .int 0) (C := RX11) (T := TX11) (N := 55) hx hb hts iw_X11_about_11 hown hC.1 hP 0 rfl rfl 44 (by decide +kernel) (hts (.fieldLink RX11 250 "FairWheelModel" "toldMany" "I") (by decide +kernel)) (fun _ h9 => h9) rfl dX11_about_110 ?_
    exact W.iret (v := 0) hx hb hr (fun t ht hW => ⟨⟨0, (), rfl, (by unfold sp_k_X11_about; rw [if_neg c_2, if_neg c_6, if_neg c_7, if_neg c_8, if_neg c_9, if_neg c_10, if_pos c_14]), by rw [ht]; exact hP.sub [] rfl, hDA (hD.sub [] (by decide +kernel) rfl)⟩, hS.F ht⟩) hS.2.2 dX11_about_113
  refine (Decidable.em (x1 = 7)).elim (fun c_15 => ?_) (fun c_15 => ?_)
  · refine nt_i 7 c_15 ?_
    refine lv_tableIn (off := 113) (tgt := 114) hx hb dX11_about_1 (by decide +kernel) (by decide +kernel) (by decide +kernel) (by decide +kernel) ?_
    refine lv_aload_n hx hb dX11_about_114 rfl (lv_at hl 0 rfl) ?_
    refine va_get (D := D) (ci := 11) (v := .int 0) (C := RX11) (T := TX11) (N := 55) hx hb hts iw_X11_about_11 hown hC.1 hP 0 rfl rfl 50 (by decide +kernel) (hts (.fieldLink RX11 253 "FairWheelModel" "sights" "I") (by decide +kernel)) (fun _ h9 => h9) rfl dX11_about_115 ?_
    exact W.iret (v := 0) hx hb hr (fun t ht hW => ⟨⟨0, (), rfl, (by unfold sp_k_X11_about; rw [if_neg c_2, if_neg c_6, if_neg c_7, if_neg c_8, if_neg c_9, if_neg c_10, if_neg c_14, if_pos c_15]), by rw [ht]; exact hP.sub [] rfl, hDA (hD.sub [] (by decide +kernel) rfl)⟩, hS.F ht⟩) hS.2.2 dX11_about_118
  refine (Decidable.em (x1 = 8)).elim (fun c_16 => ?_) (fun c_16 => ?_)
  · refine nt_i 8 c_16 ?_
    refine lv_tableIn (off := 118) (tgt := 119) hx hb dX11_about_1 (by decide +kernel) (by decide +kernel) (by decide +kernel) (by decide +kernel) ?_
    refine lv_aload_n hx hb dX11_about_119 rfl (lv_at hl 0 rfl) ?_
    refine va_get (D := D) (ci := 11) (v := .int 0) (C := RX11) (T := TX11) (N := 55) hx hb hts iw_X11_about_11 hown hC.1 hP 0 rfl rfl 51 (by decide +kernel) (hts (.fieldLink RX11 392 "FairWheelModel" "time" "I") (by decide +kernel)) (fun _ h9 => h9) rfl dX11_about_120 ?_
    exact W.iret (v := 0) hx hb hr (fun t ht hW => ⟨⟨0, (), rfl, (by unfold sp_k_X11_about; rw [if_neg c_2, if_neg c_6, if_neg c_7, if_neg c_8, if_neg c_9, if_neg c_10, if_neg c_14, if_neg c_15, if_pos c_16]), by rw [ht]; exact hP.sub [] rfl, hDA (hD.sub [] (by decide +kernel) rfl)⟩, hS.F ht⟩) hS.2.2 dX11_about_123
  refine (Decidable.em (x1 = 9)).elim (fun c_17 => ?_) (fun c_17 => ?_)
  · refine nt_i 9 c_17 ?_
    refine lv_tableIn (off := 123) (tgt := 124) hx hb dX11_about_1 (by decide +kernel) (by decide +kernel) (by decide +kernel) (by decide +kernel) ?_
    refine lv_aload_n hx hb dX11_about_124 rfl (lv_at hl 0 rfl) ?_
    refine va_get (D := D) (ci := 11) (v := .int 0) (C := RX11) (T := TX11) (N := 55) hx hb hts iw_X11_about_11 hown hC.1 hP 0 rfl rfl 2 (by decide +kernel) (hts (.fieldLink RX11 241 "FairWheelModel" "taped" "I") (by decide +kernel)) (fun _ h9 => h9) rfl dX11_about_125 ?_
    exact W.iret (v := 0) hx hb hr (fun t ht hW => ⟨⟨0, (), rfl, (by unfold sp_k_X11_about; rw [if_neg c_2, if_neg c_6, if_neg c_7, if_neg c_8, if_neg c_9, if_neg c_10, if_neg c_14, if_neg c_15, if_neg c_16, if_pos c_17]), by rw [ht]; exact hP.sub [] rfl, hDA (hD.sub [] (by decide +kernel) rfl)⟩, hS.F ht⟩) hS.2.2 dX11_about_128
  refine (Decidable.em (x1 = 10)).elim (fun c_18 => ?_) (fun c_18 => ?_)
  · refine nt_i 10 c_18 ?_
    refine lv_tableIn (off := 128) (tgt := 129) hx hb dX11_about_1 (by decide +kernel) (by decide +kernel) (by decide +kernel) (by decide +kernel) ?_
    refine lv_aload_n hx hb dX11_about_129 rfl (lv_at hl 0 rfl) ?_
    refine va_get (D := D) (ci := 11) (v := .ref zops) (C := RX11) (T := TX11) (N := 55) hx hb hts iw_X11_about_11 hown hC.1 hP 0 rfl rfl 15 (by decide +kernel) (hts (.fieldLink RX11 33 "FairWheelModel" "ops" "[I") (by decide +kernel)) (fun _ h9 => h9) rfl dX11_about_130 ?_
    refine lv_aload_n hx hb dX11_about_133 rfl (lv_at hl 0 rfl) ?_
    refine va_get (D := D) (ci := 11) (v := .int 0) (C := RX11) (T := TX11) (N := 55) hx hb hts iw_X11_about_11 hown hC.1 hP 0 rfl rfl 28 (by decide +kernel) (hts (.fieldLink RX11 244 "FairWheelModel" "bank" "I") (by decide +kernel)) (fun _ h9 => h9) rfl dX11_about_134 ?_
    refine ka_iald hx hb hC.1 hP 5 1 rfl rfl 0 rfl (by decide +kernel) (by decide +kernel) dX11_about_137 ?_
    refine nt_i 0 rfl ?_
    exact W.iret (v := 0) hx hb hr (fun t ht hW => ⟨⟨0, (), rfl, (by unfold sp_k_X11_about; rw [if_neg c_2, if_neg c_6, if_neg c_7, if_neg c_8, if_neg c_9, if_neg c_10, if_neg c_14, if_neg c_15, if_neg c_16, if_neg c_17, if_pos c_18]), by rw [ht]; exact hP.sub [] rfl, hDA (hD.sub [] (by decide +kernel) rfl)⟩, hS.F ht⟩) hS.2.2 dX11_about_138
  refine lv_tableOut (tgt := 139) hx hb dX11_about_1 (ts_out11 c_2 c_6 c_7 c_8 c_9 c_10 c_14 c_15 c_16 c_17 c_18) (by decide +kernel) ?_
  refine lv_iconst (v := (-1)) hx hb dX11_about_139 (by decide +kernel) ?_
  exact W.iret (v := (-1)) hx hb hr (fun t ht hW => ⟨⟨(-1), (), rfl, (by unfold sp_k_X11_about; rw [if_neg c_2, if_neg c_6, if_neg c_7, if_neg c_8, if_neg c_9, if_neg c_10, if_neg c_14, if_neg c_15, if_neg c_16, if_neg c_17, if_neg c_18]), by rw [ht]; exact hP.sub [] rfl, hDA (hD.sub [] (by decide +kernel) rfl)⟩, hS.F ht⟩) hS.2.2 dX11_about_140
