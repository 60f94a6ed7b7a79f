theorem dX7_append_0 : decode cX7_append 0 = .ok (.bipush 24, 2) := by decide +kernel
theorem dX7_append_2 : decode cX7_append 2 = .ok (.istore_n 2, 1) := by decide +kernel
theorem dX7_append_3 : decode cX7_append 3 = .ok (.iload_n 2, 1) := by decide +kernel
theorem dX7_append_4 : decode cX7_append 4 = .ok (.ifCond .lt 44, 3) := by decide +kernel
theorem dX7_append_7 : decode cX7_append 7 = .ok (.aload_n 0, 1) := by decide +kernel
theorem dX7_append_8 : decode cX7_append 8 = .ok (.getfield 15, 3) := by decide +kernel
theorem dX7_append_11 : decode cX7_append 11 = .ok (.aload_n 0, 1) := by decide +kernel
theorem dX7_append_12 : decode cX7_append 12 = .ok (.getfield 9, 3) := by decide +kernel
theorem dX7_append_15 : decode cX7_append 15 = .ok (.arraylength, 1) := by decide +kernel
theorem dX7_append_16 : decode cX7_append 16 = .ok (.if_icmp .ge 32, 3) := by decide +kernel
theorem dX7_append_19 : decode cX7_append 19 = .ok (.aload_n 0, 1) := by decide +kernel
theorem dX7_append_20 : decode cX7_append 20 = .ok (.getfield 9, 3) := by decide +kernel
theorem dX7_append_23 : decode cX7_append 23 = .ok (.aload_n 0, 1) := by decide +kernel
theorem dX7_append_24 : decode cX7_append 24 = .ok (.getfield 15, 3) := by decide +kernel
theorem dX7_append_27 : decode cX7_append 27 = .ok (.iload_n 1, 1) := by decide +kernel
theorem dX7_append_28 : decode cX7_append 28 = .ok (.iload_n 2, 1) := by decide +kernel
theorem dX7_append_29 : decode cX7_append 29 = .ok (.ishr, 1) := by decide +kernel
theorem dX7_append_30 : decode cX7_append 30 = .ok (.i2b, 1) := by decide +kernel
theorem dX7_append_31 : decode cX7_append 31 = .ok (.bastore, 1) := by decide +kernel
theorem dX7_append_32 : decode cX7_append 32 = .ok (.aload_n 0, 1) := by decide +kernel
theorem dX7_append_33 : decode cX7_append 33 = .ok (.dup, 1) := by decide +kernel
theorem dX7_append_34 : decode cX7_append 34 = .ok (.getfield 15, 3) := by decide +kernel
theorem dX7_append_37 : decode cX7_append 37 = .ok (.iconst 1, 1) := by decide +kernel
theorem dX7_append_38 : decode cX7_append 38 = .ok (.iadd, 1) := by decide +kernel
theorem dX7_append_39 : decode cX7_append 39 = .ok (.putfield 15, 3) := by decide +kernel
theorem dX7_append_42 : decode cX7_append 42 = .ok (.iinc 2 (-8), 3) := by decide +kernel
theorem dX7_append_45 : decode cX7_append 45 = .ok (.goto (-42), 3) := by decide +kernel
theorem dX7_append_48 : decode cX7_append 48 = .ok (.return_, 1) := by decide +kernel
set_option maxRecDepth 20000 in
theorem ggX10_feed_X7_append : GoodIn wsX10_feed wsX7_append := goodIn_r _ [7, 8, 9, 22, 23] (by decide +kernel) (by decide +kernel)
set_option maxRecDepth 20000 in
theorem gX10_feed_X7_append : GoodIn wsX10_feed (wsV RX10 86 RX7 yX7_append wsX7_append) := goodIn_app (goodIn_of _ (by decide +kernel)) ggX10_feed_X7_append
theorem dX10_feed_0 : decode cX10_feed 0 = .ok (.aload_n 0, 1) := by decide +kernel
theorem dX10_feed_1 : decode cX10_feed 1 = .ok (.getfield 12, 3) := by decide +kernel
theorem dX10_feed_4 : decode cX10_feed 4 = .ok (.getfield 83, 3) := by decide +kernel
theorem dX10_feed_7 : decode cX10_feed 7 = .ok (.bipush 20, 2) := by decide +kernel
theorem dX10_feed_9 : decode cX10_feed 9 = .ok (.iadd, 1) := by decide +kernel
theorem dX10_feed_10 : decode cX10_feed 10 = .ok (.sipush 1700, 3) := by decide +kernel
theorem dX10_feed_13 : decode cX10_feed 13 = .ok (.if_icmp .le 5, 3) := by decide +kernel
theorem dX10_feed_18 : decode cX10_feed 18 = .ok (.aload_n 0, 1) := by decide +kernel
theorem dX10_feed_19 : decode cX10_feed 19 = .ok (.getfield 12, 3) := by decide +kernel
theorem dX10_feed_22 : decode cX10_feed 22 = .ok (.iload_n 1, 1) := by decide +kernel
theorem dX10_feed_23 : decode cX10_feed 23 = .ok (.invokevirtual 86, 3) := by decide +kernel
theorem dX10_feed_26 : decode cX10_feed 26 = .ok (.aload_n 0, 1) := by decide +kernel
theorem dX10_feed_27 : decode cX10_feed 27 = .ok (.getfield 12, 3) := by decide +kernel
theorem dX10_feed_30 : decode cX10_feed 30 = .ok (.iload_n 2, 1) := by decide +kernel
theorem dX10_feed_31 : decode cX10_feed 31 = .ok (.invokevirtual 86, 3) := by decide +kernel
theorem dX10_feed_34 : decode cX10_feed 34 = .ok (.aload_n 0, 1) := by decide +kernel
theorem dX10_feed_35 : decode cX10_feed 35 = .ok (.getfield 12, 3) := by decide +kernel
theorem dX10_feed_38 : decode cX10_feed 38 = .ok (.iload_n 3, 1) := by decide +kernel
theorem dX10_feed_39 : decode cX10_feed 39 = .ok (.invokevirtual 86, 3) := by decide +kernel
theorem dX10_feed_42 : decode cX10_feed 42 = .ok (.aload_n 0, 1) := by decide +kernel
theorem dX10_feed_43 : decode cX10_feed 43 = .ok (.getfield 12, 3) := by decide +kernel
theorem dX10_feed_46 : decode cX10_feed 46 = .ok (.iload 4, 2) := by decide +kernel
theorem dX10_feed_48 : decode cX10_feed 48 = .ok (.invokevirtual 86, 3) := by decide +kernel
theorem dX10_feed_51 : decode cX10_feed 51 = .ok (.aload_n 0, 1) := by decide +kernel
theorem dX10_feed_52 : decode cX10_feed 52 = .ok (.getfield 12, 3) := by decide +kernel
theorem dX10_feed_55 : decode cX10_feed 55 = .ok (.iload 5, 2) := by decide +kernel
theorem dX10_feed_57 : decode cX10_feed 57 = .ok (.invokevirtual 86, 3) := by decide +kernel
theorem dX10_feed_60 : decode cX10_feed 60 = .ok (.aload_n 0, 1) := by decide +kernel
theorem dX10_feed_61 : decode cX10_feed 61 = .ok (.getfield 12, 3) := by decide +kernel
theorem dX10_feed_64 : decode cX10_feed 64 = .ok (.getfield 83, 3) := by decide +kernel
theorem dX10_feed_67 : decode cX10_feed 67 = .ok (.ireturn, 1) := by decide +kernel
theorem dX10_end_0 : decode cX10_end 0 = .ok (.iload_n 1, 1) := by decide +kernel
theorem dX10_end_1 : decode cX10_end 1 = .ok (.ifCond .lt 14, 3) := by decide +kernel
theorem dX10_end_4 : decode cX10_end 4 = .ok (.iload_n 1, 1) := by decide +kernel
theorem dX10_end_5 : decode cX10_end 5 = .ok (.aload_n 0, 1) := by decide +kernel
theorem dX10_end_6 : decode cX10_end 6 = .ok (.getfield 12, 3) := by decide +kernel
theorem dX10_end_9 : decode cX10_end 9 = .ok (.getfield 83, 3) := by decide +kernel
theorem dX10_end_12 : decode cX10_end 12 = .ok (.if_icmp .le 5, 3) := by decide +kernel
theorem dX10_end_15 : decode cX10_end 15 = .ok (.iconst (-1), 1) := by decide +kernel
theorem dX10_end_16 : decode cX10_end 16 = .ok (.ireturn, 1) := by decide +kernel
theorem dX10_end_17 : decode cX10_end 17 = .ok (.aload_n 0, 1) := by decide +kernel
theorem dX10_end_18 : decode cX10_end 18 = .ok (.getfield 12, 3) := by decide +kernel
theorem dX10_end_21 : decode cX10_end 21 = .ok (.iload_n 1, 1) := by decide +kernel
theorem dX10_end_22 : decode cX10_end 22 = .ok (.putfield 83, 3) := by decide +kernel
theorem dX10_end_25 : decode cX10_end 25 = .ok (.iload_n 1, 1) := by decide +kernel
theorem dX10_end_26 : decode cX10_end 26 = .ok (.ireturn, 1) := by decide +kernel
theorem dX10_fault_0 : decode cX10_fault 0 = .ok (.iload_n 1, 1) := by decide +kernel
theorem dX10_fault_1 : decode cX10_fault 1 = .ok (.ifCond .ne 11, 3) := by decide +kernel
theorem dX10_fault_4 : decode cX10_fault 4 = .ok (.aload_n 0, 1) := by decide +kernel
theorem dX10_fault_5 : decode cX10_fault 5 = .ok (.getfield 31, 3) := by decide +kernel
theorem dX10_fault_8 : decode cX10_fault 8 = .ok (.getfield 106, 3) := by decide +kernel
theorem dX10_fault_11 : decode cX10_fault 11 = .ok (.ireturn, 1) := by decide +kernel
theorem dX10_fault_12 : decode cX10_fault 12 = .ok (.iload_n 1, 1) := by decide +kernel
theorem dX10_fault_13 : decode cX10_fault 13 = .ok (.iconst 1, 1) := by decide +kernel
theorem dX10_fault_14 : decode cX10_fault 14 = .ok (.if_icmp .ne 13, 3) := by decide +kernel
theorem dX10_fault_17 : decode cX10_fault 17 = .ok (.aload_n 0, 1) := by decide +kernel
theorem dX10_fault_18 : decode cX10_fault 18 = .ok (.getfield 31, 3) := by decide +kernel
theorem dX10_fault_21 : decode cX10_fault 21 = .ok (.getfield 109, 3) := by decide +kernel
theorem dX10_fault_24 : decode cX10_fault 24 = .ok (.goto 4, 3) := by decide +kernel
theorem dX10_fault_27 : decode cX10_fault 27 = .ok (.iconst (-1), 1) := by decide +kernel
theorem dX10_fault_28 : decode cX10_fault 28 = .ok (.ireturn, 1) := by decide +kernel
theorem dX10_wasChosenIn_0 : decode cX10_wasChosenIn 0 = .ok (.iload_n 1, 1) := by decide +kernel
theorem dX10_wasChosenIn_1 : decode cX10_wasChosenIn 1 = .ok (.ifCond .lt 42, 3) := by decide +kernel
theorem dX10_wasChosenIn_4 : decode cX10_wasChosenIn 4 = .ok (.iload_n 1, 1) := by decide +kernel
theorem dX10_wasChosenIn_5 : decode cX10_wasChosenIn 5 = .ok (.aload_n 0, 1) := by decide +kernel
theorem dX10_wasChosenIn_6 : decode cX10_wasChosenIn 6 = .ok (.getfield 40, 3) := by decide +kernel
theorem dX10_wasChosenIn_9 : decode cX10_wasChosenIn 9 = .ok (.getfield 112, 3) := by decide +kernel
theorem dX10_wasChosenIn_12 : decode cX10_wasChosenIn 12 = .ok (.if_icmp .ge 31, 3) := by decide +kernel
theorem dX10_wasChosenIn_43 : decode cX10_wasChosenIn 43 = .ok (.iconst 0, 1) := by decide +kernel
theorem dX10_wasChosenIn_44 : decode cX10_wasChosenIn 44 = .ok (.ireturn, 1) := by decide +kernel
set_option maxRecDepth 20000 in
theorem ggX10_chosen_X10_wasChosenIn : GoodIn wsX10_chosen wsX10_wasChosenIn := goodIn_r _ [6, 7, 8, 1, 9, 10, 14, 15, 16, 17, 18, 19, 20, 21, 22, 23, 24, 25, 26, 27, 28, 29, 30, 31, 32, 33, 34, 35, 36, 37, 38, 39, 40, 41, 42, 43, 44, 45] (by decide +kernel) (by decide +kernel)
set_option maxRecDepth 20000 in
theorem gX10_chosen_X10_wasChosenIn : GoodIn wsX10_chosen (wsV RX10 119 RX10 yX10_wasChosenIn wsX10_wasChosenIn) := goodIn_app (goodIn_of _ (by decide +kernel)) ggX10_chosen_X10_wasChosenIn
theorem dX10_chosen_0 : decode cX10_chosen 0 = .ok (.aload_n 0, 1) := by decide +kernel
theorem dX10_chosen_1 : decode cX10_chosen 1 = .ok (.iload_n 1, 1) := by decide +kernel
theorem dX10_chosen_2 : decode cX10_chosen 2 = .ok (.iload_n 2, 1) := by decide +kernel
theorem dX10_chosen_3 : decode cX10_chosen 3 = .ok (.invokevirtual 119, 3) := by decide +kernel
theorem dX10_chosen_6 : decode cX10_chosen 6 = .ok (.ifCond .ne 5, 3) := by decide +kernel
theorem dX10_chosen_9 : decode cX10_chosen 9 = .ok (.iconst (-1), 1) := by decide +kernel
theorem dX10_chosen_10 : decode cX10_chosen 10 = .ok (.ireturn, 1) := by decide +kernel
theorem dX10_task_0 : decode cX10_task 0 = .ok (.iload_n 1, 1) := by decide +kernel
theorem dX10_task_1 : decode cX10_task 1 = .ok (.ifCond .lt 14, 3) := by decide +kernel
theorem dX10_task_4 : decode cX10_task 4 = .ok (.iload_n 1, 1) := by decide +kernel
theorem dX10_task_5 : decode cX10_task 5 = .ok (.aload_n 0, 1) := by decide +kernel
theorem dX10_task_6 : decode cX10_task 6 = .ok (.getfield 19, 3) := by decide +kernel
theorem dX10_task_9 : decode cX10_task 9 = .ok (.getfield 105, 3) := by decide +kernel
theorem dX10_task_12 : decode cX10_task 12 = .ok (.if_icmp .lt 6, 3) := by decide +kernel
theorem dX10_task_15 : decode cX10_task 15 = .ok (.bipush (-2), 2) := by decide +kernel
theorem dX10_task_17 : decode cX10_task 17 = .ok (.ireturn, 1) := by decide +kernel
theorem dX10_place_0 : decode cX10_place 0 = .ok (.iload_n 1, 1) := by decide +kernel
theorem dX10_place_1 : decode cX10_place 1 = .ok (.ifCond .lt 30, 3) := by decide +kernel
theorem dX10_place_4 : decode cX10_place 4 = .ok (.iload_n 1, 1) := by decide +kernel
theorem dX10_place_5 : decode cX10_place 5 = .ok (.aload_n 0, 1) := by decide +kernel
theorem dX10_place_6 : decode cX10_place 6 = .ok (.getfield 19, 3) := by decide +kernel
theorem dX10_place_9 : decode cX10_place 9 = .ok (.getfield 105, 3) := by decide +kernel
theorem dX10_place_12 : decode cX10_place 12 = .ok (.if_icmp .ge 19, 3) := by decide +kernel
theorem dX10_place_31 : decode cX10_place 31 = .ok (.iconst (-1), 1) := by decide +kernel
theorem dX10_place_32 : decode cX10_place 32 = .ok (.ireturn, 1) := by decide +kernel
theorem dX10_holder_0 : decode cX10_holder 0 = .ok (.iload_n 1, 1) := by decide +kernel
theorem dX10_holder_1 : decode cX10_holder 1 = .ok (.ifCond .lt 14, 3) := by decide +kernel
theorem dX10_holder_4 : decode cX10_holder 4 = .ok (.iload_n 1, 1) := by decide +kernel
theorem dX10_holder_5 : decode cX10_holder 5 = .ok (.aload_n 0, 1) := by decide +kernel
theorem dX10_holder_6 : decode cX10_holder 6 = .ok (.getfield 19, 3) := by decide +kernel
theorem dX10_holder_9 : decode cX10_holder 9 = .ok (.getfield 181, 3) := by decide +kernel
theorem dX10_holder_12 : decode cX10_holder 12 = .ok (.if_icmp .lt 7, 3) := by decide +kernel
theorem dX10_holder_15 : decode cX10_holder 15 = .ok (.iconst (-1), 1) := by decide +kernel
theorem dX10_holder_16 : decode cX10_holder 16 = .ok (.goto 12, 3) := by decide +kernel
theorem dX10_holder_28 : decode cX10_holder 28 = .ok (.ireturn, 1) := by decide +kernel
theorem dX10_waits_0 : decode cX10_waits 0 = .ok (.iload_n 1, 1) := by decide +kernel
theorem dX10_waits_1 : decode cX10_waits 1 = .ok (.ifCond .lt 14, 3) := by decide +kernel
theorem dX10_waits_4 : decode cX10_waits 4 = .ok (.iload_n 1, 1) := by decide +kernel
theorem dX10_waits_5 : decode cX10_waits 5 = .ok (.aload_n 0, 1) := by decide +kernel
theorem dX10_waits_6 : decode cX10_waits 6 = .ok (.getfield 19, 3) := by decide +kernel
theorem dX10_waits_9 : decode cX10_waits 9 = .ok (.getfield 181, 3) := by decide +kernel
theorem dX10_waits_12 : decode cX10_waits 12 = .ok (.if_icmp .lt 5, 3) := by decide +kernel
theorem dX10_waits_15 : decode cX10_waits 15 = .ok (.iconst (-1), 1) := by decide +kernel
theorem dX10_waits_16 : decode cX10_waits 16 = .ok (.ireturn, 1) := by decide +kernel
theorem dX10_ring_0 : decode cX10_ring 0 = .ok (.iload_n 1, 1) := by decide +kernel
theorem dX10_ring_1 : decode cX10_ring 1 = .ok (.ifCond .lt 14, 3) := by decide +kernel
theorem dX10_ring_4 : decode cX10_ring 4 = .ok (.iload_n 1, 1) := by decide +kernel
theorem dX10_ring_5 : decode cX10_ring 5 = .ok (.aload_n 0, 1) := by decide +kernel
theorem dX10_ring_6 : decode cX10_ring 6 = .ok (.getfield 19, 3) := by decide +kernel
theorem dX10_ring_9 : decode cX10_ring 9 = .ok (.getfield 105, 3) := by decide +kernel
theorem dX10_ring_12 : decode cX10_ring 12 = .ok (.if_icmp .lt 5, 3) := by decide +kernel
theorem dX10_ring_15 : decode cX10_ring 15 = .ok (.iconst (-1), 1) := by decide +kernel
theorem dX10_ring_16 : decode cX10_ring 16 = .ok (.ireturn, 1) := by decide +kernel
theorem dX10_isGone_0 : decode cX10_isGone 0 = .ok (.iload_n 1, 1) := by decide +kernel
theorem dX10_isGone_1 : decode cX10_isGone 1 = .ok (.ifCond .lt 30, 3) := by decide +kernel
theorem dX10_isGone_4 : decode cX10_isGone 4 = .ok (.iload_n 1, 1) := by decide +kernel
theorem dX10_isGone_5 : decode cX10_isGone 5 = .ok (.aload_n 0, 1) := by decide +kernel
theorem dX10_isGone_6 : decode cX10_isGone 6 = .ok (.getfield 19, 3) := by decide +kernel
theorem dX10_isGone_9 : decode cX10_isGone 9 = .ok (.getfield 105, 3) := by decide +kernel
theorem dX10_isGone_12 : decode cX10_isGone 12 = .ok (.if_icmp .ge 19, 3) := by decide +kernel
theorem dX10_isGone_31 : decode cX10_isGone 31 = .ok (.iconst 1, 1) := by decide +kernel
theorem dX10_isGone_32 : decode cX10_isGone 32 = .ok (.goto 4, 3) := by decide +kernel
theorem dX10_isGone_36 : decode cX10_isGone 36 = .ok (.ireturn, 1) := by decide +kernel
set_option maxRecDepth 20000 in
theorem ggX10_share_X10_isGone : GoodIn wsX10_share wsX10_isGone := goodIn_r _ [8, 9, 10, 1, 2, 11, 12, 13, 14, 15, 16, 17, 18, 19, 20, 21, 22, 23, 47, 48, 49, 50, 51, 52, 53, 54, 55, 56, 57, 58, 59, 60, 24, 25, 26, 27, 28, 29, 30, 31, 32, 33, 34, 35, 36, 37, 38, 39, 40, 41, 42, 43, 44, 45, 46] (by decide +kernel) (by decide +kernel)
set_option maxRecDepth 20000 in
theorem gX10_share_X10_isGone : GoodIn wsX10_share (wsV RX10 197 RX10 yX10_isGone wsX10_isGone) := goodIn_app (goodIn_of _ (by decide +kernel)) ggX10_share_X10_isGone
theorem dX10_share_0 : decode cX10_share 0 = .ok (.aload_n 0, 1) := by decide +kernel
theorem dX10_share_1 : decode cX10_share 1 = .ok (.iload_n 1, 1) := by decide +kernel
theorem dX10_share_2 : decode cX10_share 2 = .ok (.invokevirtual 197, 3) := by decide +kernel
theorem dX10_share_5 : decode cX10_share 5 = .ok (.ifCond .ne 15, 3) := by decide +kernel
theorem dX10_share_20 : decode cX10_share 20 = .ok (.iconst (-1), 1) := by decide +kernel
theorem dX10_share_21 : decode cX10_share 21 = .ok (.ireturn, 1) := by decide +kernel
set_option maxRecDepth 20000 in
theorem ggX10_kill_X10_isGone : GoodIn wsX10_kill wsX10_isGone := goodIn_r _ [6, 7, 8, 1, 9, 10, 77, 78, 79, 80, 81, 82, 83, 84, 85, 86, 87, 88, 89, 90, 91, 92, 93, 94, 95, 96, 97, 98, 99, 100, 101, 102, 103, 104, 105, 106, 107, 108, 109, 110, 111, 112, 113, 114, 115, 116, 117, 118, 119, 120, 121, 122, 123, 124, 125] (by decide +kernel) (by decide +kernel)
set_option maxRecDepth 20000 in
theorem gX10_kill_X10_isGone : GoodIn wsX10_kill (wsV RX10 197 RX10 yX10_isGone wsX10_isGone) := goodIn_app (goodIn_of _ (by decide +kernel)) ggX10_kill_X10_isGone
theorem dX10_kill_0 : decode cX10_kill 0 = .ok (.aload_n 0, 1) := by decide +kernel
theorem dX10_kill_1 : decode cX10_kill 1 = .ok (.iload_n 1, 1) := by decide +kernel
theorem dX10_kill_2 : decode cX10_kill 2 = .ok (.invokevirtual 197, 3) := by decide +kernel
theorem dX10_kill_5 : decode cX10_kill 5 = .ok (.ifCond .eq 5, 3) := by decide +kernel
theorem dX10_kill_8 : decode cX10_kill 8 = .ok (.iconst 0, 1) := by decide +kernel
theorem dX10_kill_9 : decode cX10_kill 9 = .ok (.ireturn, 1) := by decide +kernel
set_option maxRecDepth 20000 in
theorem ggX10_wake_X10_isGone : GoodIn wsX10_wake wsX10_isGone := goodIn_r _ [8, 9, 10, 1, 2, 3, 81, 82, 83, 84, 85, 86, 87, 88, 89, 90, 91, 92, 116, 117, 118, 119, 120, 121, 122, 123, 124, 125, 126, 127, 128, 129, 93, 94, 95, 96, 97, 98, 99, 100, 101, 102, 103, 104, 105, 106, 107, 108, 109, 110, 111, 112, 113, 114, 115] (by decide +kernel) (by decide +kernel)
set_option maxRecDepth 20000 in
theorem gX10_wake_X10_isGone : GoodIn wsX10_wake (wsV RX10 197 RX10 yX10_isGone wsX10_isGone) := goodIn_app (goodIn_of _ (by decide +kernel)) ggX10_wake_X10_isGone
theorem dX10_wake_0 : decode cX10_wake 0 = .ok (.aload_n 0, 1) := by decide +kernel
theorem dX10_wake_1 : decode cX10_wake 1 = .ok (.iload_n 1, 1) := by decide +kernel
theorem dX10_wake_2 : decode cX10_wake 2 = .ok (.invokevirtual 197, 3) := by decide +kernel
theorem dX10_wake_5 : decode cX10_wake 5 = .ok (.ifCond .eq 5, 3) := by decide +kernel
theorem dX10_wake_8 : decode cX10_wake 8 = .ok (.iconst 0, 1) := by decide +kernel
theorem dX10_wake_9 : decode cX10_wake 9 = .ok (.ireturn, 1) := by decide +kernel
set_option maxRecDepth 20000 in
theorem ggX10_soon_X10_isGone : GoodIn wsX10_soon wsX10_isGone := goodIn_r _ [9, 10, 11, 1, 2, 3, 127, 128, 129, 130, 131, 132, 133, 134, 135, 136, 137, 138, 162, 163, 164, 165, 166, 167, 168, 169, 170, 171, 172, 173, 174, 175, 139, 140, 141, 142, 143, 144, 145, 146, 147, 148, 149, 150, 151, 152, 153, 154, 155, 156, 157, 158, 159, 160, 161] (by decide +kernel) (by decide +kernel)
set_option maxRecDepth 20000 in
theorem gX10_soon_X10_isGone : GoodIn wsX10_soon (wsV RX10 197 RX10 yX10_isGone wsX10_isGone) := goodIn_app (goodIn_of _ (by decide +kernel)) ggX10_soon_X10_isGone
theorem dX10_soon_0 : decode cX10_soon 0 = .ok (.aload_n 0, 1) := by decide +kernel
theorem dX10_soon_1 : decode cX10_soon 1 = .ok (.iload_n 1, 1) := by decide +kernel
theorem dX10_soon_2 : decode cX10_soon 2 = .ok (.invokevirtual 197, 3) := by decide +kernel
theorem dX10_soon_5 : decode cX10_soon 5 = .ok (.ifCond .ne 18, 3) := by decide +kernel
theorem dX10_soon_23 : decode cX10_soon 23 = .ok (.iconst (-1), 1) := by decide +kernel
theorem dX10_soon_24 : decode cX10_soon 24 = .ok (.ireturn, 1) := by decide +kernel
set_option maxRecDepth 20000 in
theorem ggX10_enough_X10_isGone : GoodIn wsX10_enough wsX10_isGone := goodIn_r _ [11, 12, 13, 3, 2, 5, 204, 205, 206, 207, 208, 209, 210, 211, 212, 213, 214, 215, 239, 240, 241, 242, 243, 244, 245, 246, 247, 248, 249, 250, 251, 252, 216, 217, 218, 219, 220, 221, 222, 223, 224, 225, 226, 227, 228, 229, 230, 231, 232, 233, 234, 235, 236, 237, 238] (by decide +kernel) (by decide +kernel)
set_option maxRecDepth 20000 in
theorem gX10_enough_X10_isGone : GoodIn wsX10_enough (wsV RX10 197 RX10 yX10_isGone wsX10_isGone) := goodIn_app (goodIn_of _ (by decide +kernel)) ggX10_enough_X10_isGone
theorem dX10_enough_0 : decode cX10_enough 0 = .ok (.aload_n 0, 1) := by decide +kernel
theorem dX10_enough_1 : decode cX10_enough 1 = .ok (.iload_n 1, 1) := by decide +kernel
theorem dX10_enough_2 : decode cX10_enough 2 = .ok (.invokevirtual 197, 3) := by decide +kernel
theorem dX10_enough_5 : decode cX10_enough 5 = .ok (.ifCond .ne 14, 3) := by decide +kernel
theorem dX10_enough_19 : decode cX10_enough 19 = .ok (.iconst (-1), 1) := by decide +kernel
theorem dX10_enough_20 : decode cX10_enough 20 = .ok (.ireturn, 1) := by decide +kernel
theorem dX10_load_0 : decode cX10_load 0 = .ok (.iload_n 1, 1) := by decide +kernel
theorem dX10_load_1 : decode cX10_load 1 = .ok (.ifCond .eq 12, 3) := by decide +kernel
theorem dX10_load_4 : decode cX10_load 4 = .ok (.iload_n 1, 1) := by decide +kernel
theorem dX10_load_5 : decode cX10_load 5 = .ok (.iconst 1, 1) := by decide +kernel
theorem dX10_load_6 : decode cX10_load 6 = .ok (.if_icmp .eq 7, 3) := by decide +kernel
theorem dX10_load_9 : decode cX10_load 9 = .ok (.ldc2_w 216, 3) := by decide +kernel
theorem dX10_load_12 : decode cX10_load 12 = .ok (.lreturn, 1) := by decide +kernel
theorem dX10_load_13 : decode cX10_load 13 = .ok (.lconst 0, 1) := by decide +kernel
theorem dX10_load_14 : decode cX10_load 14 = .ok (.lstore_n 2, 1) := by decide +kernel
theorem dX10_load_15 : decode cX10_load 15 = .ok (.lconst 1, 1) := by decide +kernel
theorem dX10_load_16 : decode cX10_load 16 = .ok (.lstore 4, 2) := by decide +kernel
theorem dX10_load_18 : decode cX10_load 18 = .ok (.iconst 0, 1) := by decide +kernel
theorem dX10_load_19 : decode cX10_load 19 = .ok (.istore 6, 2) := by decide +kernel
theorem dX10_load_21 : decode cX10_load 21 = .ok (.iload 6, 2) := by decide +kernel
theorem dX10_load_23 : decode cX10_load 23 = .ok (.aload_n 0, 1) := by decide +kernel
theorem dX10_load_24 : decode cX10_load 24 = .ok (.getfield 19, 3) := by decide +kernel
theorem dX10_load_27 : decode cX10_load 27 = .ok (.getfield 105, 3) := by decide +kernel
theorem dX10_load_30 : decode cX10_load 30 = .ok (.if_icmp .ge 110, 3) := by decide +kernel
theorem dX10_load_140 : decode cX10_load 140 = .ok (.iload_n 1, 1) := by decide +kernel
theorem dX10_load_141 : decode cX10_load 141 = .ok (.ifCond .ne 7, 3) := by decide +kernel
theorem dX10_load_144 : decode cX10_load 144 = .ok (.lload_n 2, 1) := by decide +kernel
theorem dX10_load_145 : decode cX10_load 145 = .ok (.goto 5, 3) := by decide +kernel
theorem dX10_load_148 : decode cX10_load 148 = .ok (.lload 4, 2) := by decide +kernel
theorem dX10_load_150 : decode cX10_load 150 = .ok (.lreturn, 1) := by decide +kernel
theorem dX1_add_0 : decode cX1_add 0 = .ok (.aload_n 0, 1) := by decide +kernel
theorem dX1_add_1 : decode cX1_add 1 = .ok (.getfield 9, 3) := by decide +kernel
theorem dX1_add_4 : decode cX1_add 4 = .ok (.bipush 60, 2) := by decide +kernel
theorem dX1_add_6 : decode cX1_add 6 = .ok (.if_icmp .lt 5, 3) := by decide +kernel
theorem dX1_add_11 : decode cX1_add 11 = .ok (.aload_n 0, 1) := by decide +kernel
theorem dX1_add_12 : decode cX1_add 12 = .ok (.getfield 15, 3) := by decide +kernel
theorem dX1_add_15 : decode cX1_add 15 = .ok (.aload_n 0, 1) := by decide +kernel
theorem dX1_add_16 : decode cX1_add 16 = .ok (.getfield 9, 3) := by decide +kernel
theorem dX1_add_19 : decode cX1_add 19 = .ok (.iload_n 1, 1) := by decide +kernel
theorem dX1_add_20 : decode cX1_add 20 = .ok (.iastore, 1) := by decide +kernel
theorem dX1_add_21 : decode cX1_add 21 = .ok (.aload_n 0, 1) := by decide +kernel
theorem dX1_add_22 : decode cX1_add 22 = .ok (.getfield 19, 3) := by decide +kernel
theorem dX1_add_25 : decode cX1_add 25 = .ok (.aload_n 0, 1) := by decide +kernel
theorem dX1_add_26 : decode cX1_add 26 = .ok (.getfield 9, 3) := by decide +kernel
theorem dX1_add_29 : decode cX1_add 29 = .ok (.iload_n 2, 1) := by decide +kernel
theorem dX1_add_30 : decode cX1_add 30 = .ok (.iastore, 1) := by decide +kernel
theorem dX1_add_31 : decode cX1_add 31 = .ok (.aload_n 0, 1) := by decide +kernel
theorem dX1_add_32 : decode cX1_add 32 = .ok (.getfield 22, 3) := by decide +kernel
theorem dX1_add_35 : decode cX1_add 35 = .ok (.aload_n 0, 1) := by decide +kernel
theorem dX1_add_36 : decode cX1_add 36 = .ok (.getfield 9, 3) := by decide +kernel
theorem dX1_add_39 : decode cX1_add 39 = .ok (.iload_n 3, 1) := by decide +kernel
theorem dX1_add_40 : decode cX1_add 40 = .ok (.iastore, 1) := by decide +kernel
theorem dX1_add_41 : decode cX1_add 41 = .ok (.aload_n 0, 1) := by decide +kernel
theorem dX1_add_42 : decode cX1_add 42 = .ok (.dup, 1) := by decide +kernel
theorem dX1_add_43 : decode cX1_add 43 = .ok (.getfield 9, 3) := by decide +kernel
theorem dX1_add_46 : decode cX1_add 46 = .ok (.iconst 1, 1) := by decide +kernel
theorem dX1_add_47 : decode cX1_add 47 = .ok (.iadd, 1) := by decide +kernel
theorem dX1_add_48 : decode cX1_add 48 = .ok (.putfield 9, 3) := by decide +kernel
theorem dX1_add_51 : decode cX1_add 51 = .ok (.iconst 1, 1) := by decide +kernel
theorem dX1_add_52 : decode cX1_add 52 = .ok (.ireturn, 1) := by decide +kernel
set_option maxRecDepth 20000 in
theorem ggX10_tell_X1_add : GoodIn wsX10_tell wsX1_add := goodIn_r _ [7, 8, 9, 10, 11, 24, 25, 26, 27] (by decide +kernel) (by decide +kernel)
set_option maxRecDepth 20000 in
theorem gX10_tell_X1_add : GoodIn wsX10_tell (wsV RX10 237 RX1 yX1_add wsX1_add) := goodIn_app (goodIn_of _ (by decide +kernel)) ggX10_tell_X1_add
theorem dX10_tell_0 : decode cX10_tell 0 = .ok (.iload_n 1, 1) := by decide +kernel
theorem dX10_tell_1 : decode cX10_tell 1 = .ok (.ifCond .lt 34, 3) := by decide +kernel
theorem dX10_tell_4 : decode cX10_tell 4 = .ok (.iload_n 1, 1) := by decide +kernel
theorem dX10_tell_5 : decode cX10_tell 5 = .ok (.sipush 2000, 3) := by decide +kernel
theorem dX10_tell_8 : decode cX10_tell 8 = .ok (.if_icmp .ge 27, 3) := by decide +kernel
theorem dX10_tell_11 : decode cX10_tell 11 = .ok (.iload_n 2, 1) := by decide +kernel
theorem dX10_tell_12 : decode cX10_tell 12 = .ok (.ifCond .lt 23, 3) := by decide +kernel
theorem dX10_tell_15 : decode cX10_tell 15 = .ok (.iload_n 2, 1) := by decide +kernel
theorem dX10_tell_16 : decode cX10_tell 16 = .ok (.iconst 4, 1) := by decide +kernel
theorem dX10_tell_17 : decode cX10_tell 17 = .ok (.if_icmp .ge 18, 3) := by decide +kernel
theorem dX10_tell_20 : decode cX10_tell 20 = .ok (.iload_n 3, 1) := by decide +kernel
theorem dX10_tell_21 : decode cX10_tell 21 = .ok (.iconst (-1), 1) := by decide +kernel
theorem dX10_tell_22 : decode cX10_tell 22 = .ok (.if_icmp .lt 13, 3) := by decide +kernel
theorem dX10_tell_25 : decode cX10_tell 25 = .ok (.iload_n 3, 1) := by decide +kernel
theorem dX10_tell_26 : decode cX10_tell 26 = .ok (.bipush 10, 2) := by decide +kernel
theorem dX10_tell_28 : decode cX10_tell 28 = .ok (.if_icmp .ge 7, 3) := by decide +kernel
theorem dX10_tell_31 : decode cX10_tell 31 = .ok (.iconst 1, 1) := by decide +kernel
theorem dX10_tell_32 : decode cX10_tell 32 = .ok (.goto 4, 3) := by decide +kernel
theorem dX10_tell_35 : decode cX10_tell 35 = .ok (.iconst 0, 1) := by decide +kernel
theorem dX10_tell_36 : decode cX10_tell 36 = .ok (.istore 4, 2) := by decide +kernel
theorem dX10_tell_38 : decode cX10_tell 38 = .ok (.iload 4, 2) := by decide +kernel
theorem dX10_tell_40 : decode cX10_tell 40 = .ok (.ifCond .eq 26, 3) := by decide +kernel
theorem dX10_tell_43 : decode cX10_tell 43 = .ok (.aload_n 0, 1) := by decide +kernel
theorem dX10_tell_44 : decode cX10_tell 44 = .ok (.getfield 61, 3) := by decide +kernel
theorem dX10_tell_47 : decode cX10_tell 47 = .ok (.iload_n 1, 1) := by decide +kernel
theorem dX10_tell_48 : decode cX10_tell 48 = .ok (.iload_n 2, 1) := by decide +kernel
theorem dX10_tell_49 : decode cX10_tell 49 = .ok (.iload_n 3, 1) := by decide +kernel
theorem dX10_tell_50 : decode cX10_tell 50 = .ok (.invokevirtual 237, 3) := by decide +kernel
theorem dX10_tell_53 : decode cX10_tell 53 = .ok (.ifCond .eq 13, 3) := by decide +kernel
theorem dX10_tell_56 : decode cX10_tell 56 = .ok (.aload_n 0, 1) := by decide +kernel
theorem dX10_tell_57 : decode cX10_tell 57 = .ok (.getfield 61, 3) := by decide +kernel
theorem dX10_tell_60 : decode cX10_tell 60 = .ok (.getfield 97, 3) := by decide +kernel
theorem dX10_tell_63 : decode cX10_tell 63 = .ok (.goto 4, 3) := by decide +kernel
theorem dX10_tell_66 : decode cX10_tell 66 = .ok (.iconst (-1), 1) := by decide +kernel
theorem dX10_tell_67 : decode cX10_tell 67 = .ok (.ireturn, 1) := by decide +kernel
theorem dX10_hush_0 : decode cX10_hush 0 = .ok (.aload_n 0, 1) := by decide +kernel
theorem dX10_hush_1 : decode cX10_hush 1 = .ok (.getfield 61, 3) := by decide +kernel
theorem dX10_hush_4 : decode cX10_hush 4 = .ok (.getfield 97, 3) := by decide +kernel
theorem dX10_hush_7 : decode cX10_hush 7 = .ok (.istore_n 1, 1) := by decide +kernel
theorem dX10_hush_8 : decode cX10_hush 8 = .ok (.aload_n 0, 1) := by decide +kernel
theorem dX10_hush_9 : decode cX10_hush 9 = .ok (.getfield 61, 3) := by decide +kernel
theorem dX10_hush_12 : decode cX10_hush 12 = .ok (.iconst 0, 1) := by decide +kernel
theorem dX10_hush_13 : decode cX10_hush 13 = .ok (.putfield 97, 3) := by decide +kernel
theorem dX10_hush_16 : decode cX10_hush 16 = .ok (.iload_n 1, 1) := by decide +kernel
theorem dX10_hush_17 : decode cX10_hush 17 = .ok (.ireturn, 1) := by decide +kernel
theorem dX10_check_0 : decode cX10_check 0 = .ok (.iconst 0, 1) := by decide +kernel
theorem dX10_check_1 : decode cX10_check 1 = .ok (.istore_n 1, 1) := by decide +kernel
theorem dX10_check_2 : decode cX10_check 2 = .ok (.iload_n 1, 1) := by decide +kernel
theorem dX10_check_3 : decode cX10_check 3 = .ok (.aload_n 0, 1) := by decide +kernel
theorem dX10_check_4 : decode cX10_check 4 = .ok (.getfield 61, 3) := by decide +kernel
theorem dX10_check_7 : decode cX10_check 7 = .ok (.getfield 97, 3) := by decide +kernel
theorem dX10_check_10 : decode cX10_check 10 = .ok (.if_icmp .ge 62, 3) := by decide +kernel
theorem dX10_check_72 : decode cX10_check 72 = .ok (.iconst (-1), 1) := by decide +kernel
theorem dX10_check_73 : decode cX10_check 73 = .ok (.ireturn, 1) := by decide +kernel
theorem dX10_sight_0 : decode cX10_sight 0 = .ok (.iload_n 1, 1) := by decide +kernel
theorem dX10_sight_1 : decode cX10_sight 1 = .ok (.ifCond .lt 24, 3) := by decide +kernel
theorem dX10_sight_4 : decode cX10_sight 4 = .ok (.iload_n 1, 1) := by decide +kernel
theorem dX10_sight_5 : decode cX10_sight 5 = .ok (.bipush 100, 2) := by decide +kernel
theorem dX10_sight_7 : decode cX10_sight 7 = .ok (.if_icmp .ge 18, 3) := by decide +kernel
theorem dX10_sight_10 : decode cX10_sight 10 = .ok (.iload_n 2, 1) := by decide +kernel
theorem dX10_sight_11 : decode cX10_sight 11 = .ok (.ifCond .lt 14, 3) := by decide +kernel
theorem dX10_sight_14 : decode cX10_sight 14 = .ok (.iload_n 2, 1) := by decide +kernel
theorem dX10_sight_15 : decode cX10_sight 15 = .ok (.aload_n 0, 1) := by decide +kernel
theorem dX10_sight_16 : decode cX10_sight 16 = .ok (.getfield 19, 3) := by decide +kernel
theorem dX10_sight_19 : decode cX10_sight 19 = .ok (.getfield 105, 3) := by decide +kernel
theorem dX10_sight_22 : decode cX10_sight 22 = .ok (.if_icmp .lt 5, 3) := by decide +kernel
theorem dX10_sight_25 : decode cX10_sight 25 = .ok (.iconst (-1), 1) := by decide +kernel
theorem dX10_sight_26 : decode cX10_sight 26 = .ok (.ireturn, 1) := by decide +kernel
theorem dX10_untell_0 : decode cX10_untell 0 = .ok (.iload_n 1, 1) := by decide +kernel
theorem dX10_untell_1 : decode cX10_untell 1 = .ok (.ifCond .lt 27, 3) := by decide +kernel
theorem dX10_untell_4 : decode cX10_untell 4 = .ok (.iload_n 1, 1) := by decide +kernel
theorem dX10_untell_5 : decode cX10_untell 5 = .ok (.aload_n 0, 1) := by decide +kernel
theorem dX10_untell_6 : decode cX10_untell 6 = .ok (.getfield 68, 3) := by decide +kernel
theorem dX10_untell_9 : decode cX10_untell 9 = .ok (.getfield 100, 3) := by decide +kernel
theorem dX10_untell_12 : decode cX10_untell 12 = .ok (.if_icmp .ge 16, 3) := by decide +kernel
theorem dX10_untell_28 : decode cX10_untell 28 = .ok (.iconst 0, 1) := by decide +kernel
theorem dX10_untell_29 : decode cX10_untell 29 = .ok (.ireturn, 1) := by decide +kernel
theorem dX10_later_0 : decode cX10_later 0 = .ok (.iload_n 1, 1) := by decide +kernel
theorem dX10_later_1 : decode cX10_later 1 = .ok (.ifCond .lt 21, 3) := by decide +kernel
theorem dX10_later_4 : decode cX10_later 4 = .ok (.iload_n 1, 1) := by decide +kernel
theorem dX10_later_5 : decode cX10_later 5 = .ok (.sipush 1000, 3) := by decide +kernel
theorem dX10_later_8 : decode cX10_later 8 = .ok (.if_icmp .gt 14, 3) := by decide +kernel
theorem dX10_later_11 : decode cX10_later 11 = .ok (.aload_n 0, 1) := by decide +kernel
theorem dX10_later_12 : decode cX10_later 12 = .ok (.getfield 79, 3) := by decide +kernel
theorem dX10_later_15 : decode cX10_later 15 = .ok (.iload_n 1, 1) := by decide +kernel
theorem dX10_later_16 : decode cX10_later 16 = .ok (.iadd, 1) := by decide +kernel
theorem dX10_later_17 : decode cX10_later 17 = .ok (.ldc 255, 2) := by decide +kernel
theorem dX10_later_19 : decode cX10_later 19 = .ok (.if_icmp .le 5, 3) := by decide +kernel
theorem dX10_later_22 : decode cX10_later 22 = .ok (.iconst (-1), 1) := by decide +kernel
theorem dX10_later_23 : decode cX10_later 23 = .ok (.ireturn, 1) := by decide +kernel
theorem dX10_later_24 : decode cX10_later 24 = .ok (.aload_n 0, 1) := by decide +kernel
theorem dX10_later_25 : decode cX10_later 25 = .ok (.dup, 1) := by decide +kernel
theorem dX10_later_26 : decode cX10_later 26 = .ok (.getfield 79, 3) := by decide +kernel
theorem dX10_later_29 : decode cX10_later 29 = .ok (.iload_n 1, 1) := by decide +kernel
theorem dX10_later_30 : decode cX10_later 30 = .ok (.iadd, 1) := by decide +kernel
theorem dX10_later_31 : decode cX10_later 31 = .ok (.putfield 79, 3) := by decide +kernel
theorem dX10_later_34 : decode cX10_later 34 = .ok (.aload_n 0, 1) := by decide +kernel
theorem dX10_later_35 : decode cX10_later 35 = .ok (.getfield 79, 3) := by decide +kernel
theorem dX10_later_38 : decode cX10_later 38 = .ok (.ireturn, 1) := by decide +kernel
theorem dX10_fits_0 : decode cX10_fits 0 = .ok (.iload_n 1, 1) := by decide +kernel
theorem dX10_fits_1 : decode cX10_fits 1 = .ok (.ifCond .lt 14, 3) := by decide +kernel
theorem dX10_fits_4 : decode cX10_fits 4 = .ok (.iload_n 1, 1) := by decide +kernel
theorem dX10_fits_5 : decode cX10_fits 5 = .ok (.aload_n 0, 1) := by decide +kernel
theorem dX10_fits_6 : decode cX10_fits 6 = .ok (.getfield 19, 3) := by decide +kernel
theorem dX10_fits_9 : decode cX10_fits 9 = .ok (.getfield 105, 3) := by decide +kernel
theorem dX10_fits_12 : decode cX10_fits 12 = .ok (.if_icmp .lt 7, 3) := by decide +kernel
theorem dX10_fits_15 : decode cX10_fits 15 = .ok (.ldc2_w 216, 3) := by decide +kernel
theorem dX10_fits_18 : decode cX10_fits 18 = .ok (.lreturn, 1) := by decide +kernel
theorem iw_X7_append_7 : ∀ w ∈ u_ws RX7 TX7 2, w ∈ wsX7_append := by decide +kernel
set_option maxHeartbeats 4000000 in
set_option maxRecDepth 100000 in
theorem k_X7_append_0 (l : Launch) (D : va_G) (ca : Nat → ClassId) (sz : Nat) (h0 : Nat) (tb : Nat) (fb : Nat → Int32) (x1 : Int32) : Met l yX7_append wsX7_append ({ frames := 0, cells := 0, slots := 0, locals := 0 }) (PC [.ref h0, .int x1] sz D ca [(h0, .inr (7, [.ref tb, .int 0])), (tb, .inl (ca 0, 1700, .inl fb))]) (QV (fun (u : (Nat → Int32)) => True) (fun (u : (Nat → Int32)) => [(h0, .inr (7, [.ref tb, .int 4])), (tb, .inl (ca 0, 1700, .inl u))]) [(h0, .inr (7, [.ref tb, .int 0])), (tb, .inl (ca 0, 1700, .inl fb))] sz D) 0 0 (va_A [(h0, .inr (7, [.ref tb, .int 0])), (tb, .inl (ca 0, 1700, .inl fb))] sz) := by
  refine Met.ofW (cc := cX7_append) (maxL := 3) (ret := none) (by decide +kernel) rfl ?_
  intro p e s m args below meth c s₁ B hml hv
  obtain ⟨rfl, hsz, hP, hC, hD0⟩ := hv
  have hx := B.exec
  have hb := B.bytes
  have hr := B.returns
  have hts := atoms_spec (ws := wsX7_append) B.pre
  have hown : s.vm.findClass RX7 = some m.cls := findClass_of_methodNamed B.named
  have hlocks := B.notSynchronized
  subst hsz
  have hD := hD0.self (sz := s.heap.size)
  dsimp only [QV, QI, QL, BQ]
  generalize hAe : va_A [(h0, .inr (7, [.ref tb, .int 0])), (tb, .inl (ca 0, 1700, .inl fb))] s.heap.size = A at hD ⊢
  have hA : ∀ q : Nat, s.heap.size ≤ q → A q := fun q h => by rw [← hAe]; exact Or.inr h
  have hDA : ∀ {w : va_W}, va_D A w → va_D (va_A [(h0, .inr (7, [.ref tb, .int 0])), (tb, .inl (ca 0, 1700, .inl fb))] s.heap.size) w := fun h => by rw [hAe]; exact h
  have hS : va_S A s.heap s.heap [] := va_S.rf
  have hP : va_P D vwCl [(h0, .inr (7, [.ref tb, .int 0])), (tb, .inl (ca 0, 1700, .inl fb))] s.heap := hP
  have hl := lv_entry ([.ref h0, .int x1]) (n := 3) (Nat.le_of_ble_eq_true rfl)
  rw [lg_entry_eq]
  generalize (lg_sl ([.ref h0, .int x1]) ++ List.replicate (3 - (lg_sl ([.ref h0, .int x1])).length) Slot.unset).toArray = ls at hl ⊢
  have hl : lv_has ls 3 [(0, .ref h0), (1, .int x1)] := hl
  refine lv_bipush (v := 24) hx hb dX7_append_0 (by decide +kernel) ?_
  refine lv_istore_n (lv' := [(2, .int 24), (0, .ref h0), (1, .int x1)]) hx hb dX7_append_2 rfl hl (by decide +kernel) rfl (fun ls hl => ?_)
  refine lv_iload_n hx hb dX7_append_3 rfl (lv_at hl 0 rfl) ?_
  refine lv_if_lt (tgt := 48) hx hb dX7_append_4 (by decide +kernel) (fun c_1 => absurd c_1 (by decide +kernel)) (fun c_1 => ?_)
  refine lv_aload_n hx hb dX7_append_7 rfl (lv_at hl 1 rfl) ?_
  refine va_get (D := D) (ci := 7) (v := .int 0) (C := RX7) (T := TX7) (N := 2) hx hb hts iw_X7_append_7 hown hC.1 hP 0 rfl rfl 1 (by decide +kernel) (hts (.fieldLink RX7 15 "FairWheel$Tape" "size" "I") (by decide +kernel)) (fun _ h9 => h9) rfl dX7_append_8 ?_
  refine lv_aload_n hx hb dX7_append_11 rfl (lv_at hl 1 rfl) ?_
  refine va_get (D := D) (ci := 7) (v := .ref tb) (C := RX7) (T := TX7) (N := 2) hx hb hts iw_X7_append_7 hown hC.1 hP 0 rfl rfl 0 (by decide +kernel) (hts (.fieldLink RX7 9 "FairWheel$Tape" "bytes" "[B") (by decide +kernel)) (fun _ h9 => h9) rfl dX7_append_12 ?_
  refine va_alen (v := 1700) hx hb hC.1 hP 1 0 rfl rfl rfl dX7_append_15 ?_
  refine lv_icmp_ge (tgt := 48) hx hb dX7_append_16 (by decide +kernel) (fun c_2 => absurd c_2 (by decide +kernel)) (fun c_2 => ?_)
  refine lv_aload_n hx hb dX7_append_19 rfl (lv_at hl 1 rfl) ?_
  refine va_get (D := D) (ci := 7) (v := .ref tb) (C := RX7) (T := TX7) (N := 2) hx hb hts iw_X7_append_7 hown hC.1 hP 0 rfl rfl 0 (by decide +kernel) (hts (.fieldLink RX7 9 "FairWheel$Tape" "bytes" "[B") (by decide +kernel)) (fun _ h9 => h9) rfl dX7_append_20 ?_
  refine lv_aload_n hx hb dX7_append_23 rfl (lv_at hl 1 rfl) ?_
  refine va_get (D := D) (ci := 7) (v := .int 0) (C := RX7) (T := TX7) (N := 2) hx hb hts iw_X7_append_7 hown hC.1 hP 0 rfl rfl 1 (by decide +kernel) (hts (.fieldLink RX7 15 "FairWheel$Tape" "size" "I") (by decide +kernel)) (fun _ h9 => h9) rfl dX7_append_24 ?_
  refine lv_iload_n hx hb dX7_append_27 rfl (lv_at hl 2 rfl) ?_
  refine lv_iload_n hx hb dX7_append_28 rfl (lv_at hl 0 rfl) ?_
  refine lv_ishr hx hb dX7_append_29 ?_
  refine lv_topi (fun y_3 ey_3 => ?_)
  obtain ⟨y_4, ey_4⟩ : ∃ z : Int32, z = Int8.toInt32 (Int32.toInt8 y_3) := ⟨_, rfl⟩
  refine lv_i2b (v := y_4) hx hb dX7_append_30 ey_4.symm ?_
  refine ka_bast hx hb hC.1 hP hD hS 1 0 rfl rfl 0 rfl (by decide +kernel) (by decide +kernel) dX7_append_31 (fun H locs hP hD hS => ?_)
  have hP : va_P D vwCl [(h0, .inr (7, [.ref tb, .int 0])), (tb, .inl (ca 0, 1700, .inl (upd fb 0 (vp_nar .byte y_4))))] H := hP
  have hD : va_D A [(h0, .inr (7, [.ref tb, .int 0])), (tb, .inl (ca 0, 1700, .inl (upd fb 0 (vp_nar .byte y_4))))] := hD
  generalize (upd fb 0 (vp_nar .byte y_4)) = f_5 at hP hD
  refine lv_aload_n hx hb dX7_append_32 rfl (lv_at hl 1 rfl) ?_
  refine lv_dup hx hb dX7_append_33 rfl ?_
  refine va_get (D := D) (ci := 7) (v := .int 0) (C := RX7) (T := TX7) (N := 2) hx hb hts iw_X7_append_7 hown hC.1 hP 0 rfl rfl 1 (by decide +kernel) (hts (.fieldLink RX7 15 "FairWheel$Tape" "size" "I") (by decide +kernel)) (fun _ h9 => h9) rfl dX7_append_34 ?_
  refine lv_iconst (v := 1) hx hb dX7_append_37 (by decide +kernel) ?_
  refine lv_iadd hx hb dX7_append_38 ?_
  refine nt_i 1 (by decide +kernel) ?_
  refine va_put (D := D) (ci := 7) (v := .int 1) (ty := .int) (C := RX7) (T := TX7) (N := 2) hx hb hts iw_X7_append_7 tyX7 tyX7_ok nmX7 hown hC.1 hP hD hS 0 rfl rfl 1 (by decide +kernel) (hts (.fieldLink RX7 15 "FairWheel$Tape" "size" "I") (by decide +kernel)) (fun _ h9 => h9) rfl (by decide +kernel) rfl rfl (Nat.le_of_ble_eq_true rfl) dX7_append_39 (fun H locs hP hD hS => ?_)
  have hP : va_P D vwCl [(h0, .inr (7, [.ref tb, .int 1])), (tb, .inl (ca 0, 1700, .inl f_5))] H := hP
  have hD : va_D A [(h0, .inr (7, [.ref tb, .int 1])), (tb, .inl (ca 0, 1700, .inl f_5))] := hD
  refine lv_iinc (v := 16) (lv' := [(2, .int 16), (0, .ref h0), (1, .int x1)]) hx hb dX7_append_42 hl (k := 0) rfl (by decide +kernel) (by decide +kernel) rfl (fun ls hl => ?_)
  refine lv_goto (tgt := 3) hx hb dX7_append_45 (by decide +kernel) ?_
  refine lv_iload_n hx hb dX7_append_3 rfl (lv_at hl 0 rfl) ?_
  refine lv_if_lt (tgt := 48) hx hb dX7_append_4 (by decide +kernel) (fun c_6 => absurd c_6 (by decide +kernel)) (fun c_6 => ?_)
  refine lv_aload_n hx hb dX7_append_7 rfl (lv_at hl 1 rfl) ?_
  refine va_get (D := D) (ci := 7) (v := .int 1) (C := RX7) (T := TX7) (N := 2) hx hb hts iw_X7_append_7 hown hC.1 hP 0 rfl rfl 1 (by decide +kernel) (hts (.fieldLink RX7 15 "FairWheel$Tape" "size" "I") (by decide +kernel)) (fun _ h9 => h9) rfl dX7_append_8 ?_
  refine lv_aload_n hx hb dX7_append_11 rfl (lv_at hl 1 rfl) ?_
  refine va_get (D := D) (ci := 7) (v := .ref tb) (C := RX7) (T := TX7) (N := 2) hx hb hts iw_X7_append_7 hown hC.1 hP 0 rfl rfl 0 (by decide +kernel) (hts (.fieldLink RX7 9 "FairWheel$Tape" "bytes" "[B") (by decide +kernel)) (fun _ h9 => h9) rfl dX7_append_12 ?_
  refine va_alen (v := 1700) hx hb hC.1 hP 1 0 rfl rfl rfl dX7_append_15 ?_
  refine lv_icmp_ge (tgt := 48) hx hb dX7_append_16 (by decide +kernel) (fun c_7 => absurd c_7 (by decide +kernel)) (fun c_7 => ?_)
  refine lv_aload_n hx hb dX7_append_19 rfl (lv_at hl 1 rfl) ?_
  refine va_get (D := D) (ci := 7) (v := .ref tb) (C := RX7) (T := TX7) (N := 2) hx hb hts iw_X7_append_7 hown hC.1 hP 0 rfl rfl 0 (by decide +kernel) (hts (.fieldLink RX7 9 "FairWheel$Tape" "bytes" "[B") (by decide +kernel)) (fun _ h9 => h9) rfl dX7_append_20 ?_
  refine lv_aload_n hx hb dX7_append_23 rfl (lv_at hl 1 rfl) ?_
  refine va_get (D := D) (ci := 7) (v := .int 1) (C := RX7) (T := TX7) (N := 2) hx hb hts iw_X7_append_7 hown hC.1 hP 0 rfl rfl 1 (by decide +kernel) (hts (.fieldLink RX7 15 "FairWheel$Tape" "size" "I") (by decide +kernel)) (fun _ h9 => h9) rfl dX7_append_24 ?_
  refine lv_iload_n hx hb dX7_append_27 rfl (lv_at hl 2 rfl) ?_
  refine lv_iload_n hx hb dX7_append_28 rfl (lv_at hl 0 rfl) ?_
  refine lv_ishr hx hb dX7_append_29 ?_
  refine lv_topi (fun y_8 ey_8 => ?_)
  obtain ⟨y_9, ey_9⟩ : ∃ z : Int32, z = Int8.toInt32 (Int32.toInt8 y_8) := ⟨_, rfl⟩
  refine lv_i2b (v := y_9) hx hb dX7_append_30 ey_9.symm ?_
  refine ka_bast hx hb hC.1 hP hD hS 1 0 rfl rfl 1 rfl (by decide +kernel) (by decide +kernel) dX7_append_31 (fun H locs hP hD hS => ?_)
  have hP : va_P D vwCl [(h0, .inr (7, [.ref tb, .int 1])), (tb, .inl (ca 0, 1700, .inl (upd f_5 1 (vp_nar .byte y_9))))] H := hP
  have hD : va_D A [(h0, .inr (7, [.ref tb, .int 1])), (tb, .inl (ca 0, 1700, .inl (upd f_5 1 (vp_nar .byte y_9))))] := hD
  generalize (upd f_5 1 (vp_nar .byte y_9)) = f_10 at hP hD
  refine lv_aload_n hx hb dX7_append_32 rfl (lv_at hl 1 rfl) ?_
  refine lv_dup hx hb dX7_append_33 rfl ?_
  refine va_get (D := D) (ci := 7) (v := .int 1) (C := RX7) (T := TX7) (N := 2) hx hb hts iw_X7_append_7 hown hC.1 hP 0 rfl rfl 1 (by decide +kernel) (hts (.fieldLink RX7 15 "FairWheel$Tape" "size" "I") (by decide +kernel)) (fun _ h9 => h9) rfl dX7_append_34 ?_
  refine lv_iconst (v := 1) hx hb dX7_append_37 (by decide +kernel) ?_
  refine lv_iadd hx hb dX7_append_38 ?_
  refine nt_i 2 (by decide +kernel) ?_
  refine va_put (D := D) (ci := 7) (v := .int 2) (ty := .int) (C := RX7) (T := TX7) (N := 2) hx hb hts iw_X7_append_7 tyX7 tyX7_ok nmX7 hown hC.1 hP hD hS 0 rfl rfl 1 (by decide +kernel) (hts (.fieldLink RX7 15 "FairWheel$Tape" "size" "I") (by decide +kernel)) (fun _ h9 => h9) rfl (by decide +kernel) rfl rfl (Nat.le_of_ble_eq_true rfl) dX7_append_39 (fun H locs hP hD hS => ?_)
  have hP : va_P D vwCl [(h0, .inr (7, [.ref tb, .int 2])), (tb, .inl (ca 0, 1700, .inl f_10))] H := hP
  have hD : va_D A [(h0, .inr (7, [.ref tb, .int 2])), (tb, .inl (ca 0, 1700, .inl f_10))] := hD
  refine lv_iinc (v := 8) (lv' := [(2, .int 8), (0, .ref h0), (1, .int x1)]) hx hb dX7_append_42 hl (k := 0) rfl (by decide +kernel) (by decide +kernel) rfl (fun ls hl => ?_)
  refine lv_goto (tgt := 3) hx hb dX7_append_45 (by decide +kernel) ?_
  refine lv_iload_n hx hb dX7_append_3 rfl (lv_at hl 0 rfl) ?_
  refine lv_if_lt (tgt := 48) hx hb dX7_append_4 (by decide +kernel) (fun c_11 => absurd c_11 (by decide +kernel)) (fun c_11 => ?_)
  refine lv_aload_n hx hb dX7_append_7 rfl (lv_at hl 1 rfl) ?_
  refine va_get (D := D) (ci := 7) (v := .int 2) (C := RX7) (T := TX7) (N := 2) hx hb hts iw_X7_append_7 hown hC.1 hP 0 rfl rfl 1 (by decide +kernel) (hts (.fieldLink RX7 15 "FairWheel$Tape" "size" "I") (by decide +kernel)) (fun _ h9 => h9) rfl dX7_append_8 ?_
  refine lv_aload_n hx hb dX7_append_11 rfl (lv_at hl 1 rfl) ?_
  refine va_get (D := D) (ci := 7) (v := .ref tb) (C := RX7) (T := TX7) (N := 2) hx hb hts iw_X7_append_7 hown hC.1 hP 0 rfl rfl 0 (by decide +kernel) (hts (.fieldLink RX7 9 "FairWheel$Tape" "bytes" "[B") (by decide +kernel)) (fun _ h9 => h9) rfl dX7_append_12 ?_
  refine va_alen (v := 1700) hx hb hC.1 hP 1 0 rfl rfl rfl dX7_append_15 ?_
  refine lv_icmp_ge (tgt := 48) hx hb dX7_append_16 (by decide +kernel) (fun c_12 => absurd c_12 (by decide +kernel)) (fun c_12 => ?_)
  refine lv_aload_n hx hb dX7_append_19 rfl (lv_at hl 1 rfl) ?_
  refine va_get (D := D) (ci := 7) (v := .ref tb) (C := RX7) (T := TX7) (N := 2) hx hb hts iw_X7_append_7 hown hC.1 hP 0 rfl rfl 0 (by decide +kernel) (hts (.fieldLink RX7 9 "FairWheel$Tape" "bytes" "[B") (by decide +kernel)) (fun _ h9 => h9) rfl dX7_append_20 ?_
  refine lv_aload_n hx hb dX7_append_23 rfl (lv_at hl 1 rfl) ?_
  refine va_get (D := D) (ci := 7) (v := .int 2) (C := RX7) (T := TX7) (N := 2) hx hb hts iw_X7_append_7 hown hC.1 hP 0 rfl rfl 1 (by decide +kernel) (hts (.fieldLink RX7 15 "FairWheel$Tape" "size" "I") (by decide +kernel)) (fun _ h9 => h9) rfl dX7_append_24 ?_
  refine lv_iload_n hx hb dX7_append_27 rfl (lv_at hl 2 rfl) ?_
  refine lv_iload_n hx hb dX7_append_28 rfl (lv_at hl 0 rfl) ?_
  refine lv_ishr hx hb dX7_append_29 ?_
  refine lv_topi (fun y_13 ey_13 => ?_)
  obtain ⟨y_14, ey_14⟩ : ∃ z : Int32, z = Int8.toInt32 (Int32.toInt8 y_13) := ⟨_, rfl⟩
  refine lv_i2b (v := y_14) hx hb dX7_append_30 ey_14.symm ?_
  refine ka_bast hx hb hC.1 hP hD hS 1 0 rfl rfl 2 rfl (by decide +kernel) (by decide +kernel) dX7_append_31 (fun H locs hP hD hS => ?_)
  have hP : va_P D vwCl [(h0, .inr (7, [.ref tb, .int 2])), (tb, .inl (ca 0, 1700, .inl (upd f_10 2 (vp_nar .byte y_14))))] H := hP
  have hD : va_D A [(h0, .inr (7, [.ref tb, .int 2])), (tb, .inl (ca 0, 1700, .inl (upd f_10 2 (vp_nar .byte y_14))))] := hD
  generalize (upd f_10 2 (vp_nar .byte y_14)) = f_15 at hP hD
  refine lv_aload_n hx hb dX7_append_32 rfl (lv_at hl 1 rfl) ?_
  refine lv_dup hx hb dX7_append_33 rfl ?_
  refine va_get (D := D) (ci := 7) (v := .int 2) (C := RX7) (T := TX7) (N := 2) hx hb hts iw_X7_append_7 hown hC.1 hP 0 rfl rfl 1 (by decide +kernel) (hts (.fieldLink RX7 15 "FairWheel$Tape" "size" "I") (by decide +kernel)) (fun _ h9 => h9) rfl dX7_append_34 ?_
  refine lv_iconst (v := 1) hx hb dX7_append_37 (by decide +kernel) ?_
  refine lv_iadd hx hb dX7_append_38 ?_
  refine nt_i 3 (by decide +kernel) ?_
  refine va_put (D := D) (ci := 7) (v := .int 3) (ty := .int) (C := RX7) (T := TX7) (N := 2) hx hb hts iw_X7_append_7 tyX7 tyX7_ok nmX7 hown hC.1 hP hD hS 0 rfl rfl 1 (by decide +kernel) (hts (.fieldLink RX7 15 "FairWheel$Tape" "size" "I") (by decide +kernel)) (fun _ h9 => h9) rfl (by decide +kernel) rfl rfl (Nat.le_of_ble_eq_true rfl) dX7_append_39 (fun H locs hP hD hS => ?_)
  have hP : va_P D vwCl [(h0, .inr (7, [.ref tb, .int 3])), (tb, .inl (ca 0, 1700, .inl f_15))] H := hP
  have hD : va_D A [(h0, .inr (7, [.ref tb, .int 3])), (tb, .inl (ca 0, 1700, .inl f_15))] := hD
  refine lv_iinc (v := 0) (lv' := [(2, .int 0), (0, .ref h0), (1, .int x1)]) hx hb dX7_append_42 hl (k := 0) rfl (by decide +kernel) (by decide +kernel) rfl (fun ls hl => ?_)
  refine lv_goto (tgt := 3) hx hb dX7_append_45 (by decide +kernel) ?_
  refine lv_iload_n hx hb dX7_append_3 rfl (lv_at hl 0 rfl) ?_
  refine lv_if_lt (tgt := 48) hx hb dX7_append_4 (by decide +kernel) (fun c_16 => absurd c_16 (by decide +kernel)) (fun c_16 => ?_)
  refine lv_aload_n hx hb dX7_append_7 rfl (lv_at hl 1 rfl) ?_
  refine va_get (D := D) (ci := 7) (v := .int 3) (C := RX7) (T := TX7) (N := 2) hx hb hts iw_X7_append_7 hown hC.1 hP 0 rfl rfl 1 (by decide +kernel) (hts (.fieldLink RX7 15 "FairWheel$Tape" "size" "I") (by decide +kernel)) (fun _ h9 => h9) rfl dX7_append_8 ?_
  refine lv_aload_n hx hb dX7_append_11 rfl (lv_at hl 1 rfl) ?_
  refine va_get (D := D) (ci := 7) (v := .ref tb) (C := RX7) (T := TX7) (N := 2) hx hb hts iw_X7_append_7 hown hC.1 hP 0 rfl rfl 0 (by decide +kernel) (hts (.fieldLink RX7 9 "FairWheel$Tape" "bytes" "[B") (by decide +kernel)) (fun _ h9 => h9) rfl dX7_append_12 ?_
  refine va_alen (v := 1700) hx hb hC.1 hP 1 0 rfl rfl rfl dX7_append_15 ?_
  refine lv_icmp_ge (tgt := 48) hx hb dX7_append_16 (by decide +kernel) (fun c_17 => absurd c_17 (by decide +kernel)) (fun c_17 => ?_)
  refine lv_aload_n hx hb dX7_append_19 rfl (lv_at hl 1 rfl) ?_
  refine va_get (D := D) (ci := 7) (v := .ref tb) (C := RX7) (T := TX7) (N := 2) hx hb hts iw_X7_append_7 hown hC.1 hP 0 rfl rfl 0 (by decide +kernel) (hts (.fieldLink RX7 9 "FairWheel$Tape" "bytes" "[B") (by decide +kernel)) (fun _ h9 => h9) rfl dX7_append_20 ?_
  refine lv_aload_n hx hb dX7_append_23 rfl (lv_at hl 1 rfl) ?_
  refine va_get (D := D) (ci := 7) (v := .int 3) (C := RX7) (T := TX7) (N := 2) hx hb hts iw_X7_append_7 hown hC.1 hP 0 rfl rfl 1 (by decide +kernel) (hts (.fieldLink RX7 15 "FairWheel$Tape" "size" "I") (by decide +kernel)) (fun _ h9 => h9) rfl dX7_append_24 ?_
  refine lv_iload_n hx hb dX7_append_27 rfl (lv_at hl 2 rfl) ?_
  refine lv_iload_n hx hb dX7_append_28 rfl (lv_at hl 0 rfl) ?_
  refine lv_ishr hx hb dX7_append_29 ?_
  refine lv_topi (fun y_18 ey_18 => ?_)
  obtain ⟨y_19, ey_19⟩ : ∃ z : Int32, z = Int8.toInt32 (Int32.toInt8 y_18) := ⟨_, rfl⟩
  refine lv_i2b (v := y_19) hx hb dX7_append_30 ey_19.symm ?_
  refine ka_bast hx hb hC.1 hP hD hS 1 0 rfl rfl 3 rfl (by decide +kernel) (by decide +kernel) dX7_append_31 (fun H locs hP hD hS => ?_)
  have hP : va_P D vwCl [(h0, .inr (7, [.ref tb, .int 3])), (tb, .inl (ca 0, 1700, .inl (upd f_15 3 (vp_nar .byte y_19))))] H := hP
  have hD : va_D A [(h0, .inr (7, [.ref tb, .int 3])), (tb, .inl (ca 0, 1700, .inl (upd f_15 3 (vp_nar .byte y_19))))] := hD
  generalize (upd f_15 3 (vp_nar .byte y_19)) = f_20 at hP hD
  refine lv_aload_n hx hb dX7_append_32 rfl (lv_at hl 1 rfl) ?_
  refine lv_dup hx hb dX7_append_33 rfl ?_
  refine va_get (D := D) (ci := 7) (v := .int 3) (C := RX7) (T := TX7) (N := 2) hx hb hts iw_X7_append_7 hown hC.1 hP 0 rfl rfl 1 (by decide +kernel) (hts (.fieldLink RX7 15 "FairWheel$Tape" "size" "I") (by decide +kernel)) (fun _ h9 => h9) rfl dX7_append_34 ?_
  refine lv_iconst (v := 1) hx hb dX7_append_37 (by decide +kernel) ?_
  refine lv_iadd hx hb dX7_append_38 ?_
  refine nt_i 4 (by decide +kernel) ?_
  refine va_put (D := D) (ci := 7) (v := .int 4) (ty := .int) (C := RX7) (T := TX7) (N := 2) hx hb hts iw_X7_append_7 tyX7 tyX7_ok nmX7 hown hC.1 hP hD hS 0 rfl rfl 1 (by decide +kernel) (hts (.fieldLink RX7 15 "FairWheel$Tape" "size" "I") (by decide +kernel)) (fun _ h9 => h9) rfl (by decide +kernel) rfl rfl (Nat.le_of_ble_eq_true rfl) dX7_append_39 (fun H locs hP hD hS => ?_)
  have hP : va_P D vwCl [(h0, .inr (7, [.ref tb, .int 4])), (tb, .inl (ca 0, 1700, .inl f_20))] H := hP
  have hD : va_D A [(h0, .inr (7, [.ref tb, .int 4])), (tb, .inl (ca 0, 1700, .inl f_20))] := hD
  refine lv_iinc (v := (-8)) (lv' := [(2, .int (-8)), (0, .ref h0), (1, .int x1)]) hx hb dX7_append_42 hl (k := 0) rfl (by decide +kernel) (by decide +kernel) rfl (fun ls hl => ?_)
  refine lv_goto (tgt := 3) hx hb dX7_append_45 (by decide +kernel) ?_
  refine lv_iload_n hx hb dX7_append_3 rfl (lv_at hl 0 rfl) ?_
  refine lv_if_lt (tgt := 48) hx hb dX7_append_4 (by decide +kernel) (fun c_21 => ?_) (fun c_21 => absurd (by decide +kernel) c_21)
  exact W.vret hx hb hr (fun t ht hW => ⟨⟨f_20, rfl, trivial, by rw [ht]; exact hP.sub [0, 1] rfl, hDA (hD.sub [0, 1] (by decide +kernel) rfl)⟩, hS.F ht⟩) hS.2.2 dX7_append_48
set_option maxHeartbeats 4000000 in
set_option maxRecDepth 100000 in
theorem k_X7_append_4 (l : Launch) (D : va_G) (ca : Nat → ClassId) (sz : Nat) (h0 : Nat) (tb : Nat) (fb : Nat → Int32) (x1 : Int32) : Met l yX7_append wsX7_append ({ frames := 0, cells := 0, slots := 0, locals := 0 }) (PC [.ref h0, .int x1] sz D ca [(h0, .inr (7, [.ref tb, .int 4])), (tb, .inl (ca 0, 1700, .inl fb))]) (QV (fun (u : (Nat → Int32)) => True) (fun (u : (Nat → Int32)) => [(h0, .inr (7, [.ref tb, .int 8])), (tb, .inl (ca 0, 1700, .inl u))]) [(h0, .inr (7, [.ref tb, .int 4])), (tb, .inl (ca 0, 1700, .inl fb))] sz D) 0 0 (va_A [(h0, .inr (7, [.ref tb, .int 4])), (tb, .inl (ca 0, 1700, .inl fb))] sz) := by
  refine Met.ofW (cc := cX7_append) (maxL := 3) (ret := none) (by decide +kernel) rfl ?_
  intro p e s m args below meth c s₁ B hml hv
  obtain ⟨rfl, hsz, hP, hC, hD0⟩ := hv
  have hx := B.exec
  have hb := B.bytes
  have hr := B.returns
  have hts := atoms_spec (ws := wsX7_append) B.pre
  have hown : s.vm.findClass RX7 = some m.cls := findClass_of_methodNamed B.named
  have hlocks := B.notSynchronized
  subst hsz
  have hD := hD0.self (sz := s.heap.size)
  dsimp only [QV, QI, QL, BQ]
  generalize hAe : va_A [(h0, .inr (7, [.ref tb, .int 4])), (tb, .inl (ca 0, 1700, .inl fb))] s.heap.size = A at hD ⊢
  have hA : ∀ q : Nat, s.heap.size ≤ q → A q := fun q h => by rw [← hAe]; exact Or.inr h
  have hDA : ∀ {w : va_W}, va_D A w → va_D (va_A [(h0, .inr (7, [.ref tb, .int 4])), (tb, .inl (ca 0, 1700, .inl fb))] s.heap.size) w := fun h => by rw [hAe]; exact h
  have hS : va_S A s.heap s.heap [] := va_S.rf
  have hP : va_P D vwCl [(h0, .inr (7, [.ref tb, .int 4])), (tb, .inl (ca 0, 1700, .inl fb))] s.heap := hP
  have hl := lv_entry ([.ref h0, .int x1]) (n := 3) (Nat.le_of_ble_eq_true rfl)
  rw [lg_entry_eq]
  generalize (lg_sl ([.ref h0, .int x1]) ++ List.replicate (3 - (lg_sl ([.ref h0, .int x1])).length) Slot.unset).toArray = ls at hl ⊢
  have hl : lv_has ls 3 [(0, .ref h0), (1, .int x1)] := hl
  refine lv_bipush (v := 24) hx hb dX7_append_0 (by decide +kernel) ?_
  refine lv_istore_n (lv' := [(2, .int 24), (0, .ref h0), (1, .int x1)]) hx hb dX7_append_2 rfl hl (by decide +kernel) rfl (fun ls hl => ?_)
  refine lv_iload_n hx hb dX7_append_3 rfl (lv_at hl 0 rfl) ?_
  refine lv_if_lt (tgt := 48) hx hb dX7_append_4 (by decide +kernel) (fun c_1 => absurd c_1 (by decide +kernel)) (fun c_1 => ?_)
  refine lv_aload_n hx hb dX7_append_7 rfl (lv_at hl 1 rfl) ?_
  refine va_get (D := D) (ci := 7) (v := .int 4) (C := RX7) (T := TX7) (N := 2) hx hb hts iw_X7_append_7 hown hC.1 hP 0 rfl rfl 1 (by decide +kernel) (hts (.fieldLink RX7 15 "FairWheel$Tape" "size" "I") (by decide +kernel)) (fun _ h9 => h9) rfl dX7_append_8 ?_
  refine lv_aload_n hx hb dX7_append_11 rfl (lv_at hl 1 rfl) ?_
  refine va_get (D := D) (ci := 7) (v := .ref tb) (C := RX7) (T := TX7) (N := 2) hx hb hts iw_X7_append_7 hown hC.1 hP 0 rfl rfl 0 (by decide +kernel) (hts (.fieldLink RX7 9 "FairWheel$Tape" "bytes" "[B") (by decide +kernel)) (fun _ h9 => h9) rfl dX7_append_12 ?_
  refine va_alen (v := 1700) hx hb hC.1 hP 1 0 rfl rfl rfl dX7_append_15 ?_
  refine lv_icmp_ge (tgt := 48) hx hb dX7_append_16 (by decide +kernel) (fun c_2 => absurd c_2 (by decide +kernel)) (fun c_2 => ?_)
  refine lv_aload_n hx hb dX7_append_19 rfl (lv_at hl 1 rfl) ?_
  refine va_get (D := D) (ci := 7) (v := .ref tb) (C := RX7) (T := TX7) (N := 2) hx hb hts iw_X7_append_7 hown hC.1 hP 0 rfl rfl 0 (by decide +kernel) (hts (.fieldLink RX7 9 "FairWheel$Tape" "bytes" "[B") (by decide +kernel)) (fun _ h9 => h9) rfl dX7_append_20 ?_
  refine lv_aload_n hx hb dX7_append_23 rfl (lv_at hl 1 rfl) ?_
  refine va_get (D := D) (ci := 7) (v := .int 4) (C := RX7) (T := TX7) (N := 2) hx hb hts iw_X7_append_7 hown hC.1 hP 0 rfl rfl 1 (by decide +kernel) (hts (.fieldLink RX7 15 "FairWheel$Tape" "size" "I") (by decide +kernel)) (fun _ h9 => h9) rfl dX7_append_24 ?_
  refine lv_iload_n hx hb dX7_append_27 rfl (lv_at hl 2 rfl) ?_
  refine lv_iload_n hx hb dX7_append_28 rfl (lv_at hl 0 rfl) ?_
  refine lv_ishr hx hb dX7_append_29 ?_
  refine lv_topi (fun y_3 ey_3 => ?_)
  obtain ⟨y_4, ey_4⟩ : ∃ z : Int32, z = Int8.toInt32 (Int32.toInt8 y_3) := ⟨_, rfl⟩
  refine lv_i2b (v := y_4) hx hb dX7_append_30 ey_4.symm ?_
  refine ka_bast hx hb hC.1 hP hD hS 1 0 rfl rfl 4 rfl (by decide +kernel) (by decide +kernel) dX7_append_31 (fun H locs hP hD hS => ?_)
  have hP : va_P D vwCl [(h0, .inr (7, [.ref tb, .int 4])), (tb, .inl (ca 0, 1700, .inl (upd fb 4 (vp_nar .byte y_4))))] H := hP
  have hD : va_D A [(h0, .inr (7, [.ref tb, .int 4])), (tb, .inl (ca 0, 1700, .inl (upd fb 4 (vp_nar .byte y_4))))] := hD
  generalize (upd fb 4 (vp_nar .byte y_4)) = f_5 at hP hD
  refine lv_aload_n hx hb dX7_append_32 rfl (lv_at hl 1 rfl) ?_
  refine lv_dup hx hb dX7_append_33 rfl ?_
  refine va_get (D := D) (ci := 7) (v := .int 4) (C := RX7) (T := TX7) (N := 2) hx hb hts iw_X7_append_7 hown hC.1 hP 0 rfl rfl 1 (by decide +kernel) (hts (.fieldLink RX7 15 "FairWheel$Tape" "size" "I") (by decide +kernel)) (fun _ h9 => h9) rfl dX7_append_34 ?_
  refine lv_iconst (v := 1) hx hb dX7_append_37 (by decide +kernel) ?_
  refine lv_iadd hx hb dX7_append_38 ?_
  refine nt_i 5 (by decide +kernel) ?_
  refine va_put (D := D) (ci := 7) (v := .int 5) (ty := .int) (C := RX7) (T := TX7) (N := 2) hx hb hts iw_X7_append_7 tyX7 tyX7_ok nmX7 hown hC.1 hP hD hS 0 rfl rfl 1 (by decide +kernel) (hts (.fieldLink RX7 15 "FairWheel$Tape" "size" "I") (by decide +kernel)) (fun _ h9 => h9) rfl (by decide +kernel) rfl rfl (Nat.le_of_ble_eq_true rfl) dX7_append_39 (fun H locs hP hD hS => ?_)
  have hP : va_P D vwCl [(h0, .inr (7, [.ref tb, .int 5])), (tb, .inl (ca 0, 1700, .inl f_5))] H := hP
  have hD : va_D A [(h0, .inr (7, [.ref tb, .int 5])), (tb, .inl (ca 0, 1700, .inl f_5))] := hD
  refine lv_iinc (v := 16) (lv' := [(2, .int 16), (0, .ref h0), (1, .int x1)]) hx hb dX7_append_42 hl (k := 0) rfl (by decide +kernel) (by decide +kernel) rfl (fun ls hl => ?_)
  refine lv_goto (tgt := 3) hx hb dX7_append_45 (by decide +kernel) ?_
  refine lv_iload_n hx hb dX7_append_3 rfl (lv_at hl 0 rfl) ?_
  refine lv_if_lt (tgt := 48) hx hb dX7_append_4 (by decide +kernel) (fun c_6 => absurd c_6 (by decide +kernel)) (fun c_6 => ?_)
  refine lv_aload_n hx hb dX7_append_7 rfl (lv_at hl 1 rfl) ?_
  refine va_get (D := D) (ci := 7) (v := .int 5) (C := RX7) (T := TX7) (N := 2) hx hb hts iw_X7_append_7 hown hC.1 hP 0 rfl rfl 1 (by decide +kernel) (hts (.fieldLink RX7 15 "FairWheel$Tape" "size" "I") (by decide +kernel)) (fun _ h9 => h9) rfl dX7_append_8 ?_
  refine lv_aload_n hx hb dX7_append_11 rfl (lv_at hl 1 rfl) ?_
  refine va_get (D := D) (ci := 7) (v := .ref tb) (C := RX7) (T := TX7) (N := 2) hx hb hts iw_X7_append_7 hown hC.1 hP 0 rfl rfl 0 (by decide +kernel) (hts (.fieldLink RX7 9 "FairWheel$Tape" "bytes" "[B") (by decide +kernel)) (fun _ h9 => h9) rfl dX7_append_12 ?_
  refine va_alen (v := 1700) hx hb hC.1 hP 1 0 rfl rfl rfl dX7_append_15 ?_
  refine lv_icmp_ge (tgt := 48) hx hb dX7_append_16 (by decide +kernel) (fun c_7 => absurd c_7 (by decide +kernel)) (fun c_7 => ?_)
  refine lv_aload_n hx hb dX7_append_19 rfl (lv_at hl 1 rfl) ?_
  refine va_get (D := D) (ci := 7) (v := .ref tb) (C := RX7) (T := TX7) (N := 2) hx hb hts iw_X7_append_7 hown hC.1 hP 0 rfl rfl 0 (by decide +kernel) (hts (.fieldLink RX7 9 "FairWheel$Tape" "bytes" "[B") (by decide +kernel)) (fun _ h9 => h9) rfl dX7_append_20 ?_
  refine lv_aload_n hx hb dX7_append_23 rfl (lv_at hl 1 rfl) ?_
  refine va_get (D := D) (ci := 7) (v := .int 5) (C := RX7) (T := TX7) (N := 2) hx hb hts iw_X7_append_7 hown hC.1 hP 0 rfl rfl 1 (by decide +kernel) (hts (.fieldLink RX7 15 "FairWheel$Tape" "size" "I") (by decide +kernel)) (fun _ h9 => h9) rfl dX7_append_24 ?_
  refine lv_iload_n hx hb dX7_append_27 rfl (lv_at hl 2 rfl) ?_
  refine lv_iload_n hx hb dX7_append_28 rfl (lv_at hl 0 rfl) ?_
  refine lv_ishr hx hb dX7_append_29 ?_
  refine lv_topi (fun y_8 ey_8 => ?_)
  obtain ⟨y_9, ey_9⟩ : ∃ z : Int32, z = Int8.toInt32 (Int32.toInt8 y_8) := ⟨_, rfl⟩
  refine lv_i2b (v := y_9) hx hb dX7_append_30 ey_9.symm ?_
  refine ka_bast hx hb hC.1 hP hD hS 1 0 rfl rfl 5 rfl (by decide +kernel) (by decide +kernel) dX7_append_31 (fun H locs hP hD hS => ?_)
  have hP : va_P D vwCl [(h0, .inr (7, [.ref tb, .int 5])), (tb, .inl (ca 0, 1700, .inl (upd f_5 5 (vp_nar .byte y_9))))] H := hP
  have hD : va_D A [(h0, .inr (7, [.ref tb, .int 5])), (tb, .inl (ca 0, 1700, .inl (upd f_5 5 (vp_nar .byte y_9))))] := hD
  generalize (upd f_5 5 (vp_nar .byte y_9)) = f_10 at hP hD
  refine lv_aload_n hx hb dX7_append_32 rfl (lv_at hl 1 rfl) ?_
  refine lv_dup hx hb dX7_append_33 rfl ?_
  refine va_get (D := D) (ci := 7) (v := .int 5) (C := RX7) (T := TX7) (N := 2) hx hb hts iw_X7_append_7 hown hC.1 hP 0 rfl rfl 1 (by decide +kernel) (hts (.fieldLink RX7 15 "FairWheel$Tape" "size" "I") (by decide +kernel)) (fun _ h9 => h9) rfl dX7_append_34 ?_
  refine lv_iconst (v := 1) hx hb dX7_append_37 (by decide +kernel) ?_
  refine lv_iadd hx hb dX7_append_38 ?_
  refine nt_i 6 (by decide +kernel) ?_
  refine va_put (D := D) (ci := 7) (v := .int 6) (ty := .int) (C := RX7) (T := TX7) (N := 2) hx hb hts iw_X7_append_7 tyX7 tyX7_ok nmX7 hown hC.1 hP hD hS 0 rfl rfl 1 (by decide +kernel) (hts (.fieldLink RX7 15 "FairWheel$Tape" "size" "I") (by decide +kernel)) (fun _ h9 => h9) rfl (by decide +kernel) rfl rfl (Nat.le_of_ble_eq_true rfl) dX7_append_39 (fun H locs hP hD hS => ?_)
  have hP : va_P D vwCl [(h0, .inr (7, [.ref tb, .int 6])), (tb, .inl (ca 0, 1700, .inl f_10))] H := hP
  have hD : va_D A [(h0, .inr (7, [.ref tb, .int 6])), (tb, .inl (ca 0, 1700, .inl f_10))] := hD
  refine lv_iinc (v := 8) (lv' := [(2, .int 8), (0, .ref h0), (1, .int x1)]) hx hb dX7_append_42 hl (k := 0) rfl (by decide +kernel) (by decide +kernel) rfl (fun ls hl => ?_)
  refine lv_goto (tgt := 3) hx hb dX7_append_45 (by decide +kernel) ?_
  refine lv_iload_n hx hb dX7_append_3 rfl (lv_at hl 0 rfl) ?_
  refine lv_if_lt (tgt := 48) hx hb dX7_append_4 (by decide +kernel) (fun c_11 => absurd c_11 (by decide +kernel)) (fun c_11 => ?_)
  refine lv_aload_n hx hb dX7_append_7 rfl (lv_at hl 1 rfl) ?_
  refine va_get (D := D) (ci := 7) (v := .int 6) (C := RX7) (T := TX7) (N := 2) hx hb hts iw_X7_append_7 hown hC.1 hP 0 rfl rfl 1 (by decide +kernel) (hts (.fieldLink RX7 15 "FairWheel$Tape" "size" "I") (by decide +kernel)) (fun _ h9 => h9) rfl dX7_append_8 ?_
  refine lv_aload_n hx hb dX7_append_11 rfl (lv_at hl 1 rfl) ?_
  refine va_get (D := D) (ci := 7) (v := .ref tb) (C := RX7) (T := TX7) (N := 2) hx hb hts iw_X7_append_7 hown hC.1 hP 0 rfl rfl 0 (by decide +kernel) (hts (.fieldLink RX7 9 "FairWheel$Tape" "bytes" "[B") (by decide +kernel)) (fun _ h9 => h9) rfl dX7_append_12 ?_
  refine va_alen (v := 1700) hx hb hC.1 hP 1 0 rfl rfl rfl dX7_append_15 ?_
  refine lv_icmp_ge (tgt := 48) hx hb dX7_append_16 (by decide +kernel) (fun c_12 => absurd c_12 (by decide +kernel)) (fun c_12 => ?_)
  refine lv_aload_n hx hb dX7_append_19 rfl (lv_at hl 1 rfl) ?_
  refine va_get (D := D) (ci := 7) (v := .ref tb) (C := RX7) (T := TX7) (N := 2) hx hb hts iw_X7_append_7 hown hC.1 hP 0 rfl rfl 0 (by decide +kernel) (hts (.fieldLink RX7 9 "FairWheel$Tape" "bytes" "[B") (by decide +kernel)) (fun _ h9 => h9) rfl dX7_append_20 ?_
  refine lv_aload_n hx hb dX7_append_23 rfl (lv_at hl 1 rfl) ?_
  refine va_get (D := D) (ci := 7) (v := .int 6) (C := RX7) (T := TX7) (N := 2) hx hb hts iw_X7_append_7 hown hC.1 hP 0 rfl rfl 1 (by decide +kernel) (hts (.fieldLink RX7 15 "FairWheel$Tape" "size" "I") (by decide +kernel)) (fun _ h9 => h9) rfl dX7_append_24 ?_
  refine lv_iload_n hx hb dX7_append_27 rfl (lv_at hl 2 rfl) ?_
  refine lv_iload_n hx hb dX7_append_28 rfl (lv_at hl 0 rfl) ?_
  refine lv_ishr hx hb dX7_append_29 ?_
  refine lv_topi (fun y_13 ey_13 => ?_)
  obtain ⟨y_14, ey_14⟩ : ∃ z : Int32, z = Int8.toInt32 (Int32.toInt8 y_13) := ⟨_, rfl⟩
  refine lv_i2b (v := y_14) hx hb dX7_append_30 ey_14.symm ?_
  refine ka_bast hx hb hC.1 hP hD hS 1 0 rfl rfl 6 rfl (by decide +kernel) (by decide +kernel) dX7_append_31 (fun H locs hP hD hS => ?_)
  have hP : va_P D vwCl [(h0, .inr (7, [.ref tb, .int 6])), (tb, .inl (ca 0, 1700, .inl (upd f_10 6 (vp_nar .byte y_14))))] H := hP
  have hD : va_D A [(h0, .inr (7, [.ref tb, .int 6])), (tb, .inl (ca 0, 1700, .inl (upd f_10 6 (vp_nar .byte y_14))))] := hD
  generalize (upd f_10 6 (vp_nar .byte y_14)) = f_15 at hP hD
  refine lv_aload_n hx hb dX7_append_32 rfl (lv_at hl 1 rfl) ?_
  refine lv_dup hx hb dX7_append_33 rfl ?_
  refine va_get (D := D) (ci := 7) (v := .int 6) (C := RX7) (T := TX7) (N := 2) hx hb hts iw_X7_append_7 hown hC.1 hP 0 rfl rfl 1 (by decide +kernel) (hts (.fieldLink RX7 15 "FairWheel$Tape" "size" "I") (by decide +kernel)) (fun _ h9 => h9) rfl dX7_append_34 ?_
  refine lv_iconst (v := 1) hx hb dX7_append_37 (by decide +kernel) ?_
  refine lv_iadd hx hb dX7_append_38 ?_
  refine nt_i 7 (by decide +kernel) ?_
  refine va_put (D := D) (ci := 7) (v := .int 7) (ty := .int) (C := RX7) (T := TX7) (N := 2) hx hb hts iw_X7_append_7 tyX7 tyX7_ok nmX7 hown hC.1 hP hD hS 0 rfl rfl 1 (by decide +kernel) (hts (.fieldLink RX7 15 "FairWheel$Tape" "size" "I") (by decide +kernel)) (fun _ h9 => h9) rfl (by decide +kernel) rfl rfl (Nat.le_of_ble_eq_true rfl) dX7_append_39 (fun H locs hP hD hS => ?_)
  have hP : va_P D vwCl [(h0, .inr (7, [.ref tb, .int 7])), (tb, .inl (ca 0, 1700, .inl f_15))] H := hP
  have hD : va_D A [(h0, .inr (7, [.ref tb, .int 7])), (tb, .inl (ca 0, 1700, .inl f_15))] := hD
  refine lv_iinc (v := 0) (lv' := [(2, .int 0), (0, .ref h0), (1, .int x1)]) hx hb dX7_append_42 hl (k := 0) rfl (by decide +kernel) (by decide +kernel) rfl (fun ls hl => ?_)
  refine lv_goto (tgt := 3) hx hb dX7_append_45 (by decide +kernel) ?_
  refine lv_iload_n hx hb dX7_append_3 rfl (lv_at hl 0 rfl) ?_
  refine lv_if_lt (tgt := 48) hx hb dX7_append_4 (by decide +kernel) (fun c_16 => absurd c_16 (by decide +kernel)) (fun c_16 => ?_)
  refine lv_aload_n hx hb dX7_append_7 rfl (lv_at hl 1 rfl) ?_
  refine va_get (D := D) (ci := 7) (v := .int 7) (C := RX7) (T := TX7) (N := 2) hx hb hts iw_X7_append_7 hown hC.1 hP 0 rfl rfl 1 (by decide +kernel) (hts (.fieldLink RX7 15 "FairWheel$Tape" "size" "I") (by decide +kernel)) (fun _ h9 => h9) rfl dX7_append_8 ?_
  refine lv_aload_n hx hb dX7_append_11 rfl (lv_at hl 1 rfl) ?_
  refine va_get (D := D) (ci := 7) (v := .ref tb) (C := RX7) (T := TX7) (N := 2) hx hb hts iw_X7_append_7 hown hC.1 hP 0 rfl rfl 0 (by decide +kernel) (hts (.fieldLink RX7 9 "FairWheel$Tape" "bytes" "[B") (by decide +kernel)) (fun _ h9 => h9) rfl dX7_append_12 ?_
  refine va_alen (v := 1700) hx hb hC.1 hP 1 0 rfl rfl rfl dX7_append_15 ?_
  refine lv_icmp_ge (tgt := 48) hx hb dX7_append_16 (by decide +kernel) (fun c_17 => absurd c_17 (by decide +kernel)) (fun c_17 => ?_)
  refine lv_aload_n hx hb dX7_append_19 rfl (lv_at hl 1 rfl) ?_
  refine va_get (D := D) (ci := 7) (v := .ref tb) (C := RX7) (T := TX7) (N := 2) hx hb hts iw_X7_append_7 hown hC.1 hP 0 rfl rfl 0 (by decide +kernel) (hts (.fieldLink RX7 9 "FairWheel$Tape" "bytes" "[B") (by decide +kernel)) (fun _ h9 => h9) rfl dX7_append_20 ?_
  refine lv_aload_n hx hb dX7_append_23 rfl (lv_at hl 1 rfl) ?_
  refine va_get (D := D) (ci := 7) (v := .int 7) (C := RX7) (T := TX7) (N := 2) hx hb hts iw_X7_append_7 hown hC.1 hP 0 rfl rfl 1 (by decide +kernel) (hts (.fieldLink RX7 15 "FairWheel$Tape" "size" "I") (by decide +kernel)) (fun _ h9 => h9) rfl dX7_append_24 ?_
  refine lv_iload_n hx hb dX7_append_27 rfl (lv_at hl 2 rfl) ?_
  refine lv_iload_n hx hb dX7_append_28 rfl (lv_at hl 0 rfl) ?_
  refine lv_ishr hx hb dX7_append_29 ?_
  refine lv_topi (fun y_18 ey_18 => ?_)
  obtain ⟨y_19, ey_19⟩ : ∃ z : Int32, z = Int8.toInt32 (Int32.toInt8 y_18) := ⟨_, rfl⟩
  refine lv_i2b (v := y_19) hx hb dX7_append_30 ey_19.symm ?_
  refine ka_bast hx hb hC.1 hP hD hS 1 0 rfl rfl 7 rfl (by decide +kernel) (by decide +kernel) dX7_append_31 (fun H locs hP hD hS => ?_)
  have hP : va_P D vwCl [(h0, .inr (7, [.ref tb, .int 7])), (tb, .inl (ca 0, 1700, .inl (upd f_15 7 (vp_nar .byte y_19))))] H := hP
  have hD : va_D A [(h0, .inr (7, [.ref tb, .int 7])), (tb, .inl (ca 0, 1700, .inl (upd f_15 7 (vp_nar .byte y_19))))] := hD
  generalize (upd f_15 7 (vp_nar .byte y_19)) = f_20 at hP hD
  refine lv_aload_n hx hb dX7_append_32 rfl (lv_at hl 1 rfl) ?_
  refine lv_dup hx hb dX7_append_33 rfl ?_
  refine va_get (D := D) (ci := 7) (v := .int 7) (C := RX7) (T := TX7) (N := 2) hx hb hts iw_X7_append_7 hown hC.1 hP 0 rfl rfl 1 (by decide +kernel) (hts (.fieldLink RX7 15 "FairWheel$Tape" "size" "I") (by decide +kernel)) (fun _ h9 => h9) rfl dX7_append_34 ?_
  refine lv_iconst (v := 1) hx hb dX7_append_37 (by decide +kernel) ?_
  refine lv_iadd hx hb dX7_append_38 ?_
  refine nt_i 8 (by decide +kernel) ?_
  refine va_put (D := D) (ci := 7) (v := .int 8) (ty := .int) (C := RX7) (T := TX7) (N := 2) hx hb hts iw_X7_append_7 tyX7 tyX7_ok nmX7 hown hC.1 hP hD hS 0 rfl rfl 1 (by decide +kernel) (hts (.fieldLink RX7 15 "FairWheel$Tape" "size" "I") (by decide +kernel)) (fun _ h9 => h9) rfl (by decide +kernel) rfl rfl (Nat.le_of_ble_eq_true rfl) dX7_append_39 (fun H locs hP hD hS => ?_)
  have hP : va_P D vwCl [(h0, .inr (7, [.ref tb, .int 8])), (tb, .inl (ca 0, 1700, .inl f_20))] H := hP
  have hD : va_D A [(h0, .inr (7, [.ref tb, .int 8])), (tb, .inl (ca 0, 1700, .inl f_20))] := hD
  refine lv_iinc (v := (-8)) (lv' := [(2, .int (-8)), (0, .ref h0), (1, .int x1)]) hx hb dX7_append_42 hl (k := 0) rfl (by decide +kernel) (by decide +kernel) rfl (fun ls hl => ?_)
  refine lv_goto (tgt := 3) hx hb dX7_append_45 (by decide +kernel) ?_
  refine lv_iload_n hx hb dX7_append_3 rfl (lv_at hl 0 rfl) ?_
  refine lv_if_lt (tgt := 48) hx hb dX7_append_4 (by decide +kernel) (fun c_21 => ?_) (fun c_21 => absurd (by decide +kernel) c_21)
  exact W.vret hx hb hr (fun t ht hW => ⟨⟨f_20, rfl, trivial, by rw [ht]; exact hP.sub [0, 1] rfl, hDA (hD.sub [0, 1] (by decide +kernel) rfl)⟩, hS.F ht⟩) hS.2.2 dX7_append_48
set_option maxHeartbeats 4000000 in
set_option maxRecDepth 100000 in
theorem k_X7_append_8 (l : Launch) (D : va_G) (ca : Nat → ClassId) (sz : Nat) (h0 : Nat) (tb : Nat) (fb : Nat → Int32) (x1 : Int32) : Met l yX7_append wsX7_append ({ frames := 0, cells := 0, slots := 0, locals := 0 }) (PC [.ref h0, .int x1] sz D ca [(h0, .inr (7, [.ref tb, .int 8])), (tb, .inl (ca 0, 1700, .inl fb))]) (QV (fun (u : (Nat → Int32)) => True) (fun (u : (Nat → Int32)) => [(h0, .inr (7, [.ref tb, .int 12])), (tb, .inl (ca 0, 1700, .inl u))]) [(h0, .inr (7, [.ref tb, .int 8])), (tb, .inl (ca 0, 1700, .inl fb))] sz D) 0 0 (va_A [(h0, .inr (7, [.ref tb, .int 8])), (tb, .inl (ca 0, 1700, .inl fb))] sz) := by
  refine Met.ofW (cc := cX7_append) (maxL := 3) (ret := none) (by decide +kernel) rfl ?_
  intro p e s m args below meth c s₁ B hml hv
  obtain ⟨rfl, hsz, hP, hC, hD0⟩ := hv
  have hx := B.exec
  have hb := B.bytes
  have hr := B.returns
  have hts := atoms_spec (ws := wsX7_append) B.pre
  have hown : s.vm.findClass RX7 = some m.cls := findClass_of_methodNamed B.named
  have hlocks := B.notSynchronized
  subst hsz
  have hD := hD0.self (sz := s.heap.size)
  dsimp only [QV, QI, QL, BQ]
  generalize hAe : va_A [(h0, .inr (7, [.ref tb, .int 8])), (tb, .inl (ca 0, 1700, .inl fb))] s.heap.size = A at hD ⊢
  have hA : ∀ q : Nat, s.heap.size ≤ q → A q := fun q h => by rw [← hAe]; exact Or.inr h
  have hDA : ∀ {w : va_W}, va_D A w → va_D (va_A [(h0, .inr (7, [.ref tb, .int 8])), (tb, .inl (ca 0, 1700, .inl fb))] s.heap.size) w := fun h => by rw [hAe]; exact h
  have hS : va_S A s.heap s.heap [] := va_S.rf
  have hP : va_P D vwCl [(h0, .inr (7, [.ref tb, .int 8])), (tb, .inl (ca 0, 1700, .inl fb))] s.heap := hP
  have hl := lv_entry ([.ref h0, .int x1]) (n := 3) (Nat.le_of_ble_eq_true rfl)
  rw [lg_entry_eq]
  generalize (lg_sl ([.ref h0, .int x1]) ++ List.replicate (3 - (lg_sl ([.ref h0, .int x1])).length) Slot.unset).toArray = ls at hl ⊢
  have hl : lv_has ls 3 [(0, .ref h0), (1, .int x1)] := hl
  refine lv_bipush (v := 24) hx hb dX7_append_0 (by decide +kernel) ?_
  refine lv_istore_n (lv' := [(2, .int 24), (0, .ref h0), (1, .int x1)]) hx hb dX7_append_2 rfl hl (by decide +kernel) rfl (fun ls hl => ?_)
  refine lv_iload_n hx hb dX7_append_3 rfl (lv_at hl 0 rfl) ?_
  refine lv_if_lt (tgt := 48) hx hb dX7_append_4 (by decide +kernel) (fun c_1 => absurd c_1 (by decide +kernel)) (fun c_1 => ?_)
  refine lv_aload_n hx hb dX7_append_7 rfl (lv_at hl 1 rfl) ?_
  refine va_get (D := D) (ci := 7) (v := .int 8) (C := RX7) (T := TX7) (N := 2) hx hb hts iw_X7_append_7 hown hC.1 hP 0 rfl rfl 1 (by decide +kernel) (hts (.fieldLink RX7 15 "FairWheel$Tape" "size" "I") (by decide +kernel)) (fun _ h9 => h9) rfl dX7_append_8 ?_
  refine lv_aload_n hx hb dX7_append_11 rfl (lv_at hl 1 rfl) ?_
  refine va_get (D := D) (ci := 7) (v := .ref tb) (C := RX7) (T := TX7) (N := 2) hx hb hts iw_X7_append_7 hown hC.1 hP 0 rfl rfl 0 (by decide +kernel) (hts (.fieldLink RX7 9 "FairWheel$Tape" "bytes" "[B") (by decide +kernel)) (fun _ h9 => h9) rfl dX7_append_12 ?_
  refine va_alen (v := 1700) hx hb hC.1 hP 1 0 rfl rfl rfl dX7_append_15 ?_
  refine lv_icmp_ge (tgt := 48) hx hb dX7_append_16 (by decide +kernel) (fun c_2 => absurd c_2 (by decide +kernel)) (fun c_2 => ?_)
  refine lv_aload_n hx hb dX7_append_19 rfl (lv_at hl 1 rfl) ?_
  refine va_get (D := D) (ci := 7) (v := .ref tb) (C := RX7) (T := TX7) (N := 2) hx hb hts iw_X7_append_7 hown hC.1 hP 0 rfl rfl 0 (by decide +kernel) (hts (.fieldLink RX7 9 "FairWheel$Tape" "bytes" "[B") (by decide +kernel)) (fun _ h9 => h9) rfl dX7_append_20 ?_
  refine lv_aload_n hx hb dX7_append_23 rfl (lv_at hl 1 rfl) ?_
  refine va_get (D := D) (ci := 7) (v := .int 8) (C := RX7) (T := TX7) (N := 2) hx hb hts iw_X7_append_7 hown hC.1 hP 0 rfl rfl 1 (by decide +kernel) (hts (.fieldLink RX7 15 "FairWheel$Tape" "size" "I") (by decide +kernel)) (fun _ h9 => h9) rfl dX7_append_24 ?_
  refine lv_iload_n hx hb dX7_append_27 rfl (lv_at hl 2 rfl) ?_
  refine lv_iload_n hx hb dX7_append_28 rfl (lv_at hl 0 rfl) ?_
  refine lv_ishr hx hb dX7_append_29 ?_
  refine lv_topi (fun y_3 ey_3 => ?_)
  obtain ⟨y_4, ey_4⟩ : ∃ z : Int32, z = Int8.toInt32 (Int32.toInt8 y_3) := ⟨_, rfl⟩
  refine lv_i2b (v := y_4) hx hb dX7_append_30 ey_4.symm ?_
  refine ka_bast hx hb hC.1 hP hD hS 1 0 rfl rfl 8 rfl (by decide +kernel) (by decide +kernel) dX7_append_31 (fun H locs hP hD hS => ?_)
  have hP : va_P D vwCl [(h0, .inr (7, [.ref tb, .int 8])), (tb, .inl (ca 0, 1700, .inl (upd fb 8 (vp_nar .byte y_4))))] H := hP
  have hD : va_D A [(h0, .inr (7, [.ref tb, .int 8])), (tb, .inl (ca 0, 1700, .inl (upd fb 8 (vp_nar .byte y_4))))] := hD
  generalize (upd fb 8 (vp_nar .byte y_4)) = f_5 at hP hD
  refine lv_aload_n hx hb dX7_append_32 rfl (lv_at hl 1 rfl) ?_
  refine lv_dup hx hb dX7_append_33 rfl ?_
  refine va_get (D := D) (ci := 7) (v := .int 8) (C := RX7) (T := TX7) (N := 2) hx hb hts iw_X7_append_7 hown hC.1 hP 0 rfl rfl 1 (by decide +kernel) (hts (.fieldLink RX7 15 "FairWheel$Tape" "size" "I") (by decide +kernel)) (fun _ h9 => h9) rfl dX7_append_34 ?_
  refine lv_iconst (v := 1) hx hb dX7_append_37 (by decide +kernel) ?_
  refine lv_iadd hx hb dX7_append_38 ?_
  refine nt_i 9 (by decide +kernel) ?_
  refine va_put (D := D) (ci := 7) (v := .int 9) (ty := .int) (C := RX7) (T := TX7) (N := 2) hx hb hts iw_X7_append_7 tyX7 tyX7_ok nmX7 hown hC.1 hP hD hS 0 rfl rfl 1 (by decide +kernel) (hts (.fieldLink RX7 15 "FairWheel$Tape" "size" "I") (by decide +kernel)) (fun _ h9 => h9) rfl (by decide +kernel) rfl rfl (Nat.le_of_ble_eq_true rfl) dX7_append_39 (fun H locs hP hD hS => ?_)
  have hP : va_P D vwCl [(h0, .inr (7, [.ref tb, .int 9])), (tb, .inl (ca 0, 1700, .inl f_5))] H := hP
  have hD : va_D A [(h0, .inr (7, [.ref tb, .int 9])), (tb, .inl (ca 0, 1700, .inl f_5))] := hD
  refine lv_iinc (v := 16) (lv' := [(2, .int 16), (0, .ref h0), (1, .int x1)]) hx hb dX7_append_42 hl (k := 0) rfl (by decide +kernel) (by decide +kernel) rfl (fun ls hl => ?_)
  refine lv_goto (tgt := 3) hx hb dX7_append_45 (by decide +kernel) ?_
  refine lv_iload_n hx hb dX7_append_3 rfl (lv_at hl 0 rfl) ?_
  refine lv_if_lt (tgt := 48) hx hb dX7_append_4 (by decide +kernel) (fun c_6 => absurd c_6 (by decide +kernel)) (fun c_6 => ?_)
  refine lv_aload_n hx hb dX7_append_7 rfl (lv_at hl 1 rfl) ?_
  refine va_get (D := D) (ci := 7) (v := .int 9) (C := RX7) (T := TX7) (N := 2) hx hb hts iw_X7_append_7 hown hC.1 hP 0 rfl rfl 1 (by decide +kernel) (hts (.fieldLink RX7 15 "FairWheel$Tape" "size" "I") (by decide +kernel)) (fun _ h9 => h9) rfl dX7_append_8 ?_
  refine lv_aload_n hx hb dX7_append_11 rfl (lv_at hl 1 rfl) ?_
  refine va_get (D := D) (ci := 7) (v := .ref tb) (C := RX7) (T := TX7) (N := 2) hx hb hts iw_X7_append_7 hown hC.1 hP 0 rfl rfl 0 (by decide +kernel) (hts (.fieldLink RX7 9 "FairWheel$Tape" "bytes" "[B") (by decide +kernel)) (fun _ h9 => h9) rfl dX7_append_12 ?_
  refine va_alen (v := 1700) hx hb hC.1 hP 1 0 rfl rfl rfl dX7_append_15 ?_
  refine lv_icmp_ge (tgt := 48) hx hb dX7_append_16 (by decide +kernel) (fun c_7 => absurd c_7 (by decide +kernel)) (fun c_7 => ?_)
  refine lv_aload_n hx hb dX7_append_19 rfl (lv_at hl 1 rfl) ?_
  refine va_get (D := D) (ci := 7) (v := .ref tb) (C := RX7) (T := TX7) (N := 2) hx hb hts iw_X7_append_7 hown hC.1 hP 0 rfl rfl 0 (by decide +kernel) (hts (.fieldLink RX7 9 "FairWheel$Tape" "bytes" "[B") (by decide +kernel)) (fun _ h9 => h9) rfl dX7_append_20 ?_
  refine lv_aload_n hx hb dX7_append_23 rfl (lv_at hl 1 rfl) ?_
  refine va_get (D := D) (ci := 7) (v := .int 9) (C := RX7) (T := TX7) (N := 2) hx hb hts iw_X7_append_7 hown hC.1 hP 0 rfl rfl 1 (by decide +kernel) (hts (.fieldLink RX7 15 "FairWheel$Tape" "size" "I") (by decide +kernel)) (fun _ h9 => h9) rfl dX7_append_24 ?_
  refine lv_iload_n hx hb dX7_append_27 rfl (lv_at hl 2 rfl) ?_
  refine lv_iload_n hx hb dX7_append_28 rfl (lv_at hl 0 rfl) ?_
  refine lv_ishr hx hb dX7_append_29 ?_
  refine lv_topi (fun y_8 ey_8 => ?_)
  obtain ⟨y_9, ey_9⟩ : ∃ z : Int32, z = Int8.toInt32 (Int32.toInt8 y_8) := ⟨_, rfl⟩
  refine lv_i2b (v := y_9) hx hb dX7_append_30 ey_9.symm ?_
  refine ka_bast hx hb hC.1 hP hD hS 1 0 rfl rfl 9 rfl (by decide +kernel) (by decide +kernel) dX7_append_31 (fun H locs hP hD hS => ?_)
  have hP : va_P D vwCl [(h0, .inr (7, [.ref tb, .int 9])), (tb, .inl (ca 0, 1700, .inl (upd f_5 9 (vp_nar .byte y_9))))] H := hP
  have hD : va_D A [(h0, .inr (7, [.ref tb, .int 9])), (tb, .inl (ca 0, 1700, .inl (upd f_5 9 (vp_nar .byte y_9))))] := hD
  generalize (upd f_5 9 (vp_nar .byte y_9)) = f_10 at hP hD
  refine lv_aload_n hx hb dX7_append_32 rfl (lv_at hl 1 rfl) ?_
  refine lv_dup hx hb dX7_append_33 rfl ?_
  refine va_get (D := D) (ci := 7) (v := .int 9) (C := RX7) (T := TX7) (N := 2) hx hb hts iw_X7_append_7 hown hC.1 hP 0 rfl rfl 1 (by decide +kernel) (hts (.fieldLink RX7 15 "FairWheel$Tape" "size" "I") (by decide +kernel)) (fun _ h9 => h9) rfl dX7_append_34 ?_
  refine lv_iconst (v := 1) hx hb dX7_append_37 (by decide +kernel) ?_
  refine lv_iadd hx hb dX7_append_38 ?_
  refine nt_i 10 (by decide +kernel) ?_
  refine va_put (D := D) (ci := 7) (v := .int 10) (ty := .int) (C := RX7) (T := TX7) (N := 2) hx hb hts iw_X7_append_7 tyX7 tyX7_ok nmX7 hown hC.1 hP hD hS 0 rfl rfl 1 (by decide +kernel) (hts (.fieldLink RX7 15 "FairWheel$Tape" "size" "I") (by decide +kernel)) (fun _ h9 => h9) rfl (by decide +kernel) rfl rfl (Nat.le_of_ble_eq_true rfl) dX7_append_39 (fun H locs hP hD hS => ?_)
  have hP : va_P D vwCl [(h0, .inr (7, [.ref tb, .int 10])), (tb, .inl (ca 0, 1700, .inl f_10))] H := hP
  have hD : va_D A [(h0, .inr (7, [.ref tb, .int 10])), (tb, .inl (ca 0, 1700, .inl f_10))] := hD
  refine lv_iinc (v := 8) (lv' := [(2, .int 8), (0, .ref h0), (1, .int x1)]) hx hb dX7_append_42 hl (k := 0) rfl (by decide +kernel) (by decide +kernel) rfl (fun ls hl => ?_)
  refine lv_goto (tgt := 3) hx hb dX7_append_45 (by decide +kernel) ?_
  refine lv_iload_n hx hb dX7_append_3 rfl (lv_at hl 0 rfl) ?_
  refine lv_if_lt (tgt := 48) hx hb dX7_append_4 (by decide +kernel) (fun c_11 => absurd c_11 (by decide +kernel)) (fun c_11 => ?_)
  refine lv_aload_n hx hb dX7_append_7 rfl (lv_at hl 1 rfl) ?_
  refine va_get (D := D) (ci := 7) (v := .int 10) (C := RX7) (T := TX7) (N := 2) hx hb hts iw_X7_append_7 hown hC.1 hP 0 rfl rfl 1 (by decide +kernel) (hts (.fieldLink RX7 15 "FairWheel$Tape" "size" "I") (by decide +kernel)) (fun _ h9 => h9) rfl dX7_append_8 ?_
  refine lv_aload_n hx hb dX7_append_11 rfl (lv_at hl 1 rfl) ?_
  refine va_get (D := D) (ci := 7) (v := .ref tb) (C := RX7) (T := TX7) (N := 2) hx hb hts iw_X7_append_7 hown hC.1 hP 0 rfl rfl 0 (by decide +kernel) (hts (.fieldLink RX7 9 "FairWheel$Tape" "bytes" "[B") (by decide +kernel)) (fun _ h9 => h9) rfl dX7_append_12 ?_
  refine va_alen (v := 1700) hx hb hC.1 hP 1 0 rfl rfl rfl dX7_append_15 ?_
  refine lv_icmp_ge (tgt := 48) hx hb dX7_append_16 (by decide +kernel) (fun c_12 => absurd c_12 (by decide +kernel)) (fun c_12 => ?_)
  refine lv_aload_n hx hb dX7_append_19 rfl (lv_at hl 1 rfl) ?_
  refine va_get (D := D) (ci := 7) (v := .ref tb) (C := RX7) (T := TX7) (N := 2) hx hb hts iw_X7_append_7 hown hC.1 hP 0 rfl rfl 0 (by decide +kernel) (hts (.fieldLink RX7 9 "FairWheel$Tape" "bytes" "[B") (by decide +kernel)) (fun _ h9 => h9) rfl dX7_append_20 ?_
  refine lv_aload_n hx hb dX7_append_23 rfl (lv_at hl 1 rfl) ?_
  refine va_get (D := D) (ci := 7) (v := .int 10) (C := RX7) (T := TX7) (N := 2) hx hb hts iw_X7_append_7 hown hC.1 hP 0 rfl rfl 1 (by decide +kernel) (hts (.fieldLink RX7 15 "FairWheel$Tape" "size" "I") (by decide +kernel)) (fun _ h9 => h9) rfl dX7_append_24 ?_
  refine lv_iload_n hx hb dX7_append_27 rfl (lv_at hl 2 rfl) ?_
  refine lv_iload_n hx hb dX7_append_28 rfl (lv_at hl 0 rfl) ?_
  refine lv_ishr hx hb dX7_append_29 ?_
  refine lv_topi (fun y_13 ey_13 => ?_)
  obtain ⟨y_14, ey_14⟩ : ∃ z : Int32, z = Int8.toInt32 (Int32.toInt8 y_13) := ⟨_, rfl⟩
  refine lv_i2b (v := y_14) hx hb dX7_append_30 ey_14.symm ?_
  refine ka_bast hx hb hC.1 hP hD hS 1 0 rfl rfl 10 rfl (by decide +kernel) (by decide +kernel) dX7_append_31 (fun H locs hP hD hS => ?_)
  have hP : va_P D vwCl [(h0, .inr (7, [.ref tb, .int 10])), (tb, .inl (ca 0, 1700, .inl (upd f_10 10 (vp_nar .byte y_14))))] H := hP
  have hD : va_D A [(h0, .inr (7, [.ref tb, .int 10])), (tb, .inl (ca 0, 1700, .inl (upd f_10 10 (vp_nar .byte y_14))))] := hD
  generalize (upd f_10 10 (vp_nar .byte y_14)) = f_15 at hP hD
  refine lv_aload_n hx hb dX7_append_32 rfl (lv_at hl 1 rfl) ?_
  refine lv_dup hx hb dX7_append_33 rfl ?_
  refine va_get (D := D) (ci := 7) (v := .int 10) (C := RX7) (T := TX7) (N := 2) hx hb hts iw_X7_append_7 hown hC.1 hP 0 rfl rfl 1 (by decide +kernel) (hts (.fieldLink RX7 15 "FairWheel$Tape" "size" "I") (by decide +kernel)) (fun _ h9 => h9) rfl dX7_append_34 ?_
  refine lv_iconst (v := 1) hx hb dX7_append_37 (by decide +kernel) ?_
  refine lv_iadd hx hb dX7_append_38 ?_
  refine nt_i 11 (by decide +kernel) ?_
  refine va_put (D := D) (ci := 7) (v := .int 11) (ty := .int) (C := RX7) (T := TX7) (N := 2) hx hb hts iw_X7_append_7 tyX7 tyX7_ok nmX7 hown hC.1 hP hD hS 0 rfl rfl 1 (by decide +kernel) (hts (.fieldLink RX7 15 "FairWheel$Tape" "size" "I") (by decide +kernel)) (fun _ h9 => h9) rfl (by decide +kernel) rfl rfl (Nat.le_of_ble_eq_true rfl) dX7_append_39 (fun H locs hP hD hS => ?_)
  have hP : va_P D vwCl [(h0, .inr (7, [.ref tb, .int 11])), (tb, .inl (ca 0, 1700, .inl f_15))] H := hP
  have hD : va_D A [(h0, .inr (7, [.ref tb, .int 11])), (tb, .inl (ca 0, 1700, .inl f_15))] := hD
  refine lv_iinc (v := 0) (lv' := [(2, .int 0), (0, .ref h0), (1, .int x1)]) hx hb dX7_append_42 hl (k := 0) rfl (by decide +kernel) (by decide +kernel) rfl (fun ls hl => ?_)
  refine lv_goto (tgt := 3) hx hb dX7_append_45 (by decide +kernel) ?_
  refine lv_iload_n hx hb dX7_append_3 rfl (lv_at hl 0 rfl) ?_
  refine lv_if_lt (tgt := 48) hx hb dX7_append_4 (by decide +kernel) (fun c_16 => absurd c_16 (by decide +kernel)) (fun c_16 => ?_)
  refine lv_aload_n hx hb dX7_append_7 rfl (lv_at hl 1 rfl) ?_
  refine va_get (D := D) (ci := 7) (v := .int 11) (C := RX7) (T := TX7) (N := 2) hx hb hts iw_X7_append_7 hown hC.1 hP 0 rfl rfl 1 (by decide +kernel) (hts (.fieldLink RX7 15 "FairWheel$Tape" "size" "I") (by decide +kernel)) (fun _ h9 => h9) rfl dX7_append_8 ?_
  refine lv_aload_n hx hb dX7_append_11 rfl (lv_at hl 1 rfl) ?_
  refine va_get (D := D) (ci := 7) (v := .ref tb) (C := RX7) (T := TX7) (N := 2) hx hb hts iw_X7_append_7 hown hC.1 hP 0 rfl rfl 0 (by decide +kernel) (hts (.fieldLink RX7 9 "FairWheel$Tape" "bytes" "[B") (by decide +kernel)) (fun _ h9 => h9) rfl dX7_append_12 ?_
  refine va_alen (v := 1700) hx hb hC.1 hP 1 0 rfl rfl rfl dX7_append_15 ?_
  refine lv_icmp_ge (tgt := 48) hx hb dX7_append_16 (by decide +kernel) (fun c_17 => absurd c_17 (by decide +kernel)) (fun c_17 => ?_)
  refine lv_aload_n hx hb dX7_append_19 rfl (lv_at hl 1 rfl) ?_
  refine va_get (D := D) (ci := 7) (v := .ref tb) (C := RX7) (T := TX7) (N := 2) hx hb hts iw_X7_append_7 hown hC.1 hP 0 rfl rfl 0 (by decide +kernel) (hts (.fieldLink RX7 9 "FairWheel$Tape" "bytes" "[B") (by decide +kernel)) (fun _ h9 => h9) rfl dX7_append_20 ?_
  refine lv_aload_n hx hb dX7_append_23 rfl (lv_at hl 1 rfl) ?_
  refine va_get (D := D) (ci := 7) (v := .int 11) (C := RX7) (T := TX7) (N := 2) hx hb hts iw_X7_append_7 hown hC.1 hP 0 rfl rfl 1 (by decide +kernel) (hts (.fieldLink RX7 15 "FairWheel$Tape" "size" "I") (by decide +kernel)) (fun _ h9 => h9) rfl dX7_append_24 ?_
  refine lv_iload_n hx hb dX7_append_27 rfl (lv_at hl 2 rfl) ?_
  refine lv_iload_n hx hb dX7_append_28 rfl (lv_at hl 0 rfl) ?_
  refine lv_ishr hx hb dX7_append_29 ?_
  refine lv_topi (fun y_18 ey_18 => ?_)
  obtain ⟨y_19, ey_19⟩ : ∃ z : Int32, z = Int8.toInt32 (Int32.toInt8 y_18) := ⟨_, rfl⟩
  refine lv_i2b (v := y_19) hx hb dX7_append_30 ey_19.symm ?_
  refine ka_bast hx hb hC.1 hP hD hS 1 0 rfl rfl 11 rfl (by decide +kernel) (by decide +kernel) dX7_append_31 (fun H locs hP hD hS => ?_)
  have hP : va_P D vwCl [(h0, .inr (7, [.ref tb, .int 11])), (tb, .inl (ca 0, 1700, .inl (upd f_15 11 (vp_nar .byte y_19))))] H := hP
  have hD : va_D A [(h0, .inr (7, [.ref tb, .int 11])), (tb, .inl (ca 0, 1700, .inl (upd f_15 11 (vp_nar .byte y_19))))] := hD
  generalize (upd f_15 11 (vp_nar .byte y_19)) = f_20 at hP hD
  refine lv_aload_n hx hb dX7_append_32 rfl (lv_at hl 1 rfl) ?_
  refine lv_dup hx hb dX7_append_33 rfl ?_
  refine va_get (D := D) (ci := 7) (v := .int 11) (C := RX7) (T := TX7) (N := 2) hx hb hts iw_X7_append_7 hown hC.1 hP 0 rfl rfl 1 (by decide +kernel) (hts (.fieldLink RX7 15 "FairWheel$Tape" "size" "I") (by decide +kernel)) (fun _ h9 => h9) rfl dX7_append_34 ?_
  refine lv_iconst (v := 1) hx hb dX7_append_37 (by decide +kernel) ?_
  refine lv_iadd hx hb dX7_append_38 ?_
  refine nt_i 12 (by decide +kernel) ?_
  refine va_put (D := D) (ci := 7) (v := .int 12) (ty := .int) (C := RX7) (T := TX7) (N := 2) hx hb hts iw_X7_append_7 tyX7 tyX7_ok nmX7 hown hC.1 hP hD hS 0 rfl rfl 1 (by decide +kernel) (hts (.fieldLink RX7 15 "FairWheel$Tape" "size" "I") (by decide +kernel)) (fun _ h9 => h9) rfl (by decide +kernel) rfl rfl (Nat.le_of_ble_eq_true rfl) dX7_append_39 (fun H locs hP hD hS => ?_)
  have hP : va_P D vwCl [(h0, .inr (7, [.ref tb, .int 12])), (tb, .inl (ca 0, 1700, .inl f_20))] H := hP
  have hD : va_D A [(h0, .inr (7, [.ref tb, .int 12])), (tb, .inl (ca 0, 1700, .inl f_20))] := hD
  refine lv_iinc (v := (-8)) (lv' := [(2, .int (-8)), (0, .ref h0), (1, .int x1)]) hx hb dX7_append_42 hl (k := 0) rfl (by decide +kernel) (by decide +kernel) rfl (fun ls hl => ?_)
  refine lv_goto (tgt := 3) hx hb dX7_append_45 (by decide +kernel) ?_
  refine lv_iload_n hx hb dX7_append_3 rfl (lv_at hl 0 rfl) ?_
  refine lv_if_lt (tgt := 48) hx hb dX7_append_4 (by decide +kernel) (fun c_21 => ?_) (fun c_21 => absurd (by decide +kernel) c_21)
  exact W.vret hx hb hr (fun t ht hW => ⟨⟨f_20, rfl, trivial, by rw [ht]; exact hP.sub [0, 1] rfl, hDA (hD.sub [0, 1] (by decide +kernel) rfl)⟩, hS.F ht⟩) hS.2.2 dX7_append_48
set_option maxHeartbeats 4000000 in
set_option maxRecDepth 100000 in
theorem k_X7_append_12 (l : Launch) (D : va_G) (ca : Nat → ClassId) (sz : Nat) (h0 : Nat) (tb : Nat) (fb : Nat → Int32) (x1 : Int32) : Met l yX7_append wsX7_append ({ frames := 0, cells := 0, slots := 0, locals := 0 }) (PC [.ref h0, .int x1] sz D ca [(h0, .inr (7, [.ref tb, .int 12])), (tb, .inl (ca 0, 1700, .inl fb))]) (QV (fun (u : (Nat → Int32)) => True) (fun (u : (Nat → Int32)) => [(h0, .inr (7, [.ref tb, .int 16])), (tb, .inl (ca 0, 1700, .inl u))]) [(h0, .inr (7, [.ref tb, .int 12])), (tb, .inl (ca 0, 1700, .inl fb))] sz D) 0 0 (va_A [(h0, .inr (7, [.ref tb, .int 12])), (tb, .inl (ca 0, 1700, .inl fb))] sz) := by
  refine Met.ofW (cc := cX7_append) (maxL := 3) (ret := none) (by decide +kernel) rfl ?_
  intro p e s m args below meth c s₁ B hml hv
  obtain ⟨rfl, hsz, hP, hC, hD0⟩ := hv
  have hx := B.exec
  have hb := B.bytes
  have hr := B.returns
  have hts := atoms_spec (ws := wsX7_append) B.pre
  have hown : s.vm.findClass RX7 = some m.cls := findClass_of_methodNamed B.named
  have hlocks := B.notSynchronized
  subst hsz
  have hD := hD0.self (sz := s.heap.size)
  dsimp only [QV, QI, QL, BQ]
  generalize hAe : va_A [(h0, .inr (7, [.ref tb, .int 12])), (tb, .inl (ca 0, 1700, .inl fb))] s.heap.size = A at hD ⊢
  have hA : ∀ q : Nat, s.heap.size ≤ q → A q := fun q h => by rw [← hAe]; exact Or.inr h
  have hDA : ∀ {w : va_W}, va_D A w → va_D (va_A [(h0, .inr (7, [.ref tb, .int 12])), (tb, .inl (ca 0, 1700, .inl fb))] s.heap.size) w := fun h => by rw [hAe]; exact h
  have hS : va_S A s.heap s.heap [] := va_S.rf
  have hP : va_P D vwCl [(h0, .inr (7, [.ref tb, .int 12])), (tb, .inl (ca 0, 1700, .inl fb))] s.heap := hP
  have hl := lv_entry ([.ref h0, .int x1]) (n := 3) (Nat.le_of_ble_eq_true rfl)
  rw [lg_entry_eq]
  generalize (lg_sl ([.ref h0, .int x1]) ++ List.replicate (3 - (lg_sl ([.ref h0, .int x1])).length) Slot.unset).toArray = ls at hl ⊢
  have hl : lv_has ls 3 [(0, .ref h0), (1, .int x1)] := hl
  refine lv_bipush (v := 24) hx hb dX7_append_0 (by decide +kernel) ?_
  refine lv_istore_n (lv' := [(2, .int 24), (0, .ref h0), (1, .int x1)]) hx hb dX7_append_2 rfl hl (by decide +kernel) rfl (fun ls hl => ?_)
  refine lv_iload_n hx hb dX7_append_3 rfl (lv_at hl 0 rfl) ?_
  refine lv_if_lt (tgt := 48) hx hb dX7_append_4 (by decide +kernel) (fun c_1 => absurd c_1 (by decide +kernel)) (fun c_1 => ?_)
  refine lv_aload_n hx hb dX7_append_7 rfl (lv_at hl 1 rfl) ?_
  refine va_get (D := D) (ci := 7) (v := .int 12) (C := RX7) (T := TX7) (N := 2) hx hb hts iw_X7_append_7 hown hC.1 hP 0 rfl rfl 1 (by decide +kernel) (hts (.fieldLink RX7 15 "FairWheel$Tape" "size" "I") (by decide +kernel)) (fun _ h9 => h9) rfl dX7_append_8 ?_
  refine lv_aload_n hx hb dX7_append_11 rfl (lv_at hl 1 rfl) ?_
  refine va_get (D := D) (ci := 7) (v := .ref tb) (C := RX7) (T := TX7) (N := 2) hx hb hts iw_X7_append_7 hown hC.1 hP 0 rfl rfl 0 (by decide +kernel) (hts (.fieldLink RX7 9 "FairWheel$Tape" "bytes" "[B") (by decide +kernel)) (fun _ h9 => h9) rfl dX7_append_12 ?_
  refine va_alen (v := 1700) hx hb hC.1 hP 1 0 rfl rfl rfl dX7_append_15 ?_
  refine lv_icmp_ge (tgt := 48) hx hb dX7_append_16 (by decide +kernel) (fun c_2 => absurd c_2 (by decide +kernel)) (fun c_2 => ?_)
  refine lv_aload_n hx hb dX7_append_19 rfl (lv_at hl 1 rfl) ?_
  refine va_get (D := D) (ci := 7) (v := .ref tb) (C := RX7) (T := TX7) (N := 2) hx hb hts iw_X7_append_7 hown hC.1 hP 0 rfl rfl 0 (by decide +kernel) (hts (.fieldLink RX7 9 "FairWheel$Tape" "bytes" "[B") (by decide +kernel)) (fun _ h9 => h9) rfl dX7_append_20 ?_
  refine lv_aload_n hx hb dX7_append_23 rfl (lv_at hl 1 rfl) ?_
  refine va_get (D := D) (ci := 7) (v := .int 12) (C := RX7) (T := TX7) (N := 2) hx hb hts iw_X7_append_7 hown hC.1 hP 0 rfl rfl 1 (by decide +kernel) (hts (.fieldLink RX7 15 "FairWheel$Tape" "size" "I") (by decide +kernel)) (fun _ h9 => h9) rfl dX7_append_24 ?_
  refine lv_iload_n hx hb dX7_append_27 rfl (lv_at hl 2 rfl) ?_
  refine lv_iload_n hx hb dX7_append_28 rfl (lv_at hl 0 rfl) ?_
  refine lv_ishr hx hb dX7_append_29 ?_
  refine lv_topi (fun y_3 ey_3 => ?_)
  obtain ⟨y_4, ey_4⟩ : ∃ z : Int32, z = Int8.toInt32 (Int32.toInt8 y_3) := ⟨_, rfl⟩
  refine lv_i2b (v := y_4) hx hb dX7_append_30 ey_4.symm ?_
  refine ka_bast hx hb hC.1 hP hD hS 1 0 rfl rfl 12 rfl (by decide +kernel) (by decide +kernel) dX7_append_31 (fun H locs hP hD hS => ?_)
  have hP : va_P D vwCl [(h0, .inr (7, [.ref tb, .int 12])), (tb, .inl (ca 0, 1700, .inl (upd fb 12 (vp_nar .byte y_4))))] H := hP
  have hD : va_D A [(h0, .inr (7, [.ref tb, .int 12])), (tb, .inl (ca 0, 1700, .inl (upd fb 12 (vp_nar .byte y_4))))] := hD
  generalize (upd fb 12 (vp_nar .byte y_4)) = f_5 at hP hD
  refine lv_aload_n hx hb dX7_append_32 rfl (lv_at hl 1 rfl) ?_
  refine lv_dup hx hb dX7_append_33 rfl ?_
  refine va_get (D := D) (ci := 7) (v := .int 12) (C := RX7) (T := TX7) (N := 2) hx hb hts iw_X7_append_7 hown hC.1 hP 0 rfl rfl 1 (by decide +kernel) (hts (.fieldLink RX7 15 "FairWheel$Tape" "size" "I") (by decide +kernel)) (fun _ h9 => h9) rfl dX7_append_34 ?_
  refine lv_iconst (v := 1) hx hb dX7_append_37 (by decide +kernel) ?_
  refine lv_iadd hx hb dX7_append_38 ?_
  refine nt_i 13 (by decide +kernel) ?_
  refine va_put (D := D) (ci := 7) (v := .int 13) (ty := .int) (C := RX7) (T := TX7) (N := 2) hx hb hts iw_X7_append_7 tyX7 tyX7_ok nmX7 hown hC.1 hP hD hS 0 rfl rfl 1 (by decide +kernel) (hts (.fieldLink RX7 15 "FairWheel$Tape" "size" "I") (by decide +kernel)) (fun _ h9 => h9) rfl (by decide +kernel) rfl rfl (Nat.le_of_ble_eq_true rfl) dX7_append_39 (fun H locs hP hD hS => ?_)
  have hP : va_P D vwCl [(h0, .inr (7, [.ref tb, .int 13])), (tb, .inl (ca 0, 1700, .inl f_5))] H := hP
  have hD : va_D A [(h0, .inr (7, [.ref tb, .int 13])), (tb, .inl (ca 0, 1700, .inl f_5))] := hD
  refine lv_iinc (v := 16) (lv' := [(2, .int 16), (0, .ref h0), (1, .int x1)]) hx hb dX7_append_42 hl (k := 0) rfl (by decide +kernel) (by decide +kernel) rfl (fun ls hl => ?_)
  refine lv_goto (tgt := 3) hx hb dX7_append_45 (by decide +kernel) ?_
  refine lv_iload_n hx hb dX7_append_3 rfl (lv_at hl 0 rfl) ?_
  refine lv_if_lt (tgt := 48) hx hb dX7_append_4 (by decide +kernel) (fun c_6 => absurd c_6 (by decide +kernel)) (fun c_6 => ?_)
  refine lv_aload_n hx hb dX7_append_7 rfl (lv_at hl 1 rfl) ?_
  refine va_get (D := D) (ci := 7) (v := .int 13) (C := RX7) (T := TX7) (N := 2) hx hb hts iw_X7_append_7 hown hC.1 hP 0 rfl rfl 1 (by decide +kernel) (hts (.fieldLink RX7 15 "FairWheel$Tape" "size" "I") (by decide +kernel)) (fun _ h9 => h9) rfl dX7_append_8 ?_
  refine lv_aload_n hx hb dX7_append_11 rfl (lv_at hl 1 rfl) ?_
  refine va_get (D := D) (ci := 7) (v := .ref tb) (C := RX7) (T := TX7) (N := 2) hx hb hts iw_X7_append_7 hown hC.1 hP 0 rfl rfl 0 (by decide +kernel) (hts (.fieldLink RX7 9 "FairWheel$Tape" "bytes" "[B") (by decide +kernel)) (fun _ h9 => h9) rfl dX7_append_12 ?_
  refine va_alen (v := 1700) hx hb hC.1 hP 1 0 rfl rfl rfl dX7_append_15 ?_
  refine lv_icmp_ge (tgt := 48) hx hb dX7_append_16 (by decide +kernel) (fun c_7 => absurd c_7 (by decide +kernel)) (fun c_7 => ?_)
  refine lv_aload_n hx hb dX7_append_19 rfl (lv_at hl 1 rfl) ?_
  refine va_get (D := D) (ci := 7) (v := .ref tb) (C := RX7) (T := TX7) (N := 2) hx hb hts iw_X7_append_7 hown hC.1 hP 0 rfl rfl 0 (by decide +kernel) (hts (.fieldLink RX7 9 "FairWheel$Tape" "bytes" "[B") (by decide +kernel)) (fun _ h9 => h9) rfl dX7_append_20 ?_
  refine lv_aload_n hx hb dX7_append_23 rfl (lv_at hl 1 rfl) ?_
  refine va_get (D := D) (ci := 7) (v := .int 13) (C := RX7) (T := TX7) (N := 2) hx hb hts iw_X7_append_7 hown hC.1 hP 0 rfl rfl 1 (by decide +kernel) (hts (.fieldLink RX7 15 "FairWheel$Tape" "size" "I") (by decide +kernel)) (fun _ h9 => h9) rfl dX7_append_24 ?_
  refine lv_iload_n hx hb dX7_append_27 rfl (lv_at hl 2 rfl) ?_
  refine lv_iload_n hx hb dX7_append_28 rfl (lv_at hl 0 rfl) ?_
  refine lv_ishr hx hb dX7_append_29 ?_
  refine lv_topi (fun y_8 ey_8 => ?_)
  obtain ⟨y_9, ey_9⟩ : ∃ z : Int32, z = Int8.toInt32 (Int32.toInt8 y_8) := ⟨_, rfl⟩
  refine lv_i2b (v := y_9) hx hb dX7_append_30 ey_9.symm ?_
  refine ka_bast hx hb hC.1 hP hD hS 1 0 rfl rfl 13 rfl (by decide +kernel) (by decide +kernel) dX7_append_31 (fun H locs hP hD hS => ?_)
  have hP : va_P D vwCl [(h0, .inr (7, [.ref tb, .int 13])), (tb, .inl (ca 0, 1700, .inl (upd f_5 13 (vp_nar .byte y_9))))] H := hP
  have hD : va_D A [(h0, .inr (7, [.ref tb, .int 13])), (tb, .inl (ca 0, 1700, .inl (upd f_5 13 (vp_nar .byte y_9))))] := hD
  generalize (upd f_5 13 (vp_nar .byte y_9)) = f_10 at hP hD
  refine lv_aload_n hx hb dX7_append_32 rfl (lv_at hl 1 rfl) ?_
  refine lv_dup hx hb dX7_append_33 rfl ?_
  refine va_get (D := D) (ci := 7) (v := .int 13) (C := RX7) (T := TX7) (N := 2) hx hb hts iw_X7_append_7 hown hC.1 hP 0 rfl rfl 1 (by decide +kernel) (hts (.fieldLink RX7 15 "FairWheel$Tape" "size" "I") (by decide +kernel)) (fun _ h9 => h9) rfl dX7_append_34 ?_
  refine lv_iconst (v := 1) hx hb dX7_append_37 (by decide +kernel) ?_
  refine lv_iadd hx hb dX7_append_38 ?_
  refine nt_i 14 (by decide +kernel) ?_
  refine va_put (D := D) (ci := 7) (v := .int 14) (ty := .int) (C := RX7) (T := TX7) (N := 2) hx hb hts iw_X7_append_7 tyX7 tyX7_ok nmX7 hown hC.1 hP hD hS 0 rfl rfl 1 (by decide +kernel) (hts (.fieldLink RX7 15 "FairWheel$Tape" "size" "I") (by decide +kernel)) (fun _ h9 => h9) rfl (by decide +kernel) rfl rfl (Nat.le_of_ble_eq_true rfl) dX7_append_39 (fun H locs hP hD hS => ?_)
  have hP : va_P D vwCl [(h0, .inr (7, [.ref tb, .int 14])), (tb, .inl (ca 0, 1700, .inl f_10))] H := hP
  have hD : va_D A [(h0, .inr (7, [.ref tb, .int 14])), (tb, .inl (ca 0, 1700, .inl f_10))] := hD
  refine lv_iinc (v := 8) (lv' := [(2, .int 8), (0, .ref h0), (1, .int x1)]) hx hb dX7_append_42 hl (k := 0) rfl (by decide +kernel) (by decide +kernel) rfl (fun ls hl => ?_)
  refine lv_goto (tgt := 3) hx hb dX7_append_45 (by decide +kernel) ?_
  refine lv_iload_n hx hb dX7_append_3 rfl (lv_at hl 0 rfl) ?_
  refine lv_if_lt (tgt := 48) hx hb dX7_append_4 (by decide +kernel) (fun c_11 => absurd c_11 (by decide +kernel)) (fun c_11 => ?_)
  refine lv_aload_n hx hb dX7_append_7 rfl (lv_at hl 1 rfl) ?_
  refine va_get (D := D) (ci := 7) (v := .int 14) (C := RX7) (T := TX7) (N := 2) hx hb hts iw_X7_append_7 hown hC.1 hP 0 rfl rfl 1 (by decide +kernel) (hts (.fieldLink RX7 15 "FairWheel$Tape" "size" "I") (by decide +kernel)) (fun _ h9 => h9) rfl dX7_append_8 ?_
  refine lv_aload_n hx hb dX7_append_11 rfl (lv_at hl 1 rfl) ?_
  refine va_get (D := D) (ci := 7) (v := .ref tb) (C := RX7) (T := TX7) (N := 2) hx hb hts iw_X7_append_7 hown hC.1 hP 0 rfl rfl 0 (by decide +kernel) (hts (.fieldLink RX7 9 "FairWheel$Tape" "bytes" "[B") (by decide +kernel)) (fun _ h9 => h9) rfl dX7_append_12 ?_
  refine va_alen (v := 1700) hx hb hC.1 hP 1 0 rfl rfl rfl dX7_append_15 ?_
  refine lv_icmp_ge (tgt := 48) hx hb dX7_append_16 (by decide +kernel) (fun c_12 => absurd c_12 (by decide +kernel)) (fun c_12 => ?_)
  refine lv_aload_n hx hb dX7_append_19 rfl (lv_at hl 1 rfl) ?_
  refine va_get (D := D) (ci := 7) (v := .ref tb) (C := RX7) (T := TX7) (N := 2) hx hb hts iw_X7_append_7 hown hC.1 hP 0 rfl rfl 0 (by decide +kernel) (hts (.fieldLink RX7 9 "FairWheel$Tape" "bytes" "[B") (by decide +kernel)) (fun _ h9 => h9) rfl dX7_append_20 ?_
  refine lv_aload_n hx hb dX7_append_23 rfl (lv_at hl 1 rfl) ?_
  refine va_get (D := D) (ci := 7) (v := .int 14) (C := RX7) (T := TX7) (N := 2) hx hb hts iw_X7_append_7 hown hC.1 hP 0 rfl rfl 1 (by decide +kernel) (hts (.fieldLink RX7 15 "FairWheel$Tape" "size" "I") (by decide +kernel)) (fun _ h9 => h9) rfl dX7_append_24 ?_
  refine lv_iload_n hx hb dX7_append_27 rfl (lv_at hl 2 rfl) ?_
  refine lv_iload_n hx hb dX7_append_28 rfl (lv_at hl 0 rfl) ?_
  refine lv_ishr hx hb dX7_append_29 ?_
  refine lv_topi (fun y_13 ey_13 => ?_)
  obtain ⟨y_14, ey_14⟩ : ∃ z : Int32, z = Int8.toInt32 (Int32.toInt8 y_13) := ⟨_, rfl⟩
  refine lv_i2b (v := y_14) hx hb dX7_append_30 ey_14.symm ?_
  refine ka_bast hx hb hC.1 hP hD hS 1 0 rfl rfl 14 rfl (by decide +kernel) (by decide +kernel) dX7_append_31 (fun H locs hP hD hS => ?_)
  have hP : va_P D vwCl [(h0, .inr (7, [.ref tb, .int 14])), (tb, .inl (ca 0, 1700, .inl (upd f_10 14 (vp_nar .byte y_14))))] H := hP
  have hD : va_D A [(h0, .inr (7, [.ref tb, .int 14])), (tb, .inl (ca 0, 1700, .inl (upd f_10 14 (vp_nar .byte y_14))))] := hD
  generalize (upd f_10 14 (vp_nar .byte y_14)) = f_15 at hP hD
  refine lv_aload_n hx hb dX7_append_32 rfl (lv_at hl 1 rfl) ?_
  refine lv_dup hx hb dX7_append_33 rfl ?_
  refine va_get (D := D) (ci := 7) (v := .int 14) (C := RX7) (T := TX7) (N := 2) hx hb hts iw_X7_append_7 hown hC.1 hP 0 rfl rfl 1 (by decide +kernel) (hts (.fieldLink RX7 15 "FairWheel$Tape" "size" "I") (by decide +kernel)) (fun _ h9 => h9) rfl dX7_append_34 ?_
  refine lv_iconst (v := 1) hx hb dX7_append_37 (by decide +kernel) ?_
  refine lv_iadd hx hb dX7_append_38 ?_
  refine nt_i 15 (by decide +kernel) ?_
  refine va_put (D := D) (ci := 7) (v := .int 15) (ty := .int) (C := RX7) (T := TX7) (N := 2) hx hb hts iw_X7_append_7 tyX7 tyX7_ok nmX7 hown hC.1 hP hD hS 0 rfl rfl 1 (by decide +kernel) (hts (.fieldLink RX7 15 "FairWheel$Tape" "size" "I") (by decide +kernel)) (fun _ h9 => h9) rfl (by decide +kernel) rfl rfl (Nat.le_of_ble_eq_true rfl) dX7_append_39 (fun H locs hP hD hS => ?_)
  have hP : va_P D vwCl [(h0, .inr (7, [.ref tb, .int 15])), (tb, .inl (ca 0, 1700, .inl f_15))] H := hP
  have hD : va_D A [(h0, .inr (7, [.ref tb, .int 15])), (tb, .inl (ca 0, 1700, .inl f_15))] := hD
  refine lv_iinc (v := 0) (lv' := [(2, .int 0), (0, .ref h0), (1, .int x1)]) hx hb dX7_append_42 hl (k := 0) rfl (by decide +kernel) (by decide +kernel) rfl (fun ls hl => ?_)
  refine lv_goto (tgt := 3) hx hb dX7_append_45 (by decide +kernel) ?_
  refine lv_iload_n hx hb dX7_append_3 rfl (lv_at hl 0 rfl) ?_
  refine lv_if_lt (tgt := 48) hx hb dX7_append_4 (by decide +kernel) (fun c_16 => absurd c_16 (by decide +kernel)) (fun c_16 => ?_)
  refine lv_aload_n hx hb dX7_append_7 rfl (lv_at hl 1 rfl) ?_
  refine va_get (D := D) (ci := 7) (v := .int 15) (C := RX7) (T := TX7) (N := 2) hx hb hts iw_X7_append_7 hown hC.1 hP 0 rfl rfl 1 (by decide +kernel) (hts (.fieldLink RX7 15 "FairWheel$Tape" "size" "I") (by decide +kernel)) (fun _ h9 => h9) rfl dX7_append_8 ?_
  refine lv_aload_n hx hb dX7_append_11 rfl (lv_at hl 1 rfl) ?_
  refine va_get (D := D) (ci := 7) (v := .ref tb) (C := RX7) (T := TX7) (N := 2) hx hb hts iw_X7_append_7 hown hC.1 hP 0 rfl rfl 0 (by decide +kernel) (hts (.fieldLink RX7 9 "FairWheel$Tape" "bytes" "[B") (by decide +kernel)) (fun _ h9 => h9) rfl dX7_append_12 ?_
  refine va_alen (v := 1700) hx hb hC.1 hP 1 0 rfl rfl rfl dX7_append_15 ?_
  refine lv_icmp_ge (tgt := 48) hx hb dX7_append_16 (by decide +kernel) (fun c_17 => absurd c_17 (by decide +kernel)) (fun c_17 => ?_)
  refine lv_aload_n hx hb dX7_append_19 rfl (lv_at hl 1 rfl) ?_
  refine va_get (D := D) (ci := 7) (v := .ref tb) (C := RX7) (T := TX7) (N := 2) hx hb hts iw_X7_append_7 hown hC.1 hP 0 rfl rfl 0 (by decide +kernel) (hts (.fieldLink RX7 9 "FairWheel$Tape" "bytes" "[B") (by decide +kernel)) (fun _ h9 => h9) rfl dX7_append_20 ?_
  refine lv_aload_n hx hb dX7_append_23 rfl (lv_at hl 1 rfl) ?_
  refine va_get (D := D) (ci := 7) (v := .int 15) (C := RX7) (T := TX7) (N := 2) hx hb hts iw_X7_append_7 hown hC.1 hP 0 rfl rfl 1 (by decide +kernel) (hts (.fieldLink RX7 15 "FairWheel$Tape" "size" "I") (by decide +kernel)) (fun _ h9 => h9) rfl dX7_append_24 ?_
  refine lv_iload_n hx hb dX7_append_27 rfl (lv_at hl 2 rfl) ?_
  refine lv_iload_n hx hb dX7_append_28 rfl (lv_at hl 0 rfl) ?_
  refine lv_ishr hx hb dX7_append_29 ?_
  refine lv_topi (fun y_18 ey_18 => ?_)
  obtain ⟨y_19, ey_19⟩ : ∃ z : Int32, z = Int8.toInt32 (Int32.toInt8 y_18) := ⟨_, rfl⟩
  refine lv_i2b (v := y_19) hx hb dX7_append_30 ey_19.symm ?_
  refine ka_bast hx hb hC.1 hP hD hS 1 0 rfl rfl 15 rfl (by decide +kernel) (by decide +kernel) dX7_append_31 (fun H locs hP hD hS => ?_)
  have hP : va_P D vwCl [(h0, .inr (7, [.ref tb, .int 15])), (tb, .inl (ca 0, 1700, .inl (upd f_15 15 (vp_nar .byte y_19))))] H := hP
  have hD : va_D A [(h0, .inr (7, [.ref tb, .int 15])), (tb, .inl (ca 0, 1700, .inl (upd f_15 15 (vp_nar .byte y_19))))] := hD
  generalize (upd f_15 15 (vp_nar .byte y_19)) = f_20 at hP hD
  refine lv_aload_n hx hb dX7_append_32 rfl (lv_at hl 1 rfl) ?_
  refine lv_dup hx hb dX7_append_33 rfl ?_
  refine va_get (D := D) (ci := 7) (v := .int 15) (C := RX7) (T := TX7) (N := 2) hx hb hts iw_X7_append_7 hown hC.1 hP 0 rfl rfl 1 (by decide +kernel) (hts (.fieldLink RX7 15 "FairWheel$Tape" "size" "I") (by decide +kernel)) (fun _ h9 => h9) rfl dX7_append_34 ?_
  refine lv_iconst (v := 1) hx hb dX7_append_37 (by decide +kernel) ?_
  refine lv_iadd hx hb dX7_append_38 ?_
  refine nt_i 16 (by decide +kernel) ?_
  refine va_put (D := D) (ci := 7) (v := .int 16) (ty := .int) (C := RX7) (T := TX7) (N := 2) hx hb hts iw_X7_append_7 tyX7 tyX7_ok nmX7 hown hC.1 hP hD hS 0 rfl rfl 1 (by decide +kernel) (hts (.fieldLink RX7 15 "FairWheel$Tape" "size" "I") (by decide +kernel)) (fun _ h9 => h9) rfl (by decide +kernel) rfl rfl (Nat.le_of_ble_eq_true rfl) dX7_append_39 (fun H locs hP hD hS => ?_)
  have hP : va_P D vwCl [(h0, .inr (7, [.ref tb, .int 16])), (tb, .inl (ca 0, 1700, .inl f_20))] H := hP
  have hD : va_D A [(h0, .inr (7, [.ref tb, .int 16])), (tb, .inl (ca 0, 1700, .inl f_20))] := hD
  refine lv_iinc (v := (-8)) (lv' := [(2, .int (-8)), (0, .ref h0), (1, .int x1)]) hx hb dX7_append_42 hl (k := 0) rfl (by decide +kernel) (by decide +kernel) rfl (fun ls hl => ?_)
  refine lv_goto (tgt := 3) hx hb dX7_append_45 (by decide +kernel) ?_
  refine lv_iload_n hx hb dX7_append_3 rfl (lv_at hl 0 rfl) ?_
  refine lv_if_lt (tgt := 48) hx hb dX7_append_4 (by decide +kernel) (fun c_21 => ?_) (fun c_21 => absurd (by decide +kernel) c_21)
  exact W.vret hx hb hr (fun t ht hW => ⟨⟨f_20, rfl, trivial, by rw [ht]; exact hP.sub [0, 1] rfl, hDA (hD.sub [0, 1] (by decide +kernel) rfl)⟩, hS.F ht⟩) hS.2.2 dX7_append_48
set_option maxHeartbeats 4000000 in
set_option maxRecDepth 100000 in
theorem k_X7_append_16 (l : Launch) (D : va_G) (ca : Nat → ClassId) (sz : Nat) (h0 : Nat) (tb : Nat) (fb : Nat → Int32) (x1 : Int32) : Met l yX7_append wsX7_append ({ frames := 0, cells := 0, slots := 0, locals := 0 }) (PC [.ref h0, .int x1] sz D ca [(h0, .inr (7, [.ref tb, .int 16])), (tb, .inl (ca 0, 1700, .inl fb))]) (QV (fun (u : (Nat → Int32)) => True) (fun (u : (Nat → Int32)) => [(h0, .inr (7, [.ref tb, .int 20])), (tb, .inl (ca 0, 1700, .inl u))]) [(h0, .inr (7, [.ref tb, .int 16])), (tb, .inl (ca 0, 1700, .inl fb))] sz D) 0 0 (va_A [(h0, .inr (7, [.ref tb, .int 16])), (tb, .inl (ca 0, 1700, .inl fb))] sz) := by
  refine Met.ofW (cc := cX7_append) (maxL := 3) (ret := none) (by decide +kernel) rfl ?_
  intro p e s m args below meth c s₁ B hml hv
  obtain ⟨rfl, hsz, hP, hC, hD0⟩ := hv
  have hx := B.exec
  have hb := B.bytes
  have hr := B.returns
  have hts := atoms_spec (ws := wsX7_append) B.pre
  have hown : s.vm.findClass RX7 = some m.cls := findClass_of_methodNamed B.named
  have hlocks := B.notSynchronized
  subst hsz
  have hD := hD0.self (sz := s.heap.size)
  dsimp only [QV, QI, QL, BQ]
  generalize hAe : va_A [(h0, .inr (7, [.ref tb, .int 16])), (tb, .inl (ca 0, 1700, .inl fb))] s.heap.size = A at hD ⊢
  have hA : ∀ q : Nat, s.heap.size ≤ q → A q := fun q h => by rw [← hAe]; exact Or.inr h
  have hDA : ∀ {w : va_W}, va_D A w → va_D (va_A [(h0, .inr (7, [.ref tb, .int 16])), (tb, .inl (ca 0, 1700, .inl fb))] s.heap.size) w := fun h => by rw [hAe]; exact h
  have hS : va_S A s.heap s.heap [] := va_S.rf
  have hP : va_P D vwCl [(h0, .inr (7, [.ref tb, .int 16])), (tb, .inl (ca 0, 1700, .inl fb))] s.heap := hP
  have hl := lv_entry ([.ref h0, .int x1]) (n := 3) (Nat.le_of_ble_eq_true rfl)
  rw [lg_entry_eq]
  generalize (lg_sl ([.ref h0, .int x1]) ++ List.replicate (3 - (lg_sl ([.ref h0, .int x1])).length) Slot.unset).toArray = ls at hl ⊢
  have hl : lv_has ls 3 [(0, .ref h0), (1, .int x1)] := hl
  refine lv_bipush (v := 24) hx hb dX7_append_0 (by decide +kernel) ?_
  refine lv_istore_n (lv' := [(2, .int 24), (0, .ref h0), (1, .int x1)]) hx hb dX7_append_2 rfl hl (by decide +kernel) rfl (fun ls hl => ?_)
  refine lv_iload_n hx hb dX7_append_3 rfl (lv_at hl 0 rfl) ?_
  refine lv_if_lt (tgt := 48) hx hb dX7_append_4 (by decide +kernel) (fun c_1 => absurd c_1 (by decide +kernel)) (fun c_1 => ?_)
  refine lv_aload_n hx hb dX7_append_7 rfl (lv_at hl 1 rfl) ?_
  refine va_get (D := D) (ci := 7) (v := .int 16) (C := RX7) (T := TX7) (N := 2) hx hb hts iw_X7_append_7 hown hC.1 hP 0 rfl rfl 1 (by decide +kernel) (hts (.fieldLink RX7 15 "FairWheel$Tape" "size" "I") (by decide +kernel)) (fun _ h9 => h9) rfl dX7_append_8 ?_
  refine lv_aload_n hx hb dX7_append_11 rfl (lv_at hl 1 rfl) ?_
  refine va_get (D := D) (ci := 7) (v := .ref tb) (C := RX7) (T := TX7) (N := 2) hx hb hts iw_X7_append_7 hown hC.1 hP 0 rfl rfl 0 (by decide +kernel) (hts (.fieldLink RX7 9 "FairWheel$Tape" "bytes" "[B") (by decide +kernel)) (fun _ h9 => h9) rfl dX7_append_12 ?_
  refine va_alen (v := 1700) hx hb hC.1 hP 1 0 rfl rfl rfl dX7_append_15 ?_
  refine lv_icmp_ge (tgt := 48) hx hb dX7_append_16 (by decide +kernel) (fun c_2 => absurd c_2 (by decide +kernel)) (fun c_2 => ?_)
  refine lv_aload_n hx hb dX7_append_19 rfl (lv_at hl 1 rfl) ?_
  refine va_get (D := D) (ci := 7) (v := .ref tb) (C := RX7) (T := TX7) (N := 2) hx hb hts iw_X7_append_7 hown hC.1 hP 0 rfl rfl 0 (by decide +kernel) (hts (.fieldLink RX7 9 "FairWheel$Tape" "bytes" "[B") (by decide +kernel)) (fun _ h9 => h9) rfl dX7_append_20 ?_
  refine lv_aload_n hx hb dX7_append_23 rfl (lv_at hl 1 rfl) ?_
  refine va_get (D := D) (ci := 7) (v := .int 16) (C := RX7) (T := TX7) (N := 2) hx hb hts iw_X7_append_7 hown hC.1 hP 0 rfl rfl 1 (by decide +kernel) (hts (.fieldLink RX7 15 "FairWheel$Tape" "size" "I") (by decide +kernel)) (fun _ h9 => h9) rfl dX7_append_24 ?_
  refine lv_iload_n hx hb dX7_append_27 rfl (lv_at hl 2 rfl) ?_
  refine lv_iload_n hx hb dX7_append_28 rfl (lv_at hl 0 rfl) ?_
  refine lv_ishr hx hb dX7_append_29 ?_
  refine lv_topi (fun y_3 ey_3 => ?_)
  obtain ⟨y_4, ey_4⟩ : ∃ z : Int32, z = Int8.toInt32 (Int32.toInt8 y_3) := ⟨_, rfl⟩
  refine lv_i2b (v := y_4) hx hb dX7_append_30 ey_4.symm ?_
  refine ka_bast hx hb hC.1 hP hD hS 1 0 rfl rfl 16 rfl (by decide +kernel) (by decide +kernel) dX7_append_31 (fun H locs hP hD hS => ?_)
  have hP : va_P D vwCl [(h0, .inr (7, [.ref tb, .int 16])), (tb, .inl (ca 0, 1700, .inl (upd fb 16 (vp_nar .byte y_4))))] H := hP
  have hD : va_D A [(h0, .inr (7, [.ref tb, .int 16])), (tb, .inl (ca 0, 1700, .inl (upd fb 16 (vp_nar .byte y_4))))] := hD
  generalize (upd fb 16 (vp_nar .byte y_4)) = f_5 at hP hD
  refine lv_aload_n hx hb dX7_append_32 rfl (lv_at hl 1 rfl) ?_
  refine lv_dup hx hb dX7_append_33 rfl ?_
  refine va_get (D := D) (ci := 7) (v := .int 16) (C := RX7) (T := TX7) (N := 2) hx hb hts iw_X7_append_7 hown hC.1 hP 0 rfl rfl 1 (by decide +kernel) (hts (.fieldLink RX7 15 "FairWheel$Tape" "size" "I") (by decide +kernel)) (fun _ h9 => h9) rfl dX7_append_34 ?_
  refine lv_iconst (v := 1) hx hb dX7_append_37 (by decide +kernel) ?_
  refine lv_iadd hx hb dX7_append_38 ?_
  refine nt_i 17 (by decide +kernel) ?_
  refine va_put (D := D) (ci := 7) (v := .int 17) (ty := .int) (C := RX7) (T := TX7) (N := 2) hx hb hts iw_X7_append_7 tyX7 tyX7_ok nmX7 hown hC.1 hP hD hS 0 rfl rfl 1 (by decide +kernel) (hts (.fieldLink RX7 15 "FairWheel$Tape" "size" "I") (by decide +kernel)) (fun _ h9 => h9) rfl (by decide +kernel) rfl rfl (Nat.le_of_ble_eq_true rfl) dX7_append_39 (fun H locs hP hD hS => ?_)
  have hP : va_P D vwCl [(h0, .inr (7, [.ref tb, .int 17])), (tb, .inl (ca 0, 1700, .inl f_5))] H := hP
  have hD : va_D A [(h0, .inr (7, [.ref tb, .int 17])), (tb, .inl (ca 0, 1700, .inl f_5))] := hD
  refine lv_iinc (v := 16) (lv' := [(2, .int 16), (0, .ref h0), (1, .int x1)]) hx hb dX7_append_42 hl (k := 0) rfl (by decide +kernel) (by decide +kernel) rfl (fun ls hl => ?_)
  refine lv_goto (tgt := 3) hx hb dX7_append_45 (by decide +kernel) ?_
  refine lv_iload_n hx hb dX7_append_3 rfl (lv_at hl 0 rfl) ?_
  refine lv_if_lt (tgt := 48) hx hb dX7_append_4 (by decide +kernel) (fun c_6 => absurd c_6 (by decide +kernel)) (fun c_6 => ?_)
  refine lv_aload_n hx hb dX7_append_7 rfl (lv_at hl 1 rfl) ?_
  refine va_get (D := D) (ci := 7) (v := .int 17) (C := RX7) (T := TX7) (N := 2) hx hb hts iw_X7_append_7 hown hC.1 hP 0 rfl rfl 1 (by decide +kernel) (hts (.fieldLink RX7 15 "FairWheel$Tape" "size" "I") (by decide +kernel)) (fun _ h9 => h9) rfl dX7_append_8 ?_
  refine lv_aload_n hx hb dX7_append_11 rfl (lv_at hl 1 rfl) ?_
  refine va_get (D := D) (ci := 7) (v := .ref tb) (C := RX7) (T := TX7) (N := 2) hx hb hts iw_X7_append_7 hown hC.1 hP 0 rfl rfl 0 (by decide +kernel) (hts (.fieldLink RX7 9 "FairWheel$Tape" "bytes" "[B") (by decide +kernel)) (fun _ h9 => h9) rfl dX7_append_12 ?_
  refine va_alen (v := 1700) hx hb hC.1 hP 1 0 rfl rfl rfl dX7_append_15 ?_
  refine lv_icmp_ge (tgt := 48) hx hb dX7_append_16 (by decide +kernel) (fun c_7 => absurd c_7 (by decide +kernel)) (fun c_7 => ?_)
  refine lv_aload_n hx hb dX7_append_19 rfl (lv_at hl 1 rfl) ?_
  refine va_get (D := D) (ci := 7) (v := .ref tb) (C := RX7) (T := TX7) (N := 2) hx hb hts iw_X7_append_7 hown hC.1 hP 0 rfl rfl 0 (by decide +kernel) (hts (.fieldLink RX7 9 "FairWheel$Tape" "bytes" "[B") (by decide +kernel)) (fun _ h9 => h9) rfl dX7_append_20 ?_
  refine lv_aload_n hx hb dX7_append_23 rfl (lv_at hl 1 rfl) ?_
  refine va_get (D := D) (ci := 7) (v := .int 17) (C := RX7) (T := TX7) (N := 2) hx hb hts iw_X7_append_7 hown hC.1 hP 0 rfl rfl 1 (by decide +kernel) (hts (.fieldLink RX7 15 "FairWheel$Tape" "size" "I") (by decide +kernel)) (fun _ h9 => h9) rfl dX7_append_24 ?_
  refine lv_iload_n hx hb dX7_append_27 rfl (lv_at hl 2 rfl) ?_
  refine lv_iload_n hx hb dX7_append_28 rfl (lv_at hl 0 rfl) ?_
  refine lv_ishr hx hb dX7_append_29 ?_
  refine lv_topi (fun y_8 ey_8 => ?_)
  obtain ⟨y_9, ey_9⟩ : ∃ z : Int32, z = Int8.toInt32 (Int32.toInt8 y_8) := ⟨_, rfl⟩
  refine lv_i2b (v := y_9) hx hb dX7_append_30 ey_9.symm ?_
  refine ka_bast hx hb hC.1 hP hD hS 1 0 rfl rfl 17 rfl (by decide +kernel) (by decide +kernel) dX7_append_31 (fun H locs hP hD hS => ?_)
  have hP : va_P D vwCl [(h0, .inr (7, [.ref tb, .int 17])), (tb, .inl (ca 0, 1700, .inl (upd f_5 17 (vp_nar .byte y_9))))] H := hP
  have hD : va_D A [(h0, .inr (7, [.ref tb, .int 17])), (tb, .inl (ca 0, 1700, .inl (upd f_5 17 (vp_nar .byte y_9))))] := hD
  generalize (upd f_5 17 (vp_nar .byte y_9)) = f_10 at hP hD
  refine lv_aload_n hx hb dX7_append_32 rfl (lv_at hl 1 rfl) ?_
  refine lv_dup hx hb dX7_append_33 rfl ?_
  refine va_get (D := D) (ci := 7) (v := .int 17) (C := RX7) (T := TX7) (N := 2) hx hb hts iw_X7_append_7 hown hC.1 hP 0 rfl rfl 1 (by decide +kernel) (hts (.fieldLink RX7 15 "FairWheel$Tape" "size" "I") (by decide +kernel)) (fun _ h9 => h9) rfl dX7_append_34 ?_
  refine lv_iconst (v := 1) hx hb dX7_append_37 (by decide +kernel) ?_
  refine lv_iadd hx hb dX7_append_38 ?_
  refine nt_i 18 (by decide +kernel) ?_
  refine va_put (D := D) (ci := 7) (v := .int 18) (ty := .int) (C := RX7) (T := TX7) (N := 2) hx hb hts iw_X7_append_7 tyX7 tyX7_ok nmX7 hown hC.1 hP hD hS 0 rfl rfl 1 (by decide +kernel) (hts (.fieldLink RX7 15 "FairWheel$Tape" "size" "I") (by decide +kernel)) (fun _ h9 => h9) rfl (by decide +kernel) rfl rfl (Nat.le_of_ble_eq_true rfl) dX7_append_39 (fun H locs hP hD hS => ?_)
  have hP : va_P D vwCl [(h0, .inr (7, [.ref tb, .int 18])), (tb, .inl (ca 0, 1700, .inl f_10))] H := hP
  have hD : va_D A [(h0, .inr (7, [.ref tb, .int 18])), (tb, .inl (ca 0, 1700, .inl f_10))] := hD
  refine lv_iinc (v := 8) (lv' := [(2, .int 8), (0, .ref h0), (1, .int x1)]) hx hb dX7_append_42 hl (k := 0) rfl (by decide +kernel) (by decide +kernel) rfl (fun ls hl => ?_)
  refine lv_goto (tgt := 3) hx hb dX7_append_45 (by decide +kernel) ?_
  refine lv_iload_n hx hb dX7_append_3 rfl (lv_at hl 0 rfl) ?_
  refine lv_if_lt (tgt := 48) hx hb dX7_append_4 (by decide +kernel) (fun c_11 => absurd c_11 (by decide +kernel)) (fun c_11 => ?_)
  refine lv_aload_n hx hb dX7_append_7 rfl (lv_at hl 1 rfl) ?_
  refine va_get (D := D) (ci := 7) (v := .int 18) (C := RX7) (T := TX7) (N := 2) hx hb hts iw_X7_append_7 hown hC.1 hP 0 rfl rfl 1 (by decide +kernel) (hts (.fieldLink RX7 15 "FairWheel$Tape" "size" "I") (by decide +kernel)) (fun _ h9 => h9) rfl dX7_append_8 ?_
  refine lv_aload_n hx hb dX7_append_11 rfl (lv_at hl 1 rfl) ?_
  refine va_get (D := D) (ci := 7) (v := .ref tb) (C := RX7) (T := TX7) (N := 2) hx hb hts iw_X7_append_7 hown hC.1 hP 0 rfl rfl 0 (by decide +kernel) (hts (.fieldLink RX7 9 "FairWheel$Tape" "bytes" "[B") (by decide +kernel)) (fun _ h9 => h9) rfl dX7_append_12 ?_
  refine va_alen (v := 1700) hx hb hC.1 hP 1 0 rfl rfl rfl dX7_append_15 ?_
  refine lv_icmp_ge (tgt := 48) hx hb dX7_append_16 (by decide +kernel) (fun c_12 => absurd c_12 (by decide +kernel)) (fun c_12 => ?_)
  refine lv_aload_n hx hb dX7_append_19 rfl (lv_at hl 1 rfl) ?_
  refine va_get (D := D) (ci := 7) (v := .ref tb) (C := RX7) (T := TX7) (N := 2) hx hb hts iw_X7_append_7 hown hC.1 hP 0 rfl rfl 0 (by decide +kernel) (hts (.fieldLink RX7 9 "FairWheel$Tape" "bytes" "[B") (by decide +kernel)) (fun _ h9 => h9) rfl dX7_append_20 ?_
  refine lv_aload_n hx hb dX7_append_23 rfl (lv_at hl 1 rfl) ?_
  refine va_get (D := D) (ci := 7) (v := .int 18) (C := RX7) (T := TX7) (N := 2) hx hb hts iw_X7_append_7 hown hC.1 hP 0 rfl rfl 1 (by decide +kernel) (hts (.fieldLink RX7 15 "FairWheel$Tape" "size" "I") (by decide +kernel)) (fun _ h9 => h9) rfl dX7_append_24 ?_
  refine lv_iload_n hx hb dX7_append_27 rfl (lv_at hl 2 rfl) ?_
  refine lv_iload_n hx hb dX7_append_28 rfl (lv_at hl 0 rfl) ?_
  refine lv_ishr hx hb dX7_append_29 ?_
  refine lv_topi (fun y_13 ey_13 => ?_)
  obtain ⟨y_14, ey_14⟩ : ∃ z : Int32, z = Int8.toInt32 (Int32.toInt8 y_13) := ⟨_, rfl⟩
  refine lv_i2b (v := y_14) hx hb dX7_append_30 ey_14.symm ?_
  refine ka_bast hx hb hC.1 hP hD hS 1 0 rfl rfl 18 rfl (by decide +kernel) (by decide +kernel) dX7_append_31 (fun H locs hP hD hS => ?_)
  have hP : va_P D vwCl [(h0, .inr (7, [.ref tb, .int 18])), (tb, .inl (ca 0, 1700, .inl (upd f_10 18 (vp_nar .byte y_14))))] H := hP
  have hD : va_D A [(h0, .inr (7, [.ref tb, .int 18])), (tb, .inl (ca 0, 1700, .inl (upd f_10 18 (vp_nar .byte y_14))))] := hD
  generalize (upd f_10 18 (vp_nar .byte y_14)) = f_15 at hP hD
  refine lv_aload_n hx hb dX7_append_32 rfl (lv_at hl 1 rfl) ?_
  refine lv_dup hx hb dX7_append_33 rfl ?_
  refine va_get (D := D) (ci := 7) (v := .int 18) (C := RX7) (T := TX7) (N := 2) hx hb hts iw_X7_append_7 hown hC.1 hP 0 rfl rfl 1 (by decide +kernel) (hts (.fieldLink RX7 15 "FairWheel$Tape" "size" "I") (by decide +kernel)) (fun _ h9 => h9) rfl dX7_append_34 ?_
  refine lv_iconst (v := 1) hx hb dX7_append_37 (by decide +kernel) ?_
  refine lv_iadd hx hb dX7_append_38 ?_
  refine nt_i 19 (by decide +kernel) ?_
  refine va_put (D := D) (ci := 7) (v := .int 19) (ty := .int) (C := RX7) (T := TX7) (N := 2) hx hb hts iw_X7_append_7 tyX7 tyX7_ok nmX7 hown hC.1 hP hD hS 0 rfl rfl 1 (by decide +kernel) (hts (.fieldLink RX7 15 "FairWheel$Tape" "size" "I") (by decide +kernel)) (fun _ h9 => h9) rfl (by decide +kernel) rfl rfl (Nat.le_of_ble_eq_true rfl) dX7_append_39 (fun H locs hP hD hS => ?_)
  have hP : va_P D vwCl [(h0, .inr (7, [.ref tb, .int 19])), (tb, .inl (ca 0, 1700, .inl f_15))] H := hP
  have hD : va_D A [(h0, .inr (7, [.ref tb, .int 19])), (tb, .inl (ca 0, 1700, .inl f_15))] := hD
  refine lv_iinc (v := 0) (lv' := [(2, .int 0), (0, .ref h0), (1, .int x1)]) hx hb dX7_append_42 hl (k := 0) rfl (by decide +kernel) (by decide +kernel) rfl (fun ls hl => ?_)
  refine lv_goto (tgt := 3) hx hb dX7_append_45 (by decide +kernel) ?_
  refine lv_iload_n hx hb dX7_append_3 rfl (lv_at hl 0 rfl) ?_
  refine lv_if_lt (tgt := 48) hx hb dX7_append_4 (by decide +kernel) (fun c_16 => absurd c_16 (by decide +kernel)) (fun c_16 => ?_)
  refine lv_aload_n hx hb dX7_append_7 rfl (lv_at hl 1 rfl) ?_
  refine va_get (D := D) (ci := 7) (v := .int 19) (C := RX7) (T := TX7) (N := 2) hx hb hts iw_X7_append_7 hown hC.1 hP 0 rfl rfl 1 (by decide +kernel) (hts (.fieldLink RX7 15 "FairWheel$Tape" "size" "I") (by decide +kernel)) (fun _ h9 => h9) rfl dX7_append_8 ?_
  refine lv_aload_n hx hb dX7_append_11 rfl (lv_at hl 1 rfl) ?_
  refine va_get (D := D) (ci := 7) (v := .ref tb) (C := RX7) (T := TX7) (N := 2) hx hb hts iw_X7_append_7 hown hC.1 hP 0 rfl rfl 0 (by decide +kernel) (hts (.fieldLink RX7 9 "FairWheel$Tape" "bytes" "[B") (by decide +kernel)) (fun _ h9 => h9) rfl dX7_append_12 ?_
  refine va_alen (v := 1700) hx hb hC.1 hP 1 0 rfl rfl rfl dX7_append_15 ?_
  refine lv_icmp_ge (tgt := 48) hx hb dX7_append_16 (by decide +kernel) (fun c_17 => absurd c_17 (by decide +kernel)) (fun c_17 => ?_)
  refine lv_aload_n hx hb dX7_append_19 rfl (lv_at hl 1 rfl) ?_
  refine va_get (D := D) (ci := 7) (v := .ref tb) (C := RX7) (T := TX7) (N := 2) hx hb hts iw_X7_append_7 hown hC.1 hP 0 rfl rfl 0 (by decide +kernel) (hts (.fieldLink RX7 9 "FairWheel$Tape" "bytes" "[B") (by decide +kernel)) (fun _ h9 => h9) rfl dX7_append_20 ?_
  refine lv_aload_n hx hb dX7_append_23 rfl (lv_at hl 1 rfl) ?_
  refine va_get (D := D) (ci := 7) (v := .int 19) (C := RX7) (T := TX7) (N := 2) hx hb hts iw_X7_append_7 hown hC.1 hP 0 rfl rfl 1 (by decide +kernel) (hts (.fieldLink RX7 15 "FairWheel$Tape" "size" "I") (by decide +kernel)) (fun _ h9 => h9) rfl dX7_append_24 ?_
  refine lv_iload_n hx hb dX7_append_27 rfl (lv_at hl 2 rfl) ?_
  refine lv_iload_n hx hb dX7_append_28 rfl (lv_at hl 0 rfl) ?_
  refine lv_ishr hx hb dX7_append_29 ?_
  refine lv_topi (fun y_18 ey_18 => ?_)
  obtain ⟨y_19, ey_19⟩ : ∃ z : Int32, z = Int8.toInt32 (Int32.toInt8 y_18) := ⟨_, rfl⟩
  refine lv_i2b (v := y_19) hx hb dX7_append_30 ey_19.symm ?_
  refine ka_bast hx hb hC.1 hP hD hS 1 0 rfl rfl 19 rfl (by decide +kernel) (by decide +kernel) dX7_append_31 (fun H locs hP hD hS => ?_)
  have hP : va_P D vwCl [(h0, .inr (7, [.ref tb, .int 19])), (tb, .inl (ca 0, 1700, .inl (upd f_15 19 (vp_nar .byte y_19))))] H := hP
  have hD : va_D A [(h0, .inr (7, [.ref tb, .int 19])), (tb, .inl (ca 0, 1700, .inl (upd f_15 19 (vp_nar .byte y_19))))] := hD
  generalize (upd f_15 19 (vp_nar .byte y_19)) = f_20 at hP hD
  refine lv_aload_n hx hb dX7_append_32 rfl (lv_at hl 1 rfl) ?_
  refine lv_dup hx hb dX7_append_33 rfl ?_
  refine va_get (D := D) (ci := 7) (v := .int 19) (C := RX7) (T := TX7) (N := 2) hx hb hts iw_X7_append_7 hown hC.1 hP 0 rfl rfl 1 (by decide +kernel) (hts (.fieldLink RX7 15 "FairWheel$Tape" "size" "I") (by decide +kernel)) (fun _ h9 => h9) rfl dX7_append_34 ?_
  refine lv_iconst (v := 1) hx hb dX7_append_37 (by decide +kernel) ?_
  refine lv_iadd hx hb dX7_append_38 ?_
  refine nt_i 20 (by decide +kernel) ?_
  refine va_put (D := D) (ci := 7) (v := .int 20) (ty := .int) (C := RX7) (T := TX7) (N := 2) hx hb hts iw_X7_append_7 tyX7 tyX7_ok nmX7 hown hC.1 hP hD hS 0 rfl rfl 1 (by decide +kernel) (hts (.fieldLink RX7 15 "FairWheel$Tape" "size" "I") (by decide +kernel)) (fun _ h9 => h9) rfl (by decide +kernel) rfl rfl (Nat.le_of_ble_eq_true rfl) dX7_append_39 (fun H locs hP hD hS => ?_)
  have hP : va_P D vwCl [(h0, .inr (7, [.ref tb, .int 20])), (tb, .inl (ca 0, 1700, .inl f_20))] H := hP
  have hD : va_D A [(h0, .inr (7, [.ref tb, .int 20])), (tb, .inl (ca 0, 1700, .inl f_20))] := hD
  refine lv_iinc (v := (-8)) (lv' := [(2, .int (-8)), (0, .ref h0), (1, .int x1)]) hx hb dX7_append_42 hl (k := 0) rfl (by decide +kernel) (by decide +kernel) rfl (fun ls hl => ?_)
  refine lv_goto (tgt := 3) hx hb dX7_append_45 (by decide +kernel) ?_
  refine lv_iload_n hx hb dX7_append_3 rfl (lv_at hl 0 rfl) ?_
  refine lv_if_lt (tgt := 48) hx hb dX7_append_4 (by decide +kernel) (fun c_21 => ?_) (fun c_21 => absurd (by decide +kernel) c_21)
  exact W.vret hx hb hr (fun t ht hW => ⟨⟨f_20, rfl, trivial, by rw [ht]; exact hP.sub [0, 1] rfl, hDA (hD.sub [0, 1] (by decide +kernel) rfl)⟩, hS.F ht⟩) hS.2.2 dX7_append_48
theorem iw_X10_feed_7 : ∀ w ∈ u_ws RX7 TX7 2, w ∈ wsX10_feed := by decide +kernel
theorem iw_X10_feed_10 : ∀ w ∈ u_ws RX10 TX10 12, w ∈ wsX10_feed := by decide +kernel
set_option maxHeartbeats 4000000 in
set_option maxRecDepth 100000 in
theorem k_X10_feed (l : Launch) (D : va_G) (ca : Nat → ClassId) (sz : Nat) (h0 : Nat) (tp : Nat) (rd : Nat) (lv : Nat) (tr : Nat) (rw : Nat) (bx : Nat) (ch : Nat) (sg : Nat) (dg : Nat) (pl : Nat) (dr : Nat) (tb : Nat) (fb : Nat → Int32) (x1 : Int32) (x2 : Int32) (x3 : Int32) (x4 : Int32) (x5 : Int32) : Met l yX10_feed wsX10_feed ({ frames := 1, cells := 0, slots := 0, locals := 22 }) (PC [.ref h0, .int x1, .int x2, .int x3, .int x4, .int x5] sz D ca [(h0, .inr (10, [.ref tp, .ref rd, .ref lv, .ref tr, .ref rw, .ref bx, .ref ch, .ref sg, .ref dg, .ref pl, .ref dr, .int 0])), (tp, .inr (7, [.ref tb, .int 0])), (tb, .inl (ca 0, 1700, .inl fb))]) (QI (fun (r : Int32) (u : Unit) => r = 20) (fun (_ : Unit) => []) [(h0, .inr (10, [.ref tp, .ref rd, .ref lv, .ref tr, .ref rw, .ref bx, .ref ch, .ref sg, .ref dg, .ref pl, .ref dr, .int 0])), (tp, .inr (7, [.ref tb, .int 0])), (tb, .inl (ca 0, 1700, .inl fb))] sz D) 0 0 (va_A [(h0, .inr (10, [.ref tp, .ref rd, .ref lv, .ref tr, .ref rw, .ref bx, .ref ch, .ref sg, .ref dg, .ref pl, .ref dr, .int 0])), (tp, .inr (7, [.ref tb, .int 0])), (tb, .inl (ca 0, 1700, .inl fb))] sz) := by
  refine Met.ofW (cc := cX10_feed) (maxL := 6) (ret := (some .int)) (by decide +kernel) rfl ?_
  intro p e s m args below meth c s₁ B hml hv
  obtain ⟨rfl, hsz, hP, hC, hD0⟩ := hv
  have hx := B.exec
  have hb := B.bytes
  have hr := B.returns
  have hts := atoms_spec (ws := wsX10_feed) B.pre
  have hown : s.vm.findClass RX10 = some m.cls := findClass_of_methodNamed B.named
  have hlocks := B.notSynchronized
  subst hsz
  have hD := hD0.self (sz := s.heap.size)
  dsimp only [QV, QI, QL, BQ]
  generalize hAe : va_A [(h0, .inr (10, [.ref tp, .ref rd, .ref lv, .ref tr, .ref rw, .ref bx, .ref ch, .ref sg, .ref dg, .ref pl, .ref dr, .int 0])), (tp, .inr (7, [.ref tb, .int 0])), (tb, .inl (ca 0, 1700, .inl fb))] s.heap.size = A at hD ⊢
  have hA : ∀ q : Nat, s.heap.size ≤ q → A q := fun q h => by rw [← hAe]; exact Or.inr h
  have hDA : ∀ {w : va_W}, va_D A w → va_D (va_A [(h0, .inr (10, [.ref tp, .ref rd, .ref lv, .ref tr, .ref rw, .ref bx, .ref ch, .ref sg, .ref dg, .ref pl, .ref dr, .int 0])), (tp, .inr (7, [.ref tb, .int 0])), (tb, .inl (ca 0, 1700, .inl fb))] s.heap.size) w := fun h => by rw [hAe]; exact h
  have hS : va_S A s.heap s.heap [] := va_S.rf
  have hP : va_P D vwCl [(h0, .inr (10, [.ref tp, .ref rd, .ref lv, .ref tr, .ref rw, .ref bx, .ref ch, .ref sg, .ref dg, .ref pl, .ref dr, .int 0])), (tp, .inr (7, [.ref tb, .int 0])), (tb, .inl (ca 0, 1700, .inl fb))] s.heap := hP
  have hl := lv_entry ([.ref h0, .int x1, .int x2, .int x3, .int x4, .int x5]) (n := 6) (Nat.le_of_ble_eq_true rfl)
  rw [lg_entry_eq]
  generalize (lg_sl ([.ref h0, .int x1, .int x2, .int x3, .int x4, .int x5]) ++ List.replicate (6 - (lg_sl ([.ref h0, .int x1, .int x2, .int x3, .int x4, .int x5])).length) Slot.unset).toArray = ls at hl ⊢
  have hl : lv_has ls 6 [(0, .ref h0), (1, .int x1), (2, .int x2), (3, .int x3), (4, .int x4), (5, .int x5)] := hl
  refine lv_aload_n hx hb dX10_feed_0 rfl (lv_at hl 0 rfl) ?_
  refine va_get (D := D) (ci := 10) (v := .ref tp) (C := RX10) (T := TX10) (N := 12) hx hb hts iw_X10_feed_10 hown hC.1 hP 0 rfl rfl 0 (by decide +kernel) (hts (.fieldLink RX10 12 "FairWheel" "tape" "LFairWheel$Tape;") (by decide +kernel)) (fun _ h9 => h9) rfl dX10_feed_1 ?_
  refine va_get (D := D) (ci := 7) (v := .int 0) (C := RX7) (T := TX7) (N := 2) hx hb hts iw_X10_feed_7 hown hC.1 hP 1 rfl rfl 1 (by decide +kernel) (hts (.fieldLink RX10 83 "FairWheel$Tape" "size" "I") (by decide +kernel)) (fun _ h9 => h9) rfl dX10_feed_4 ?_
  refine lv_bipush (v := 20) hx hb dX10_feed_7 (by decide +kernel) ?_
  refine lv_iadd hx hb dX10_feed_9 ?_
  refine nt_i 20 (by decide +kernel) ?_
  refine lv_sipush (v := 1700) hx hb dX10_feed_10 (by decide +kernel) ?_
  refine lv_icmp_le (tgt := 18) hx hb dX10_feed_13 (by decide +kernel) (fun c_1 => ?_) (fun c_1 => absurd (by decide +kernel) c_1)
  refine lv_aload_n hx hb dX10_feed_18 rfl (lv_at hl 0 rfl) ?_
  refine va_get (D := D) (ci := 10) (v := .ref tp) (C := RX10) (T := TX10) (N := 12) hx hb hts iw_X10_feed_10 hown hC.1 hP 0 rfl rfl 0 (by decide +kernel) (hts (.fieldLink RX10 12 "FairWheel" "tape" "LFairWheel$Tape;") (by decide +kernel)) (fun _ h9 => h9) rfl dX10_feed_19 ?_
  refine lv_iload_n hx hb dX10_feed_22 rfl (lv_at hl 1 rfl) ?_
  refine kc_v (wr := [(h0, .inr (10, [.ref tp, .ref rd, .ref lv, .ref tr, .ref rw, .ref bx, .ref ch, .ref sg, .ref dg, .ref pl, .ref dr, .int 0]))]) (va_runV (As := [.int x1]) (rest := []) ⟨hx, hb, hml, hown, hts⟩ (k_X7_append_0 l D ca s.heap.size tp tb fb x1) (cwV 1 hts gX10_feed_X7_append rfl rfl rfl (by decide +kernel) ⟨(Nat.le_of_ble_eq_true rfl), (Nat.le_of_ble_eq_true rfl)⟩) (PC.preV (ci := 7) hC hP hD [1, 2] rfl (by decide +kernel) rfl rfl) rfl rfl hl.1 rfl (lv_room (Nat.le_of_ble_eq_true rfl)) dX10_feed_23 ⟨(Nat.le_of_ble_eq_true rfl), (Nat.le_of_ble_eq_true rfl)⟩) hP hD hS hA [1, 2] [0] rfl rfl (by decide +kernel) (by decide +kernel) (fun u_3 H locs hw_2 hP hD hS => ?_)
  obtain ⟨f_4, rfl⟩ : ∃ z, z = u_3 := ⟨_, rfl⟩
  have hP : va_P D vwCl [(h0, .inr (10, [.ref tp, .ref rd, .ref lv, .ref tr, .ref rw, .ref bx, .ref ch, .ref sg, .ref dg, .ref pl, .ref dr, .int 0])), (tp, .inr (7, [.ref tb, .int 4])), (tb, .inl (ca 0, 1700, .inl f_4))] H := hP
  have hD : va_D A [(h0, .inr (10, [.ref tp, .ref rd, .ref lv, .ref tr, .ref rw, .ref bx, .ref ch, .ref sg, .ref dg, .ref pl, .ref dr, .int 0])), (tp, .inr (7, [.ref tb, .int 4])), (tb, .inl (ca 0, 1700, .inl f_4))] := hD
  refine lv_aload_n hx hb dX10_feed_26 rfl (lv_at hl 0 rfl) ?_
  refine va_get (D := D) (ci := 10) (v := .ref tp) (C := RX10) (T := TX10) (N := 12) hx hb hts iw_X10_feed_10 hown hC.1 hP 0 rfl rfl 0 (by decide +kernel) (hts (.fieldLink RX10 12 "FairWheel" "tape" "LFairWheel$Tape;") (by decide +kernel)) (fun _ h9 => h9) rfl dX10_feed_27 ?_
  refine lv_iload_n hx hb dX10_feed_30 rfl (lv_at hl 2 rfl) ?_
  refine kc_v (wr := [(h0, .inr (10, [.ref tp, .ref rd, .ref lv, .ref tr, .ref rw, .ref bx, .ref ch, .ref sg, .ref dg, .ref pl, .ref dr, .int 0]))]) (va_runV (As := [.int x2]) (rest := []) ⟨hx, hb, hml, hown, hts⟩ (k_X7_append_4 l D ca H.size tp tb f_4 x2) (cwV 1 hts gX10_feed_X7_append rfl rfl rfl (by decide +kernel) ⟨(Nat.le_of_ble_eq_true rfl), (Nat.le_of_ble_eq_true rfl)⟩) (PC.preV (ci := 7) hC hP hD [1, 2] rfl (by decide +kernel) rfl rfl) rfl rfl hl.1 rfl (lv_room (Nat.le_of_ble_eq_true rfl)) dX10_feed_31 ⟨(Nat.le_of_ble_eq_true rfl), (Nat.le_of_ble_eq_true rfl)⟩) hP hD hS hA [1, 2] [0] rfl rfl (by decide +kernel) (by decide +kernel) (fun u_6 H locs hw_5 hP hD hS => ?_)
  obtain ⟨f_7, rfl⟩ : ∃ z, z = u_6 := ⟨_, rfl⟩
  have hP : va_P D vwCl [(h0, .inr (10, [.ref tp, .ref rd, .ref lv, .ref tr, .ref rw, .ref bx, .ref ch, .ref sg, .ref dg, .ref pl, .ref dr, .int 0])), (tp, .inr (7, [.ref tb, .int 8])), (tb, .inl (ca 0, 1700, .inl f_7))] H := hP
  have hD : va_D A [(h0, .inr (10, [.ref tp, .ref rd, .ref lv, .ref tr, .ref rw, .ref bx, .ref ch, .ref sg, .ref dg, .ref pl, .ref dr, .int 0])), (tp, .inr (7, [.ref tb, .int 8])), (tb, .inl (ca 0, 1700, .inl f_7))] := hD
  refine lv_aload_n hx hb dX10_feed_34 rfl (lv_at hl 0 rfl) ?_
  refine va_get (D := D) (ci := 10) (v := .ref tp) (C := RX10) (T := TX10) (N := 12) hx hb hts iw_X10_feed_10 hown hC.1 hP 0 rfl rfl 0 (by decide +kernel) (hts (.fieldLink RX10 12 "FairWheel" "tape" "LFairWheel$Tape;") (by decide +kernel)) (fun _ h9 => h9) rfl dX10_feed_35 ?_
  refine lv_iload_n hx hb dX10_feed_38 rfl (lv_at hl 3 rfl) ?_
  refine kc_v (wr := [(h0, .inr (10, [.ref tp, .ref rd, .ref lv, .ref tr, .ref rw, .ref bx, .ref ch, .ref sg, .ref dg, .ref pl, .ref dr, .int 0]))]) (va_runV (As := [.int x3]) (rest := []) ⟨hx, hb, hml, hown, hts⟩ (k_X7_append_8 l D ca H.size tp tb f_7 x3) (cwV 1 hts gX10_feed_X7_append rfl rfl rfl (by decide +kernel) ⟨(Nat.le_of_ble_eq_true rfl), (Nat.le_of_ble_eq_true rfl)⟩) (PC.preV (ci := 7) hC hP hD [1, 2] rfl (by decide +kernel) rfl rfl) rfl rfl hl.1 rfl (lv_room (Nat.le_of_ble_eq_true rfl)) dX10_feed_39 ⟨(Nat.le_of_ble_eq_true rfl), (Nat.le_of_ble_eq_true rfl)⟩) hP hD hS hA [1, 2] [0] rfl rfl (by decide +kernel) (by decide +kernel) (fun u_9 H locs hw_8 hP hD hS => ?_)
  obtain ⟨f_10, rfl⟩ : ∃ z, z = u_9 := ⟨_, rfl⟩
  have hP : va_P D vwCl [(h0, .inr (10, [.ref tp, .ref rd, .ref lv, .ref tr, .ref rw, .ref bx, .ref ch, .ref sg, .ref dg, .ref pl, .ref dr, .int 0])), (tp, .inr (7, [.ref tb, .int 12])), (tb, .inl (ca 0, 1700, .inl f_10))] H := hP
  have hD : va_D A [(h0, .inr (10, [.ref tp, .ref rd, .ref lv, .ref tr, .ref rw, .ref bx, .ref ch, .ref sg, .ref dg, .ref pl, .ref dr, .int 0])), (tp, .inr (7, [.ref tb, .int 12])), (tb, .inl (ca 0, 1700, .inl f_10))] := hD
  refine lv_aload_n hx hb dX10_feed_42 rfl (lv_at hl 0 rfl) ?_
  refine va_get (D := D) (ci := 10) (v := .ref tp) (C := RX10) (T := TX10) (N := 12) hx hb hts iw_X10_feed_10 hown hC.1 hP 0 rfl rfl 0 (by decide +kernel) (hts (.fieldLink RX10 12 "FairWheel" "tape" "LFairWheel$Tape;") (by decide +kernel)) (fun _ h9 => h9) rfl dX10_feed_43 ?_
  refine lv_iload hx hb dX10_feed_46 (lv_at hl 4 rfl) ?_
  refine kc_v (wr := [(h0, .inr (10, [.ref tp, .ref rd, .ref lv, .ref tr, .ref rw, .ref bx, .ref ch, .ref sg, .ref dg, .ref pl, .ref dr, .int 0]))]) (va_runV (As := [.int x4]) (rest := []) ⟨hx, hb, hml, hown, hts⟩ (k_X7_append_12 l D ca H.size tp tb f_10 x4) (cwV 1 hts gX10_feed_X7_append rfl rfl rfl (by decide +kernel) ⟨(Nat.le_of_ble_eq_true rfl), (Nat.le_of_ble_eq_true rfl)⟩) (PC.preV (ci := 7) hC hP hD [1, 2] rfl (by decide +kernel) rfl rfl) rfl rfl hl.1 rfl (lv_room (Nat.le_of_ble_eq_true rfl)) dX10_feed_48 ⟨(Nat.le_of_ble_eq_true rfl), (Nat.le_of_ble_eq_true rfl)⟩) hP hD hS hA [1, 2] [0] rfl rfl (by decide +kernel) (by decide +kernel) (fun u_12 H locs hw_11 hP hD hS => ?_)
  obtain ⟨f_13, rfl⟩ : ∃ z, z = u_12 := ⟨_, rfl⟩
  have hP : va_P D vwCl [(h0, .inr (10, [.ref tp, .ref rd, .ref lv, .ref tr, .ref rw, .ref bx, .ref ch, .ref sg, .ref dg, .ref pl, .ref dr, .int 0])), (tp, .inr (7, [.ref tb, .int 16])), (tb, .inl (ca 0, 1700, .inl f_13))] H := hP
  have hD : va_D A [(h0, .inr (10, [.ref tp, .ref rd, .ref lv, .ref tr, .ref rw, .ref bx, .ref ch, .ref sg, .ref dg, .ref pl, .ref dr, .int 0])), (tp, .inr (7, [.ref tb, .int 16])), (tb, .inl (ca 0, 1700, .inl f_13))] := hD
  refine lv_aload_n hx hb dX10_feed_51 rfl (lv_at hl 0 rfl) ?_
  refine va_get (D := D) (ci := 10) (v := .ref tp) (C := RX10) (T := TX10) (N := 12) hx hb hts iw_X10_feed_10 hown hC.1 hP 0 rfl rfl 0 (by decide +kernel) (hts (.fieldLink RX10 12 "FairWheel" "tape" "LFairWheel$Tape;") (by decide +kernel)) (fun _ h9 => h9) rfl dX10_feed_52 ?_
  refine lv_iload hx hb dX10_feed_55 (lv_at hl 5 rfl) ?_
  refine kc_v (wr := [(h0, .inr (10, [.ref tp, .ref rd, .ref lv, .ref tr, .ref rw, .ref bx, .ref ch, .ref sg, .ref dg, .ref pl, .ref dr, .int 0]))]) (va_runV (As := [.int x5]) (rest := []) ⟨hx, hb, hml, hown, hts⟩ (k_X7_append_16 l D ca H.size tp tb f_13 x5) (cwV 1 hts gX10_feed_X7_append rfl rfl rfl (by decide +kernel) ⟨(Nat.le_of_ble_eq_true rfl), (Nat.le_of_ble_eq_true rfl)⟩) (PC.preV (ci := 7) hC hP hD [1, 2] rfl (by decide +kernel) rfl rfl) rfl rfl hl.1 rfl (lv_room (Nat.le_of_ble_eq_true rfl)) dX10_feed_57 ⟨(Nat.le_of_ble_eq_true rfl), (Nat.le_of_ble_eq_true rfl)⟩) hP hD hS hA [1, 2] [0] rfl rfl (by decide +kernel) (by decide +kernel) (fun u_15 H locs hw_14 hP hD hS => ?_)
  obtain ⟨f_16, rfl⟩ : ∃ z, z = u_15 := ⟨_, rfl⟩
  have hP : va_P D vwCl [(h0, .inr (10, [.ref tp, .ref rd, .ref lv, .ref tr, .ref rw, .ref bx, .ref ch, .ref sg, .ref dg, .ref pl, .ref dr, .int 0])), (tp, .inr (7, [.ref tb, .int 20])), (tb, .inl (ca 0, 1700, .inl f_16))] H := hP
  have hD : va_D A [(h0, .inr (10, [.ref tp, .ref rd, .ref lv, .ref tr, .ref rw, .ref bx, .ref ch, .ref sg, .ref dg, .ref pl, .ref dr, .int 0])), (tp, .inr (7, [.ref tb, .int 20])), (tb, .inl (ca 0, 1700, .inl f_16))] := hD
  refine lv_aload_n hx hb dX10_feed_60 rfl (lv_at hl 0 rfl) ?_
  refine va_get (D := D) (ci := 10) (v := .ref tp) (C := RX10) (T := TX10) (N := 12) hx hb hts iw_X10_feed_10 hown hC.1 hP 0 rfl rfl 0 (by decide +kernel) (hts (.fieldLink RX10 12 "FairWheel" "tape" "LFairWheel$Tape;") (by decide +kernel)) (fun _ h9 => h9) rfl dX10_feed_61 ?_
  refine va_get (D := D) (ci := 7) (v := .int 20) (C := RX7) (T := TX7) (N := 2) hx hb hts iw_X10_feed_7 hown hC.1 hP 1 rfl rfl 1 (by decide +kernel) (hts (.fieldLink RX10 83 "FairWheel$Tape" "size" "I") (by decide +kernel)) (fun _ h9 => h9) rfl dX10_feed_64 ?_
  exact W.iret (v := 20) hx hb hr (fun t ht hW => ⟨⟨20, (), rfl, rfl, by rw [ht]; exact hP.sub [] rfl, hDA (hD.sub [] (by decide +kernel) rfl)⟩, hS.F ht⟩) hS.2.2 dX10_feed_67
theorem iw_X10_end_7 : ∀ w ∈ u_ws RX7 TX7 2, w ∈ wsX10_end := by decide +kernel
theorem iw_X10_end_10 : ∀ w ∈ u_ws RX10 TX10 12, w ∈ wsX10_end := by decide +kernel
def sp_k_X10_end (x1 : Int32) : Int32 := (if x1 < 0 then (-1) else (if x1 ≤ 0 then x1 else (-1)))
set_option maxHeartbeats 4000000 in
set_option maxRecDepth 100000 in
theorem k_X10_end (l : Launch) (D : va_G) (ca : Nat → ClassId) (sz : Nat) (h0 : Nat) (tp : Nat) (rd : Nat) (lv : Nat) (tr : Nat) (rw : Nat) (bx : Nat) (ch : Nat) (sg : Nat) (dg : Nat) (pl : Nat) (dr : Nat) (tb : Nat) (x1 : Int32) : Met l yX10_end wsX10_end ({ frames := 0, cells := 0, slots := 0, locals := 0 }) (PC [.ref h0, .int x1] sz D ca [(h0, .inr (10, [.ref tp, .ref rd, .ref lv, .ref tr, .ref rw, .ref bx, .ref ch, .ref sg, .ref dg, .ref pl, .ref dr, .int 0])), (tp, .inr (7, [.ref tb, .int 0]))]) (QI (fun (r : Int32) (u : Unit) => r = sp_k_X10_end x1) (fun (_ : Unit) => []) [(h0, .inr (10, [.ref tp, .ref rd, .ref lv, .ref tr, .ref rw, .ref bx, .ref ch, .ref sg, .ref dg, .ref pl, .ref dr, .int 0])), (tp, .inr (7, [.ref tb, .int 0]))] sz D) 0 0 (va_A [(h0, .inr (10, [.ref tp, .ref rd, .ref lv, .ref tr, .ref rw, .ref bx, .ref ch, .ref sg, .ref dg, .ref pl, .ref dr, .int 0])), (tp, .inr (7, [.ref tb, .int 0]))] sz) := by
  refine Met.ofW (cc := cX10_end) (maxL := 2) (ret := (some .int)) (by decide +kernel) rfl ?_
  intro p e s m args below meth c s₁ B hml hv
  obtain ⟨rfl, hsz, hP, hC, hD0⟩ := hv
  have hx := B.exec
  have hb := B.bytes
  have hr := B.returns
  have hts := atoms_spec (ws := wsX10_end) B.pre
  have hown : s.vm.findClass RX10 = some m.cls := findClass_of_methodNamed B.named
  have hlocks := B.notSynchronized
  subst hsz
  have hD := hD0.self (sz := s.heap.size)
  dsimp only [QV, QI, QL, BQ]
  generalize hAe : va_A [(h0, .inr (10, [.ref tp, .ref rd, .ref lv, .ref tr, .ref rw, .ref bx, .ref ch, .ref sg, .ref dg, .ref pl, .ref dr, .int 0])), (tp, .inr (7, [.ref tb, .int 0]))] s.heap.size = A at hD ⊢
  have hA : ∀ q : Nat, s.heap.size ≤ q → A q := fun q h => by rw [← hAe]; exact Or.inr h
  have hDA : ∀ {w : va_W}, va_D A w → va_D (va_A [(h0, .inr (10, [.ref tp, .ref rd, .ref lv, .ref tr, .ref rw, .ref bx, .ref ch, .ref sg, .ref dg, .ref pl, .ref dr, .int 0])), (tp, .inr (7, [.ref tb, .int 0]))] s.heap.size) w := fun h => by rw [hAe]; exact h
  have hS : va_S A s.heap s.heap [] := va_S.rf
  have hP : va_P D vwCl [(h0, .inr (10, [.ref tp, .ref rd, .ref lv, .ref tr, .ref rw, .ref bx, .ref ch, .ref sg, .ref dg, .ref pl, .ref dr, .int 0])), (tp, .inr (7, [.ref tb, .int 0]))] s.heap := hP
  have hl := lv_entry ([.ref h0, .int x1]) (n := 2) (Nat.le_of_ble_eq_true rfl)
  rw [lg_entry_eq]
  generalize (lg_sl ([.ref h0, .int x1]) ++ List.replicate (2 - (lg_sl ([.ref h0, .int x1])).length) Slot.unset).toArray = ls at hl ⊢
  have hl : lv_has ls 2 [(0, .ref h0), (1, .int x1)] := hl
  refine lv_iload_n hx hb dX10_end_0 rfl (lv_at hl 1 rfl) ?_
  refine lv_if_lt (tgt := 15) hx hb dX10_end_1 (by decide +kernel) (fun c_1 => ?_) (fun c_1 => ?_)
  · refine lv_iconst (v := (-1)) hx hb dX10_end_15 (by decide +kernel) ?_
    exact W.iret (v := (-1)) hx hb hr (fun t ht hW => ⟨⟨(-1), (), rfl, (by unfold sp_k_X10_end; rw [if_pos c_1]), by rw [ht]; exact hP.sub [] rfl, hDA (hD.sub [] (by decide +kernel) rfl)⟩, hS.F ht⟩) hS.2.2 dX10_end_16
  · refine lv_iload_n hx hb dX10_end_4 rfl (lv_at hl 1 rfl) ?_
    refine lv_aload_n hx hb dX10_end_5 rfl (lv_at hl 0 rfl) ?_
    refine va_get (D := D) (ci := 10) (v := .ref tp) (C := RX10) (T := TX10) (N := 12) hx hb hts iw_X10_end_10 hown hC.1 hP 0 rfl rfl 0 (by decide +kernel) (hts (.fieldLink RX10 12 "FairWheel" "tape" "LFairWheel$Tape;") (by decide +kernel)) (fun _ h9 => h9) rfl dX10_end_6 ?_
    refine va_get (D := D) (ci := 7) (v := .int 0) (C := RX7) (T := TX7) (N := 2) hx hb hts iw_X10_end_7 hown hC.1 hP 1 rfl rfl 1 (by decide +kernel) (hts (.fieldLink RX10 83 "FairWheel$Tape" "size" "I") (by decide +kernel)) (fun _ h9 => h9) rfl dX10_end_9 ?_
    refine lv_icmp_le (tgt := 17) hx hb dX10_end_12 (by decide +kernel) (fun c_2 => ?_) (fun c_2 => ?_)
    · refine lv_aload_n hx hb dX10_end_17 rfl (lv_at hl 0 rfl) ?_
      refine va_get (D := D) (ci := 10) (v := .ref tp) (C := RX10) (T := TX10) (N := 12) hx hb hts iw_X10_end_10 hown hC.1 hP 0 rfl rfl 0 (by decide +kernel) (hts (.fieldLink RX10 12 "FairWheel" "tape" "LFairWheel$Tape;") (by decide +kernel)) (fun _ h9 => h9) rfl dX10_end_18 ?_
      refine lv_iload_n hx hb dX10_end_21 rfl (lv_at hl 1 rfl) ?_
      refine va_put (D := D) (ci := 7) (v := .int x1) (ty := .int) (C := RX7) (T := TX7) (N := 2) hx hb hts iw_X10_end_7 tyX7 tyX7_ok nmX7 hown hC.1 hP hD hS 1 rfl rfl 1 (by decide +kernel) (hts (.fieldLink RX10 83 "FairWheel$Tape" "size" "I") (by decide +kernel)) (fun _ h9 => h9) rfl (by decide +kernel) rfl rfl (Nat.le_of_ble_eq_true rfl) dX10_end_22 (fun H locs hP hD hS => ?_)
      have hP : va_P D vwCl [(h0, .inr (10, [.ref tp, .ref rd, .ref lv, .ref tr, .ref rw, .ref bx, .ref ch, .ref sg, .ref dg, .ref pl, .ref dr, .int 0])), (tp, .inr (7, [.ref tb, .int x1]))] H := hP
      have hD : va_D A [(h0, .inr (10, [.ref tp, .ref rd, .ref lv, .ref tr, .ref rw, .ref bx, .ref ch, .ref sg, .ref dg, .ref pl, .ref dr, .int 0])), (tp, .inr (7, [.ref tb, .int x1]))] := hD
      refine lv_iload_n hx hb dX10_end_25 rfl (lv_at hl 1 rfl) ?_
      exact W.iret (v := x1) hx hb hr (fun t ht hW => ⟨⟨x1, (), rfl, (by unfold sp_k_X10_end; rw [if_neg c_1, if_pos c_2]), by rw [ht]; exact hP.sub [] rfl, hDA (hD.sub [] (by decide +kernel) rfl)⟩, hS.F ht⟩) hS.2.2 dX10_end_26
    · refine lv_iconst (v := (-1)) hx hb dX10_end_15 (by decide +kernel) ?_
      exact W.iret (v := (-1)) hx hb hr (fun t ht hW => ⟨⟨(-1), (), rfl, (by unfold sp_k_X10_end; rw [if_neg c_1, if_neg c_2]), by rw [ht]; exact hP.sub [] rfl, hDA (hD.sub [] (by decide +kernel) rfl)⟩, hS.F ht⟩) hS.2.2 dX10_end_16
theorem iw_X10_fault_3 : ∀ w ∈ u_ws RX3 TX3 6, w ∈ wsX10_fault := by decide +kernel
theorem iw_X10_fault_10 : ∀ w ∈ u_ws RX10 TX10 12, w ∈ wsX10_fault := by decide +kernel
def sp_k_X10_fault (x1 : Int32) : Int32 := (if x1 = 0 then 0 else (if x1 = 1 then (-1) else (-1)))
set_option maxHeartbeats 4000000 in
set_option maxRecDepth 100000 in
theorem k_X10_fault (l : Launch) (D : va_G) (ca : Nat → ClassId) (sz : Nat) (h0 : Nat) (tp : Nat) (rd : Nat) (lv : Nat) (tr : Nat) (rw : Nat) (bx : Nat) (ch : Nat) (sg : Nat) (dg : Nat) (pl : Nat) (dr : Nat) (sc : Nat) (x1 : Int32) : Met l yX10_fault wsX10_fault ({ frames := 0, cells := 0, slots := 0, locals := 0 }) (PC [.ref h0, .int x1] sz D ca [(h0, .inr (10, [.ref tp, .ref rd, .ref lv, .ref tr, .ref rw, .ref bx, .ref ch, .ref sg, .ref dg, .ref pl, .ref dr, .int 0])), (rd, .inr (3, [.ref sc, .ref dr, .int 0, .int 0, .int 0, .int (-1)]))]) (QI (fun (r : Int32) (u : Unit) => r = sp_k_X10_fault x1) (fun (_ : Unit) => []) [(h0, .inr (10, [.ref tp, .ref rd, .ref lv, .ref tr, .ref rw, .ref bx, .ref ch, .ref sg, .ref dg, .ref pl, .ref dr, .int 0])), (rd, .inr (3, [.ref sc, .ref dr, .int 0, .int 0, .int 0, .int (-1)]))] sz D) 0 0 (va_A [(h0, .inr (10, [.ref tp, .ref rd, .ref lv, .ref tr, .ref rw, .ref bx, .ref ch, .ref sg, .ref dg, .ref pl, .ref dr, .int 0])), (rd, .inr (3, [.ref sc, .ref dr, .int 0, .int 0, .int 0, .int (-1)]))] sz) := by
  refine Met.ofW (cc := cX10_fault) (maxL := 2) (ret := (some .int)) (by decide +kernel) rfl ?_
  intro p e s m args below meth c s₁ B hml hv
  obtain ⟨rfl, hsz, hP, hC, hD0⟩ := hv
  have hx := B.exec
  have hb := B.bytes
  have hr := B.returns
  have hts := atoms_spec (ws := wsX10_fault) B.pre
  have hown : s.vm.findClass RX10 = some m.cls := findClass_of_methodNamed B.named
  have hlocks := B.notSynchronized
  subst hsz
  have hD := hD0.self (sz := s.heap.size)
  dsimp only [QV, QI, QL, BQ]
  generalize hAe : va_A [(h0, .inr (10, [.ref tp, .ref rd, .ref lv, .ref tr, .ref rw, .ref bx, .ref ch, .ref sg, .ref dg, .ref pl, .ref dr, .int 0])), (rd, .inr (3, [.ref sc, .ref dr, .int 0, .int 0, .int 0, .int (-1)]))] s.heap.size = A at hD ⊢
  have hA : ∀ q : Nat, s.heap.size ≤ q → A q := fun q h => by rw [← hAe]; exact Or.inr h
  have hDA : ∀ {w : va_W}, va_D A w → va_D (va_A [(h0, .inr (10, [.ref tp, .ref rd, .ref lv, .ref tr, .ref rw, .ref bx, .ref ch, .ref sg, .ref dg, .ref pl, .ref dr, .int 0])), (rd, .inr (3, [.ref sc, .ref dr, .int 0, .int 0, .int 0, .int (-1)]))] s.heap.size) w := fun h => by rw [hAe]; exact h
  have hS : va_S A s.heap s.heap [] := va_S.rf
  have hP : va_P D vwCl [(h0, .inr (10, [.ref tp, .ref rd, .ref lv, .ref tr, .ref rw, .ref bx, .ref ch, .ref sg, .ref dg, .ref pl, .ref dr, .int 0])), (rd, .inr (3, [.ref sc, .ref dr, .int 0, .int 0, .int 0, .int (-1)]))] s.heap := hP
  have hl := lv_entry ([.ref h0, .int x1]) (n := 2) (Nat.le_of_ble_eq_true rfl)
  rw [lg_entry_eq]
  generalize (lg_sl ([.ref h0, .int x1]) ++ List.replicate (2 - (lg_sl ([.ref h0, .int x1])).length) Slot.unset).toArray = ls at hl ⊢
  have hl : lv_has ls 2 [(0, .ref h0), (1, .int x1)] := hl
  refine lv_iload_n hx hb dX10_fault_0 rfl (lv_at hl 1 rfl) ?_
  refine lv_if_ne (tgt := 12) hx hb dX10_fault_1 (by decide +kernel) (fun c_1 => ?_) (fun c_1 => ?_)
  · refine lv_iload_n hx hb dX10_fault_12 rfl (lv_at hl 1 rfl) ?_
    refine lv_iconst (v := 1) hx hb dX10_fault_13 (by decide +kernel) ?_
    refine lv_icmp_ne (tgt := 27) hx hb dX10_fault_14 (by decide +kernel) (fun c_2 => ?_) (fun c_2 => ?_)
    · refine lv_iconst (v := (-1)) hx hb dX10_fault_27 (by decide +kernel) ?_
      exact W.iret (v := (-1)) hx hb hr (fun t ht hW => ⟨⟨(-1), (), rfl, (by unfold sp_k_X10_fault; rw [if_neg c_1, if_neg c_2]), by rw [ht]; exact hP.sub [] rfl, hDA (hD.sub [] (by decide +kernel) rfl)⟩, hS.F ht⟩) hS.2.2 dX10_fault_28
    · refine lv_aload_n hx hb dX10_fault_17 rfl (lv_at hl 0 rfl) ?_
      refine va_get (D := D) (ci := 10) (v := .ref rd) (C := RX10) (T := TX10) (N := 12) hx hb hts iw_X10_fault_10 hown hC.1 hP 0 rfl rfl 1 (by decide +kernel) (hts (.fieldLink RX10 31 "FairWheel" "reader" "LFairWheel$Reader;") (by decide +kernel)) (fun _ h9 => h9) rfl dX10_fault_18 ?_
      refine va_get (D := D) (ci := 3) (v := .int (-1)) (C := RX3) (T := TX3) (N := 6) hx hb hts iw_X10_fault_3 hown hC.1 hP 1 rfl rfl 5 (by decide +kernel) (hts (.fieldLink RX10 109 "FairWheel$Reader" "foundAt" "I") (by decide +kernel)) (fun _ h9 => h9) rfl dX10_fault_21 ?_
      refine lv_goto (tgt := 28) hx hb dX10_fault_24 (by decide +kernel) ?_
      exact W.iret (v := (-1)) hx hb hr (fun t ht hW => ⟨⟨(-1), (), rfl, (by unfold sp_k_X10_fault; rw [if_neg c_1, if_pos c_2]), by rw [ht]; exact hP.sub [] rfl, hDA (hD.sub [] (by decide +kernel) rfl)⟩, hS.F ht⟩) hS.2.2 dX10_fault_28
  · refine lv_aload_n hx hb dX10_fault_4 rfl (lv_at hl 0 rfl) ?_
    refine va_get (D := D) (ci := 10) (v := .ref rd) (C := RX10) (T := TX10) (N := 12) hx hb hts iw_X10_fault_10 hown hC.1 hP 0 rfl rfl 1 (by decide +kernel) (hts (.fieldLink RX10 31 "FairWheel" "reader" "LFairWheel$Reader;") (by decide +kernel)) (fun _ h9 => h9) rfl dX10_fault_5 ?_
    refine va_get (D := D) (ci := 3) (v := .int 0) (C := RX3) (T := TX3) (N := 6) hx hb hts iw_X10_fault_3 hown hC.1 hP 1 rfl rfl 4 (by decide +kernel) (hts (.fieldLink RX10 106 "FairWheel$Reader" "found" "I") (by decide +kernel)) (fun _ h9 => h9) rfl dX10_fault_8 ?_
    exact W.iret (v := 0) hx hb hr (fun t ht hW => ⟨⟨0, (), rfl, (by unfold sp_k_X10_fault; rw [if_pos c_1]), by rw [ht]; exact hP.sub [] rfl, hDA (hD.sub [] (by decide +kernel) rfl)⟩, hS.F ht⟩) hS.2.2 dX10_fault_11
theorem iw_X10_wasChosenIn_9 : ∀ w ∈ u_ws RX9 TX9 6, w ∈ wsX10_wasChosenIn := by decide +kernel
theorem iw_X10_wasChosenIn_10 : ∀ w ∈ u_ws RX10 TX10 12, w ∈ wsX10_wasChosenIn := by decide +kernel
set_option maxHeartbeats 4000000 in
set_option maxRecDepth 100000 in
theorem k_X10_wasChosenIn (l : Launch) (D : va_G) (ca : Nat → ClassId) (sz : Nat) (h0 : Nat) (tp : Nat) (rd : Nat) (lv : Nat) (tr : Nat) (rw : Nat) (bx : Nat) (ch : Nat) (sg : Nat) (dg : Nat) (pl : Nat) (dr : Nat) (w2 : Nat) (w3 : Nat) (w4 : Nat) (w5 : Nat) (x1 : Int32) (x2 : Int32) : Met l yX10_wasChosenIn wsX10_wasChosenIn ({ frames := 0, cells := 0, slots := 0, locals := 0 }) (PC [.ref h0, .int x1, .int x2] sz D ca [(h0, .inr (10, [.ref tp, .ref rd, .ref lv, .ref tr, .ref rw, .ref bx, .ref ch, .ref sg, .ref dg, .ref pl, .ref dr, .int 0])), (lv, .inr (9, [.ref pl, .int 0, .ref w2, .ref w3, .ref w4, .ref w5]))]) (QI (fun (r : Int32) (u : Unit) => r = 0) (fun (_ : Unit) => [(h0, .inr (10, [.ref tp, .ref rd, .ref lv, .ref tr, .ref rw, .ref bx, .ref ch, .ref sg, .ref dg, .ref pl, .ref dr, .int 0])), (lv, .inr (9, [.ref pl, .int 0, .ref w2, .ref w3, .ref w4, .ref w5]))]) [(h0, .inr (10, [.ref tp, .ref rd, .ref lv, .ref tr, .ref rw, .ref bx, .ref ch, .ref sg, .ref dg, .ref pl, .ref dr, .int 0])), (lv, .inr (9, [.ref pl, .int 0, .ref w2, .ref w3, .ref w4, .ref w5]))] sz D) 0 0 (va_A [(h0, .inr (10, [.ref tp, .ref rd, .ref lv, .ref tr, .ref rw, .ref bx, .ref ch, .ref sg, .ref dg, .ref pl, .ref dr, .int 0])), (lv, .inr (9, [.ref pl, .int 0, .ref w2, .ref w3, .ref w4, .ref w5]))] sz) := by
  refine Met.ofW (cc := cX10_wasChosenIn) (maxL := 3) (ret := (some .boolean)) (by decide +kernel) rfl ?_
  intro p e s m args below meth c s₁ B hml hv
  obtain ⟨rfl, hsz, hP, hC, hD0⟩ := hv
  have hx := B.exec
  have hb := B.bytes
  have hr := B.returns
  have hts := atoms_spec (ws := wsX10_wasChosenIn) B.pre
  have hown : s.vm.findClass RX10 = some m.cls := findClass_of_methodNamed B.named
  have hlocks := B.notSynchronized
  subst hsz
  have hD := hD0.self (sz := s.heap.size)
  dsimp only [QV, QI, QL, BQ]
  generalize hAe : va_A [(h0, .inr (10, [.ref tp, .ref rd, .ref lv, .ref tr, .ref rw, .ref bx, .ref ch, .ref sg, .ref dg, .ref pl, .ref dr, .int 0])), (lv, .inr (9, [.ref pl, .int 0, .ref w2, .ref w3, .ref w4, .ref w5]))] s.heap.size = A at hD ⊢
  have hA : ∀ q : Nat, s.heap.size ≤ q → A q := fun q h => by rw [← hAe]; exact Or.inr h
  have hDA : ∀ {w : va_W}, va_D A w → va_D (va_A [(h0, .inr (10, [.ref tp, .ref rd, .ref lv, .ref tr, .ref rw, .ref bx, .ref ch, .ref sg, .ref dg, .ref pl, .ref dr, .int 0])), (lv, .inr (9, [.ref pl, .int 0, .ref w2, .ref w3, .ref w4, .ref w5]))] s.heap.size) w := fun h => by rw [hAe]; exact h
  have hS : va_S A s.heap s.heap [] := va_S.rf
  have hP : va_P D vwCl [(h0, .inr (10, [.ref tp, .ref rd, .ref lv, .ref tr, .ref rw, .ref bx, .ref ch, .ref sg, .ref dg, .ref pl, .ref dr, .int 0])), (lv, .inr (9, [.ref pl, .int 0, .ref w2, .ref w3, .ref w4, .ref w5]))] s.heap := hP
  have hl := lv_entry ([.ref h0, .int x1, .int x2]) (n := 3) (Nat.le_of_ble_eq_true rfl)
  rw [lg_entry_eq]
  generalize (lg_sl ([.ref h0, .int x1, .int x2]) ++ List.replicate (3 - (lg_sl ([.ref h0, .int x1, .int x2])).length) Slot.unset).toArray = ls at hl ⊢
  have hl : lv_has ls 3 [(0, .ref h0), (1, .int x1), (2, .int x2)] := hl
  refine lv_iload_n hx hb dX10_wasChosenIn_0 rfl (lv_at hl 1 rfl) ?_
  refine lv_if_lt (tgt := 43) hx hb dX10_wasChosenIn_1 (by decide +kernel) (fun c_1 => ?_) (fun c_1 => ?_)
  · refine lv_iconst (v := 0) hx hb dX10_wasChosenIn_43 (by decide +kernel) ?_
    exact W.zret (v := 0) hx hb hr (rfl) (fun t ht hW => ⟨⟨0, (), rfl, rfl, by rw [ht]; exact hP.sub [0, 1] rfl, hDA (hD.sub [0, 1] (by decide +kernel) rfl)⟩, hS.F ht⟩) hS.2.2 dX10_wasChosenIn_44
  · refine lv_iload_n hx hb dX10_wasChosenIn_4 rfl (lv_at hl 1 rfl) ?_
    refine lv_aload_n hx hb dX10_wasChosenIn_5 rfl (lv_at hl 0 rfl) ?_
    refine va_get (D := D) (ci := 10) (v := .ref lv) (C := RX10) (T := TX10) (N := 12) hx hb hts iw_X10_wasChosenIn_10 hown hC.1 hP 0 rfl rfl 2 (by decide +kernel) (hts (.fieldLink RX10 40 "FairWheel" "live" "LFairWheel$Wheel;") (by decide +kernel)) (fun _ h9 => h9) rfl dX10_wasChosenIn_6 ?_
    refine va_get (D := D) (ci := 9) (v := .int 0) (C := RX9) (T := TX9) (N := 6) hx hb hts iw_X10_wasChosenIn_9 hown hC.1 hP 1 rfl rfl 1 (by decide +kernel) (hts (.fieldLink RX10 112 "FairWheel$Wheel" "now" "I") (by decide +kernel)) (fun _ h9 => h9) rfl dX10_wasChosenIn_9 ?_
    refine lv_icmp_ge (tgt := 43) hx hb dX10_wasChosenIn_12 (by decide +kernel) (fun c_2 => ?_) (fun c_2 => (pr_es (Int32.not_lt.mp c_1) (Int32.not_le.mp c_2) (by decide +kernel)).elim)
    refine lv_iconst (v := 0) hx hb dX10_wasChosenIn_43 (by decide +kernel) ?_
    exact W.zret (v := 0) hx hb hr (rfl) (fun t ht hW => ⟨⟨0, (), rfl, rfl, by rw [ht]; exact hP.sub [0, 1] rfl, hDA (hD.sub [0, 1] (by decide +kernel) rfl)⟩, hS.F ht⟩) hS.2.2 dX10_wasChosenIn_44
set_option maxHeartbeats 4000000 in
set_option maxRecDepth 100000 in
theorem k_X10_chosen (l : Launch) (D : va_G) (ca : Nat → ClassId) (sz : Nat) (h0 : Nat) (tp : Nat) (rd : Nat) (lv : Nat) (tr : Nat) (rw : Nat) (bx : Nat) (ch : Nat) (sg : Nat) (dg : Nat) (pl : Nat) (dr : Nat) (w2 : Nat) (w3 : Nat) (w4 : Nat) (w5 : Nat) (x1 : Int32) (x2 : Int32) : Met l yX10_chosen wsX10_chosen ({ frames := 1, cells := 0, slots := 0, locals := 22 }) (PC [.ref h0, .int x1, .int x2] sz D ca [(h0, .inr (10, [.ref tp, .ref rd, .ref lv, .ref tr, .ref rw, .ref bx, .ref ch, .ref sg, .ref dg, .ref pl, .ref dr, .int 0])), (lv, .inr (9, [.ref pl, .int 0, .ref w2, .ref w3, .ref w4, .ref w5]))]) (QI (fun (r : Int32) (u : Unit) => r = (-1)) (fun (_ : Unit) => []) [(h0, .inr (10, [.ref tp, .ref rd, .ref lv, .ref tr, .ref rw, .ref bx, .ref ch, .ref sg, .ref dg, .ref pl, .ref dr, .int 0])), (lv, .inr (9, [.ref pl, .int 0, .ref w2, .ref w3, .ref w4, .ref w5]))] sz D) 0 0 (va_A [(h0, .inr (10, [.ref tp, .ref rd, .ref lv, .ref tr, .ref rw, .ref bx, .ref ch, .ref sg, .ref dg, .ref pl, .ref dr, .int 0])), (lv, .inr (9, [.ref pl, .int 0, .ref w2, .ref w3, .ref w4, .ref w5]))] sz) := by
  refine Met.ofW (cc := cX10_chosen) (maxL := 3) (ret := (some .int)) (by decide +kernel) rfl ?_
  intro p e s m args below meth c s₁ B hml hv
  obtain ⟨rfl, hsz, hP, hC, hD0⟩ := hv
  have hx := B.exec
  have hb := B.bytes
  have hr := B.returns
  have hts := atoms_spec (ws := wsX10_chosen) B.pre
  have hown : s.vm.findClass RX10 = some m.cls := findClass_of_methodNamed B.named
  have hlocks := B.notSynchronized
  subst hsz
  have hD := hD0.self (sz := s.heap.size)
  dsimp only [QV, QI, QL, BQ]
  generalize hAe : va_A [(h0, .inr (10, [.ref tp, .ref rd, .ref lv, .ref tr, .ref rw, .ref bx, .ref ch, .ref sg, .ref dg, .ref pl, .ref dr, .int 0])), (lv, .inr (9, [.ref pl, .int 0, .ref w2, .ref w3, .ref w4, .ref w5]))] s.heap.size = A at hD ⊢
  have hA : ∀ q : Nat, s.heap.size ≤ q → A q := fun q h => by rw [← hAe]; exact Or.inr h
  have hDA : ∀ {w : va_W}, va_D A w → va_D (va_A [(h0, .inr (10, [.ref tp, .ref rd, .ref lv, .ref tr, .ref rw, .ref bx, .ref ch, .ref sg, .ref dg, .ref pl, .ref dr, .int 0])), (lv, .inr (9, [.ref pl, .int 0, .ref w2, .ref w3, .ref w4, .ref w5]))] s.heap.size) w := fun h => by rw [hAe]; exact h
  have hS : va_S A s.heap s.heap [] := va_S.rf
  have hP : va_P D vwCl [(h0, .inr (10, [.ref tp, .ref rd, .ref lv, .ref tr, .ref rw, .ref bx, .ref ch, .ref sg, .ref dg, .ref pl, .ref dr, .int 0])), (lv, .inr (9, [.ref pl, .int 0, .ref w2, .ref w3, .ref w4, .ref w5]))] s.heap := hP
  have hl := lv_entry ([.ref h0, .int x1, .int x2]) (n := 3) (Nat.le_of_ble_eq_true rfl)
  rw [lg_entry_eq]
  generalize (lg_sl ([.ref h0, .int x1, .int x2]) ++ List.replicate (3 - (lg_sl ([.ref h0, .int x1, .int x2])).length) Slot.unset).toArray = ls at hl ⊢
  have hl : lv_has ls 3 [(0, .ref h0), (1, .int x1), (2, .int x2)] := hl
  refine lv_aload_n hx hb dX10_chosen_0 rfl (lv_at hl 0 rfl) ?_
  refine lv_iload_n hx hb dX10_chosen_1 rfl (lv_at hl 1 rfl) ?_
  refine lv_iload_n hx hb dX10_chosen_2 rfl (lv_at hl 2 rfl) ?_
  refine kc_i (wr := []) (va_runV (As := [.int x1, .int x2]) (rest := []) ⟨hx, hb, hml, hown, hts⟩ (k_X10_wasChosenIn l D ca s.heap.size h0 tp rd lv tr rw bx ch sg dg pl dr w2 w3 w4 w5 x1 x2) (cwV 2 hts gX10_chosen_X10_wasChosenIn rfl rfl rfl (by decide +kernel) ⟨(Nat.le_of_ble_eq_true rfl), (Nat.le_of_ble_eq_true rfl)⟩) (PC.preV (ci := 10) hC hP hD [0, 1] rfl (by decide +kernel) rfl rfl) rfl rfl hl.1 rfl (lv_room (Nat.le_of_ble_eq_true rfl)) dX10_chosen_3 ⟨(Nat.le_of_ble_eq_true rfl), (Nat.le_of_ble_eq_true rfl)⟩) hP hD hS hA [0, 1] [] rfl rfl (by decide +kernel) (by decide +kernel) (fun r_1 u_3 H locs hw_2 hP hD hS => ?_)
  subst hw_2
  have hP : va_P D vwCl [(h0, .inr (10, [.ref tp, .ref rd, .ref lv, .ref tr, .ref rw, .ref bx, .ref ch, .ref sg, .ref dg, .ref pl, .ref dr, .int 0])), (lv, .inr (9, [.ref pl, .int 0, .ref w2, .ref w3, .ref w4, .ref w5]))] H := hP
  have hD : va_D A [(h0, .inr (10, [.ref tp, .ref rd, .ref lv, .ref tr, .ref rw, .ref bx, .ref ch, .ref sg, .ref dg, .ref pl, .ref dr, .int 0])), (lv, .inr (9, [.ref pl, .int 0, .ref w2, .ref w3, .ref w4, .ref w5]))] := hD
  refine lv_if_ne (tgt := 11) hx hb dX10_chosen_6 (by decide +kernel) (fun c_4 => absurd (by decide +kernel) c_4) (fun c_4 => ?_)
  refine lv_iconst (v := (-1)) hx hb dX10_chosen_9 (by decide +kernel) ?_
  exact W.iret (v := (-1)) hx hb hr (fun t ht hW => ⟨⟨(-1), (), rfl, rfl, by rw [ht]; exact hP.sub [] rfl, hDA (hD.sub [] (by decide +kernel) rfl)⟩, hS.F ht⟩) hS.2.2 dX10_chosen_10
theorem iw_X10_task_2 : ∀ w ∈ u_ws RX2 TX2 14, w ∈ wsX10_task := by decide +kernel
theorem iw_X10_task_10 : ∀ w ∈ u_ws RX10 TX10 12, w ∈ wsX10_task := by decide +kernel
set_option maxHeartbeats 4000000 in
set_option maxRecDepth 100000 in
theorem k_X10_task (l : Launch) (D : va_G) (ca : Nat → ClassId) (sz : Nat) (h0 : Nat) (tp : Nat) (rd : Nat) (lv : Nat) (tr : Nat) (rw : Nat) (bx : Nat) (ch : Nat) (sg : Nat) (dg : Nat) (pl : Nat) (dr : Nat) (pl5 : Nat) (pl6 : Nat) (pl7 : Nat) (pl8 : Nat) (pl9 : Nat) (pl10 : Nat) (pl11 : Nat) (pl12 : Nat) (pl13 : Nat) (x1 : Int32) (x2 : Int32) : Met l yX10_task wsX10_task ({ frames := 0, cells := 0, slots := 0, locals := 0 }) (PC [.ref h0, .int x1, .int x2] sz D ca [(h0, .inr (10, [.ref tp, .ref rd, .ref lv, .ref tr, .ref rw, .ref bx, .ref ch, .ref sg, .ref dg, .ref pl, .ref dr, .int 0])), (pl, .inr (2, [.int 1, .int 0, .int 0, .int 0, .int 0, .ref pl5, .ref pl6, .ref pl7, .ref pl8, .ref pl9, .ref pl10, .ref pl11, .ref pl12, .ref pl13]))]) (QI (fun (r : Int32) (u : Unit) => r = (-2)) (fun (_ : Unit) => []) [(h0, .inr (10, [.ref tp, .ref rd, .ref lv, .ref tr, .ref rw, .ref bx, .ref ch, .ref sg, .ref dg, .ref pl, .ref dr, .int 0])), (pl, .inr (2, [.int 1, .int 0, .int 0, .int 0, .int 0, .ref pl5, .ref pl6, .ref pl7, .ref pl8, .ref pl9, .ref pl10, .ref pl11, .ref pl12, .ref pl13]))] sz D) 0 0 (va_A [(h0, .inr (10, [.ref tp, .ref rd, .ref lv, .ref tr, .ref rw, .ref bx, .ref ch, .ref sg, .ref dg, .ref pl, .ref dr, .int 0])), (pl, .inr (2, [.int 1, .int 0, .int 0, .int 0, .int 0, .ref pl5, .ref pl6, .ref pl7, .ref pl8, .ref pl9, .ref pl10, .ref pl11, .ref pl12, .ref pl13]))] sz) := by
  refine Met.ofW (cc := cX10_task) (maxL := 4) (ret := (some .int)) (by decide +kernel) rfl ?_
  intro p e s m args below meth c s₁ B hml hv
  obtain ⟨rfl, hsz, hP, hC, hD0⟩ := hv
  have hx := B.exec
  have hb := B.bytes
  have hr := B.returns
  have hts := atoms_spec (ws := wsX10_task) B.pre
  have hown : s.vm.findClass RX10 = some m.cls := findClass_of_methodNamed B.named
  have hlocks := B.notSynchronized
  subst hsz
  have hD := hD0.self (sz := s.heap.size)
  dsimp only [QV, QI, QL, BQ]
  generalize hAe : va_A [(h0, .inr (10, [.ref tp, .ref rd, .ref lv, .ref tr, .ref rw, .ref bx, .ref ch, .ref sg, .ref dg, .ref pl, .ref dr, .int 0])), (pl, .inr (2, [.int 1, .int 0, .int 0, .int 0, .int 0, .ref pl5, .ref pl6, .ref pl7, .ref pl8, .ref pl9, .ref pl10, .ref pl11, .ref pl12, .ref pl13]))] s.heap.size = A at hD ⊢
  have hA : ∀ q : Nat, s.heap.size ≤ q → A q := fun q h => by rw [← hAe]; exact Or.inr h
  have hDA : ∀ {w : va_W}, va_D A w → va_D (va_A [(h0, .inr (10, [.ref tp, .ref rd, .ref lv, .ref tr, .ref rw, .ref bx, .ref ch, .ref sg, .ref dg, .ref pl, .ref dr, .int 0])), (pl, .inr (2, [.int 1, .int 0, .int 0, .int 0, .int 0, .ref pl5, .ref pl6, .ref pl7, .ref pl8, .ref pl9, .ref pl10, .ref pl11, .ref pl12, .ref pl13]))] s.heap.size) w := fun h => by rw [hAe]; exact h
  have hS : va_S A s.heap s.heap [] := va_S.rf
  have hP : va_P D vwCl [(h0, .inr (10, [.ref tp, .ref rd, .ref lv, .ref tr, .ref rw, .ref bx, .ref ch, .ref sg, .ref dg, .ref pl, .ref dr, .int 0])), (pl, .inr (2, [.int 1, .int 0, .int 0, .int 0, .int 0, .ref pl5, .ref pl6, .ref pl7, .ref pl8, .ref pl9, .ref pl10, .ref pl11, .ref pl12, .ref pl13]))] s.heap := hP
  have hl := lv_entry ([.ref h0, .int x1, .int x2]) (n := 4) (Nat.le_of_ble_eq_true rfl)
  rw [lg_entry_eq]
  generalize (lg_sl ([.ref h0, .int x1, .int x2]) ++ List.replicate (4 - (lg_sl ([.ref h0, .int x1, .int x2])).length) Slot.unset).toArray = ls at hl ⊢
  have hl : lv_has ls 4 [(0, .ref h0), (1, .int x1), (2, .int x2)] := hl
  refine lv_iload_n hx hb dX10_task_0 rfl (lv_at hl 1 rfl) ?_
  refine lv_if_lt (tgt := 15) hx hb dX10_task_1 (by decide +kernel) (fun c_1 => ?_) (fun c_1 => ?_)
  · refine lv_bipush (v := (-2)) hx hb dX10_task_15 (by decide +kernel) ?_
    exact W.iret (v := (-2)) hx hb hr (fun t ht hW => ⟨⟨(-2), (), rfl, rfl, by rw [ht]; exact hP.sub [] rfl, hDA (hD.sub [] (by decide +kernel) rfl)⟩, hS.F ht⟩) hS.2.2 dX10_task_17
  · refine lv_iload_n hx hb dX10_task_4 rfl (lv_at hl 1 rfl) ?_
    refine lv_aload_n hx hb dX10_task_5 rfl (lv_at hl 0 rfl) ?_
    refine va_get (D := D) (ci := 10) (v := .ref pl) (C := RX10) (T := TX10) (N := 12) hx hb hts iw_X10_task_10 hown hC.1 hP 0 rfl rfl 9 (by decide +kernel) (hts (.fieldLink RX10 19 "FairWheel" "plan" "LFairWheel$Plan;") (by decide +kernel)) (fun _ h9 => h9) rfl dX10_task_6 ?_
    refine va_get (D := D) (ci := 2) (v := .int 0) (C := RX2) (T := TX2) (N := 14) hx hb hts iw_X10_task_2 hown hC.1 hP 1 rfl rfl 3 (by decide +kernel) (hts (.fieldLink RX10 105 "FairWheel$Plan" "count" "I") (by decide +kernel)) (fun _ h9 => h9) rfl dX10_task_9 ?_
    refine lv_icmp_lt (tgt := 18) hx hb dX10_task_12 (by decide +kernel) (fun c_2 => absurd c_2 c_1) (fun c_2 => ?_)
    refine lv_bipush (v := (-2)) hx hb dX10_task_15 (by decide +kernel) ?_
    exact W.iret (v := (-2)) hx hb hr (fun t ht hW => ⟨⟨(-2), (), rfl, rfl, by rw [ht]; exact hP.sub [] rfl, hDA (hD.sub [] (by decide +kernel) rfl)⟩, hS.F ht⟩) hS.2.2 dX10_task_17
theorem iw_X10_place_2 : ∀ w ∈ u_ws RX2 TX2 14, w ∈ wsX10_place := by decide +kernel
theorem iw_X10_place_10 : ∀ w ∈ u_ws RX10 TX10 12, w ∈ wsX10_place := by decide +kernel
set_option maxHeartbeats 4000000 in
set_option maxRecDepth 100000 in
theorem k_X10_place (l : Launch) (D : va_G) (ca : Nat → ClassId) (sz : Nat) (h0 : Nat) (tp : Nat) (rd : Nat) (lv : Nat) (tr : Nat) (rw : Nat) (bx : Nat) (ch : Nat) (sg : Nat) (dg : Nat) (pl : Nat) (dr : Nat) (pl5 : Nat) (pl6 : Nat) (pl7 : Nat) (pl8 : Nat) (pl9 : Nat) (pl10 : Nat) (pl11 : Nat) (pl12 : Nat) (pl13 : Nat) (x1 : Int32) : Met l yX10_place wsX10_place ({ frames := 0, cells := 0, slots := 0, locals := 0 }) (PC [.ref h0, .int x1] sz D ca [(h0, .inr (10, [.ref tp, .ref rd, .ref lv, .ref tr, .ref rw, .ref bx, .ref ch, .ref sg, .ref dg, .ref pl, .ref dr, .int 0])), (pl, .inr (2, [.int 1, .int 0, .int 0, .int 0, .int 0, .ref pl5, .ref pl6, .ref pl7, .ref pl8, .ref pl9, .ref pl10, .ref pl11, .ref pl12, .ref pl13]))]) (QI (fun (r : Int32) (u : Unit) => r = (-1)) (fun (_ : Unit) => []) [(h0, .inr (10, [.ref tp, .ref rd, .ref lv, .ref tr, .ref rw, .ref bx, .ref ch, .ref sg, .ref dg, .ref pl, .ref dr, .int 0])), (pl, .inr (2, [.int 1, .int 0, .int 0, .int 0, .int 0, .ref pl5, .ref pl6, .ref pl7, .ref pl8, .ref pl9, .ref pl10, .ref pl11, .ref pl12, .ref pl13]))] sz D) 0 0 (va_A [(h0, .inr (10, [.ref tp, .ref rd, .ref lv, .ref tr, .ref rw, .ref bx, .ref ch, .ref sg, .ref dg, .ref pl, .ref dr, .int 0])), (pl, .inr (2, [.int 1, .int 0, .int 0, .int 0, .int 0, .ref pl5, .ref pl6, .ref pl7, .ref pl8, .ref pl9, .ref pl10, .ref pl11, .ref pl12, .ref pl13]))] sz) := by
  refine Met.ofW (cc := cX10_place) (maxL := 2) (ret := (some .int)) (by decide +kernel) rfl ?_
  intro p e s m args below meth c s₁ B hml hv
  obtain ⟨rfl, hsz, hP, hC, hD0⟩ := hv
  have hx := B.exec
  have hb := B.bytes
  have hr := B.returns
  have hts := atoms_spec (ws := wsX10_place) B.pre
  have hown : s.vm.findClass RX10 = some m.cls := findClass_of_methodNamed B.named
  have hlocks := B.notSynchronized
  subst hsz
  have hD := hD0.self (sz := s.heap.size)
  dsimp only [QV, QI, QL, BQ]
  generalize hAe : va_A [(h0, .inr (10, [.ref tp, .ref rd, .ref lv, .ref tr, .ref rw, .ref bx, .ref ch, .ref sg, .ref dg, .ref pl, .ref dr, .int 0])), (pl, .inr (2, [.int 1, .int 0, .int 0, .int 0, .int 0, .ref pl5, .ref pl6, .ref pl7, .ref pl8, .ref pl9, .ref pl10, .ref pl11, .ref pl12, .ref pl13]))] s.heap.size = A at hD ⊢
  have hA : ∀ q : Nat, s.heap.size ≤ q → A q := fun q h => by rw [← hAe]; exact Or.inr h
  have hDA : ∀ {w : va_W}, va_D A w → va_D (va_A [(h0, .inr (10, [.ref tp, .ref rd, .ref lv, .ref tr, .ref rw, .ref bx, .ref ch, .ref sg, .ref dg, .ref pl, .ref dr, .int 0])), (pl, .inr (2, [.int 1, .int 0, .int 0, .int 0, .int 0, .ref pl5, .ref pl6, .ref pl7, .ref pl8, .ref pl9, .ref pl10, .ref pl11, .ref pl12, .ref pl13]))] s.heap.size) w := fun h => by rw [hAe]; exact h
  have hS : va_S A s.heap s.heap [] := va_S.rf
  have hP : va_P D vwCl [(h0, .inr (10, [.ref tp, .ref rd, .ref lv, .ref tr, .ref rw, .ref bx, .ref ch, .ref sg, .ref dg, .ref pl, .ref dr, .int 0])), (pl, .inr (2, [.int 1, .int 0, .int 0, .int 0, .int 0, .ref pl5, .ref pl6, .ref pl7, .ref pl8, .ref pl9, .ref pl10, .ref pl11, .ref pl12, .ref pl13]))] s.heap := hP
  have hl := lv_entry ([.ref h0, .int x1]) (n := 2) (Nat.le_of_ble_eq_true rfl)
  rw [lg_entry_eq]
  generalize (lg_sl ([.ref h0, .int x1]) ++ List.replicate (2 - (lg_sl ([.ref h0, .int x1])).length) Slot.unset).toArray = ls at hl ⊢
  have hl : lv_has ls 2 [(0, .ref h0), (1, .int x1)] := hl
  refine lv_iload_n hx hb dX10_place_0 rfl (lv_at hl 1 rfl) ?_
  refine lv_if_lt (tgt := 31) hx hb dX10_place_1 (by decide +kernel) (fun c_1 => ?_) (fun c_1 => ?_)
  · refine lv_iconst (v := (-1)) hx hb dX10_place_31 (by decide +kernel) ?_
    exact W.iret (v := (-1)) hx hb hr (fun t ht hW => ⟨⟨(-1), (), rfl, rfl, by rw [ht]; exact hP.sub [] rfl, hDA (hD.sub [] (by decide +kernel) rfl)⟩, hS.F ht⟩) hS.2.2 dX10_place_32
  · refine lv_iload_n hx hb dX10_place_4 rfl (lv_at hl 1 rfl) ?_
    refine lv_aload_n hx hb dX10_place_5 rfl (lv_at hl 0 rfl) ?_
    refine va_get (D := D) (ci := 10) (v := .ref pl) (C := RX10) (T := TX10) (N := 12) hx hb hts iw_X10_place_10 hown hC.1 hP 0 rfl rfl 9 (by decide +kernel) (hts (.fieldLink RX10 19 "FairWheel" "plan" "LFairWheel$Plan;") (by decide +kernel)) (fun _ h9 => h9) rfl dX10_place_6 ?_
    refine va_get (D := D) (ci := 2) (v := .int 0) (C := RX2) (T := TX2) (N := 14) hx hb hts iw_X10_place_2 hown hC.1 hP 1 rfl rfl 3 (by decide +kernel) (hts (.fieldLink RX10 105 "FairWheel$Plan" "count" "I") (by decide +kernel)) (fun _ h9 => h9) rfl dX10_place_9 ?_
    refine lv_icmp_ge (tgt := 31) hx hb dX10_place_12 (by decide +kernel) (fun c_2 => ?_) (fun c_2 => (pr_es (Int32.not_lt.mp c_1) (Int32.not_le.mp c_2) (by decide +kernel)).elim)
    refine lv_iconst (v := (-1)) hx hb dX10_place_31 (by decide +kernel) ?_
    exact W.iret (v := (-1)) hx hb hr (fun t ht hW => ⟨⟨(-1), (), rfl, rfl, by rw [ht]; exact hP.sub [] rfl, hDA (hD.sub [] (by decide +kernel) rfl)⟩, hS.F ht⟩) hS.2.2 dX10_place_32
theorem iw_X10_holder_2 : ∀ w ∈ u_ws RX2 TX2 14, w ∈ wsX10_holder := by decide +kernel
theorem iw_X10_holder_10 : ∀ w ∈ u_ws RX10 TX10 12, w ∈ wsX10_holder := by decide +kernel
set_option maxHeartbeats 4000000 in
set_option maxRecDepth 100000 in
theorem k_X10_holder (l : Launch) (D : va_G) (ca : Nat → ClassId) (sz : Nat) (h0 : Nat) (tp : Nat) (rd : Nat) (lv : Nat) (tr : Nat) (rw : Nat) (bx : Nat) (ch : Nat) (sg : Nat) (dg : Nat) (pl : Nat) (dr : Nat) (pl5 : Nat) (pl6 : Nat) (pl7 : Nat) (pl8 : Nat) (pl9 : Nat) (pl10 : Nat) (pl11 : Nat) (pl12 : Nat) (pl13 : Nat) (x1 : Int32) : Met l yX10_holder wsX10_holder ({ frames := 0, cells := 0, slots := 0, locals := 0 }) (PC [.ref h0, .int x1] sz D ca [(h0, .inr (10, [.ref tp, .ref rd, .ref lv, .ref tr, .ref rw, .ref bx, .ref ch, .ref sg, .ref dg, .ref pl, .ref dr, .int 0])), (pl, .inr (2, [.int 1, .int 0, .int 0, .int 0, .int 0, .ref pl5, .ref pl6, .ref pl7, .ref pl8, .ref pl9, .ref pl10, .ref pl11, .ref pl12, .ref pl13]))]) (QI (fun (r : Int32) (u : Unit) => r = (-1)) (fun (_ : Unit) => []) [(h0, .inr (10, [.ref tp, .ref rd, .ref lv, .ref tr, .ref rw, .ref bx, .ref ch, .ref sg, .ref dg, .ref pl, .ref dr, .int 0])), (pl, .inr (2, [.int 1, .int 0, .int 0, .int 0, .int 0, .ref pl5, .ref pl6, .ref pl7, .ref pl8, .ref pl9, .ref pl10, .ref pl11, .ref pl12, .ref pl13]))] sz D) 0 0 (va_A [(h0, .inr (10, [.ref tp, .ref rd, .ref lv, .ref tr, .ref rw, .ref bx, .ref ch, .ref sg, .ref dg, .ref pl, .ref dr, .int 0])), (pl, .inr (2, [.int 1, .int 0, .int 0, .int 0, .int 0, .ref pl5, .ref pl6, .ref pl7, .ref pl8, .ref pl9, .ref pl10, .ref pl11, .ref pl12, .ref pl13]))] sz) := by
  refine Met.ofW (cc := cX10_holder) (maxL := 2) (ret := (some .int)) (by decide +kernel) rfl ?_
  intro p e s m args below meth c s₁ B hml hv
  obtain ⟨rfl, hsz, hP, hC, hD0⟩ := hv
  have hx := B.exec
  have hb := B.bytes
  have hr := B.returns
  have hts := atoms_spec (ws := wsX10_holder) B.pre
  have hown : s.vm.findClass RX10 = some m.cls := findClass_of_methodNamed B.named
  have hlocks := B.notSynchronized
  subst hsz
  have hD := hD0.self (sz := s.heap.size)
  dsimp only [QV, QI, QL, BQ]
  generalize hAe : va_A [(h0, .inr (10, [.ref tp, .ref rd, .ref lv, .ref tr, .ref rw, .ref bx, .ref ch, .ref sg, .ref dg, .ref pl, .ref dr, .int 0])), (pl, .inr (2, [.int 1, .int 0, .int 0, .int 0, .int 0, .ref pl5, .ref pl6, .ref pl7, .ref pl8, .ref pl9, .ref pl10, .ref pl11, .ref pl12, .ref pl13]))] s.heap.size = A at hD ⊢
  have hA : ∀ q : Nat, s.heap.size ≤ q → A q := fun q h => by rw [← hAe]; exact Or.inr h
  have hDA : ∀ {w : va_W}, va_D A w → va_D (va_A [(h0, .inr (10, [.ref tp, .ref rd, .ref lv, .ref tr, .ref rw, .ref bx, .ref ch, .ref sg, .ref dg, .ref pl, .ref dr, .int 0])), (pl, .inr (2, [.int 1, .int 0, .int 0, .int 0, .int 0, .ref pl5, .ref pl6, .ref pl7, .ref pl8, .ref pl9, .ref pl10, .ref pl11, .ref pl12, .ref pl13]))] s.heap.size) w := fun h => by rw [hAe]; exact h
  have hS : va_S A s.heap s.heap [] := va_S.rf
  have hP : va_P D vwCl [(h0, .inr (10, [.ref tp, .ref rd, .ref lv, .ref tr, .ref rw, .ref bx, .ref ch, .ref sg, .ref dg, .ref pl, .ref dr, .int 0])), (pl, .inr (2, [.int 1, .int 0, .int 0, .int 0, .int 0, .ref pl5, .ref pl6, .ref pl7, .ref pl8, .ref pl9, .ref pl10, .ref pl11, .ref pl12, .ref pl13]))] s.heap := hP
  have hl := lv_entry ([.ref h0, .int x1]) (n := 2) (Nat.le_of_ble_eq_true rfl)
  rw [lg_entry_eq]
  generalize (lg_sl ([.ref h0, .int x1]) ++ List.replicate (2 - (lg_sl ([.ref h0, .int x1])).length) Slot.unset).toArray = ls at hl ⊢
  have hl : lv_has ls 2 [(0, .ref h0), (1, .int x1)] := hl
  refine lv_iload_n hx hb dX10_holder_0 rfl (lv_at hl 1 rfl) ?_
  refine lv_if_lt (tgt := 15) hx hb dX10_holder_1 (by decide +kernel) (fun c_1 => ?_) (fun c_1 => ?_)
  · refine lv_iconst (v := (-1)) hx hb dX10_holder_15 (by decide +kernel) ?_
    refine lv_goto (tgt := 28) hx hb dX10_holder_16 (by decide +kernel) ?_
    exact W.iret (v := (-1)) hx hb hr (fun t ht hW => ⟨⟨(-1), (), rfl, rfl, by rw [ht]; exact hP.sub [] rfl, hDA (hD.sub [] (by decide +kernel) rfl)⟩, hS.F ht⟩) hS.2.2 dX10_holder_28
  · refine lv_iload_n hx hb dX10_holder_4 rfl (lv_at hl 1 rfl) ?_
    refine lv_aload_n hx hb dX10_holder_5 rfl (lv_at hl 0 rfl) ?_
    refine va_get (D := D) (ci := 10) (v := .ref pl) (C := RX10) (T := TX10) (N := 12) hx hb hts iw_X10_holder_10 hown hC.1 hP 0 rfl rfl 9 (by decide +kernel) (hts (.fieldLink RX10 19 "FairWheel" "plan" "LFairWheel$Plan;") (by decide +kernel)) (fun _ h9 => h9) rfl dX10_holder_6 ?_
    refine va_get (D := D) (ci := 2) (v := .int 0) (C := RX2) (T := TX2) (N := 14) hx hb hts iw_X10_holder_2 hown hC.1 hP 1 rfl rfl 1 (by decide +kernel) (hts (.fieldLink RX10 181 "FairWheel$Plan" "locks" "I") (by decide +kernel)) (fun _ h9 => h9) rfl dX10_holder_9 ?_
    refine lv_icmp_lt (tgt := 19) hx hb dX10_holder_12 (by decide +kernel) (fun c_2 => absurd c_2 c_1) (fun c_2 => ?_)
    refine lv_iconst (v := (-1)) hx hb dX10_holder_15 (by decide +kernel) ?_
    refine lv_goto (tgt := 28) hx hb dX10_holder_16 (by decide +kernel) ?_
    exact W.iret (v := (-1)) hx hb hr (fun t ht hW => ⟨⟨(-1), (), rfl, rfl, by rw [ht]; exact hP.sub [] rfl, hDA (hD.sub [] (by decide +kernel) rfl)⟩, hS.F ht⟩) hS.2.2 dX10_holder_28
theorem iw_X10_waits_2 : ∀ w ∈ u_ws RX2 TX2 14, w ∈ wsX10_waits := by decide +kernel
theorem iw_X10_waits_10 : ∀ w ∈ u_ws RX10 TX10 12, w ∈ wsX10_waits := by decide +kernel
set_option maxHeartbeats 4000000 in
set_option maxRecDepth 100000 in
theorem k_X10_waits (l : Launch) (D : va_G) (ca : Nat → ClassId) (sz : Nat) (h0 : Nat) (tp : Nat) (rd : Nat) (lv : Nat) (tr : Nat) (rw : Nat) (bx : Nat) (ch : Nat) (sg : Nat) (dg : Nat) (pl : Nat) (dr : Nat) (pl5 : Nat) (pl6 : Nat) (pl7 : Nat) (pl8 : Nat) (pl9 : Nat) (pl10 : Nat) (pl11 : Nat) (pl12 : Nat) (pl13 : Nat) (x1 : Int32) : Met l yX10_waits wsX10_waits ({ frames := 0, cells := 0, slots := 0, locals := 0 }) (PC [.ref h0, .int x1] sz D ca [(h0, .inr (10, [.ref tp, .ref rd, .ref lv, .ref tr, .ref rw, .ref bx, .ref ch, .ref sg, .ref dg, .ref pl, .ref dr, .int 0])), (pl, .inr (2, [.int 1, .int 0, .int 0, .int 0, .int 0, .ref pl5, .ref pl6, .ref pl7, .ref pl8, .ref pl9, .ref pl10, .ref pl11, .ref pl12, .ref pl13]))]) (QI (fun (r : Int32) (u : Unit) => r = (-1)) (fun (_ : Unit) => []) [(h0, .inr (10, [.ref tp, .ref rd, .ref lv, .ref tr, .ref rw, .ref bx, .ref ch, .ref sg, .ref dg, .ref pl, .ref dr, .int 0])), (pl, .inr (2, [.int 1, .int 0, .int 0, .int 0, .int 0, .ref pl5, .ref pl6, .ref pl7, .ref pl8, .ref pl9, .ref pl10, .ref pl11, .ref pl12, .ref pl13]))] sz D) 0 0 (va_A [(h0, .inr (10, [.ref tp, .ref rd, .ref lv, .ref tr, .ref rw, .ref bx, .ref ch, .ref sg, .ref dg, .ref pl, .ref dr, .int 0])), (pl, .inr (2, [.int 1, .int 0, .int 0, .int 0, .int 0, .ref pl5, .ref pl6, .ref pl7, .ref pl8, .ref pl9, .ref pl10, .ref pl11, .ref pl12, .ref pl13]))] sz) := by
  refine Met.ofW (cc := cX10_waits) (maxL := 4) (ret := (some .int)) (by decide +kernel) rfl ?_
  intro p e s m args below meth c s₁ B hml hv
  obtain ⟨rfl, hsz, hP, hC, hD0⟩ := hv
  have hx := B.exec
  have hb := B.bytes
  have hr := B.returns
  have hts := atoms_spec (ws := wsX10_waits) B.pre
  have hown : s.vm.findClass RX10 = some m.cls := findClass_of_methodNamed B.named
  have hlocks := B.notSynchronized
  subst hsz
  have hD := hD0.self (sz := s.heap.size)
  dsimp only [QV, QI, QL, BQ]
  generalize hAe : va_A [(h0, .inr (10, [.ref tp, .ref rd, .ref lv, .ref tr, .ref rw, .ref bx, .ref ch, .ref sg, .ref dg, .ref pl, .ref dr, .int 0])), (pl, .inr (2, [.int 1, .int 0, .int 0, .int 0, .int 0, .ref pl5, .ref pl6, .ref pl7, .ref pl8, .ref pl9, .ref pl10, .ref pl11, .ref pl12, .ref pl13]))] s.heap.size = A at hD ⊢
  have hA : ∀ q : Nat, s.heap.size ≤ q → A q := fun q h => by rw [← hAe]; exact Or.inr h
  have hDA : ∀ {w : va_W}, va_D A w → va_D (va_A [(h0, .inr (10, [.ref tp, .ref rd, .ref lv, .ref tr, .ref rw, .ref bx, .ref ch, .ref sg, .ref dg, .ref pl, .ref dr, .int 0])), (pl, .inr (2, [.int 1, .int 0, .int 0, .int 0, .int 0, .ref pl5, .ref pl6, .ref pl7, .ref pl8, .ref pl9, .ref pl10, .ref pl11, .ref pl12, .ref pl13]))] s.heap.size) w := fun h => by rw [hAe]; exact h
  have hS : va_S A s.heap s.heap [] := va_S.rf
  have hP : va_P D vwCl [(h0, .inr (10, [.ref tp, .ref rd, .ref lv, .ref tr, .ref rw, .ref bx, .ref ch, .ref sg, .ref dg, .ref pl, .ref dr, .int 0])), (pl, .inr (2, [.int 1, .int 0, .int 0, .int 0, .int 0, .ref pl5, .ref pl6, .ref pl7, .ref pl8, .ref pl9, .ref pl10, .ref pl11, .ref pl12, .ref pl13]))] s.heap := hP
  have hl := lv_entry ([.ref h0, .int x1]) (n := 4) (Nat.le_of_ble_eq_true rfl)
  rw [lg_entry_eq]
  generalize (lg_sl ([.ref h0, .int x1]) ++ List.replicate (4 - (lg_sl ([.ref h0, .int x1])).length) Slot.unset).toArray = ls at hl ⊢
  have hl : lv_has ls 4 [(0, .ref h0), (1, .int x1)] := hl
  refine lv_iload_n hx hb dX10_waits_0 rfl (lv_at hl 1 rfl) ?_
  refine lv_if_lt (tgt := 15) hx hb dX10_waits_1 (by decide +kernel) (fun c_1 => ?_) (fun c_1 => ?_)
  · refine lv_iconst (v := (-1)) hx hb dX10_waits_15 (by decide +kernel) ?_
    exact W.iret (v := (-1)) hx hb hr (fun t ht hW => ⟨⟨(-1), (), rfl, rfl, by rw [ht]; exact hP.sub [] rfl, hDA (hD.sub [] (by decide +kernel) rfl)⟩, hS.F ht⟩) hS.2.2 dX10_waits_16
  · refine lv_iload_n hx hb dX10_waits_4 rfl (lv_at hl 1 rfl) ?_
    refine lv_aload_n hx hb dX10_waits_5 rfl (lv_at hl 0 rfl) ?_
    refine va_get (D := D) (ci := 10) (v := .ref pl) (C := RX10) (T := TX10) (N := 12) hx hb hts iw_X10_waits_10 hown hC.1 hP 0 rfl rfl 9 (by decide +kernel) (hts (.fieldLink RX10 19 "FairWheel" "plan" "LFairWheel$Plan;") (by decide +kernel)) (fun _ h9 => h9) rfl dX10_waits_6 ?_
    refine va_get (D := D) (ci := 2) (v := .int 0) (C := RX2) (T := TX2) (N := 14) hx hb hts iw_X10_waits_2 hown hC.1 hP 1 rfl rfl 1 (by decide +kernel) (hts (.fieldLink RX10 181 "FairWheel$Plan" "locks" "I") (by decide +kernel)) (fun _ h9 => h9) rfl dX10_waits_9 ?_
    refine lv_icmp_lt (tgt := 17) hx hb dX10_waits_12 (by decide +kernel) (fun c_2 => absurd c_2 c_1) (fun c_2 => ?_)
    refine lv_iconst (v := (-1)) hx hb dX10_waits_15 (by decide +kernel) ?_
    exact W.iret (v := (-1)) hx hb hr (fun t ht hW => ⟨⟨(-1), (), rfl, rfl, by rw [ht]; exact hP.sub [] rfl, hDA (hD.sub [] (by decide +kernel) rfl)⟩, hS.F ht⟩) hS.2.2 dX10_waits_16
theorem iw_X10_ring_2 : ∀ w ∈ u_ws RX2 TX2 14, w ∈ wsX10_ring := by decide +kernel
theorem iw_X10_ring_10 : ∀ w ∈ u_ws RX10 TX10 12, w ∈ wsX10_ring := by decide +kernel
set_option maxHeartbeats 4000000 in
set_option maxRecDepth 100000 in
theorem k_X10_ring (l : Launch) (D : va_G) (ca : Nat → ClassId) (sz : Nat) (h0 : Nat) (tp : Nat) (rd : Nat) (lv : Nat) (tr : Nat) (rw : Nat) (bx : Nat) (ch : Nat) (sg : Nat) (dg : Nat) (pl : Nat) (dr : Nat) (pl5 : Nat) (pl6 : Nat) (pl7 : Nat) (pl8 : Nat) (pl9 : Nat) (pl10 : Nat) (pl11 : Nat) (pl12 : Nat) (pl13 : Nat) (x1 : Int32) (x2 : Int32) : Met l yX10_ring wsX10_ring ({ frames := 0, cells := 0, slots := 0, locals := 0 }) (PC [.ref h0, .int x1, .int x2] sz D ca [(h0, .inr (10, [.ref tp, .ref rd, .ref lv, .ref tr, .ref rw, .ref bx, .ref ch, .ref sg, .ref dg, .ref pl, .ref dr, .int 0])), (pl, .inr (2, [.int 1, .int 0, .int 0, .int 0, .int 0, .ref pl5, .ref pl6, .ref pl7, .ref pl8, .ref pl9, .ref pl10, .ref pl11, .ref pl12, .ref pl13]))]) (QI (fun (r : Int32) (u : Unit) => r = (-1)) (fun (_ : Unit) => []) [(h0, .inr (10, [.ref tp, .ref rd, .ref lv, .ref tr, .ref rw, .ref bx, .ref ch, .ref sg, .ref dg, .ref pl, .ref dr, .int 0])), (pl, .inr (2, [.int 1, .int 0, .int 0, .int 0, .int 0, .ref pl5, .ref pl6, .ref pl7, .ref pl8, .ref pl9, .ref pl10, .ref pl11, .ref pl12, .ref pl13]))] sz D) 0 0 (va_A [(h0, .inr (10, [.ref tp, .ref rd, .ref lv, .ref tr, .ref rw, .ref bx, .ref ch, .ref sg, .ref dg, .ref pl, .ref dr, .int 0])), (pl, .inr (2, [.int 1, .int 0, .int 0, .int 0, .int 0, .ref pl5, .ref pl6, .ref pl7, .ref pl8, .ref pl9, .ref pl10, .ref pl11, .ref pl12, .ref pl13]))] sz) := by
  refine Met.ofW (cc := cX10_ring) (maxL := 4) (ret := (some .int)) (by decide +kernel) rfl ?_
  intro p e s m args below meth c s₁ B hml hv
  obtain ⟨rfl, hsz, hP, hC, hD0⟩ := hv
  have hx := B.exec
  have hb := B.bytes
  have hr := B.returns
  have hts := atoms_spec (ws := wsX10_ring) B.pre
  have hown : s.vm.findClass RX10 = some m.cls := findClass_of_methodNamed B.named
  have hlocks := B.notSynchronized
  subst hsz
  have hD := hD0.self (sz := s.heap.size)
  dsimp only [QV, QI, QL, BQ]
  generalize hAe : va_A [(h0, .inr (10, [.ref tp, .ref rd, .ref lv, .ref tr, .ref rw, .ref bx, .ref ch, .ref sg, .ref dg, .ref pl, .ref dr, .int 0])), (pl, .inr (2, [.int 1, .int 0, .int 0, .int 0, .int 0, .ref pl5, .ref pl6, .ref pl7, .ref pl8, .ref pl9, .ref pl10, .ref pl11, .ref pl12, .ref pl13]))] s.heap.size = A at hD ⊢
  have hA : ∀ q : Nat, s.heap.size ≤ q → A q := fun q h => by rw [← hAe]; exact Or.inr h
  have hDA : ∀ {w : va_W}, va_D A w → va_D (va_A [(h0, .inr (10, [.ref tp, .ref rd, .ref lv, .ref tr, .ref rw, .ref bx, .ref ch, .ref sg, .ref dg, .ref pl, .ref dr, .int 0])), (pl, .inr (2, [.int 1, .int 0, .int 0, .int 0, .int 0, .ref pl5, .ref pl6, .ref pl7, .ref pl8, .ref pl9, .ref pl10, .ref pl11, .ref pl12, .ref pl13]))] s.heap.size) w := fun h => by rw [hAe]; exact h
  have hS : va_S A s.heap s.heap [] := va_S.rf
  have hP : va_P D vwCl [(h0, .inr (10, [.ref tp, .ref rd, .ref lv, .ref tr, .ref rw, .ref bx, .ref ch, .ref sg, .ref dg, .ref pl, .ref dr, .int 0])), (pl, .inr (2, [.int 1, .int 0, .int 0, .int 0, .int 0, .ref pl5, .ref pl6, .ref pl7, .ref pl8, .ref pl9, .ref pl10, .ref pl11, .ref pl12, .ref pl13]))] s.heap := hP
  have hl := lv_entry ([.ref h0, .int x1, .int x2]) (n := 4) (Nat.le_of_ble_eq_true rfl)
  rw [lg_entry_eq]
  generalize (lg_sl ([.ref h0, .int x1, .int x2]) ++ List.replicate (4 - (lg_sl ([.ref h0, .int x1, .int x2])).length) Slot.unset).toArray = ls at hl ⊢
  have hl : lv_has ls 4 [(0, .ref h0), (1, .int x1), (2, .int x2)] := hl
  refine lv_iload_n hx hb dX10_ring_0 rfl (lv_at hl 1 rfl) ?_
  refine lv_if_lt (tgt := 15) hx hb dX10_ring_1 (by decide +kernel) (fun c_1 => ?_) (fun c_1 => ?_)
  · refine lv_iconst (v := (-1)) hx hb dX10_ring_15 (by decide +kernel) ?_
    exact W.iret (v := (-1)) hx hb hr (fun t ht hW => ⟨⟨(-1), (), rfl, rfl, by rw [ht]; exact hP.sub [] rfl, hDA (hD.sub [] (by decide +kernel) rfl)⟩, hS.F ht⟩) hS.2.2 dX10_ring_16
  · refine lv_iload_n hx hb dX10_ring_4 rfl (lv_at hl 1 rfl) ?_
    refine lv_aload_n hx hb dX10_ring_5 rfl (lv_at hl 0 rfl) ?_
    refine va_get (D := D) (ci := 10) (v := .ref pl) (C := RX10) (T := TX10) (N := 12) hx hb hts iw_X10_ring_10 hown hC.1 hP 0 rfl rfl 9 (by decide +kernel) (hts (.fieldLink RX10 19 "FairWheel" "plan" "LFairWheel$Plan;") (by decide +kernel)) (fun _ h9 => h9) rfl dX10_ring_6 ?_
    refine va_get (D := D) (ci := 2) (v := .int 0) (C := RX2) (T := TX2) (N := 14) hx hb hts iw_X10_ring_2 hown hC.1 hP 1 rfl rfl 3 (by decide +kernel) (hts (.fieldLink RX10 105 "FairWheel$Plan" "count" "I") (by decide +kernel)) (fun _ h9 => h9) rfl dX10_ring_9 ?_
    refine lv_icmp_lt (tgt := 17) hx hb dX10_ring_12 (by decide +kernel) (fun c_2 => absurd c_2 c_1) (fun c_2 => ?_)
    refine lv_iconst (v := (-1)) hx hb dX10_ring_15 (by decide +kernel) ?_
    exact W.iret (v := (-1)) hx hb hr (fun t ht hW => ⟨⟨(-1), (), rfl, rfl, by rw [ht]; exact hP.sub [] rfl, hDA (hD.sub [] (by decide +kernel) rfl)⟩, hS.F ht⟩) hS.2.2 dX10_ring_16
theorem iw_X10_isGone_2 : ∀ w ∈ u_ws RX2 TX2 14, w ∈ wsX10_isGone := by decide +kernel
theorem iw_X10_isGone_10 : ∀ w ∈ u_ws RX10 TX10 12, w ∈ wsX10_isGone := by decide +kernel
set_option maxHeartbeats 4000000 in
set_option maxRecDepth 100000 in
theorem k_X10_isGone (l : Launch) (D : va_G) (ca : Nat → ClassId) (sz : Nat) (h0 : Nat) (tp : Nat) (rd : Nat) (lv : Nat) (tr : Nat) (rw : Nat) (bx : Nat) (ch : Nat) (sg : Nat) (dg : Nat) (pl : Nat) (dr : Nat) (pl5 : Nat) (pl6 : Nat) (pl7 : Nat) (pl8 : Nat) (pl9 : Nat) (pl10 : Nat) (pl11 : Nat) (pl12 : Nat) (pl13 : Nat) (x1 : Int32) : Met l yX10_isGone wsX10_isGone ({ frames := 0, cells := 0, slots := 0, locals := 0 }) (PC [.ref h0, .int x1] sz D ca [(h0, .inr (10, [.ref tp, .ref rd, .ref lv, .ref tr, .ref rw, .ref bx, .ref ch, .ref sg, .ref dg, .ref pl, .ref dr, .int 0])), (pl, .inr (2, [.int 1, .int 0, .int 0, .int 0, .int 0, .ref pl5, .ref pl6, .ref pl7, .ref pl8, .ref pl9, .ref pl10, .ref pl11, .ref pl12, .ref pl13]))]) (QI (fun (r : Int32) (u : Unit) => r = 1) (fun (_ : Unit) => [(h0, .inr (10, [.ref tp, .ref rd, .ref lv, .ref tr, .ref rw, .ref bx, .ref ch, .ref sg, .ref dg, .ref pl, .ref dr, .int 0])), (pl, .inr (2, [.int 1, .int 0, .int 0, .int 0, .int 0, .ref pl5, .ref pl6, .ref pl7, .ref pl8, .ref pl9, .ref pl10, .ref pl11, .ref pl12, .ref pl13]))]) [(h0, .inr (10, [.ref tp, .ref rd, .ref lv, .ref tr, .ref rw, .ref bx, .ref ch, .ref sg, .ref dg, .ref pl, .ref dr, .int 0])), (pl, .inr (2, [.int 1, .int 0, .int 0, .int 0, .int 0, .ref pl5, .ref pl6, .ref pl7, .ref pl8, .ref pl9, .ref pl10, .ref pl11, .ref pl12, .ref pl13]))] sz D) 0 0 (va_A [(h0, .inr (10, [.ref tp, .ref rd, .ref lv, .ref tr, .ref rw, .ref bx, .ref ch, .ref sg, .ref dg, .ref pl, .ref dr, .int 0])), (pl, .inr (2, [.int 1, .int 0, .int 0, .int 0, .int 0, .ref pl5, .ref pl6, .ref pl7, .ref pl8, .ref pl9, .ref pl10, .ref pl11, .ref pl12, .ref pl13]))] sz) := by
  refine Met.ofW (cc := cX10_isGone) (maxL := 2) (ret := (some .boolean)) (by decide +kernel) rfl ?_
  intro p e s m args below meth c s₁ B hml hv
  obtain ⟨rfl, hsz, hP, hC, hD0⟩ := hv
  have hx := B.exec
  have hb := B.bytes
  have hr := B.returns
  have hts := atoms_spec (ws := wsX10_isGone) B.pre
  have hown : s.vm.findClass RX10 = some m.cls := findClass_of_methodNamed B.named
  have hlocks := B.notSynchronized
  subst hsz
  have hD := hD0.self (sz := s.heap.size)
  dsimp only [QV, QI, QL, BQ]
  generalize hAe : va_A [(h0, .inr (10, [.ref tp, .ref rd, .ref lv, .ref tr, .ref rw, .ref bx, .ref ch, .ref sg, .ref dg, .ref pl, .ref dr, .int 0])), (pl, .inr (2, [.int 1, .int 0, .int 0, .int 0, .int 0, .ref pl5, .ref pl6, .ref pl7, .ref pl8, .ref pl9, .ref pl10, .ref pl11, .ref pl12, .ref pl13]))] s.heap.size = A at hD ⊢
  have hA : ∀ q : Nat, s.heap.size ≤ q → A q := fun q h => by rw [← hAe]; exact Or.inr h
  have hDA : ∀ {w : va_W}, va_D A w → va_D (va_A [(h0, .inr (10, [.ref tp, .ref rd, .ref lv, .ref tr, .ref rw, .ref bx, .ref ch, .ref sg, .ref dg, .ref pl, .ref dr, .int 0])), (pl, .inr (2, [.int 1, .int 0, .int 0, .int 0, .int 0, .ref pl5, .ref pl6, .ref pl7, .ref pl8, .ref pl9, .ref pl10, .ref pl11, .ref pl12, .ref pl13]))] s.heap.size) w := fun h => by rw [hAe]; exact h
  have hS : va_S A s.heap s.heap [] := va_S.rf
  have hP : va_P D vwCl [(h0, .inr (10, [.ref tp, .ref rd, .ref lv, .ref tr, .ref rw, .ref bx, .ref ch, .ref sg, .ref dg, .ref pl, .ref dr, .int 0])), (pl, .inr (2, [.int 1, .int 0, .int 0, .int 0, .int 0, .ref pl5, .ref pl6, .ref pl7, .ref pl8, .ref pl9, .ref pl10, .ref pl11, .ref pl12, .ref pl13]))] s.heap := hP
  have hl := lv_entry ([.ref h0, .int x1]) (n := 2) (Nat.le_of_ble_eq_true rfl)
  rw [lg_entry_eq]
  generalize (lg_sl ([.ref h0, .int x1]) ++ List.replicate (2 - (lg_sl ([.ref h0, .int x1])).length) Slot.unset).toArray = ls at hl ⊢
  have hl : lv_has ls 2 [(0, .ref h0), (1, .int x1)] := hl
  refine lv_iload_n hx hb dX10_isGone_0 rfl (lv_at hl 1 rfl) ?_
  refine lv_if_lt (tgt := 31) hx hb dX10_isGone_1 (by decide +kernel) (fun c_1 => ?_) (fun c_1 => ?_)
  · refine lv_iconst (v := 1) hx hb dX10_isGone_31 (by decide +kernel) ?_
    refine lv_goto (tgt := 36) hx hb dX10_isGone_32 (by decide +kernel) ?_
    exact W.zret (v := 1) hx hb hr (rfl) (fun t ht hW => ⟨⟨1, (), rfl, rfl, by rw [ht]; exact hP.sub [0, 1] rfl, hDA (hD.sub [0, 1] (by decide +kernel) rfl)⟩, hS.F ht⟩) hS.2.2 dX10_isGone_36
  · refine lv_iload_n hx hb dX10_isGone_4 rfl (lv_at hl 1 rfl) ?_
    refine lv_aload_n hx hb dX10_isGone_5 rfl (lv_at hl 0 rfl) ?_
    refine va_get (D := D) (ci := 10) (v := .ref pl) (C := RX10) (T := TX10) (N := 12) hx hb hts iw_X10_isGone_10 hown hC.1 hP 0 rfl rfl 9 (by decide +kernel) (hts (.fieldLink RX10 19 "FairWheel" "plan" "LFairWheel$Plan;") (by decide +kernel)) (fun _ h9 => h9) rfl dX10_isGone_6 ?_
    refine va_get (D := D) (ci := 2) (v := .int 0) (C := RX2) (T := TX2) (N := 14) hx hb hts iw_X10_isGone_2 hown hC.1 hP 1 rfl rfl 3 (by decide +kernel) (hts (.fieldLink RX10 105 "FairWheel$Plan" "count" "I") (by decide +kernel)) (fun _ h9 => h9) rfl dX10_isGone_9 ?_
    refine lv_icmp_ge (tgt := 31) hx hb dX10_isGone_12 (by decide +kernel) (fun c_2 => ?_) (fun c_2 => (pr_es (Int32.not_lt.mp c_1) (Int32.not_le.mp c_2) (by decide +kernel)).elim)
    refine lv_iconst (v := 1) hx hb dX10_isGone_31 (by decide +kernel) ?_
    refine lv_goto (tgt := 36) hx hb dX10_isGone_32 (by decide +kernel) ?_
    exact W.zret (v := 1) hx hb hr (rfl) (fun t ht hW => ⟨⟨1, (), rfl, rfl, by rw [ht]; exact hP.sub [0, 1] rfl, hDA (hD.sub [0, 1] (by decide +kernel) rfl)⟩, hS.F ht⟩) hS.2.2 dX10_isGone_36
set_option maxHeartbeats 4000000 in
set_option maxRecDepth 100000 in
theorem k_X10_share (l : Launch) (D : va_G) (ca : Nat → ClassId) (sz : Nat) (h0 : Nat) (tp : Nat) (rd : Nat) (lv : Nat) (tr : Nat) (rw : Nat) (bx : Nat) (ch : Nat) (sg : Nat) (dg : Nat) (pl : Nat) (dr : Nat) (pl5 : Nat) (pl6 : Nat) (pl7 : Nat) (pl8 : Nat) (pl9 : Nat) (pl10 : Nat) (pl11 : Nat) (pl12 : Nat) (pl13 : Nat) (x1 : Int32) (x2 : Int32) : Met l yX10_share wsX10_share ({ frames := 1, cells := 0, slots := 0, locals := 21 }) (PC [.ref h0, .int x1, .int x2] sz D ca [(h0, .inr (10, [.ref tp, .ref rd, .ref lv, .ref tr, .ref rw, .ref bx, .ref ch, .ref sg, .ref dg, .ref pl, .ref dr, .int 0])), (pl, .inr (2, [.int 1, .int 0, .int 0, .int 0, .int 0, .ref pl5, .ref pl6, .ref pl7, .ref pl8, .ref pl9, .ref pl10, .ref pl11, .ref pl12, .ref pl13]))]) (QI (fun (r : Int32) (u : Unit) => r = (-1)) (fun (_ : Unit) => []) [(h0, .inr (10, [.ref tp, .ref rd, .ref lv, .ref tr, .ref rw, .ref bx, .ref ch, .ref sg, .ref dg, .ref pl, .ref dr, .int 0])), (pl, .inr (2, [.int 1, .int 0, .int 0, .int 0, .int 0, .ref pl5, .ref pl6, .ref pl7, .ref pl8, .ref pl9, .ref pl10, .ref pl11, .ref pl12, .ref pl13]))] sz D) 0 0 (va_A [(h0, .inr (10, [.ref tp, .ref rd, .ref lv, .ref tr, .ref rw, .ref bx, .ref ch, .ref sg, .ref dg, .ref pl, .ref dr, .int 0])), (pl, .inr (2, [.int 1, .int 0, .int 0, .int 0, .int 0, .ref pl5, .ref pl6, .ref pl7, .ref pl8, .ref pl9, .ref pl10, .ref pl11, .ref pl12, .ref pl13]))] sz) := by
  refine Met.ofW (cc := cX10_share) (maxL := 4) (ret := (some .int)) (by decide +kernel) rfl ?_
  intro p e s m args below meth c s₁ B hml hv
  obtain ⟨rfl, hsz, hP, hC, hD0⟩ := hv
  have hx := B.exec
  have hb := B.bytes
  have hr := B.returns
  have hts := atoms_spec (ws := wsX10_share) B.pre
  have hown : s.vm.findClass RX10 = some m.cls := findClass_of_methodNamed B.named
  have hlocks := B.notSynchronized
  subst hsz
  have hD := hD0.self (sz := s.heap.size)
  dsimp only [QV, QI, QL, BQ]
  generalize hAe : va_A [(h0, .inr (10, [.ref tp, .ref rd, .ref lv, .ref tr, .ref rw, .ref bx, .ref ch, .ref sg, .ref dg, .ref pl, .ref dr, .int 0])), (pl, .inr (2, [.int 1, .int 0, .int 0, .int 0, .int 0, .ref pl5, .ref pl6, .ref pl7, .ref pl8, .ref pl9, .ref pl10, .ref pl11, .ref pl12, .ref pl13]))] s.heap.size = A at hD ⊢
  have hA : ∀ q : Nat, s.heap.size ≤ q → A q := fun q h => by rw [← hAe]; exact Or.inr h
  have hDA : ∀ {w : va_W}, va_D A w → va_D (va_A [(h0, .inr (10, [.ref tp, .ref rd, .ref lv, .ref tr, .ref rw, .ref bx, .ref ch, .ref sg, .ref dg, .ref pl, .ref dr, .int 0])), (pl, .inr (2, [.int 1, .int 0, .int 0, .int 0, .int 0, .ref pl5, .ref pl6, .ref pl7, .ref pl8, .ref pl9, .ref pl10, .ref pl11, .ref pl12, .ref pl13]))] s.heap.size) w := fun h => by rw [hAe]; exact h
  have hS : va_S A s.heap s.heap [] := va_S.rf
  have hP : va_P D vwCl [(h0, .inr (10, [.ref tp, .ref rd, .ref lv, .ref tr, .ref rw, .ref bx, .ref ch, .ref sg, .ref dg, .ref pl, .ref dr, .int 0])), (pl, .inr (2, [.int 1, .int 0, .int 0, .int 0, .int 0, .ref pl5, .ref pl6, .ref pl7, .ref pl8, .ref pl9, .ref pl10, .ref pl11, .ref pl12, .ref pl13]))] s.heap := hP
  have hl := lv_entry ([.ref h0, .int x1, .int x2]) (n := 4) (Nat.le_of_ble_eq_true rfl)
  rw [lg_entry_eq]
  generalize (lg_sl ([.ref h0, .int x1, .int x2]) ++ List.replicate (4 - (lg_sl ([.ref h0, .int x1, .int x2])).length) Slot.unset).toArray = ls at hl ⊢
  have hl : lv_has ls 4 [(0, .ref h0), (1, .int x1), (2, .int x2)] := hl
  refine lv_aload_n hx hb dX10_share_0 rfl (lv_at hl 0 rfl) ?_
  refine lv_iload_n hx hb dX10_share_1 rfl (lv_at hl 1 rfl) ?_
  refine kc_i (wr := []) (va_runV (As := [.int x1]) (rest := []) ⟨hx, hb, hml, hown, hts⟩ (k_X10_isGone l D ca s.heap.size h0 tp rd lv tr rw bx ch sg dg pl dr pl5 pl6 pl7 pl8 pl9 pl10 pl11 pl12 pl13 x1) (cwV 1 hts gX10_share_X10_isGone rfl rfl rfl (by decide +kernel) ⟨(Nat.le_of_ble_eq_true rfl), (Nat.le_of_ble_eq_true rfl)⟩) (PC.preV (ci := 10) hC hP hD [0, 1] rfl (by decide +kernel) rfl rfl) rfl rfl hl.1 rfl (lv_room (Nat.le_of_ble_eq_true rfl)) dX10_share_2 ⟨(Nat.le_of_ble_eq_true rfl), (Nat.le_of_ble_eq_true rfl)⟩) hP hD hS hA [0, 1] [] rfl rfl (by decide +kernel) (by decide +kernel) (fun r_1 u_3 H locs hw_2 hP hD hS => ?_)
  subst hw_2
  have hP : va_P D vwCl [(h0, .inr (10, [.ref tp, .ref rd, .ref lv, .ref tr, .ref rw, .ref bx, .ref ch, .ref sg, .ref dg, .ref pl, .ref dr, .int 0])), (pl, .inr (2, [.int 1, .int 0, .int 0, .int 0, .int 0, .ref pl5, .ref pl6, .ref pl7, .ref pl8, .ref pl9, .ref pl10, .ref pl11, .ref pl12, .ref pl13]))] H := hP
  have hD : va_D A [(h0, .inr (10, [.ref tp, .ref rd, .ref lv, .ref tr, .ref rw, .ref bx, .ref ch, .ref sg, .ref dg, .ref pl, .ref dr, .int 0])), (pl, .inr (2, [.int 1, .int 0, .int 0, .int 0, .int 0, .ref pl5, .ref pl6, .ref pl7, .ref pl8, .ref pl9, .ref pl10, .ref pl11, .ref pl12, .ref pl13]))] := hD
  refine lv_if_ne (tgt := 20) hx hb dX10_share_5 (by decide +kernel) (fun c_4 => ?_) (fun c_4 => absurd c_4 (by decide +kernel))
  refine lv_iconst (v := (-1)) hx hb dX10_share_20 (by decide +kernel) ?_
  exact W.iret (v := (-1)) hx hb hr (fun t ht hW => ⟨⟨(-1), (), rfl, rfl, by rw [ht]; exact hP.sub [] rfl, hDA (hD.sub [] (by decide +kernel) rfl)⟩, hS.F ht⟩) hS.2.2 dX10_share_21
set_option maxHeartbeats 4000000 in
set_option maxRecDepth 100000 in
theorem k_X10_kill (l : Launch) (D : va_G) (ca : Nat → ClassId) (sz : Nat) (h0 : Nat) (tp : Nat) (rd : Nat) (lv : Nat) (tr : Nat) (rw : Nat) (bx : Nat) (ch : Nat) (sg : Nat) (dg : Nat) (pl : Nat) (dr : Nat) (pl5 : Nat) (pl6 : Nat) (pl7 : Nat) (pl8 : Nat) (pl9 : Nat) (pl10 : Nat) (pl11 : Nat) (pl12 : Nat) (pl13 : Nat) (x1 : Int32) : Met l yX10_kill wsX10_kill ({ frames := 1, cells := 0, slots := 0, locals := 21 }) (PC [.ref h0, .int x1] sz D ca [(h0, .inr (10, [.ref tp, .ref rd, .ref lv, .ref tr, .ref rw, .ref bx, .ref ch, .ref sg, .ref dg, .ref pl, .ref dr, .int 0])), (pl, .inr (2, [.int 1, .int 0, .int 0, .int 0, .int 0, .ref pl5, .ref pl6, .ref pl7, .ref pl8, .ref pl9, .ref pl10, .ref pl11, .ref pl12, .ref pl13]))]) (QI (fun (r : Int32) (u : Unit) => r = 0) (fun (_ : Unit) => []) [(h0, .inr (10, [.ref tp, .ref rd, .ref lv, .ref tr, .ref rw, .ref bx, .ref ch, .ref sg, .ref dg, .ref pl, .ref dr, .int 0])), (pl, .inr (2, [.int 1, .int 0, .int 0, .int 0, .int 0, .ref pl5, .ref pl6, .ref pl7, .ref pl8, .ref pl9, .ref pl10, .ref pl11, .ref pl12, .ref pl13]))] sz D) 0 0 (va_A [(h0, .inr (10, [.ref tp, .ref rd, .ref lv, .ref tr, .ref rw, .ref bx, .ref ch, .ref sg, .ref dg, .ref pl, .ref dr, .int 0])), (pl, .inr (2, [.int 1, .int 0, .int 0, .int 0, .int 0, .ref pl5, .ref pl6, .ref pl7, .ref pl8, .ref pl9, .ref pl10, .ref pl11, .ref pl12, .ref pl13]))] sz) := by
  refine Met.ofW (cc := cX10_kill) (maxL := 2) (ret := (some .boolean)) (by decide +kernel) rfl ?_
  intro p e s m args below meth c s₁ B hml hv
  obtain ⟨rfl, hsz, hP, hC, hD0⟩ := hv
  have hx := B.exec
  have hb := B.bytes
  have hr := B.returns
  have hts := atoms_spec (ws := wsX10_kill) B.pre
  have hown : s.vm.findClass RX10 = some m.cls := findClass_of_methodNamed B.named
  have hlocks := B.notSynchronized
  subst hsz
  have hD := hD0.self (sz := s.heap.size)
  dsimp only [QV, QI, QL, BQ]
  generalize hAe : va_A [(h0, .inr (10, [.ref tp, .ref rd, .ref lv, .ref tr, .ref rw, .ref bx, .ref ch, .ref sg, .ref dg, .ref pl, .ref dr, .int 0])), (pl, .inr (2, [.int 1, .int 0, .int 0, .int 0, .int 0, .ref pl5, .ref pl6, .ref pl7, .ref pl8, .ref pl9, .ref pl10, .ref pl11, .ref pl12, .ref pl13]))] s.heap.size = A at hD ⊢
  have hA : ∀ q : Nat, s.heap.size ≤ q → A q := fun q h => by rw [← hAe]; exact Or.inr h
  have hDA : ∀ {w : va_W}, va_D A w → va_D (va_A [(h0, .inr (10, [.ref tp, .ref rd, .ref lv, .ref tr, .ref rw, .ref bx, .ref ch, .ref sg, .ref dg, .ref pl, .ref dr, .int 0])), (pl, .inr (2, [.int 1, .int 0, .int 0, .int 0, .int 0, .ref pl5, .ref pl6, .ref pl7, .ref pl8, .ref pl9, .ref pl10, .ref pl11, .ref pl12, .ref pl13]))] s.heap.size) w := fun h => by rw [hAe]; exact h
  have hS : va_S A s.heap s.heap [] := va_S.rf
  have hP : va_P D vwCl [(h0, .inr (10, [.ref tp, .ref rd, .ref lv, .ref tr, .ref rw, .ref bx, .ref ch, .ref sg, .ref dg, .ref pl, .ref dr, .int 0])), (pl, .inr (2, [.int 1, .int 0, .int 0, .int 0, .int 0, .ref pl5, .ref pl6, .ref pl7, .ref pl8, .ref pl9, .ref pl10, .ref pl11, .ref pl12, .ref pl13]))] s.heap := hP
  have hl := lv_entry ([.ref h0, .int x1]) (n := 2) (Nat.le_of_ble_eq_true rfl)
  rw [lg_entry_eq]
  generalize (lg_sl ([.ref h0, .int x1]) ++ List.replicate (2 - (lg_sl ([.ref h0, .int x1])).length) Slot.unset).toArray = ls at hl ⊢
  have hl : lv_has ls 2 [(0, .ref h0), (1, .int x1)] := hl
  refine lv_aload_n hx hb dX10_kill_0 rfl (lv_at hl 0 rfl) ?_
  refine lv_iload_n hx hb dX10_kill_1 rfl (lv_at hl 1 rfl) ?_
  refine kc_i (wr := []) (va_runV (As := [.int x1]) (rest := []) ⟨hx, hb, hml, hown, hts⟩ (k_X10_isGone l D ca s.heap.size h0 tp rd lv tr rw bx ch sg dg pl dr pl5 pl6 pl7 pl8 pl9 pl10 pl11 pl12 pl13 x1) (cwV 1 hts gX10_kill_X10_isGone rfl rfl rfl (by decide +kernel) ⟨(Nat.le_of_ble_eq_true rfl), (Nat.le_of_ble_eq_true rfl)⟩) (PC.preV (ci := 10) hC hP hD [0, 1] rfl (by decide +kernel) rfl rfl) rfl rfl hl.1 rfl (lv_room (Nat.le_of_ble_eq_true rfl)) dX10_kill_2 ⟨(Nat.le_of_ble_eq_true rfl), (Nat.le_of_ble_eq_true rfl)⟩) hP hD hS hA [0, 1] [] rfl rfl (by decide +kernel) (by decide +kernel) (fun r_1 u_3 H locs hw_2 hP hD hS => ?_)
  subst hw_2
  have hP : va_P D vwCl [(h0, .inr (10, [.ref tp, .ref rd, .ref lv, .ref tr, .ref rw, .ref bx, .ref ch, .ref sg, .ref dg, .ref pl, .ref dr, .int 0])), (pl, .inr (2, [.int 1, .int 0, .int 0, .int 0, .int 0, .ref pl5, .ref pl6, .ref pl7, .ref pl8, .ref pl9, .ref pl10, .ref pl11, .ref pl12, .ref pl13]))] H := hP
  have hD : va_D A [(h0, .inr (10, [.ref tp, .ref rd, .ref lv, .ref tr, .ref rw, .ref bx, .ref ch, .ref sg, .ref dg, .ref pl, .ref dr, .int 0])), (pl, .inr (2, [.int 1, .int 0, .int 0, .int 0, .int 0, .ref pl5, .ref pl6, .ref pl7, .ref pl8, .ref pl9, .ref pl10, .ref pl11, .ref pl12, .ref pl13]))] := hD
  refine lv_if_eq (tgt := 10) hx hb dX10_kill_5 (by decide +kernel) (fun c_4 => absurd c_4 (by decide +kernel)) (fun c_4 => ?_)
  refine lv_iconst (v := 0) hx hb dX10_kill_8 (by decide +kernel) ?_
  exact W.zret (v := 0) hx hb hr (rfl) (fun t ht hW => ⟨⟨0, (), rfl, rfl, by rw [ht]; exact hP.sub [] rfl, hDA (hD.sub [] (by decide +kernel) rfl)⟩, hS.F ht⟩) hS.2.2 dX10_kill_9
set_option maxHeartbeats 4000000 in
set_option maxRecDepth 100000 in
theorem k_X10_wake (l : Launch) (D : va_G) (ca : Nat → ClassId) (sz : Nat) (h0 : Nat) (tp : Nat) (rd : Nat) (lv : Nat) (tr : Nat) (rw : Nat) (bx : Nat) (ch : Nat) (sg : Nat) (dg : Nat) (pl : Nat) (dr : Nat) (pl5 : Nat) (pl6 : Nat) (pl7 : Nat) (pl8 : Nat) (pl9 : Nat) (pl10 : Nat) (pl11 : Nat) (pl12 : Nat) (pl13 : Nat) (x1 : Int32) : Met l yX10_wake wsX10_wake ({ frames := 1, cells := 0, slots := 0, locals := 21 }) (PC [.ref h0, .int x1] sz D ca [(h0, .inr (10, [.ref tp, .ref rd, .ref lv, .ref tr, .ref rw, .ref bx, .ref ch, .ref sg, .ref dg, .ref pl, .ref dr, .int 0])), (pl, .inr (2, [.int 1, .int 0, .int 0, .int 0, .int 0, .ref pl5, .ref pl6, .ref pl7, .ref pl8, .ref pl9, .ref pl10, .ref pl11, .ref pl12, .ref pl13]))]) (QI (fun (r : Int32) (u : Unit) => r = 0) (fun (_ : Unit) => []) [(h0, .inr (10, [.ref tp, .ref rd, .ref lv, .ref tr, .ref rw, .ref bx, .ref ch, .ref sg, .ref dg, .ref pl, .ref dr, .int 0])), (pl, .inr (2, [.int 1, .int 0, .int 0, .int 0, .int 0, .ref pl5, .ref pl6, .ref pl7, .ref pl8, .ref pl9, .ref pl10, .ref pl11, .ref pl12, .ref pl13]))] sz D) 0 0 (va_A [(h0, .inr (10, [.ref tp, .ref rd, .ref lv, .ref tr, .ref rw, .ref bx, .ref ch, .ref sg, .ref dg, .ref pl, .ref dr, .int 0])), (pl, .inr (2, [.int 1, .int 0, .int 0, .int 0, .int 0, .ref pl5, .ref pl6, .ref pl7, .ref pl8, .ref pl9, .ref pl10, .ref pl11, .ref pl12, .ref pl13]))] sz) := by
  refine Met.ofW (cc := cX10_wake) (maxL := 3) (ret := (some .boolean)) (by decide +kernel) rfl ?_
  intro p e s m args below meth c s₁ B hml hv
  obtain ⟨rfl, hsz, hP, hC, hD0⟩ := hv
  have hx := B.exec
  have hb := B.bytes
  have hr := B.returns
  have hts := atoms_spec (ws := wsX10_wake) B.pre
  have hown : s.vm.findClass RX10 = some m.cls := findClass_of_methodNamed B.named
  have hlocks := B.notSynchronized
  subst hsz
  have hD := hD0.self (sz := s.heap.size)
  dsimp only [QV, QI, QL, BQ]
  generalize hAe : va_A [(h0, .inr (10, [.ref tp, .ref rd, .ref lv, .ref tr, .ref rw, .ref bx, .ref ch, .ref sg, .ref dg, .ref pl, .ref dr, .int 0])), (pl, .inr (2, [.int 1, .int 0, .int 0, .int 0, .int 0, .ref pl5, .ref pl6, .ref pl7, .ref pl8, .ref pl9, .ref pl10, .ref pl11, .ref pl12, .ref pl13]))] s.heap.size = A at hD ⊢
  have hA : ∀ q : Nat, s.heap.size ≤ q → A q := fun q h => by rw [← hAe]; exact Or.inr h
  have hDA : ∀ {w : va_W}, va_D A w → va_D (va_A [(h0, .inr (10, [.ref tp, .ref rd, .ref lv, .ref tr, .ref rw, .ref bx, .ref ch, .ref sg, .ref dg, .ref pl, .ref dr, .int 0])), (pl, .inr (2, [.int 1, .int 0, .int 0, .int 0, .int 0, .ref pl5, .ref pl6, .ref pl7, .ref pl8, .ref pl9, .ref pl10, .ref pl11, .ref pl12, .ref pl13]))] s.heap.size) w := fun h => by rw [hAe]; exact h
  have hS : va_S A s.heap s.heap [] := va_S.rf
  have hP : va_P D vwCl [(h0, .inr (10, [.ref tp, .ref rd, .ref lv, .ref tr, .ref rw, .ref bx, .ref ch, .ref sg, .ref dg, .ref pl, .ref dr, .int 0])), (pl, .inr (2, [.int 1, .int 0, .int 0, .int 0, .int 0, .ref pl5, .ref pl6, .ref pl7, .ref pl8, .ref pl9, .ref pl10, .ref pl11, .ref pl12, .ref pl13]))] s.heap := hP
  have hl := lv_entry ([.ref h0, .int x1]) (n := 3) (Nat.le_of_ble_eq_true rfl)
  rw [lg_entry_eq]
  generalize (lg_sl ([.ref h0, .int x1]) ++ List.replicate (3 - (lg_sl ([.ref h0, .int x1])).length) Slot.unset).toArray = ls at hl ⊢
  have hl : lv_has ls 3 [(0, .ref h0), (1, .int x1)] := hl
  refine lv_aload_n hx hb dX10_wake_0 rfl (lv_at hl 0 rfl) ?_
  refine lv_iload_n hx hb dX10_wake_1 rfl (lv_at hl 1 rfl) ?_
  refine kc_i (wr := []) (va_runV (As := [.int x1]) (rest := []) ⟨hx, hb, hml, hown, hts⟩ (k_X10_isGone l D ca s.heap.size h0 tp rd lv tr rw bx ch sg dg pl dr pl5 pl6 pl7 pl8 pl9 pl10 pl11 pl12 pl13 x1) (cwV 1 hts gX10_wake_X10_isGone rfl rfl rfl (by decide +kernel) ⟨(Nat.le_of_ble_eq_true rfl), (Nat.le_of_ble_eq_true rfl)⟩) (PC.preV (ci := 10) hC hP hD [0, 1] rfl (by decide +kernel) rfl rfl) rfl rfl hl.1 rfl (lv_room (Nat.le_of_ble_eq_true rfl)) dX10_wake_2 ⟨(Nat.le_of_ble_eq_true rfl), (Nat.le_of_ble_eq_true rfl)⟩) hP hD hS hA [0, 1] [] rfl rfl (by decide +kernel) (by decide +kernel) (fun r_1 u_3 H locs hw_2 hP hD hS => ?_)
  subst hw_2
  have hP : va_P D vwCl [(h0, .inr (10, [.ref tp, .ref rd, .ref lv, .ref tr, .ref rw, .ref bx, .ref ch, .ref sg, .ref dg, .ref pl, .ref dr, .int 0])), (pl, .inr (2, [.int 1, .int 0, .int 0, .int 0, .int 0, .ref pl5, .ref pl6, .ref pl7, .ref pl8, .ref pl9, .ref pl10, .ref pl11, .ref pl12, .ref pl13]))] H := hP
  have hD : va_D A [(h0, .inr (10, [.ref tp, .ref rd, .ref lv, .ref tr, .ref rw, .ref bx, .ref ch, .ref sg, .ref dg, .ref pl, .ref dr, .int 0])), (pl, .inr (2, [.int 1, .int 0, .int 0, .int 0, .int 0, .ref pl5, .ref pl6, .ref pl7, .ref pl8, .ref pl9, .ref pl10, .ref pl11, .ref pl12, .ref pl13]))] := hD
  refine lv_if_eq (tgt := 10) hx hb dX10_wake_5 (by decide +kernel) (fun c_4 => absurd c_4 (by decide +kernel)) (fun c_4 => ?_)
  refine lv_iconst (v := 0) hx hb dX10_wake_8 (by decide +kernel) ?_
  exact W.zret (v := 0) hx hb hr (rfl) (fun t ht hW => ⟨⟨0, (), rfl, rfl, by rw [ht]; exact hP.sub [] rfl, hDA (hD.sub [] (by decide +kernel) rfl)⟩, hS.F ht⟩) hS.2.2 dX10_wake_9
set_option maxHeartbeats 4000000 in
set_option maxRecDepth 100000 in
theorem k_X10_soon (l : Launch) (D : va_G) (ca : Nat → ClassId) (sz : Nat) (h0 : Nat) (tp : Nat) (rd : Nat) (lv : Nat) (tr : Nat) (rw : Nat) (bx : Nat) (ch : Nat) (sg : Nat) (dg : Nat) (pl : Nat) (dr : Nat) (pl5 : Nat) (pl6 : Nat) (pl7 : Nat) (pl8 : Nat) (pl9 : Nat) (pl10 : Nat) (pl11 : Nat) (pl12 : Nat) (pl13 : Nat) (x1 : Int32) : Met l yX10_soon wsX10_soon ({ frames := 1, cells := 0, slots := 0, locals := 21 }) (PC [.ref h0, .int x1] sz D ca [(h0, .inr (10, [.ref tp, .ref rd, .ref lv, .ref tr, .ref rw, .ref bx, .ref ch, .ref sg, .ref dg, .ref pl, .ref dr, .int 0])), (pl, .inr (2, [.int 1, .int 0, .int 0, .int 0, .int 0, .ref pl5, .ref pl6, .ref pl7, .ref pl8, .ref pl9, .ref pl10, .ref pl11, .ref pl12, .ref pl13]))]) (QI (fun (r : Int32) (u : Unit) => r = (-1)) (fun (_ : Unit) => []) [(h0, .inr (10, [.ref tp, .ref rd, .ref lv, .ref tr, .ref rw, .ref bx, .ref ch, .ref sg, .ref dg, .ref pl, .ref dr, .int 0])), (pl, .inr (2, [.int 1, .int 0, .int 0, .int 0, .int 0, .ref pl5, .ref pl6, .ref pl7, .ref pl8, .ref pl9, .ref pl10, .ref pl11, .ref pl12, .ref pl13]))] sz D) 0 0 (va_A [(h0, .inr (10, [.ref tp, .ref rd, .ref lv, .ref tr, .ref rw, .ref bx, .ref ch, .ref sg, .ref dg, .ref pl, .ref dr, .int 0])), (pl, .inr (2, [.int 1, .int 0, .int 0, .int 0, .int 0, .ref pl5, .ref pl6, .ref pl7, .ref pl8, .ref pl9, .ref pl10, .ref pl11, .ref pl12, .ref pl13]))] sz) := by
  refine Met.ofW (cc := cX10_soon) (maxL := 3) (ret := (some .int)) (by decide +kernel) rfl ?_
  intro p e s m args below meth c s₁ B hml hv
  obtain ⟨rfl, hsz, hP, hC, hD0⟩ := hv
  have hx := B.exec
  have hb := B.bytes
  have hr := B.returns
  have hts := atoms_spec (ws := wsX10_soon) B.pre
  have hown : s.vm.findClass RX10 = some m.cls := findClass_of_methodNamed B.named
  have hlocks := B.notSynchronized
  subst hsz
  have hD := hD0.self (sz := s.heap.size)
  dsimp only [QV, QI, QL, BQ]
  generalize hAe : va_A [(h0, .inr (10, [.ref tp, .ref rd, .ref lv, .ref tr, .ref rw, .ref bx, .ref ch, .ref sg, .ref dg, .ref pl, .ref dr, .int 0])), (pl, .inr (2, [.int 1, .int 0, .int 0, .int 0, .int 0, .ref pl5, .ref pl6, .ref pl7, .ref pl8, .ref pl9, .ref pl10, .ref pl11, .ref pl12, .ref pl13]))] s.heap.size = A at hD ⊢
  have hA : ∀ q : Nat, s.heap.size ≤ q → A q := fun q h => by rw [← hAe]; exact Or.inr h
  have hDA : ∀ {w : va_W}, va_D A w → va_D (va_A [(h0, .inr (10, [.ref tp, .ref rd, .ref lv, .ref tr, .ref rw, .ref bx, .ref ch, .ref sg, .ref dg, .ref pl, .ref dr, .int 0])), (pl, .inr (2, [.int 1, .int 0, .int 0, .int 0, .int 0, .ref pl5, .ref pl6, .ref pl7, .ref pl8, .ref pl9, .ref pl10, .ref pl11, .ref pl12, .ref pl13]))] s.heap.size) w := fun h => by rw [hAe]; exact h
  have hS : va_S A s.heap s.heap [] := va_S.rf
  have hP : va_P D vwCl [(h0, .inr (10, [.ref tp, .ref rd, .ref lv, .ref tr, .ref rw, .ref bx, .ref ch, .ref sg, .ref dg, .ref pl, .ref dr, .int 0])), (pl, .inr (2, [.int 1, .int 0, .int 0, .int 0, .int 0, .ref pl5, .ref pl6, .ref pl7, .ref pl8, .ref pl9, .ref pl10, .ref pl11, .ref pl12, .ref pl13]))] s.heap := hP
  have hl := lv_entry ([.ref h0, .int x1]) (n := 3) (Nat.le_of_ble_eq_true rfl)
  rw [lg_entry_eq]
  generalize (lg_sl ([.ref h0, .int x1]) ++ List.replicate (3 - (lg_sl ([.ref h0, .int x1])).length) Slot.unset).toArray = ls at hl ⊢
  have hl : lv_has ls 3 [(0, .ref h0), (1, .int x1)] := hl
  refine lv_aload_n hx hb dX10_soon_0 rfl (lv_at hl 0 rfl) ?_
  refine lv_iload_n hx hb dX10_soon_1 rfl (lv_at hl 1 rfl) ?_
  refine kc_i (wr := []) (va_runV (As := [.int x1]) (rest := []) ⟨hx, hb, hml, hown, hts⟩ (k_X10_isGone l D ca s.heap.size h0 tp rd lv tr rw bx ch sg dg pl dr pl5 pl6 pl7 pl8 pl9 pl10 pl11 pl12 pl13 x1) (cwV 1 hts gX10_soon_X10_isGone rfl rfl rfl (by decide +kernel) ⟨(Nat.le_of_ble_eq_true rfl), (Nat.le_of_ble_eq_true rfl)⟩) (PC.preV (ci := 10) hC hP hD [0, 1] rfl (by decide +kernel) rfl rfl) rfl rfl hl.1 rfl (lv_room (Nat.le_of_ble_eq_true rfl)) dX10_soon_2 ⟨(Nat.le_of_ble_eq_true rfl), (Nat.le_of_ble_eq_true rfl)⟩) hP hD hS hA [0, 1] [] rfl rfl (by decide +kernel) (by decide +kernel) (fun r_1 u_3 H locs hw_2 hP hD hS => ?_)
  subst hw_2
  have hP : va_P D vwCl [(h0, .inr (10, [.ref tp, .ref rd, .ref lv, .ref tr, .ref rw, .ref bx, .ref ch, .ref sg, .ref dg, .ref pl, .ref dr, .int 0])), (pl, .inr (2, [.int 1, .int 0, .int 0, .int 0, .int 0, .ref pl5, .ref pl6, .ref pl7, .ref pl8, .ref pl9, .ref pl10, .ref pl11, .ref pl12, .ref pl13]))] H := hP
  have hD : va_D A [(h0, .inr (10, [.ref tp, .ref rd, .ref lv, .ref tr, .ref rw, .ref bx, .ref ch, .ref sg, .ref dg, .ref pl, .ref dr, .int 0])), (pl, .inr (2, [.int 1, .int 0, .int 0, .int 0, .int 0, .ref pl5, .ref pl6, .ref pl7, .ref pl8, .ref pl9, .ref pl10, .ref pl11, .ref pl12, .ref pl13]))] := hD
  refine lv_if_ne (tgt := 23) hx hb dX10_soon_5 (by decide +kernel) (fun c_4 => ?_) (fun c_4 => absurd c_4 (by decide +kernel))
  refine lv_iconst (v := (-1)) hx hb dX10_soon_23 (by decide +kernel) ?_
  exact W.iret (v := (-1)) hx hb hr (fun t ht hW => ⟨⟨(-1), (), rfl, rfl, by rw [ht]; exact hP.sub [] rfl, hDA (hD.sub [] (by decide +kernel) rfl)⟩, hS.F ht⟩) hS.2.2 dX10_soon_24
set_option maxHeartbeats 4000000 in
set_option maxRecDepth 100000 in
theorem k_X10_enough (l : Launch) (D : va_G) (ca : Nat → ClassId) (sz : Nat) (h0 : Nat) (tp : Nat) (rd : Nat) (lv : Nat) (tr : Nat) (rw : Nat) (bx : Nat) (ch : Nat) (sg : Nat) (dg : Nat) (pl : Nat) (dr : Nat) (pl5 : Nat) (pl6 : Nat) (pl7 : Nat) (pl8 : Nat) (pl9 : Nat) (pl10 : Nat) (pl11 : Nat) (pl12 : Nat) (pl13 : Nat) (x1 : Int32) (x2 : Int32) : Met l yX10_enough wsX10_enough ({ frames := 1, cells := 0, slots := 0, locals := 21 }) (PC [.ref h0, .int x1, .int x2] sz D ca [(h0, .inr (10, [.ref tp, .ref rd, .ref lv, .ref tr, .ref rw, .ref bx, .ref ch, .ref sg, .ref dg, .ref pl, .ref dr, .int 0])), (pl, .inr (2, [.int 1, .int 0, .int 0, .int 0, .int 0, .ref pl5, .ref pl6, .ref pl7, .ref pl8, .ref pl9, .ref pl10, .ref pl11, .ref pl12, .ref pl13]))]) (QI (fun (r : Int32) (u : Unit) => r = (-1)) (fun (_ : Unit) => []) [(h0, .inr (10, [.ref tp, .ref rd, .ref lv, .ref tr, .ref rw, .ref bx, .ref ch, .ref sg, .ref dg, .ref pl, .ref dr, .int 0])), (pl, .inr (2, [.int 1, .int 0, .int 0, .int 0, .int 0, .ref pl5, .ref pl6, .ref pl7, .ref pl8, .ref pl9, .ref pl10, .ref pl11, .ref pl12, .ref pl13]))] sz D) 0 0 (va_A [(h0, .inr (10, [.ref tp, .ref rd, .ref lv, .ref tr, .ref rw, .ref bx, .ref ch, .ref sg, .ref dg, .ref pl, .ref dr, .int 0])), (pl, .inr (2, [.int 1, .int 0, .int 0, .int 0, .int 0, .ref pl5, .ref pl6, .ref pl7, .ref pl8, .ref pl9, .ref pl10, .ref pl11, .ref pl12, .ref pl13]))] sz) := by
  refine Met.ofW (cc := cX10_enough) (maxL := 6) (ret := (some .int)) (by decide +kernel) rfl ?_
  intro p e s m args below meth c s₁ B hml hv
  obtain ⟨rfl, hsz, hP, hC, hD0⟩ := hv
  have hx := B.exec
  have hb := B.bytes
  have hr := B.returns
  have hts := atoms_spec (ws := wsX10_enough) B.pre
  have hown : s.vm.findClass RX10 = some m.cls := findClass_of_methodNamed B.named
  have hlocks := B.notSynchronized
  subst hsz
  have hD := hD0.self (sz := s.heap.size)
  dsimp only [QV, QI, QL, BQ]
  generalize hAe : va_A [(h0, .inr (10, [.ref tp, .ref rd, .ref lv, .ref tr, .ref rw, .ref bx, .ref ch, .ref sg, .ref dg, .ref pl, .ref dr, .int 0])), (pl, .inr (2, [.int 1, .int 0, .int 0, .int 0, .int 0, .ref pl5, .ref pl6, .ref pl7, .ref pl8, .ref pl9, .ref pl10, .ref pl11, .ref pl12, .ref pl13]))] s.heap.size = A at hD ⊢
  have hA : ∀ q : Nat, s.heap.size ≤ q → A q := fun q h => by rw [← hAe]; exact Or.inr h
  have hDA : ∀ {w : va_W}, va_D A w → va_D (va_A [(h0, .inr (10, [.ref tp, .ref rd, .ref lv, .ref tr, .ref rw, .ref bx, .ref ch, .ref sg, .ref dg, .ref pl, .ref dr, .int 0])), (pl, .inr (2, [.int 1, .int 0, .int 0, .int 0, .int 0, .ref pl5, .ref pl6, .ref pl7, .ref pl8, .ref pl9, .ref pl10, .ref pl11, .ref pl12, .ref pl13]))] s.heap.size) w := fun h => by rw [hAe]; exact h
  have hS : va_S A s.heap s.heap [] := va_S.rf
  have hP : va_P D vwCl [(h0, .inr (10, [.ref tp, .ref rd, .ref lv, .ref tr, .ref rw, .ref bx, .ref ch, .ref sg, .ref dg, .ref pl, .ref dr, .int 0])), (pl, .inr (2, [.int 1, .int 0, .int 0, .int 0, .int 0, .ref pl5, .ref pl6, .ref pl7, .ref pl8, .ref pl9, .ref pl10, .ref pl11, .ref pl12, .ref pl13]))] s.heap := hP
  have hl := lv_entry ([.ref h0, .int x1, .int x2]) (n := 6) (Nat.le_of_ble_eq_true rfl)
  rw [lg_entry_eq]
  generalize (lg_sl ([.ref h0, .int x1, .int x2]) ++ List.replicate (6 - (lg_sl ([.ref h0, .int x1, .int x2])).length) Slot.unset).toArray = ls at hl ⊢
  have hl : lv_has ls 6 [(0, .ref h0), (1, .int x1), (2, .int x2)] := hl
  refine lv_aload_n hx hb dX10_enough_0 rfl (lv_at hl 0 rfl) ?_
  refine lv_iload_n hx hb dX10_enough_1 rfl (lv_at hl 1 rfl) ?_
  refine kc_i (wr := []) (va_runV (As := [.int x1]) (rest := []) ⟨hx, hb, hml, hown, hts⟩ (k_X10_isGone l D ca s.heap.size h0 tp rd lv tr rw bx ch sg dg pl dr pl5 pl6 pl7 pl8 pl9 pl10 pl11 pl12 pl13 x1) (cwV 1 hts gX10_enough_X10_isGone rfl rfl rfl (by decide +kernel) ⟨(Nat.le_of_ble_eq_true rfl), (Nat.le_of_ble_eq_true rfl)⟩) (PC.preV (ci := 10) hC hP hD [0, 1] rfl (by decide +kernel) rfl rfl) rfl rfl hl.1 rfl (lv_room (Nat.le_of_ble_eq_true rfl)) dX10_enough_2 ⟨(Nat.le_of_ble_eq_true rfl), (Nat.le_of_ble_eq_true rfl)⟩) hP hD hS hA [0, 1] [] rfl rfl (by decide +kernel) (by decide +kernel) (fun r_1 u_3 H locs hw_2 hP hD hS => ?_)
  subst hw_2
  have hP : va_P D vwCl [(h0, .inr (10, [.ref tp, .ref rd, .ref lv, .ref tr, .ref rw, .ref bx, .ref ch, .ref sg, .ref dg, .ref pl, .ref dr, .int 0])), (pl, .inr (2, [.int 1, .int 0, .int 0, .int 0, .int 0, .ref pl5, .ref pl6, .ref pl7, .ref pl8, .ref pl9, .ref pl10, .ref pl11, .ref pl12, .ref pl13]))] H := hP
  have hD : va_D A [(h0, .inr (10, [.ref tp, .ref rd, .ref lv, .ref tr, .ref rw, .ref bx, .ref ch, .ref sg, .ref dg, .ref pl, .ref dr, .int 0])), (pl, .inr (2, [.int 1, .int 0, .int 0, .int 0, .int 0, .ref pl5, .ref pl6, .ref pl7, .ref pl8, .ref pl9, .ref pl10, .ref pl11, .ref pl12, .ref pl13]))] := hD
  refine lv_if_ne (tgt := 19) hx hb dX10_enough_5 (by decide +kernel) (fun c_4 => ?_) (fun c_4 => absurd c_4 (by decide +kernel))
  refine lv_iconst (v := (-1)) hx hb dX10_enough_19 (by decide +kernel) ?_
  exact W.iret (v := (-1)) hx hb hr (fun t ht hW => ⟨⟨(-1), (), rfl, rfl, by rw [ht]; exact hP.sub [] rfl, hDA (hD.sub [] (by decide +kernel) rfl)⟩, hS.F ht⟩) hS.2.2 dX10_enough_20
theorem iw_X10_load_2 : ∀ w ∈ u_ws RX2 TX2 14, w ∈ wsX10_load := by decide +kernel
theorem iw_X10_load_10 : ∀ w ∈ u_ws RX10 TX10 12, w ∈ wsX10_load := by decide +kernel
def sp_k_X10_load (x1 : Int32) : Int64 := (if x1 = 0 then 0 else (if x1 = 1 then 1 else (-1)))
set_option maxHeartbeats 4000000 in
set_option maxRecDepth 100000 in
theorem k_X10_load (l : Launch) (D : va_G) (ca : Nat → ClassId) (sz : Nat) (h0 : Nat) (tp : Nat) (rd : Nat) (lv : Nat) (tr : Nat) (rw : Nat) (bx : Nat) (ch : Nat) (sg : Nat) (dg : Nat) (pl : Nat) (dr : Nat) (pl5 : Nat) (pl6 : Nat) (pl7 : Nat) (pl8 : Nat) (pl9 : Nat) (pl10 : Nat) (pl11 : Nat) (pl12 : Nat) (pl13 : Nat) (x1 : Int32) : Met l yX10_load wsX10_load ({ frames := 0, cells := 0, slots := 0, locals := 0 }) (PC [.ref h0, .int x1] sz D ca [(h0, .inr (10, [.ref tp, .ref rd, .ref lv, .ref tr, .ref rw, .ref bx, .ref ch, .ref sg, .ref dg, .ref pl, .ref dr, .int 0])), (pl, .inr (2, [.int 1, .int 0, .int 0, .int 0, .int 0, .ref pl5, .ref pl6, .ref pl7, .ref pl8, .ref pl9, .ref pl10, .ref pl11, .ref pl12, .ref pl13]))]) (QL (fun (r : Int64) (u : Unit) => r = sp_k_X10_load x1) (fun (_ : Unit) => []) [(h0, .inr (10, [.ref tp, .ref rd, .ref lv, .ref tr, .ref rw, .ref bx, .ref ch, .ref sg, .ref dg, .ref pl, .ref dr, .int 0])), (pl, .inr (2, [.int 1, .int 0, .int 0, .int 0, .int 0, .ref pl5, .ref pl6, .ref pl7, .ref pl8, .ref pl9, .ref pl10, .ref pl11, .ref pl12, .ref pl13]))] sz D) 0 0 (va_A [(h0, .inr (10, [.ref tp, .ref rd, .ref lv, .ref tr, .ref rw, .ref bx, .ref ch, .ref sg, .ref dg, .ref pl, .ref dr, .int 0])), (pl, .inr (2, [.int 1, .int 0, .int 0, .int 0, .int 0, .ref pl5, .ref pl6, .ref pl7, .ref pl8, .ref pl9, .ref pl10, .ref pl11, .ref pl12, .ref pl13]))] sz) := by
  refine Met.ofW (cc := cX10_load) (maxL := 9) (ret := (some .long)) (by decide +kernel) rfl ?_
  intro p e s m args below meth c s₁ B hml hv
  obtain ⟨rfl, hsz, hP, hC, hD0⟩ := hv
  have hx := B.exec
  have hb := B.bytes
  have hr := B.returns
  have hts := atoms_spec (ws := wsX10_load) B.pre
  have hown : s.vm.findClass RX10 = some m.cls := findClass_of_methodNamed B.named
  have hlocks := B.notSynchronized
  subst hsz
  have hD := hD0.self (sz := s.heap.size)
  dsimp only [QV, QI, QL, BQ]
  generalize hAe : va_A [(h0, .inr (10, [.ref tp, .ref rd, .ref lv, .ref tr, .ref rw, .ref bx, .ref ch, .ref sg, .ref dg, .ref pl, .ref dr, .int 0])), (pl, .inr (2, [.int 1, .int 0, .int 0, .int 0, .int 0, .ref pl5, .ref pl6, .ref pl7, .ref pl8, .ref pl9, .ref pl10, .ref pl11, .ref pl12, .ref pl13]))] s.heap.size = A at hD ⊢
  have hA : ∀ q : Nat, s.heap.size ≤ q → A q := fun q h => by rw [← hAe]; exact Or.inr h
  have hDA : ∀ {w : va_W}, va_D A w → va_D (va_A [(h0, .inr (10, [.ref tp, .ref rd, .ref lv, .ref tr, .ref rw, .ref bx, .ref ch, .ref sg, .ref dg, .ref pl, .ref dr, .int 0])), (pl, .inr (2, [.int 1, .int 0, .int 0, .int 0, .int 0, .ref pl5, .ref pl6, .ref pl7, .ref pl8, .ref pl9, .ref pl10, .ref pl11, .ref pl12, .ref pl13]))] s.heap.size) w := fun h => by rw [hAe]; exact h
  have hS : va_S A s.heap s.heap [] := va_S.rf
  have hP : va_P D vwCl [(h0, .inr (10, [.ref tp, .ref rd, .ref lv, .ref tr, .ref rw, .ref bx, .ref ch, .ref sg, .ref dg, .ref pl, .ref dr, .int 0])), (pl, .inr (2, [.int 1, .int 0, .int 0, .int 0, .int 0, .ref pl5, .ref pl6, .ref pl7, .ref pl8, .ref pl9, .ref pl10, .ref pl11, .ref pl12, .ref pl13]))] s.heap := hP
  have hl := lv_entry ([.ref h0, .int x1]) (n := 9) (Nat.le_of_ble_eq_true rfl)
  rw [lg_entry_eq]
  generalize (lg_sl ([.ref h0, .int x1]) ++ List.replicate (9 - (lg_sl ([.ref h0, .int x1])).length) Slot.unset).toArray = ls at hl ⊢
  have hl : lv_has ls 9 [(0, .ref h0), (1, .int x1)] := hl
  refine lv_iload_n hx hb dX10_load_0 rfl (lv_at hl 1 rfl) ?_
  refine lv_if_eq (tgt := 13) hx hb dX10_load_1 (by decide +kernel) (fun c_1 => ?_) (fun c_1 => ?_)
  · refine lv_lconst (v := 0) hx hb dX10_load_13 (by decide +kernel) ?_
    refine lv_lstore_n (lv' := [(2, .long 0), (0, .ref h0), (1, .int x1)]) hx hb dX10_load_14 rfl hl (by decide +kernel) rfl (fun ls hl => ?_)
    refine lv_lconst (v := 1) hx hb dX10_load_15 (by decide +kernel) ?_
    refine lv_lstore (lv' := [(4, .long 1), (2, .long 0), (0, .ref h0), (1, .int x1)]) hx hb dX10_load_16 hl (by decide +kernel) rfl (fun ls hl => ?_)
    refine lv_iconst (v := 0) hx hb dX10_load_18 (by decide +kernel) ?_
    refine lv_istore (lv' := [(6, .int 0), (4, .long 1), (2, .long 0), (0, .ref h0), (1, .int x1)]) hx hb dX10_load_19 hl (by decide +kernel) rfl (fun ls hl => ?_)
    refine lv_iload hx hb dX10_load_21 (lv_at hl 0 rfl) ?_
    refine lv_aload_n hx hb dX10_load_23 rfl (lv_at hl 3 rfl) ?_
    refine va_get (D := D) (ci := 10) (v := .ref pl) (C := RX10) (T := TX10) (N := 12) hx hb hts iw_X10_load_10 hown hC.1 hP 0 rfl rfl 9 (by decide +kernel) (hts (.fieldLink RX10 19 "FairWheel" "plan" "LFairWheel$Plan;") (by decide +kernel)) (fun _ h9 => h9) rfl dX10_load_24 ?_
    refine va_get (D := D) (ci := 2) (v := .int 0) (C := RX2) (T := TX2) (N := 14) hx hb hts iw_X10_load_2 hown hC.1 hP 1 rfl rfl 3 (by decide +kernel) (hts (.fieldLink RX10 105 "FairWheel$Plan" "count" "I") (by decide +kernel)) (fun _ h9 => h9) rfl dX10_load_27 ?_
    refine lv_icmp_ge (tgt := 140) hx hb dX10_load_30 (by decide +kernel) (fun c_2 => ?_) (fun c_2 => absurd (by decide +kernel) c_2)
    refine lv_iload_n hx hb dX10_load_140 rfl (lv_at hl 4 rfl) ?_
    refine lv_if_ne (tgt := 148) hx hb dX10_load_141 (by decide +kernel) (fun c_3 => absurd c_1 c_3) (fun c_3 => ?_)
    refine lv_lload_n hx hb dX10_load_144 rfl (lv_at hl 2 rfl) ?_
    refine lv_goto (tgt := 150) hx hb dX10_load_145 (by decide +kernel) ?_
    exact W.lret (v := 0) hx hb hr (fun t ht hW => ⟨⟨0, (), rfl, (by unfold sp_k_X10_load; rw [if_pos c_1]), by rw [ht]; exact hP.sub [] rfl, hDA (hD.sub [] (by decide +kernel) rfl)⟩, hS.F ht⟩) hS.2.2 dX10_load_150
  · refine lv_iload_n hx hb dX10_load_4 rfl (lv_at hl 1 rfl) ?_
    refine lv_iconst (v := 1) hx hb dX10_load_5 (by decide +kernel) ?_
    refine lv_icmp_eq (tgt := 13) hx hb dX10_load_6 (by decide +kernel) (fun c_4 => ?_) (fun c_4 => ?_)
    · refine lv_lconst (v := 0) hx hb dX10_load_13 (by decide +kernel) ?_
      refine lv_lstore_n (lv' := [(2, .long 0), (0, .ref h0), (1, .int x1)]) hx hb dX10_load_14 rfl hl (by decide +kernel) rfl (fun ls hl => ?_)
      refine lv_lconst (v := 1) hx hb dX10_load_15 (by decide +kernel) ?_
      refine lv_lstore (lv' := [(4, .long 1), (2, .long 0), (0, .ref h0), (1, .int x1)]) hx hb dX10_load_16 hl (by decide +kernel) rfl (fun ls hl => ?_)
      refine lv_iconst (v := 0) hx hb dX10_load_18 (by decide +kernel) ?_
      refine lv_istore (lv' := [(6, .int 0), (4, .long 1), (2, .long 0), (0, .ref h0), (1, .int x1)]) hx hb dX10_load_19 hl (by decide +kernel) rfl (fun ls hl => ?_)
      refine lv_iload hx hb dX10_load_21 (lv_at hl 0 rfl) ?_
      refine lv_aload_n hx hb dX10_load_23 rfl (lv_at hl 3 rfl) ?_
      refine va_get (D := D) (ci := 10) (v := .ref pl) (C := RX10) (T := TX10) (N := 12) hx hb hts iw_X10_load_10 hown hC.1 hP 0 rfl rfl 9 (by decide +kernel) (hts (.fieldLink RX10 19 "FairWheel" "plan" "LFairWheel$Plan;") (by decide +kernel)) (fun _ h9 => h9) rfl dX10_load_24 ?_
      refine va_get (D := D) (ci := 2) (v := .int 0) (C := RX2) (T := TX2) (N := 14) hx hb hts iw_X10_load_2 hown hC.1 hP 1 rfl rfl 3 (by decide +kernel) (hts (.fieldLink RX10 105 "FairWheel$Plan" "count" "I") (by decide +kernel)) (fun _ h9 => h9) rfl dX10_load_27 ?_
      refine lv_icmp_ge (tgt := 140) hx hb dX10_load_30 (by decide +kernel) (fun c_5 => ?_) (fun c_5 => absurd (by decide +kernel) c_5)
      refine lv_iload_n hx hb dX10_load_140 rfl (lv_at hl 4 rfl) ?_
      refine lv_if_ne (tgt := 148) hx hb dX10_load_141 (by decide +kernel) (fun c_6 => ?_) (fun c_6 => absurd (c_4.symm.trans c_6) (by decide +kernel))
      refine lv_lload hx hb dX10_load_148 (lv_at hl 1 rfl) ?_
      exact W.lret (v := 1) hx hb hr (fun t ht hW => ⟨⟨1, (), rfl, (by unfold sp_k_X10_load; rw [if_neg c_1, if_pos c_4]), by rw [ht]; exact hP.sub [] rfl, hDA (hD.sub [] (by decide +kernel) rfl)⟩, hS.F ht⟩) hS.2.2 dX10_load_150
    · refine lv_ldc2 (v := (-1)) hx hb hown (hts (.constantLong RX10 216 (-1)) (by decide +kernel)) dX10_load_9 ?_
      exact W.lret (v := (-1)) hx hb hr (fun t ht hW => ⟨⟨(-1), (), rfl, (by unfold sp_k_X10_load; rw [if_neg c_1, if_neg c_4]), by rw [ht]; exact hP.sub [] rfl, hDA (hD.sub [] (by decide +kernel) rfl)⟩, hS.F ht⟩) hS.2.2 dX10_load_12
theorem iw_X1_add_1 : ∀ w ∈ u_ws RX1 TX1 4, w ∈ wsX1_add := by decide +kernel
set_option maxHeartbeats 4000000 in
set_option maxRecDepth 100000 in
theorem k_X1_add (l : Launch) (D : va_G) (ca : Nat → ClassId) (sz : Nat) (h0 : Nat) (c1 : Nat) (c2 : Nat) (c3 : Nat) (f1 : Nat → Int32) (f2 : Nat → Int32) (f3 : Nat → Int32) (x1 : Int32) (x2 : Int32) (x3 : Int32) : Met l yX1_add wsX1_add ({ frames := 0, cells := 0, slots := 0, locals := 0 }) (PC [.ref h0, .int x1, .int x2, .int x3] sz D ca [(h0, .inr (1, [.int 0, .ref c1, .ref c2, .ref c3])), (c1, .inl (ca 1, 60, .inl f1)), (c2, .inl (ca 1, 60, .inl f2)), (c3, .inl (ca 1, 60, .inl f3))]) (QI (fun (r : Int32) (u : Unit) => r = 1) (fun (_ : Unit) => [(h0, .inr (1, [.int 1, .ref c1, .ref c2, .ref c3]))]) [(h0, .inr (1, [.int 0, .ref c1, .ref c2, .ref c3])), (c1, .inl (ca 1, 60, .inl f1)), (c2, .inl (ca 1, 60, .inl f2)), (c3, .inl (ca 1, 60, .inl f3))] sz D) 0 0 (va_A [(h0, .inr (1, [.int 0, .ref c1, .ref c2, .ref c3])), (c1, .inl (ca 1, 60, .inl f1)), (c2, .inl (ca 1, 60, .inl f2)), (c3, .inl (ca 1, 60, .inl f3))] sz) := by
  refine Met.ofW (cc := cX1_add) (maxL := 4) (ret := (some .boolean)) (by decide +kernel) rfl ?_
  intro p e s m args below meth c s₁ B hml hv
  obtain ⟨rfl, hsz, hP, hC, hD0⟩ := hv
  have hx := B.exec
  have hb := B.bytes
  have hr := B.returns
  have hts := atoms_spec (ws := wsX1_add) B.pre
  have hown : s.vm.findClass RX1 = some m.cls := findClass_of_methodNamed B.named
  have hlocks := B.notSynchronized
  subst hsz
  have hD := hD0.self (sz := s.heap.size)
  dsimp only [QV, QI, QL, BQ]
  generalize hAe : va_A [(h0, .inr (1, [.int 0, .ref c1, .ref c2, .ref c3])), (c1, .inl (ca 1, 60, .inl f1)), (c2, .inl (ca 1, 60, .inl f2)), (c3, .inl (ca 1, 60, .inl f3))] s.heap.size = A at hD ⊢
  have hA : ∀ q : Nat, s.heap.size ≤ q → A q := fun q h => by rw [← hAe]; exact Or.inr h
  have hDA : ∀ {w : va_W}, va_D A w → va_D (va_A [(h0, .inr (1, [.int 0, .ref c1, .ref c2, .ref c3])), (c1, .inl (ca 1, 60, .inl f1)), (c2, .inl (ca 1, 60, .inl f2)), (c3, .inl (ca 1, 60, .inl f3))] s.heap.size) w := fun h => by rw [hAe]; exact h
  have hS : va_S A s.heap s.heap [] := va_S.rf
  have hP : va_P D vwCl [(h0, .inr (1, [.int 0, .ref c1, .ref c2, .ref c3])), (c1, .inl (ca 1, 60, .inl f1)), (c2, .inl (ca 1, 60, .inl f2)), (c3, .inl (ca 1, 60, .inl f3))] s.heap := hP
  have hl := lv_entry ([.ref h0, .int x1, .int x2, .int x3]) (n := 4) (Nat.le_of_ble_eq_true rfl)
  rw [lg_entry_eq]
  generalize (lg_sl ([.ref h0, .int x1, .int x2, .int x3]) ++ List.replicate (4 - (lg_sl ([.ref h0, .int x1, .int x2, .int x3])).length) Slot.unset).toArray = ls at hl ⊢
  have hl : lv_has ls 4 [(0, .ref h0), (1, .int x1), (2, .int x2), (3, .int x3)] := hl
  refine lv_aload_n hx hb dX1_add_0 rfl (lv_at hl 0 rfl) ?_
  refine va_get (D := D) (ci := 1) (v := .int 0) (C := RX1) (T := TX1) (N := 4) hx hb hts iw_X1_add_1 hown hC.1 hP 0 rfl rfl 0 (by decide +kernel) (hts (.fieldLink RX1 9 "FairWheel$Choices" "count" "I") (by decide +kernel)) (fun _ h9 => h9) rfl dX1_add_1 ?_
  refine lv_bipush (v := 60) hx hb dX1_add_4 (by decide +kernel) ?_
  refine lv_icmp_lt (tgt := 11) hx hb dX1_add_6 (by decide +kernel) (fun c_1 => ?_) (fun c_1 => absurd (by decide +kernel) c_1)
  refine lv_aload_n hx hb dX1_add_11 rfl (lv_at hl 0 rfl) ?_
  refine va_get (D := D) (ci := 1) (v := .ref c1) (C := RX1) (T := TX1) (N := 4) hx hb hts iw_X1_add_1 hown hC.1 hP 0 rfl rfl 1 (by decide +kernel) (hts (.fieldLink RX1 15 "FairWheel$Choices" "ticks" "[I") (by decide +kernel)) (fun _ h9 => h9) rfl dX1_add_12 ?_
  refine lv_aload_n hx hb dX1_add_15 rfl (lv_at hl 0 rfl) ?_
  refine va_get (D := D) (ci := 1) (v := .int 0) (C := RX1) (T := TX1) (N := 4) hx hb hts iw_X1_add_1 hown hC.1 hP 0 rfl rfl 0 (by decide +kernel) (hts (.fieldLink RX1 9 "FairWheel$Choices" "count" "I") (by decide +kernel)) (fun _ h9 => h9) rfl dX1_add_16 ?_
  refine lv_iload_n hx hb dX1_add_19 rfl (lv_at hl 1 rfl) ?_
  refine ka_iast hx hb hC.1 hP hD hS 1 1 rfl rfl 0 rfl (by decide +kernel) (by decide +kernel) dX1_add_20 (fun H locs hP hD hS => ?_)
  have hP : va_P D vwCl [(h0, .inr (1, [.int 0, .ref c1, .ref c2, .ref c3])), (c1, .inl (ca 1, 60, .inl (upd f1 0 x1))), (c2, .inl (ca 1, 60, .inl f2)), (c3, .inl (ca 1, 60, .inl f3))] H := hP
  have hD : va_D A [(h0, .inr (1, [.int 0, .ref c1, .ref c2, .ref c3])), (c1, .inl (ca 1, 60, .inl (upd f1 0 x1))), (c2, .inl (ca 1, 60, .inl f2)), (c3, .inl (ca 1, 60, .inl f3))] := hD
  refine lv_aload_n hx hb dX1_add_21 rfl (lv_at hl 0 rfl) ?_
  refine va_get (D := D) (ci := 1) (v := .ref c2) (C := RX1) (T := TX1) (N := 4) hx hb hts iw_X1_add_1 hown hC.1 hP 0 rfl rfl 2 (by decide +kernel) (hts (.fieldLink RX1 19 "FairWheel$Choices" "processors" "[I") (by decide +kernel)) (fun _ h9 => h9) rfl dX1_add_22 ?_
  refine lv_aload_n hx hb dX1_add_25 rfl (lv_at hl 0 rfl) ?_
  refine va_get (D := D) (ci := 1) (v := .int 0) (C := RX1) (T := TX1) (N := 4) hx hb hts iw_X1_add_1 hown hC.1 hP 0 rfl rfl 0 (by decide +kernel) (hts (.fieldLink RX1 9 "FairWheel$Choices" "count" "I") (by decide +kernel)) (fun _ h9 => h9) rfl dX1_add_26 ?_
  refine lv_iload_n hx hb dX1_add_29 rfl (lv_at hl 2 rfl) ?_
  refine ka_iast hx hb hC.1 hP hD hS 2 1 rfl rfl 0 rfl (by decide +kernel) (by decide +kernel) dX1_add_30 (fun H locs hP hD hS => ?_)
  have hP : va_P D vwCl [(h0, .inr (1, [.int 0, .ref c1, .ref c2, .ref c3])), (c1, .inl (ca 1, 60, .inl (upd f1 0 x1))), (c2, .inl (ca 1, 60, .inl (upd f2 0 x2))), (c3, .inl (ca 1, 60, .inl f3))] H := hP
  have hD : va_D A [(h0, .inr (1, [.int 0, .ref c1, .ref c2, .ref c3])), (c1, .inl (ca 1, 60, .inl (upd f1 0 x1))), (c2, .inl (ca 1, 60, .inl (upd f2 0 x2))), (c3, .inl (ca 1, 60, .inl f3))] := hD
  refine lv_aload_n hx hb dX1_add_31 rfl (lv_at hl 0 rfl) ?_
  refine va_get (D := D) (ci := 1) (v := .ref c3) (C := RX1) (T := TX1) (N := 4) hx hb hts iw_X1_add_1 hown hC.1 hP 0 rfl rfl 3 (by decide +kernel) (hts (.fieldLink RX1 22 "FairWheel$Choices" "tasks" "[I") (by decide +kernel)) (fun _ h9 => h9) rfl dX1_add_32 ?_
  refine lv_aload_n hx hb dX1_add_35 rfl (lv_at hl 0 rfl) ?_
  refine va_get (D := D) (ci := 1) (v := .int 0) (C := RX1) (T := TX1) (N := 4) hx hb hts iw_X1_add_1 hown hC.1 hP 0 rfl rfl 0 (by decide +kernel) (hts (.fieldLink RX1 9 "FairWheel$Choices" "count" "I") (by decide +kernel)) (fun _ h9 => h9) rfl dX1_add_36 ?_
  refine lv_iload_n hx hb dX1_add_39 rfl (lv_at hl 3 rfl) ?_
  refine ka_iast hx hb hC.1 hP hD hS 3 1 rfl rfl 0 rfl (by decide +kernel) (by decide +kernel) dX1_add_40 (fun H locs hP hD hS => ?_)
  have hP : va_P D vwCl [(h0, .inr (1, [.int 0, .ref c1, .ref c2, .ref c3])), (c1, .inl (ca 1, 60, .inl (upd f1 0 x1))), (c2, .inl (ca 1, 60, .inl (upd f2 0 x2))), (c3, .inl (ca 1, 60, .inl (upd f3 0 x3)))] H := hP
  have hD : va_D A [(h0, .inr (1, [.int 0, .ref c1, .ref c2, .ref c3])), (c1, .inl (ca 1, 60, .inl (upd f1 0 x1))), (c2, .inl (ca 1, 60, .inl (upd f2 0 x2))), (c3, .inl (ca 1, 60, .inl (upd f3 0 x3)))] := hD
  refine lv_aload_n hx hb dX1_add_41 rfl (lv_at hl 0 rfl) ?_
  refine lv_dup hx hb dX1_add_42 rfl ?_
  refine va_get (D := D) (ci := 1) (v := .int 0) (C := RX1) (T := TX1) (N := 4) hx hb hts iw_X1_add_1 hown hC.1 hP 0 rfl rfl 0 (by decide +kernel) (hts (.fieldLink RX1 9 "FairWheel$Choices" "count" "I") (by decide +kernel)) (fun _ h9 => h9) rfl dX1_add_43 ?_
  refine lv_iconst (v := 1) hx hb dX1_add_46 (by decide +kernel) ?_
  refine lv_iadd hx hb dX1_add_47 ?_
  refine nt_i 1 (by decide +kernel) ?_
  refine va_put (D := D) (ci := 1) (v := .int 1) (ty := .int) (C := RX1) (T := TX1) (N := 4) hx hb hts iw_X1_add_1 tyX1 tyX1_ok nmX1 hown hC.1 hP hD hS 0 rfl rfl 0 (by decide +kernel) (hts (.fieldLink RX1 9 "FairWheel$Choices" "count" "I") (by decide +kernel)) (fun _ h9 => h9) rfl (by decide +kernel) rfl rfl (Nat.le_of_ble_eq_true rfl) dX1_add_48 (fun H locs hP hD hS => ?_)
  have hP : va_P D vwCl [(h0, .inr (1, [.int 1, .ref c1, .ref c2, .ref c3])), (c1, .inl (ca 1, 60, .inl (upd f1 0 x1))), (c2, .inl (ca 1, 60, .inl (upd f2 0 x2))), (c3, .inl (ca 1, 60, .inl (upd f3 0 x3)))] H := hP
  have hD : va_D A [(h0, .inr (1, [.int 1, .ref c1, .ref c2, .ref c3])), (c1, .inl (ca 1, 60, .inl (upd f1 0 x1))), (c2, .inl (ca 1, 60, .inl (upd f2 0 x2))), (c3, .inl (ca 1, 60, .inl (upd f3 0 x3)))] := hD
  refine lv_iconst (v := 1) hx hb dX1_add_51 (by decide +kernel) ?_
  exact W.zret (v := 1) hx hb hr (rfl) (fun t ht hW => ⟨⟨1, (), rfl, rfl, by rw [ht]; exact hP.sub [0] rfl, hDA (hD.sub [0] (by decide +kernel) rfl)⟩, hS.F ht⟩) hS.2.2 dX1_add_52
theorem iw_X10_tell_1 : ∀ w ∈ u_ws RX1 TX1 4, w ∈ wsX10_tell := by decide +kernel
theorem iw_X10_tell_10 : ∀ w ∈ u_ws RX10 TX10 12, w ∈ wsX10_tell := by decide +kernel
def sp_k_X10_tell (x1 : Int32) (x2 : Int32) (x3 : Int32) : Int32 := (if x1 < 0 then (-1) else (if 2000 ≤ x1 then (-1) else (if x2 < 0 then (-1) else (if 4 ≤ x2 then (-1) else (if x3 < (-1) then (-1) else (if 10 ≤ x3 then (-1) else 1))))))
set_option maxHeartbeats 4000000 in
set_option maxRecDepth 100000 in
theorem k_X10_tell (l : Launch) (D : va_G) (ca : Nat → ClassId) (sz : Nat) (h0 : Nat) (tp : Nat) (rd : Nat) (lv : Nat) (tr : Nat) (rw : Nat) (bx : Nat) (ch : Nat) (sg : Nat) (dg : Nat) (pl : Nat) (dr : Nat) (c1 : Nat) (c2 : Nat) (c3 : Nat) (f1 : Nat → Int32) (f2 : Nat → Int32) (f3 : Nat → Int32) (x1 : Int32) (x2 : Int32) (x3 : Int32) : Met l yX10_tell wsX10_tell ({ frames := 1, cells := 0, slots := 0, locals := 23 }) (PC [.ref h0, .int x1, .int x2, .int x3] sz D ca [(h0, .inr (10, [.ref tp, .ref rd, .ref lv, .ref tr, .ref rw, .ref bx, .ref ch, .ref sg, .ref dg, .ref pl, .ref dr, .int 0])), (ch, .inr (1, [.int 0, .ref c1, .ref c2, .ref c3])), (c1, .inl (ca 1, 60, .inl f1)), (c2, .inl (ca 1, 60, .inl f2)), (c3, .inl (ca 1, 60, .inl f3))]) (QI (fun (r : Int32) (u : Unit) => r = sp_k_X10_tell x1 x2 x3) (fun (_ : Unit) => []) [(h0, .inr (10, [.ref tp, .ref rd, .ref lv, .ref tr, .ref rw, .ref bx, .ref ch, .ref sg, .ref dg, .ref pl, .ref dr, .int 0])), (ch, .inr (1, [.int 0, .ref c1, .ref c2, .ref c3])), (c1, .inl (ca 1, 60, .inl f1)), (c2, .inl (ca 1, 60, .inl f2)), (c3, .inl (ca 1, 60, .inl f3))] sz D) 0 0 (va_A [(h0, .inr (10, [.ref tp, .ref rd, .ref lv, .ref tr, .ref rw, .ref bx, .ref ch, .ref sg, .ref dg, .ref pl, .ref dr, .int 0])), (ch, .inr (1, [.int 0, .ref c1, .ref c2, .ref c3])), (c1, .inl (ca 1, 60, .inl f1)), (c2, .inl (ca 1, 60, .inl f2)), (c3, .inl (ca 1, 60, .inl f3))] sz) := by
  refine Met.ofW (cc := cX10_tell) (maxL := 5) (ret := (some .int)) (by decide +kernel) rfl ?_
  intro p e s m args below meth c s₁ B hml hv
  obtain ⟨rfl, hsz, hP, hC, hD0⟩ := hv
  have hx := B.exec
  have hb := B.bytes
  have hr := B.returns
  have hts := atoms_spec (ws := wsX10_tell) B.pre
  have hown : s.vm.findClass RX10 = some m.cls := findClass_of_methodNamed B.named
  have hlocks := B.notSynchronized
  subst hsz
  have hD := hD0.self (sz := s.heap.size)
  dsimp only [QV, QI, QL, BQ]
  generalize hAe : va_A [(h0, .inr (10, [.ref tp, .ref rd, .ref lv, .ref tr, .ref rw, .ref bx, .ref ch, .ref sg, .ref dg, .ref pl, .ref dr, .int 0])), (ch, .inr (1, [.int 0, .ref c1, .ref c2, .ref c3])), (c1, .inl (ca 1, 60, .inl f1)), (c2, .inl (ca 1, 60, .inl f2)), (c3, .inl (ca 1, 60, .inl f3))] s.heap.size = A at hD ⊢
  have hA : ∀ q : Nat, s.heap.size ≤ q → A q := fun q h => by rw [← hAe]; exact Or.inr h
  have hDA : ∀ {w : va_W}, va_D A w → va_D (va_A [(h0, .inr (10, [.ref tp, .ref rd, .ref lv, .ref tr, .ref rw, .ref bx, .ref ch, .ref sg, .ref dg, .ref pl, .ref dr, .int 0])), (ch, .inr (1, [.int 0, .ref c1, .ref c2, .ref c3])), (c1, .inl (ca 1, 60, .inl f1)), (c2, .inl (ca 1, 60, .inl f2)), (c3, .inl (ca 1, 60, .inl f3))] s.heap.size) w := fun h => by rw [hAe]; exact h
  have hS : va_S A s.heap s.heap [] := va_S.rf
  have hP : va_P D vwCl [(h0, .inr (10, [.ref tp, .ref rd, .ref lv, .ref tr, .ref rw, .ref bx, .ref ch, .ref sg, .ref dg, .ref pl, .ref dr, .int 0])), (ch, .inr (1, [.int 0, .ref c1, .ref c2, .ref c3])), (c1, .inl (ca 1, 60, .inl f1)), (c2, .inl (ca 1, 60, .inl f2)), (c3, .inl (ca 1, 60, .inl f3))] s.heap := hP
  have hl := lv_entry ([.ref h0, .int x1, .int x2, .int x3]) (n := 5) (Nat.le_of_ble_eq_true rfl)
  rw [lg_entry_eq]
  generalize (lg_sl ([.ref h0, .int x1, .int x2, .int x3]) ++ List.replicate (5 - (lg_sl ([.ref h0, .int x1, .int x2, .int x3])).length) Slot.unset).toArray = ls at hl ⊢
  have hl : lv_has ls 5 [(0, .ref h0), (1, .int x1), (2, .int x2), (3, .int x3)] := hl
  refine lv_iload_n hx hb dX10_tell_0 rfl (lv_at hl 1 rfl) ?_
  refine lv_if_lt (tgt := 35) hx hb dX10_tell_1 (by decide +kernel) (fun c_1 => ?_) (fun c_1 => ?_)
  · refine lv_iconst (v := 0) hx hb dX10_tell_35 (by decide +kernel) ?_
    refine lv_istore (lv' := [(4, .int 0), (0, .ref h0), (1, .int x1), (2, .int x2), (3, .int x3)]) hx hb dX10_tell_36 hl (by decide +kernel) rfl (fun ls hl => ?_)
    refine lv_iload hx hb dX10_tell_38 (lv_at hl 0 rfl) ?_
    refine lv_if_eq (tgt := 66) hx hb dX10_tell_40 (by decide +kernel) (fun c_2 => ?_) (fun c_2 => absurd (by decide +kernel) c_2)
    refine lv_iconst (v := (-1)) hx hb dX10_tell_66 (by decide +kernel) ?_
    exact W.iret (v := (-1)) hx hb hr (fun t ht hW => ⟨⟨(-1), (), rfl, (by unfold sp_k_X10_tell; rw [if_pos c_1]), by rw [ht]; exact hP.sub [] rfl, hDA (hD.sub [] (by decide +kernel) rfl)⟩, hS.F ht⟩) hS.2.2 dX10_tell_67
  · refine lv_iload_n hx hb dX10_tell_4 rfl (lv_at hl 1 rfl) ?_
    refine lv_sipush (v := 2000) hx hb dX10_tell_5 (by decide +kernel) ?_
    refine lv_icmp_ge (tgt := 35) hx hb dX10_tell_8 (by decide +kernel) (fun c_3 => ?_) (fun c_3 => ?_)
    · refine lv_iconst (v := 0) hx hb dX10_tell_35 (by decide +kernel) ?_
      refine lv_istore (lv' := [(4, .int 0), (0, .ref h0), (1, .int x1), (2, .int x2), (3, .int x3)]) hx hb dX10_tell_36 hl (by decide +kernel) rfl (fun ls hl => ?_)
      refine lv_iload hx hb dX10_tell_38 (lv_at hl 0 rfl) ?_
      refine lv_if_eq (tgt := 66) hx hb dX10_tell_40 (by decide +kernel) (fun c_4 => ?_) (fun c_4 => absurd (by decide +kernel) c_4)
      refine lv_iconst (v := (-1)) hx hb dX10_tell_66 (by decide +kernel) ?_
      exact W.iret (v := (-1)) hx hb hr (fun t ht hW => ⟨⟨(-1), (), rfl, (by unfold sp_k_X10_tell; rw [if_neg c_1, if_pos c_3]), by rw [ht]; exact hP.sub [] rfl, hDA (hD.sub [] (by decide +kernel) rfl)⟩, hS.F ht⟩) hS.2.2 dX10_tell_67
    · refine lv_iload_n hx hb dX10_tell_11 rfl (lv_at hl 2 rfl) ?_
      refine lv_if_lt (tgt := 35) hx hb dX10_tell_12 (by decide +kernel) (fun c_5 => ?_) (fun c_5 => ?_)
      · refine lv_iconst (v := 0) hx hb dX10_tell_35 (by decide +kernel) ?_
        refine lv_istore (lv' := [(4, .int 0), (0, .ref h0), (1, .int x1), (2, .int x2), (3, .int x3)]) hx hb dX10_tell_36 hl (by decide +kernel) rfl (fun ls hl => ?_)
        refine lv_iload hx hb dX10_tell_38 (lv_at hl 0 rfl) ?_
        refine lv_if_eq (tgt := 66) hx hb dX10_tell_40 (by decide +kernel) (fun c_6 => ?_) (fun c_6 => absurd (by decide +kernel) c_6)
        refine lv_iconst (v := (-1)) hx hb dX10_tell_66 (by decide +kernel) ?_
        exact W.iret (v := (-1)) hx hb hr (fun t ht hW => ⟨⟨(-1), (), rfl, (by unfold sp_k_X10_tell; rw [if_neg c_1, if_neg c_3, if_pos c_5]), by rw [ht]; exact hP.sub [] rfl, hDA (hD.sub [] (by decide +kernel) rfl)⟩, hS.F ht⟩) hS.2.2 dX10_tell_67
      · refine lv_iload_n hx hb dX10_tell_15 rfl (lv_at hl 2 rfl) ?_
        refine lv_iconst (v := 4) hx hb dX10_tell_16 (by decide +kernel) ?_
        refine lv_icmp_ge (tgt := 35) hx hb dX10_tell_17 (by decide +kernel) (fun c_7 => ?_) (fun c_7 => ?_)
        · refine lv_iconst (v := 0) hx hb dX10_tell_35 (by decide +kernel) ?_
          refine lv_istore (lv' := [(4, .int 0), (0, .ref h0), (1, .int x1), (2, .int x2), (3, .int x3)]) hx hb dX10_tell_36 hl (by decide +kernel) rfl (fun ls hl => ?_)
          refine lv_iload hx hb dX10_tell_38 (lv_at hl 0 rfl) ?_
          refine lv_if_eq (tgt := 66) hx hb dX10_tell_40 (by decide +kernel) (fun c_8 => ?_) (fun c_8 => absurd (by decide +kernel) c_8)
          refine lv_iconst (v := (-1)) hx hb dX10_tell_66 (by decide +kernel) ?_
          exact W.iret (v := (-1)) hx hb hr (fun t ht hW => ⟨⟨(-1), (), rfl, (by unfold sp_k_X10_tell; rw [if_neg c_1, if_neg c_3, if_neg c_5, if_pos c_7]), by rw [ht]; exact hP.sub [] rfl, hDA (hD.sub [] (by decide +kernel) rfl)⟩, hS.F ht⟩) hS.2.2 dX10_tell_67
        · refine lv_iload_n hx hb dX10_tell_20 rfl (lv_at hl 3 rfl) ?_
          refine lv_iconst (v := (-1)) hx hb dX10_tell_21 (by decide +kernel) ?_
          refine lv_icmp_lt (tgt := 35) hx hb dX10_tell_22 (by decide +kernel) (fun c_9 => ?_) (fun c_9 => ?_)
          · refine lv_iconst (v := 0) hx hb dX10_tell_35 (by decide +kernel) ?_
            refine lv_istore (lv' := [(4, .int 0), (0, .ref h0), (1, .int x1), (2, .int x2), (3, .int x3)]) hx hb dX10_tell_36 hl (by decide +kernel) rfl (fun ls hl => ?_)
            refine lv_iload hx hb dX10_tell_38 (lv_at hl 0 rfl) ?_
            refine lv_if_eq (tgt := 66) hx hb dX10_tell_40 (by decide +kernel) (fun c_10 => ?_) (fun c_10 => absurd (by decide +kernel) c_10)
            refine lv_iconst (v := (-1)) hx hb dX10_tell_66 (by decide +kernel) ?_
            exact W.iret (v := (-1)) hx hb hr (fun t ht hW => ⟨⟨(-1), (), rfl, (by unfold sp_k_X10_tell; rw [if_neg c_1, if_neg c_3, if_neg c_5, if_neg c_7, if_pos c_9]), by rw [ht]; exact hP.sub [] rfl, hDA (hD.sub [] (by decide +kernel) rfl)⟩, hS.F ht⟩) hS.2.2 dX10_tell_67
          · refine lv_iload_n hx hb dX10_tell_25 rfl (lv_at hl 3 rfl) ?_
            refine lv_bipush (v := 10) hx hb dX10_tell_26 (by decide +kernel) ?_
            refine lv_icmp_ge (tgt := 35) hx hb dX10_tell_28 (by decide +kernel) (fun c_11 => ?_) (fun c_11 => ?_)
            · refine lv_iconst (v := 0) hx hb dX10_tell_35 (by decide +kernel) ?_
              refine lv_istore (lv' := [(4, .int 0), (0, .ref h0), (1, .int x1), (2, .int x2), (3, .int x3)]) hx hb dX10_tell_36 hl (by decide +kernel) rfl (fun ls hl => ?_)
              refine lv_iload hx hb dX10_tell_38 (lv_at hl 0 rfl) ?_
              refine lv_if_eq (tgt := 66) hx hb dX10_tell_40 (by decide +kernel) (fun c_12 => ?_) (fun c_12 => absurd (by decide +kernel) c_12)
              refine lv_iconst (v := (-1)) hx hb dX10_tell_66 (by decide +kernel) ?_
              exact W.iret (v := (-1)) hx hb hr (fun t ht hW => ⟨⟨(-1), (), rfl, (by unfold sp_k_X10_tell; rw [if_neg c_1, if_neg c_3, if_neg c_5, if_neg c_7, if_neg c_9, if_pos c_11]), by rw [ht]; exact hP.sub [] rfl, hDA (hD.sub [] (by decide +kernel) rfl)⟩, hS.F ht⟩) hS.2.2 dX10_tell_67
            · refine lv_iconst (v := 1) hx hb dX10_tell_31 (by decide +kernel) ?_
              refine lv_goto (tgt := 36) hx hb dX10_tell_32 (by decide +kernel) ?_
              refine lv_istore (lv' := [(4, .int 1), (0, .ref h0), (1, .int x1), (2, .int x2), (3, .int x3)]) hx hb dX10_tell_36 hl (by decide +kernel) rfl (fun ls hl => ?_)
              refine lv_iload hx hb dX10_tell_38 (lv_at hl 0 rfl) ?_
              refine lv_if_eq (tgt := 66) hx hb dX10_tell_40 (by decide +kernel) (fun c_13 => absurd c_13 (by decide +kernel)) (fun c_13 => ?_)
              refine lv_aload_n hx hb dX10_tell_43 rfl (lv_at hl 1 rfl) ?_
              refine va_get (D := D) (ci := 10) (v := .ref ch) (C := RX10) (T := TX10) (N := 12) hx hb hts iw_X10_tell_10 hown hC.1 hP 0 rfl rfl 6 (by decide +kernel) (hts (.fieldLink RX10 61 "FairWheel" "choices" "LFairWheel$Choices;") (by decide +kernel)) (fun _ h9 => h9) rfl dX10_tell_44 ?_
              refine lv_iload_n hx hb dX10_tell_47 rfl (lv_at hl 2 rfl) ?_
              refine lv_iload_n hx hb dX10_tell_48 rfl (lv_at hl 3 rfl) ?_
              refine lv_iload_n hx hb dX10_tell_49 rfl (lv_at hl 4 rfl) ?_
              refine kc_i (wr := [(h0, .inr (10, [.ref tp, .ref rd, .ref lv, .ref tr, .ref rw, .ref bx, .ref ch, .ref sg, .ref dg, .ref pl, .ref dr, .int 0]))]) (va_runV (As := [.int x1, .int x2, .int x3]) (rest := []) ⟨hx, hb, hml, hown, hts⟩ (k_X1_add l D ca s.heap.size ch c1 c2 c3 f1 f2 f3 x1 x2 x3) (cwV 3 hts gX10_tell_X1_add rfl rfl rfl (by decide +kernel) ⟨(Nat.le_of_ble_eq_true rfl), (Nat.le_of_ble_eq_true rfl)⟩) (PC.preV (ci := 1) hC hP hD [1, 2, 3, 4] rfl (by decide +kernel) rfl rfl) rfl rfl hl.1 rfl (lv_room (Nat.le_of_ble_eq_true rfl)) dX10_tell_50 ⟨(Nat.le_of_ble_eq_true rfl), (Nat.le_of_ble_eq_true rfl)⟩) hP hD hS hA [1, 2, 3, 4] [0] rfl rfl (by decide +kernel) (by decide +kernel) (fun r_14 u_16 H locs hw_15 hP hD hS => ?_)
              subst hw_15
              have hP : va_P D vwCl [(h0, .inr (10, [.ref tp, .ref rd, .ref lv, .ref tr, .ref rw, .ref bx, .ref ch, .ref sg, .ref dg, .ref pl, .ref dr, .int 0])), (ch, .inr (1, [.int 1, .ref c1, .ref c2, .ref c3]))] H := hP
              have hD : va_D A [(h0, .inr (10, [.ref tp, .ref rd, .ref lv, .ref tr, .ref rw, .ref bx, .ref ch, .ref sg, .ref dg, .ref pl, .ref dr, .int 0])), (ch, .inr (1, [.int 1, .ref c1, .ref c2, .ref c3]))] := hD
              refine lv_if_eq (tgt := 66) hx hb dX10_tell_53 (by decide +kernel) (fun c_17 => absurd c_17 (by decide +kernel)) (fun c_17 => ?_)
              refine lv_aload_n hx hb dX10_tell_56 rfl (lv_at hl 1 rfl) ?_
              refine va_get (D := D) (ci := 10) (v := .ref ch) (C := RX10) (T := TX10) (N := 12) hx hb hts iw_X10_tell_10 hown hC.1 hP 0 rfl rfl 6 (by decide +kernel) (hts (.fieldLink RX10 61 "FairWheel" "choices" "LFairWheel$Choices;") (by decide +kernel)) (fun _ h9 => h9) rfl dX10_tell_57 ?_
              refine va_get (D := D) (ci := 1) (v := .int 1) (C := RX1) (T := TX1) (N := 4) hx hb hts iw_X10_tell_1 hown hC.1 hP 1 rfl rfl 0 (by decide +kernel) (hts (.fieldLink RX10 97 "FairWheel$Choices" "count" "I") (by decide +kernel)) (fun _ h9 => h9) rfl dX10_tell_60 ?_
              refine lv_goto (tgt := 67) hx hb dX10_tell_63 (by decide +kernel) ?_
              exact W.iret (v := 1) hx hb hr (fun t ht hW => ⟨⟨1, (), rfl, (by unfold sp_k_X10_tell; rw [if_neg c_1, if_neg c_3, if_neg c_5, if_neg c_7, if_neg c_9, if_neg c_11]), by rw [ht]; exact hP.sub [] rfl, hDA (hD.sub [] (by decide +kernel) rfl)⟩, hS.F ht⟩) hS.2.2 dX10_tell_67
theorem iw_X10_hush_1 : ∀ w ∈ u_ws RX1 TX1 4, w ∈ wsX10_hush := by decide +kernel
theorem iw_X10_hush_10 : ∀ w ∈ u_ws RX10 TX10 12, w ∈ wsX10_hush := by decide +kernel
set_option maxHeartbeats 4000000 in
set_option maxRecDepth 100000 in
theorem k_X10_hush (l : Launch) (D : va_G) (ca : Nat → ClassId) (sz : Nat) (h0 : Nat) (tp : Nat) (rd : Nat) (lv : Nat) (tr : Nat) (rw : Nat) (bx : Nat) (ch : Nat) (sg : Nat) (dg : Nat) (pl : Nat) (dr : Nat) (c1 : Nat) (c2 : Nat) (c3 : Nat) : Met l yX10_hush wsX10_hush ({ frames := 0, cells := 0, slots := 0, locals := 0 }) (PC [.ref h0] sz D ca [(h0, .inr (10, [.ref tp, .ref rd, .ref lv, .ref tr, .ref rw, .ref bx, .ref ch, .ref sg, .ref dg, .ref pl, .ref dr, .int 0])), (ch, .inr (1, [.int 0, .ref c1, .ref c2, .ref c3]))]) (QI (fun (r : Int32) (u : Unit) => r = 0) (fun (_ : Unit) => []) [(h0, .inr (10, [.ref tp, .ref rd, .ref lv, .ref tr, .ref rw, .ref bx, .ref ch, .ref sg, .ref dg, .ref pl, .ref dr, .int 0])), (ch, .inr (1, [.int 0, .ref c1, .ref c2, .ref c3]))] sz D) 0 0 (va_A [(h0, .inr (10, [.ref tp, .ref rd, .ref lv, .ref tr, .ref rw, .ref bx, .ref ch, .ref sg, .ref dg, .ref pl, .ref dr, .int 0])), (ch, .inr (1, [.int 0, .ref c1, .ref c2, .ref c3]))] sz) := by
  refine Met.ofW (cc := cX10_hush) (maxL := 2) (ret := (some .int)) (by decide +kernel) rfl ?_
  intro p e s m args below meth c s₁ B hml hv
  obtain ⟨rfl, hsz, hP, hC, hD0⟩ := hv
  have hx := B.exec
  have hb := B.bytes
  have hr := B.returns
  have hts := atoms_spec (ws := wsX10_hush) B.pre
  have hown : s.vm.findClass RX10 = some m.cls := findClass_of_methodNamed B.named
  have hlocks := B.notSynchronized
  subst hsz
  have hD := hD0.self (sz := s.heap.size)
  dsimp only [QV, QI, QL, BQ]
  generalize hAe : va_A [(h0, .inr (10, [.ref tp, .ref rd, .ref lv, .ref tr, .ref rw, .ref bx, .ref ch, .ref sg, .ref dg, .ref pl, .ref dr, .int 0])), (ch, .inr (1, [.int 0, .ref c1, .ref c2, .ref c3]))] s.heap.size = A at hD ⊢
  have hA : ∀ q : Nat, s.heap.size ≤ q → A q := fun q h => by rw [← hAe]; exact Or.inr h
  have hDA : ∀ {w : va_W}, va_D A w → va_D (va_A [(h0, .inr (10, [.ref tp, .ref rd, .ref lv, .ref tr, .ref rw, .ref bx, .ref ch, .ref sg, .ref dg, .ref pl, .ref dr, .int 0])), (ch, .inr (1, [.int 0, .ref c1, .ref c2, .ref c3]))] s.heap.size) w := fun h => by rw [hAe]; exact h
  have hS : va_S A s.heap s.heap [] := va_S.rf
  have hP : va_P D vwCl [(h0, .inr (10, [.ref tp, .ref rd, .ref lv, .ref tr, .ref rw, .ref bx, .ref ch, .ref sg, .ref dg, .ref pl, .ref dr, .int 0])), (ch, .inr (1, [.int 0, .ref c1, .ref c2, .ref c3]))] s.heap := hP
  have hl := lv_entry ([.ref h0]) (n := 2) (Nat.le_of_ble_eq_true rfl)
  rw [lg_entry_eq]
  generalize (lg_sl ([.ref h0]) ++ List.replicate (2 - (lg_sl ([.ref h0])).length) Slot.unset).toArray = ls at hl ⊢
  have hl : lv_has ls 2 [(0, .ref h0)] := hl
  refine lv_aload_n hx hb dX10_hush_0 rfl (lv_at hl 0 rfl) ?_
  refine va_get (D := D) (ci := 10) (v := .ref ch) (C := RX10) (T := TX10) (N := 12) hx hb hts iw_X10_hush_10 hown hC.1 hP 0 rfl rfl 6 (by decide +kernel) (hts (.fieldLink RX10 61 "FairWheel" "choices" "LFairWheel$Choices;") (by decide +kernel)) (fun _ h9 => h9) rfl dX10_hush_1 ?_
  refine va_get (D := D) (ci := 1) (v := .int 0) (C := RX1) (T := TX1) (N := 4) hx hb hts iw_X10_hush_1 hown hC.1 hP 1 rfl rfl 0 (by decide +kernel) (hts (.fieldLink RX10 97 "FairWheel$Choices" "count" "I") (by decide +kernel)) (fun _ h9 => h9) rfl dX10_hush_4 ?_
  refine lv_istore_n (lv' := [(1, .int 0), (0, .ref h0)]) hx hb dX10_hush_7 rfl hl (by decide +kernel) rfl (fun ls hl => ?_)
  refine lv_aload_n hx hb dX10_hush_8 rfl (lv_at hl 1 rfl) ?_
  refine va_get (D := D) (ci := 10) (v := .ref ch) (C := RX10) (T := TX10) (N := 12) hx hb hts iw_X10_hush_10 hown hC.1 hP 0 rfl rfl 6 (by decide +kernel) (hts (.fieldLink RX10 61 "FairWheel" "choices" "LFairWheel$Choices;") (by decide +kernel)) (fun _ h9 => h9) rfl dX10_hush_9 ?_
  refine lv_iconst (v := 0) hx hb dX10_hush_12 (by decide +kernel) ?_
  refine va_put (D := D) (ci := 1) (v := .int 0) (ty := .int) (C := RX1) (T := TX1) (N := 4) hx hb hts iw_X10_hush_1 tyX1 tyX1_ok nmX1 hown hC.1 hP hD hS 1 rfl rfl 0 (by decide +kernel) (hts (.fieldLink RX10 97 "FairWheel$Choices" "count" "I") (by decide +kernel)) (fun _ h9 => h9) rfl (by decide +kernel) rfl rfl (Nat.le_of_ble_eq_true rfl) dX10_hush_13 (fun H locs hP hD hS => ?_)
  have hP : va_P D vwCl [(h0, .inr (10, [.ref tp, .ref rd, .ref lv, .ref tr, .ref rw, .ref bx, .ref ch, .ref sg, .ref dg, .ref pl, .ref dr, .int 0])), (ch, .inr (1, [.int 0, .ref c1, .ref c2, .ref c3]))] H := hP
  have hD : va_D A [(h0, .inr (10, [.ref tp, .ref rd, .ref lv, .ref tr, .ref rw, .ref bx, .ref ch, .ref sg, .ref dg, .ref pl, .ref dr, .int 0])), (ch, .inr (1, [.int 0, .ref c1, .ref c2, .ref c3]))] := hD
  refine lv_iload_n hx hb dX10_hush_16 rfl (lv_at hl 0 rfl) ?_
  exact W.iret (v := 0) hx hb hr (fun t ht hW => ⟨⟨0, (), rfl, rfl, by rw [ht]; exact hP.sub [] rfl, hDA (hD.sub [] (by decide +kernel) rfl)⟩, hS.F ht⟩) hS.2.2 dX10_hush_17
theorem iw_X10_check_1 : ∀ w ∈ u_ws RX1 TX1 4, w ∈ wsX10_check := by decide +kernel
theorem iw_X10_check_10 : ∀ w ∈ u_ws RX10 TX10 12, w ∈ wsX10_check := by decide +kernel
set_option maxHeartbeats 4000000 in
set_option maxRecDepth 100000 in
theorem k_X10_check (l : Launch) (D : va_G) (ca : Nat → ClassId) (sz : Nat) (h0 : Nat) (tp : Nat) (rd : Nat) (lv : Nat) (tr : Nat) (rw : Nat) (bx : Nat) (ch : Nat) (sg : Nat) (dg : Nat) (pl : Nat) (dr : Nat) (c1 : Nat) (c2 : Nat) (c3 : Nat) : Met l yX10_check wsX10_check ({ frames := 0, cells := 0, slots := 0, locals := 0 }) (PC [.ref h0] sz D ca [(h0, .inr (10, [.ref tp, .ref rd, .ref lv, .ref tr, .ref rw, .ref bx, .ref ch, .ref sg, .ref dg, .ref pl, .ref dr, .int 0])), (ch, .inr (1, [.int 0, .ref c1, .ref c2, .ref c3]))]) (QI (fun (r : Int32) (u : Unit) => r = (-1)) (fun (_ : Unit) => []) [(h0, .inr (10, [.ref tp, .ref rd, .ref lv, .ref tr, .ref rw, .ref bx, .ref ch, .ref sg, .ref dg, .ref pl, .ref dr, .int 0])), (ch, .inr (1, [.int 0, .ref c1, .ref c2, .ref c3]))] sz D) 0 0 (va_A [(h0, .inr (10, [.ref tp, .ref rd, .ref lv, .ref tr, .ref rw, .ref bx, .ref ch, .ref sg, .ref dg, .ref pl, .ref dr, .int 0])), (ch, .inr (1, [.int 0, .ref c1, .ref c2, .ref c3]))] sz) := by
  refine Met.ofW (cc := cX10_check) (maxL := 4) (ret := (some .int)) (by decide +kernel) rfl ?_
  intro p e s m args below meth c s₁ B hml hv
  obtain ⟨rfl, hsz, hP, hC, hD0⟩ := hv
  have hx := B.exec
  have hb := B.bytes
  have hr := B.returns
  have hts := atoms_spec (ws := wsX10_check) B.pre
  have hown : s.vm.findClass RX10 = some m.cls := findClass_of_methodNamed B.named
  have hlocks := B.notSynchronized
  subst hsz
  have hD := hD0.self (sz := s.heap.size)
  dsimp only [QV, QI, QL, BQ]
  generalize hAe : va_A [(h0, .inr (10, [.ref tp, .ref rd, .ref lv, .ref tr, .ref rw, .ref bx, .ref ch, .ref sg, .ref dg, .ref pl, .ref dr, .int 0])), (ch, .inr (1, [.int 0, .ref c1, .ref c2, .ref c3]))] s.heap.size = A at hD ⊢
  have hA : ∀ q : Nat, s.heap.size ≤ q → A q := fun q h => by rw [← hAe]; exact Or.inr h
  have hDA : ∀ {w : va_W}, va_D A w → va_D (va_A [(h0, .inr (10, [.ref tp, .ref rd, .ref lv, .ref tr, .ref rw, .ref bx, .ref ch, .ref sg, .ref dg, .ref pl, .ref dr, .int 0])), (ch, .inr (1, [.int 0, .ref c1, .ref c2, .ref c3]))] s.heap.size) w := fun h => by rw [hAe]; exact h
  have hS : va_S A s.heap s.heap [] := va_S.rf
  have hP : va_P D vwCl [(h0, .inr (10, [.ref tp, .ref rd, .ref lv, .ref tr, .ref rw, .ref bx, .ref ch, .ref sg, .ref dg, .ref pl, .ref dr, .int 0])), (ch, .inr (1, [.int 0, .ref c1, .ref c2, .ref c3]))] s.heap := hP
  have hl := lv_entry ([.ref h0]) (n := 4) (Nat.le_of_ble_eq_true rfl)
  rw [lg_entry_eq]
  generalize (lg_sl ([.ref h0]) ++ List.replicate (4 - (lg_sl ([.ref h0])).length) Slot.unset).toArray = ls at hl ⊢
  have hl : lv_has ls 4 [(0, .ref h0)] := hl
  refine lv_iconst (v := 0) hx hb dX10_check_0 (by decide +kernel) ?_
  refine lv_istore_n (lv' := [(1, .int 0), (0, .ref h0)]) hx hb dX10_check_1 rfl hl (by decide +kernel) rfl (fun ls hl => ?_)
  refine lv_iload_n hx hb dX10_check_2 rfl (lv_at hl 0 rfl) ?_
  refine lv_aload_n hx hb dX10_check_3 rfl (lv_at hl 1 rfl) ?_
  refine va_get (D := D) (ci := 10) (v := .ref ch) (C := RX10) (T := TX10) (N := 12) hx hb hts iw_X10_check_10 hown hC.1 hP 0 rfl rfl 6 (by decide +kernel) (hts (.fieldLink RX10 61 "FairWheel" "choices" "LFairWheel$Choices;") (by decide +kernel)) (fun _ h9 => h9) rfl dX10_check_4 ?_
  refine va_get (D := D) (ci := 1) (v := .int 0) (C := RX1) (T := TX1) (N := 4) hx hb hts iw_X10_check_1 hown hC.1 hP 1 rfl rfl 0 (by decide +kernel) (hts (.fieldLink RX10 97 "FairWheel$Choices" "count" "I") (by decide +kernel)) (fun _ h9 => h9) rfl dX10_check_7 ?_
  refine lv_icmp_ge (tgt := 72) hx hb dX10_check_10 (by decide +kernel) (fun c_1 => ?_) (fun c_1 => absurd (by decide +kernel) c_1)
  refine lv_iconst (v := (-1)) hx hb dX10_check_72 (by decide +kernel) ?_
  exact W.iret (v := (-1)) hx hb hr (fun t ht hW => ⟨⟨(-1), (), rfl, rfl, by rw [ht]; exact hP.sub [] rfl, hDA (hD.sub [] (by decide +kernel) rfl)⟩, hS.F ht⟩) hS.2.2 dX10_check_73
theorem iw_X10_sight_2 : ∀ w ∈ u_ws RX2 TX2 14, w ∈ wsX10_sight := by decide +kernel
theorem iw_X10_sight_10 : ∀ w ∈ u_ws RX10 TX10 12, w ∈ wsX10_sight := by decide +kernel
set_option maxHeartbeats 4000000 in
set_option maxRecDepth 100000 in
theorem k_X10_sight (l : Launch) (D : va_G) (ca : Nat → ClassId) (sz : Nat) (h0 : Nat) (tp : Nat) (rd : Nat) (lv : Nat) (tr : Nat) (rw : Nat) (bx : Nat) (ch : Nat) (sg : Nat) (dg : Nat) (pl : Nat) (dr : Nat) (pl5 : Nat) (pl6 : Nat) (pl7 : Nat) (pl8 : Nat) (pl9 : Nat) (pl10 : Nat) (pl11 : Nat) (pl12 : Nat) (pl13 : Nat) (x1 : Int32) (x2 : Int32) (x3 : Int32) : Met l yX10_sight wsX10_sight ({ frames := 0, cells := 0, slots := 0, locals := 0 }) (PC [.ref h0, .int x1, .int x2, .int x3] sz D ca [(h0, .inr (10, [.ref tp, .ref rd, .ref lv, .ref tr, .ref rw, .ref bx, .ref ch, .ref sg, .ref dg, .ref pl, .ref dr, .int 0])), (pl, .inr (2, [.int 1, .int 0, .int 0, .int 0, .int 0, .ref pl5, .ref pl6, .ref pl7, .ref pl8, .ref pl9, .ref pl10, .ref pl11, .ref pl12, .ref pl13]))]) (QI (fun (r : Int32) (u : Unit) => r = (-1)) (fun (_ : Unit) => []) [(h0, .inr (10, [.ref tp, .ref rd, .ref lv, .ref tr, .ref rw, .ref bx, .ref ch, .ref sg, .ref dg, .ref pl, .ref dr, .int 0])), (pl, .inr (2, [.int 1, .int 0, .int 0, .int 0, .int 0, .ref pl5, .ref pl6, .ref pl7, .ref pl8, .ref pl9, .ref pl10, .ref pl11, .ref pl12, .ref pl13]))] sz D) 0 0 (va_A [(h0, .inr (10, [.ref tp, .ref rd, .ref lv, .ref tr, .ref rw, .ref bx, .ref ch, .ref sg, .ref dg, .ref pl, .ref dr, .int 0])), (pl, .inr (2, [.int 1, .int 0, .int 0, .int 0, .int 0, .ref pl5, .ref pl6, .ref pl7, .ref pl8, .ref pl9, .ref pl10, .ref pl11, .ref pl12, .ref pl13]))] sz) := by
  refine Met.ofW (cc := cX10_sight) (maxL := 4) (ret := (some .int)) (by decide +kernel) rfl ?_
  intro p e s m args below meth c s₁ B hml hv
  obtain ⟨rfl, hsz, hP, hC, hD0⟩ := hv
  have hx := B.exec
  have hb := B.bytes
  have hr := B.returns
  have hts := atoms_spec (ws := wsX10_sight) B.pre
  have hown : s.vm.findClass RX10 = some m.cls := findClass_of_methodNamed B.named
  have hlocks := B.notSynchronized
  subst hsz
  have hD := hD0.self (sz := s.heap.size)
  dsimp only [QV, QI, QL, BQ]
  generalize hAe : va_A [(h0, .inr (10, [.ref tp, .ref rd, .ref lv, .ref tr, .ref rw, .ref bx, .ref ch, .ref sg, .ref dg, .ref pl, .ref dr, .int 0])), (pl, .inr (2, [.int 1, .int 0, .int 0, .int 0, .int 0, .ref pl5, .ref pl6, .ref pl7, .ref pl8, .ref pl9, .ref pl10, .ref pl11, .ref pl12, .ref pl13]))] s.heap.size = A at hD ⊢
  have hA : ∀ q : Nat, s.heap.size ≤ q → A q := fun q h => by rw [← hAe]; exact Or.inr h
  have hDA : ∀ {w : va_W}, va_D A w → va_D (va_A [(h0, .inr (10, [.ref tp, .ref rd, .ref lv, .ref tr, .ref rw, .ref bx, .ref ch, .ref sg, .ref dg, .ref pl, .ref dr, .int 0])), (pl, .inr (2, [.int 1, .int 0, .int 0, .int 0, .int 0, .ref pl5, .ref pl6, .ref pl7, .ref pl8, .ref pl9, .ref pl10, .ref pl11, .ref pl12, .ref pl13]))] s.heap.size) w := fun h => by rw [hAe]; exact h
  have hS : va_S A s.heap s.heap [] := va_S.rf
  have hP : va_P D vwCl [(h0, .inr (10, [.ref tp, .ref rd, .ref lv, .ref tr, .ref rw, .ref bx, .ref ch, .ref sg, .ref dg, .ref pl, .ref dr, .int 0])), (pl, .inr (2, [.int 1, .int 0, .int 0, .int 0, .int 0, .ref pl5, .ref pl6, .ref pl7, .ref pl8, .ref pl9, .ref pl10, .ref pl11, .ref pl12, .ref pl13]))] s.heap := hP
  have hl := lv_entry ([.ref h0, .int x1, .int x2, .int x3]) (n := 4) (Nat.le_of_ble_eq_true rfl)
  rw [lg_entry_eq]
  generalize (lg_sl ([.ref h0, .int x1, .int x2, .int x3]) ++ List.replicate (4 - (lg_sl ([.ref h0, .int x1, .int x2, .int x3])).length) Slot.unset).toArray = ls at hl ⊢
  have hl : lv_has ls 4 [(0, .ref h0), (1, .int x1), (2, .int x2), (3, .int x3)] := hl
  refine lv_iload_n hx hb dX10_sight_0 rfl (lv_at hl 1 rfl) ?_
  refine lv_if_lt (tgt := 25) hx hb dX10_sight_1 (by decide +kernel) (fun c_1 => ?_) (fun c_1 => ?_)
  · refine lv_iconst (v := (-1)) hx hb dX10_sight_25 (by decide +kernel) ?_
    exact W.iret (v := (-1)) hx hb hr (fun t ht hW => ⟨⟨(-1), (), rfl, rfl, by rw [ht]; exact hP.sub [] rfl, hDA (hD.sub [] (by decide +kernel) rfl)⟩, hS.F ht⟩) hS.2.2 dX10_sight_26
  · refine lv_iload_n hx hb dX10_sight_4 rfl (lv_at hl 1 rfl) ?_
    refine lv_bipush (v := 100) hx hb dX10_sight_5 (by decide +kernel) ?_
    refine lv_icmp_ge (tgt := 25) hx hb dX10_sight_7 (by decide +kernel) (fun c_2 => ?_) (fun c_2 => ?_)
    · refine lv_iconst (v := (-1)) hx hb dX10_sight_25 (by decide +kernel) ?_
      exact W.iret (v := (-1)) hx hb hr (fun t ht hW => ⟨⟨(-1), (), rfl, rfl, by rw [ht]; exact hP.sub [] rfl, hDA (hD.sub [] (by decide +kernel) rfl)⟩, hS.F ht⟩) hS.2.2 dX10_sight_26
    · refine lv_iload_n hx hb dX10_sight_10 rfl (lv_at hl 2 rfl) ?_
      refine lv_if_lt (tgt := 25) hx hb dX10_sight_11 (by decide +kernel) (fun c_3 => ?_) (fun c_3 => ?_)
      · refine lv_iconst (v := (-1)) hx hb dX10_sight_25 (by decide +kernel) ?_
        exact W.iret (v := (-1)) hx hb hr (fun t ht hW => ⟨⟨(-1), (), rfl, rfl, by rw [ht]; exact hP.sub [] rfl, hDA (hD.sub [] (by decide +kernel) rfl)⟩, hS.F ht⟩) hS.2.2 dX10_sight_26
      · refine lv_iload_n hx hb dX10_sight_14 rfl (lv_at hl 2 rfl) ?_
        refine lv_aload_n hx hb dX10_sight_15 rfl (lv_at hl 0 rfl) ?_
        refine va_get (D := D) (ci := 10) (v := .ref pl) (C := RX10) (T := TX10) (N := 12) hx hb hts iw_X10_sight_10 hown hC.1 hP 0 rfl rfl 9 (by decide +kernel) (hts (.fieldLink RX10 19 "FairWheel" "plan" "LFairWheel$Plan;") (by decide +kernel)) (fun _ h9 => h9) rfl dX10_sight_16 ?_
        refine va_get (D := D) (ci := 2) (v := .int 0) (C := RX2) (T := TX2) (N := 14) hx hb hts iw_X10_sight_2 hown hC.1 hP 1 rfl rfl 3 (by decide +kernel) (hts (.fieldLink RX10 105 "FairWheel$Plan" "count" "I") (by decide +kernel)) (fun _ h9 => h9) rfl dX10_sight_19 ?_
        refine lv_icmp_lt (tgt := 27) hx hb dX10_sight_22 (by decide +kernel) (fun c_4 => absurd c_4 c_3) (fun c_4 => ?_)
        refine lv_iconst (v := (-1)) hx hb dX10_sight_25 (by decide +kernel) ?_
        exact W.iret (v := (-1)) hx hb hr (fun t ht hW => ⟨⟨(-1), (), rfl, rfl, by rw [ht]; exact hP.sub [] rfl, hDA (hD.sub [] (by decide +kernel) rfl)⟩, hS.F ht⟩) hS.2.2 dX10_sight_26
theorem iw_X10_untell_6 : ∀ w ∈ u_ws RX6 TX6 6, w ∈ wsX10_untell := by decide +kernel
theorem iw_X10_untell_10 : ∀ w ∈ u_ws RX10 TX10 12, w ∈ wsX10_untell := by decide +kernel
set_option maxHeartbeats 4000000 in
set_option maxRecDepth 100000 in
theorem k_X10_untell (l : Launch) (D : va_G) (ca : Nat → ClassId) (sz : Nat) (h0 : Nat) (tp : Nat) (rd : Nat) (lv : Nat) (tr : Nat) (rw : Nat) (bx : Nat) (ch : Nat) (sg : Nat) (dg : Nat) (pl : Nat) (dr : Nat) (g1 : Nat) (g2 : Nat) (g3 : Nat) (g4 : Nat) (g5 : Nat) (x1 : Int32) : Met l yX10_untell wsX10_untell ({ frames := 0, cells := 0, slots := 0, locals := 0 }) (PC [.ref h0, .int x1] sz D ca [(h0, .inr (10, [.ref tp, .ref rd, .ref lv, .ref tr, .ref rw, .ref bx, .ref ch, .ref sg, .ref dg, .ref pl, .ref dr, .int 0])), (sg, .inr (6, [.int 0, .ref g1, .ref g2, .ref g3, .ref g4, .ref g5]))]) (QI (fun (r : Int32) (u : Unit) => r = 0) (fun (_ : Unit) => []) [(h0, .inr (10, [.ref tp, .ref rd, .ref lv, .ref tr, .ref rw, .ref bx, .ref ch, .ref sg, .ref dg, .ref pl, .ref dr, .int 0])), (sg, .inr (6, [.int 0, .ref g1, .ref g2, .ref g3, .ref g4, .ref g5]))] sz D) 0 0 (va_A [(h0, .inr (10, [.ref tp, .ref rd, .ref lv, .ref tr, .ref rw, .ref bx, .ref ch, .ref sg, .ref dg, .ref pl, .ref dr, .int 0])), (sg, .inr (6, [.int 0, .ref g1, .ref g2, .ref g3, .ref g4, .ref g5]))] sz) := by
  refine Met.ofW (cc := cX10_untell) (maxL := 2) (ret := (some .boolean)) (by decide +kernel) rfl ?_
  intro p e s m args below meth c s₁ B hml hv
  obtain ⟨rfl, hsz, hP, hC, hD0⟩ := hv
  have hx := B.exec
  have hb := B.bytes
  have hr := B.returns
  have hts := atoms_spec (ws := wsX10_untell) B.pre
  have hown : s.vm.findClass RX10 = some m.cls := findClass_of_methodNamed B.named
  have hlocks := B.notSynchronized
  subst hsz
  have hD := hD0.self (sz := s.heap.size)
  dsimp only [QV, QI, QL, BQ]
  generalize hAe : va_A [(h0, .inr (10, [.ref tp, .ref rd, .ref lv, .ref tr, .ref rw, .ref bx, .ref ch, .ref sg, .ref dg, .ref pl, .ref dr, .int 0])), (sg, .inr (6, [.int 0, .ref g1, .ref g2, .ref g3, .ref g4, .ref g5]))] s.heap.size = A at hD ⊢
  have hA : ∀ q : Nat, s.heap.size ≤ q → A q := fun q h => by rw [← hAe]; exact Or.inr h
  have hDA : ∀ {w : va_W}, va_D A w → va_D (va_A [(h0, .inr (10, [.ref tp, .ref rd, .ref lv, .ref tr, .ref rw, .ref bx, .ref ch, .ref sg, .ref dg, .ref pl, .ref dr, .int 0])), (sg, .inr (6, [.int 0, .ref g1, .ref g2, .ref g3, .ref g4, .ref g5]))] s.heap.size) w := fun h => by rw [hAe]; exact h
  have hS : va_S A s.heap s.heap [] := va_S.rf
  have hP : va_P D vwCl [(h0, .inr (10, [.ref tp, .ref rd, .ref lv, .ref tr, .ref rw, .ref bx, .ref ch, .ref sg, .ref dg, .ref pl, .ref dr, .int 0])), (sg, .inr (6, [.int 0, .ref g1, .ref g2, .ref g3, .ref g4, .ref g5]))] s.heap := hP
  have hl := lv_entry ([.ref h0, .int x1]) (n := 2) (Nat.le_of_ble_eq_true rfl)
  rw [lg_entry_eq]
  generalize (lg_sl ([.ref h0, .int x1]) ++ List.replicate (2 - (lg_sl ([.ref h0, .int x1])).length) Slot.unset).toArray = ls at hl ⊢
  have hl : lv_has ls 2 [(0, .ref h0), (1, .int x1)] := hl
  refine lv_iload_n hx hb dX10_untell_0 rfl (lv_at hl 1 rfl) ?_
  refine lv_if_lt (tgt := 28) hx hb dX10_untell_1 (by decide +kernel) (fun c_1 => ?_) (fun c_1 => ?_)
  · refine lv_iconst (v := 0) hx hb dX10_untell_28 (by decide +kernel) ?_
    exact W.zret (v := 0) hx hb hr (rfl) (fun t ht hW => ⟨⟨0, (), rfl, rfl, by rw [ht]; exact hP.sub [] rfl, hDA (hD.sub [] (by decide +kernel) rfl)⟩, hS.F ht⟩) hS.2.2 dX10_untell_29
  · refine lv_iload_n hx hb dX10_untell_4 rfl (lv_at hl 1 rfl) ?_
    refine lv_aload_n hx hb dX10_untell_5 rfl (lv_at hl 0 rfl) ?_
    refine va_get (D := D) (ci := 10) (v := .ref sg) (C := RX10) (T := TX10) (N := 12) hx hb hts iw_X10_untell_10 hown hC.1 hP 0 rfl rfl 7 (by decide +kernel) (hts (.fieldLink RX10 68 "FairWheel" "sights" "LFairWheel$Sights;") (by decide +kernel)) (fun _ h9 => h9) rfl dX10_untell_6 ?_
    refine va_get (D := D) (ci := 6) (v := .int 0) (C := RX6) (T := TX6) (N := 6) hx hb hts iw_X10_untell_6 hown hC.1 hP 1 rfl rfl 0 (by decide +kernel) (hts (.fieldLink RX10 100 "FairWheel$Sights" "count" "I") (by decide +kernel)) (fun _ h9 => h9) rfl dX10_untell_9 ?_
    refine lv_icmp_ge (tgt := 28) hx hb dX10_untell_12 (by decide +kernel) (fun c_2 => ?_) (fun c_2 => (pr_es (Int32.not_lt.mp c_1) (Int32.not_le.mp c_2) (by decide +kernel)).elim)
    refine lv_iconst (v := 0) hx hb dX10_untell_28 (by decide +kernel) ?_
    exact W.zret (v := 0) hx hb hr (rfl) (fun t ht hW => ⟨⟨0, (), rfl, rfl, by rw [ht]; exact hP.sub [] rfl, hDA (hD.sub [] (by decide +kernel) rfl)⟩, hS.F ht⟩) hS.2.2 dX10_untell_29
theorem iw_X10_later_10 : ∀ w ∈ u_ws RX10 TX10 12, w ∈ wsX10_later := by decide +kernel
def sp_k_X10_later (x1 : Int32) : Int32 := (if x1 < 0 then (-1) else (if 1000 < x1 then (-1) else x1))
set_option maxHeartbeats 4000000 in
set_option maxRecDepth 100000 in
theorem k_X10_later (l : Launch) (D : va_G) (ca : Nat → ClassId) (sz : Nat) (h0 : Nat) (tp : Nat) (rd : Nat) (lv : Nat) (tr : Nat) (rw : Nat) (bx : Nat) (ch : Nat) (sg : Nat) (dg : Nat) (pl : Nat) (dr : Nat) (x1 : Int32) : Met l yX10_later wsX10_later ({ frames := 0, cells := 0, slots := 0, locals := 0 }) (PC [.ref h0, .int x1] sz D ca [(h0, .inr (10, [.ref tp, .ref rd, .ref lv, .ref tr, .ref rw, .ref bx, .ref ch, .ref sg, .ref dg, .ref pl, .ref dr, .int 0]))]) (QI (fun (r : Int32) (u : Unit) => r = sp_k_X10_later x1) (fun (_ : Unit) => []) [(h0, .inr (10, [.ref tp, .ref rd, .ref lv, .ref tr, .ref rw, .ref bx, .ref ch, .ref sg, .ref dg, .ref pl, .ref dr, .int 0]))] sz D) 0 0 (va_A [(h0, .inr (10, [.ref tp, .ref rd, .ref lv, .ref tr, .ref rw, .ref bx, .ref ch, .ref sg, .ref dg, .ref pl, .ref dr, .int 0]))] sz) := by
  refine Met.ofW (cc := cX10_later) (maxL := 2) (ret := (some .int)) (by decide +kernel) rfl ?_
  intro p e s m args below meth c s₁ B hml hv
  obtain ⟨rfl, hsz, hP, hC, hD0⟩ := hv
  have hx := B.exec
  have hb := B.bytes
  have hr := B.returns
  have hts := atoms_spec (ws := wsX10_later) B.pre
  have hown : s.vm.findClass RX10 = some m.cls := findClass_of_methodNamed B.named
  have hlocks := B.notSynchronized
  subst hsz
  have hD := hD0.self (sz := s.heap.size)
  dsimp only [QV, QI, QL, BQ]
  generalize hAe : va_A [(h0, .inr (10, [.ref tp, .ref rd, .ref lv, .ref tr, .ref rw, .ref bx, .ref ch, .ref sg, .ref dg, .ref pl, .ref dr, .int 0]))] s.heap.size = A at hD ⊢
  have hA : ∀ q : Nat, s.heap.size ≤ q → A q := fun q h => by rw [← hAe]; exact Or.inr h
  have hDA : ∀ {w : va_W}, va_D A w → va_D (va_A [(h0, .inr (10, [.ref tp, .ref rd, .ref lv, .ref tr, .ref rw, .ref bx, .ref ch, .ref sg, .ref dg, .ref pl, .ref dr, .int 0]))] s.heap.size) w := fun h => by rw [hAe]; exact h
  have hS : va_S A s.heap s.heap [] := va_S.rf
  have hP : va_P D vwCl [(h0, .inr (10, [.ref tp, .ref rd, .ref lv, .ref tr, .ref rw, .ref bx, .ref ch, .ref sg, .ref dg, .ref pl, .ref dr, .int 0]))] s.heap := hP
  have hl := lv_entry ([.ref h0, .int x1]) (n := 2) (Nat.le_of_ble_eq_true rfl)
  rw [lg_entry_eq]
  generalize (lg_sl ([.ref h0, .int x1]) ++ List.replicate (2 - (lg_sl ([.ref h0, .int x1])).length) Slot.unset).toArray = ls at hl ⊢
  have hl : lv_has ls 2 [(0, .ref h0), (1, .int x1)] := hl
  refine lv_iload_n hx hb dX10_later_0 rfl (lv_at hl 1 rfl) ?_
  refine lv_if_lt (tgt := 22) hx hb dX10_later_1 (by decide +kernel) (fun c_1 => ?_) (fun c_1 => ?_)
  · refine lv_iconst (v := (-1)) hx hb dX10_later_22 (by decide +kernel) ?_
    exact W.iret (v := (-1)) hx hb hr (fun t ht hW => ⟨⟨(-1), (), rfl, (by unfold sp_k_X10_later; rw [if_pos c_1]), by rw [ht]; exact hP.sub [] rfl, hDA (hD.sub [] (by decide +kernel) rfl)⟩, hS.F ht⟩) hS.2.2 dX10_later_23
  · refine lv_iload_n hx hb dX10_later_4 rfl (lv_at hl 1 rfl) ?_
    refine lv_sipush (v := 1000) hx hb dX10_later_5 (by decide +kernel) ?_
    refine lv_icmp_gt (tgt := 22) hx hb dX10_later_8 (by decide +kernel) (fun c_2 => ?_) (fun c_2 => ?_)
    · refine lv_iconst (v := (-1)) hx hb dX10_later_22 (by decide +kernel) ?_
      exact W.iret (v := (-1)) hx hb hr (fun t ht hW => ⟨⟨(-1), (), rfl, (by unfold sp_k_X10_later; rw [if_neg c_1, if_pos c_2]), by rw [ht]; exact hP.sub [] rfl, hDA (hD.sub [] (by decide +kernel) rfl)⟩, hS.F ht⟩) hS.2.2 dX10_later_23
    · refine lv_aload_n hx hb dX10_later_11 rfl (lv_at hl 0 rfl) ?_
      refine va_get (D := D) (ci := 10) (v := .int 0) (C := RX10) (T := TX10) (N := 12) hx hb hts iw_X10_later_10 hown hC.1 hP 0 rfl rfl 11 (by decide +kernel) (hts (.fieldLink RX10 79 "FairWheel" "time" "I") (by decide +kernel)) (fun _ h9 => h9) rfl dX10_later_12 ?_
      refine lv_iload_n hx hb dX10_later_15 rfl (lv_at hl 1 rfl) ?_
      refine lv_iadd hx hb dX10_later_16 ?_
      refine nt_i x1 (Int32.zero_add _) ?_
      refine lv_ldc (v := 100000) hx hb hown (hts (.constant RX10 255 (100000)) (by decide +kernel)) dX10_later_17 ?_
      refine lv_icmp_le (tgt := 24) hx hb dX10_later_19 (by decide +kernel) (fun c_3 => ?_) (fun c_3 => (pr_se (Int32.not_le.mp c_3) (Int32.not_lt.mp c_2) (by decide +kernel)).elim)
      refine lv_aload_n hx hb dX10_later_24 rfl (lv_at hl 0 rfl) ?_
      refine lv_dup hx hb dX10_later_25 rfl ?_
      refine va_get (D := D) (ci := 10) (v := .int 0) (C := RX10) (T := TX10) (N := 12) hx hb hts iw_X10_later_10 hown hC.1 hP 0 rfl rfl 11 (by decide +kernel) (hts (.fieldLink RX10 79 "FairWheel" "time" "I") (by decide +kernel)) (fun _ h9 => h9) rfl dX10_later_26 ?_
      refine lv_iload_n hx hb dX10_later_29 rfl (lv_at hl 1 rfl) ?_
      refine lv_iadd hx hb dX10_later_30 ?_
      refine nt_i x1 (Int32.zero_add _) ?_
      refine va_put (D := D) (ci := 10) (v := .int x1) (ty := .int) (C := RX10) (T := TX10) (N := 12) hx hb hts iw_X10_later_10 tyX10 tyX10_ok nmX10 hown hC.1 hP hD hS 0 rfl rfl 11 (by decide +kernel) (hts (.fieldLink RX10 79 "FairWheel" "time" "I") (by decide +kernel)) (fun _ h9 => h9) rfl (by decide +kernel) rfl rfl (Nat.le_of_ble_eq_true rfl) dX10_later_31 (fun H locs hP hD hS => ?_)
      have hP : va_P D vwCl [(h0, .inr (10, [.ref tp, .ref rd, .ref lv, .ref tr, .ref rw, .ref bx, .ref ch, .ref sg, .ref dg, .ref pl, .ref dr, .int x1]))] H := hP
      have hD : va_D A [(h0, .inr (10, [.ref tp, .ref rd, .ref lv, .ref tr, .ref rw, .ref bx, .ref ch, .ref sg, .ref dg, .ref pl, .ref dr, .int x1]))] := hD
      refine lv_aload_n hx hb dX10_later_34 rfl (lv_at hl 0 rfl) ?_
      refine va_get (D := D) (ci := 10) (v := .int x1) (C := RX10) (T := TX10) (N := 12) hx hb hts iw_X10_later_10 hown hC.1 hP 0 rfl rfl 11 (by decide +kernel) (hts (.fieldLink RX10 79 "FairWheel" "time" "I") (by decide +kernel)) (fun _ h9 => h9) rfl dX10_later_35 ?_
      exact W.iret (v := x1) hx hb hr (fun t ht hW => ⟨⟨x1, (), rfl, (by unfold sp_k_X10_later; rw [if_neg c_1, if_neg c_2]), by rw [ht]; exact hP.sub [] rfl, hDA (hD.sub [] (by decide +kernel) rfl)⟩, hS.F ht⟩) hS.2.2 dX10_later_38
theorem iw_X10_fits_2 : ∀ w ∈ u_ws RX2 TX2 14, w ∈ wsX10_fits := by decide +kernel
theorem iw_X10_fits_10 : ∀ w ∈ u_ws RX10 TX10 12, w ∈ wsX10_fits := by decide +kernel
set_option maxHeartbeats 4000000 in
set_option maxRecDepth 100000 in
theorem k_X10_fits (l : Launch) (D : va_G) (ca : Nat → ClassId) (sz : Nat) (h0 : Nat) (tp : Nat) (rd : Nat) (lv : Nat) (tr : Nat) (rw : Nat) (bx : Nat) (ch : Nat) (sg : Nat) (dg : Nat) (pl : Nat) (dr : Nat) (pl5 : Nat) (pl6 : Nat) (pl7 : Nat) (pl8 : Nat) (pl9 : Nat) (pl10 : Nat) (pl11 : Nat) (pl12 : Nat) (pl13 : Nat) (x1 : Int32) (x2 : Int32) : Met l yX10_fits wsX10_fits ({ frames := 0, cells := 0, slots := 0, locals := 0 }) (PC [.ref h0, .int x1, .int x2] sz D ca [(h0, .inr (10, [.ref tp, .ref rd, .ref lv, .ref tr, .ref rw, .ref bx, .ref ch, .ref sg, .ref dg, .ref pl, .ref dr, .int 0])), (pl, .inr (2, [.int 1, .int 0, .int 0, .int 0, .int 0, .ref pl5, .ref pl6, .ref pl7, .ref pl8, .ref pl9, .ref pl10, .ref pl11, .ref pl12, .ref pl13]))]) (QL (fun (r : Int64) (u : Unit) => r = (-1)) (fun (_ : Unit) => []) [(h0, .inr (10, [.ref tp, .ref rd, .ref lv, .ref tr, .ref rw, .ref bx, .ref ch, .ref sg, .ref dg, .ref pl, .ref dr, .int 0])), (pl, .inr (2, [.int 1, .int 0, .int 0, .int 0, .int 0, .ref pl5, .ref pl6, .ref pl7, .ref pl8, .ref pl9, .ref pl10, .ref pl11, .ref pl12, .ref pl13]))] sz D) 0 0 (va_A [(h0, .inr (10, [.ref tp, .ref rd, .ref lv, .ref tr, .ref rw, .ref bx, .ref ch, .ref sg, .ref dg, .ref pl, .ref dr, .int 0])), (pl, .inr (2, [.int 1, .int 0, .int 0, .int 0, .int 0, .ref pl5, .ref pl6, .ref pl7, .ref pl8, .ref pl9, .ref pl10, .ref pl11, .ref pl12, .ref pl13]))] sz) := by
  refine Met.ofW (cc := cX10_fits) (maxL := 9) (ret := (some .long)) (by decide +kernel) rfl ?_
  intro p e s m args below meth c s₁ B hml hv
  obtain ⟨rfl, hsz, hP, hC, hD0⟩ := hv
  have hx := B.exec
  have hb := B.bytes
  have hr := B.returns
  have hts := atoms_spec (ws := wsX10_fits) B.pre
  have hown : s.vm.findClass RX10 = some m.cls := findClass_of_methodNamed B.named
  have hlocks := B.notSynchronized
  subst hsz
  have hD := hD0.self (sz := s.heap.size)
  dsimp only [QV, QI, QL, BQ]
  generalize hAe : va_A [(h0, .inr (10, [.ref tp, .ref rd, .ref lv, .ref tr, .ref rw, .ref bx, .ref ch, .ref sg, .ref dg, .ref pl, .ref dr, .int 0])), (pl, .inr (2, [.int 1, .int 0, .int 0, .int 0, .int 0, .ref pl5, .ref pl6, .ref pl7, .ref pl8, .ref pl9, .ref pl10, .ref pl11, .ref pl12, .ref pl13]))] s.heap.size = A at hD ⊢
  have hA : ∀ q : Nat, s.heap.size ≤ q → A q := fun q h => by rw [← hAe]; exact Or.inr h
  have hDA : ∀ {w : va_W}, va_D A w → va_D (va_A [(h0, .inr (10, [.ref tp, .ref rd, .ref lv, .ref tr, .ref rw, .ref bx, .ref ch, .ref sg, .ref dg, .ref pl, .ref dr, .int 0])), (pl, .inr (2, [.int 1, .int 0, .int 0, .int 0, .int 0, .ref pl5, .ref pl6, .ref pl7, .ref pl8, .ref pl9, .ref pl10, .ref pl11, .ref pl12, .ref pl13]))] s.heap.size) w := fun h => by rw [hAe]; exact h
  have hS : va_S A s.heap s.heap [] := va_S.rf
  have hP : va_P D vwCl [(h0, .inr (10, [.ref tp, .ref rd, .ref lv, .ref tr, .ref rw, .ref bx, .ref ch, .ref sg, .ref dg, .ref pl, .ref dr, .int 0])), (pl, .inr (2, [.int 1, .int 0, .int 0, .int 0, .int 0, .ref pl5, .ref pl6, .ref pl7, .ref pl8, .ref pl9, .ref pl10, .ref pl11, .ref pl12, .ref pl13]))] s.heap := hP
  have hl := lv_entry ([.ref h0, .int x1, .int x2]) (n := 9) (Nat.le_of_ble_eq_true rfl)
  rw [lg_entry_eq]
  generalize (lg_sl ([.ref h0, .int x1, .int x2]) ++ List.replicate (9 - (lg_sl ([.ref h0, .int x1, .int x2])).length) Slot.unset).toArray = ls at hl ⊢
  have hl : lv_has ls 9 [(0, .ref h0), (1, .int x1), (2, .int x2)] := hl
  refine lv_iload_n hx hb dX10_fits_0 rfl (lv_at hl 1 rfl) ?_
  refine lv_if_lt (tgt := 15) hx hb dX10_fits_1 (by decide +kernel) (fun c_1 => ?_) (fun c_1 => ?_)
  · refine lv_ldc2 (v := (-1)) hx hb hown (hts (.constantLong RX10 216 (-1)) (by decide +kernel)) dX10_fits_15 ?_
    exact W.lret (v := (-1)) hx hb hr (fun t ht hW => ⟨⟨(-1), (), rfl, rfl, by rw [ht]; exact hP.sub [] rfl, hDA (hD.sub [] (by decide +kernel) rfl)⟩, hS.F ht⟩) hS.2.2 dX10_fits_18
  · refine lv_iload_n hx hb dX10_fits_4 rfl (lv_at hl 1 rfl) ?_
    refine lv_aload_n hx hb dX10_fits_5 rfl (lv_at hl 0 rfl) ?_
    refine va_get (D := D) (ci := 10) (v := .ref pl) (C := RX10) (T := TX10) (N := 12) hx hb hts iw_X10_fits_10 hown hC.1 hP 0 rfl rfl 9 (by decide +kernel) (hts (.fieldLink RX10 19 "FairWheel" "plan" "LFairWheel$Plan;") (by decide +kernel)) (fun _ h9 => h9) rfl dX10_fits_6 ?_
    refine va_get (D := D) (ci := 2) (v := .int 0) (C := RX2) (T := TX2) (N := 14) hx hb hts iw_X10_fits_2 hown hC.1 hP 1 rfl rfl 3 (by decide +kernel) (hts (.fieldLink RX10 105 "FairWheel$Plan" "count" "I") (by decide +kernel)) (fun _ h9 => h9) rfl dX10_fits_9 ?_
    refine lv_icmp_lt (tgt := 19) hx hb dX10_fits_12 (by decide +kernel) (fun c_2 => absurd c_2 c_1) (fun c_2 => ?_)
    refine lv_ldc2 (v := (-1)) hx hb hown (hts (.constantLong RX10 216 (-1)) (by decide +kernel)) dX10_fits_15 ?_
    exact W.lret (v := (-1)) hx hb hr (fun t ht hW => ⟨⟨(-1), (), rfl, rfl, by rw [ht]; exact hP.sub [] rfl, hDA (hD.sub [] (by decide +kernel) rfl)⟩, hS.F ht⟩) hS.2.2 dX10_fits_18
