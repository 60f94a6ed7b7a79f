set_option maxRecDepth 20000 in
theorem ggX4_goThrough_X2_opAt : GoodIn wsX4_goThrough wsX2_opAt := goodIn_r _ [9, 10, 11, 12, 19, 20, 21, 22, 23, 24, 25, 26, 27, 28, 29, 30, 31, 32] (by decide +kernel) (by decide +kernel)
set_option maxRecDepth 20000 in
theorem gX4_goThrough_X2_opAt : GoodIn wsX4_goThrough (wsV RX4 44 RX2 yX2_opAt wsX2_opAt) := goodIn_app (goodIn_of _ (by decide +kernel)) ggX4_goThrough_X2_opAt
set_option maxRecDepth 20000 in
theorem ggX4_goThrough_X4_noteBehind : GoodIn wsX4_goThrough wsX4_noteBehind := goodIn_r _ [17, 18, 33, 34, 35, 36] (by decide +kernel) (by decide +kernel)
set_option maxRecDepth 20000 in
theorem gX4_goThrough_X4_noteBehind : GoodIn wsX4_goThrough (wsV RX4 57 RX4 yX4_noteBehind wsX4_noteBehind) := goodIn_app (goodIn_of _ (by decide +kernel)) ggX4_goThrough_X4_noteBehind
theorem dX4_goThrough_0 : decode cX4_goThrough 0 = .ok (.iconst 0, 1) := by decide +kernel
theorem dX4_goThrough_1 : decode cX4_goThrough 1 = .ok (.istore_n 3, 1) := by decide +kernel
theorem dX4_goThrough_2 : decode cX4_goThrough 2 = .ok (.iconst 0, 1) := by decide +kernel
theorem dX4_goThrough_3 : decode cX4_goThrough 3 = .ok (.istore 4, 2) := by decide +kernel
theorem dX4_goThrough_5 : decode cX4_goThrough 5 = .ok (.iload 4, 2) := by decide +kernel
theorem dX4_goThrough_7 : decode cX4_goThrough 7 = .ok (.aload_n 1, 1) := by decide +kernel
theorem dX4_goThrough_8 : decode cX4_goThrough 8 = .ok (.getfield 41, 3) := by decide +kernel
theorem dX4_goThrough_11 : decode cX4_goThrough 11 = .ok (.iload_n 2, 1) := by decide +kernel
theorem dX4_goThrough_12 : decode cX4_goThrough 12 = .ok (.iaload, 1) := by decide +kernel
theorem dX4_goThrough_13 : decode cX4_goThrough 13 = .ok (.if_icmp .ge 129, 3) := by decide +kernel
theorem dX4_goThrough_16 : decode cX4_goThrough 16 = .ok (.aload_n 1, 1) := by decide +kernel
theorem dX4_goThrough_17 : decode cX4_goThrough 17 = .ok (.iload_n 2, 1) := by decide +kernel
theorem dX4_goThrough_18 : decode cX4_goThrough 18 = .ok (.iload 4, 2) := by decide +kernel
theorem dX4_goThrough_20 : decode cX4_goThrough 20 = .ok (.invokevirtual 44, 3) := by decide +kernel
theorem dX4_goThrough_23 : decode cX4_goThrough 23 = .ok (.istore 5, 2) := by decide +kernel
theorem dX4_goThrough_25 : decode cX4_goThrough 25 = .ok (.iload 5, 2) := by decide +kernel
theorem dX4_goThrough_27 : decode cX4_goThrough 27 = .ok (.iconst (-1), 1) := by decide +kernel
theorem dX4_goThrough_28 : decode cX4_goThrough 28 = .ok (.if_icmp .ne 7, 3) := by decide +kernel
theorem dX4_goThrough_31 : decode cX4_goThrough 31 = .ok (.iconst (-1), 1) := by decide +kernel
theorem dX4_goThrough_32 : decode cX4_goThrough 32 = .ok (.goto 10, 3) := by decide +kernel
theorem dX4_goThrough_35 : decode cX4_goThrough 35 = .ok (.aload_n 1, 1) := by decide +kernel
theorem dX4_goThrough_36 : decode cX4_goThrough 36 = .ok (.getfield 48, 3) := by decide +kernel
theorem dX4_goThrough_39 : decode cX4_goThrough 39 = .ok (.iload 5, 2) := by decide +kernel
theorem dX4_goThrough_41 : decode cX4_goThrough 41 = .ok (.iaload, 1) := by decide +kernel
theorem dX4_goThrough_42 : decode cX4_goThrough 42 = .ok (.istore 6, 2) := by decide +kernel
theorem dX4_goThrough_44 : decode cX4_goThrough 44 = .ok (.iload 5, 2) := by decide +kernel
theorem dX4_goThrough_46 : decode cX4_goThrough 46 = .ok (.iconst (-1), 1) := by decide +kernel
theorem dX4_goThrough_47 : decode cX4_goThrough 47 = .ok (.if_icmp .ne 7, 3) := by decide +kernel
theorem dX4_goThrough_50 : decode cX4_goThrough 50 = .ok (.iconst 0, 1) := by decide +kernel
theorem dX4_goThrough_51 : decode cX4_goThrough 51 = .ok (.goto 10, 3) := by decide +kernel
theorem dX4_goThrough_54 : decode cX4_goThrough 54 = .ok (.aload_n 1, 1) := by decide +kernel
theorem dX4_goThrough_55 : decode cX4_goThrough 55 = .ok (.getfield 51, 3) := by decide +kernel
theorem dX4_goThrough_58 : decode cX4_goThrough 58 = .ok (.iload 5, 2) := by decide +kernel
theorem dX4_goThrough_60 : decode cX4_goThrough 60 = .ok (.iaload, 1) := by decide +kernel
theorem dX4_goThrough_61 : decode cX4_goThrough 61 = .ok (.istore 7, 2) := by decide +kernel
theorem dX4_goThrough_63 : decode cX4_goThrough 63 = .ok (.iload 6, 2) := by decide +kernel
theorem dX4_goThrough_65 : decode cX4_goThrough 65 = .ok (.bipush 13, 2) := by decide +kernel
theorem dX4_goThrough_67 : decode cX4_goThrough 67 = .ok (.if_icmp .ne 46, 3) := by decide +kernel
theorem dX4_goThrough_70 : decode cX4_goThrough 70 = .ok (.iload 7, 2) := by decide +kernel
theorem dX4_goThrough_72 : decode cX4_goThrough 72 = .ok (.aload_n 1, 1) := by decide +kernel
theorem dX4_goThrough_73 : decode cX4_goThrough 73 = .ok (.getfield 54, 3) := by decide +kernel
theorem dX4_goThrough_76 : decode cX4_goThrough 76 = .ok (.if_icmp .ge 19, 3) := by decide +kernel
theorem dX4_goThrough_79 : decode cX4_goThrough 79 = .ok (.iload 7, 2) := by decide +kernel
theorem dX4_goThrough_81 : decode cX4_goThrough 81 = .ok (.bipush 6, 2) := by decide +kernel
theorem dX4_goThrough_83 : decode cX4_goThrough 83 = .ok (.if_icmp .ge 12, 3) := by decide +kernel
theorem dX4_goThrough_86 : decode cX4_goThrough 86 = .ok (.iload_n 3, 1) := by decide +kernel
theorem dX4_goThrough_87 : decode cX4_goThrough 87 = .ok (.iconst 1, 1) := by decide +kernel
theorem dX4_goThrough_88 : decode cX4_goThrough 88 = .ok (.iload 7, 2) := by decide +kernel
theorem dX4_goThrough_90 : decode cX4_goThrough 90 = .ok (.ishl, 1) := by decide +kernel
theorem dX4_goThrough_91 : decode cX4_goThrough 91 = .ok (.iand, 1) := by decide +kernel
theorem dX4_goThrough_92 : decode cX4_goThrough 92 = .ok (.ifCond .eq 4, 3) := by decide +kernel
theorem dX4_goThrough_95 : decode cX4_goThrough 95 = .ok (.return_, 1) := by decide +kernel
theorem dX4_goThrough_96 : decode cX4_goThrough 96 = .ok (.aload_n 0, 1) := by decide +kernel
theorem dX4_goThrough_97 : decode cX4_goThrough 97 = .ok (.iload 7, 2) := by decide +kernel
theorem dX4_goThrough_99 : decode cX4_goThrough 99 = .ok (.iload_n 3, 1) := by decide +kernel
theorem dX4_goThrough_100 : decode cX4_goThrough 100 = .ok (.invokevirtual 57, 3) := by decide +kernel
theorem dX4_goThrough_103 : decode cX4_goThrough 103 = .ok (.iload_n 3, 1) := by decide +kernel
theorem dX4_goThrough_104 : decode cX4_goThrough 104 = .ok (.iconst 1, 1) := by decide +kernel
theorem dX4_goThrough_105 : decode cX4_goThrough 105 = .ok (.iload 7, 2) := by decide +kernel
theorem dX4_goThrough_107 : decode cX4_goThrough 107 = .ok (.ishl, 1) := by decide +kernel
theorem dX4_goThrough_108 : decode cX4_goThrough 108 = .ok (.ior, 1) := by decide +kernel
theorem dX4_goThrough_109 : decode cX4_goThrough 109 = .ok (.istore_n 3, 1) := by decide +kernel
theorem dX4_goThrough_110 : decode cX4_goThrough 110 = .ok (.goto 26, 3) := by decide +kernel
theorem dX4_goThrough_113 : decode cX4_goThrough 113 = .ok (.iload 6, 2) := by decide +kernel
theorem dX4_goThrough_115 : decode cX4_goThrough 115 = .ok (.bipush 14, 2) := by decide +kernel
theorem dX4_goThrough_117 : decode cX4_goThrough 117 = .ok (.if_icmp .ne 19, 3) := by decide +kernel
theorem dX4_goThrough_120 : decode cX4_goThrough 120 = .ok (.iload 7, 2) := by decide +kernel
theorem dX4_goThrough_122 : decode cX4_goThrough 122 = .ok (.bipush 6, 2) := by decide +kernel
theorem dX4_goThrough_124 : decode cX4_goThrough 124 = .ok (.if_icmp .ge 12, 3) := by decide +kernel
theorem dX4_goThrough_127 : decode cX4_goThrough 127 = .ok (.iload_n 3, 1) := by decide +kernel
theorem dX4_goThrough_128 : decode cX4_goThrough 128 = .ok (.iconst 1, 1) := by decide +kernel
theorem dX4_goThrough_129 : decode cX4_goThrough 129 = .ok (.iload 7, 2) := by decide +kernel
theorem dX4_goThrough_131 : decode cX4_goThrough 131 = .ok (.ishl, 1) := by decide +kernel
theorem dX4_goThrough_132 : decode cX4_goThrough 132 = .ok (.iconst (-1), 1) := by decide +kernel
theorem dX4_goThrough_133 : decode cX4_goThrough 133 = .ok (.ixor, 1) := by decide +kernel
theorem dX4_goThrough_134 : decode cX4_goThrough 134 = .ok (.iand, 1) := by decide +kernel
theorem dX4_goThrough_135 : decode cX4_goThrough 135 = .ok (.istore_n 3, 1) := by decide +kernel
theorem dX4_goThrough_136 : decode cX4_goThrough 136 = .ok (.iinc 4 1, 3) := by decide +kernel
theorem dX4_goThrough_139 : decode cX4_goThrough 139 = .ok (.goto (-134), 3) := by decide +kernel
theorem dX4_goThrough_142 : decode cX4_goThrough 142 = .ok (.return_, 1) := by decide +kernel
set_option maxRecDepth 20000 in
theorem ggX4_find_X4_goRound : GoodIn wsX4_find wsX4_goRound := goodIn_r _ [41, 42, 1, 34, 35, 36, 7, 37, 2, 29, 30, 31, 32, 33, 43, 44, 45, 46, 47, 48, 49, 50] (by decide +kernel) (by decide +kernel)
set_option maxRecDepth 20000 in
theorem gX4_find_X4_goRound : GoodIn wsX4_find (wsV RX4 38 RX4 yX4_goRound wsX4_goRound) := goodIn_app (goodIn_of _ (by decide +kernel)) ggX4_find_X4_goRound
set_option maxRecDepth 20000 in
theorem ggX4_find_X4_goThrough : GoodIn wsX4_find wsX4_goThrough := goodIn_r _ [8, 9, 10, 11, 12, 13, 14, 15, 16, 17, 18, 19, 20, 21, 22, 23, 7, 24, 2, 51, 52, 53, 54, 55, 56, 57, 58, 59, 60, 61, 62, 63, 64, 47, 48, 49, 50] (by decide +kernel) (by decide +kernel)
set_option maxRecDepth 20000 in
theorem gX4_find_X4_goThrough : GoodIn wsX4_find (wsV RX4 30 RX4 yX4_goThrough wsX4_goThrough) := goodIn_app (goodIn_of _ (by decide +kernel)) ggX4_find_X4_goThrough
set_option maxRecDepth 20000 in
theorem ggX4_find_X4_measure : GoodIn wsX4_find wsX4_measure := goodIn_r _ [28, 29, 30, 31, 32, 33, 34, 35, 36, 7, 37, 2, 47, 48, 49, 50] (by decide +kernel) (by decide +kernel)
set_option maxRecDepth 20000 in
theorem gX4_find_X4_measure : GoodIn wsX4_find (wsV RX4 34 RX4 yX4_measure wsX4_measure) := goodIn_app (goodIn_of _ (by decide +kernel)) ggX4_find_X4_measure
theorem dX4_find_0 : decode cX4_find 0 = .ok (.aload_n 0, 1) := by decide +kernel
theorem dX4_find_1 : decode cX4_find 1 = .ok (.iconst 0, 1) := by decide +kernel
theorem dX4_find_2 : decode cX4_find 2 = .ok (.putfield 18, 3) := by decide +kernel
theorem dX4_find_5 : decode cX4_find 5 = .ok (.iconst 0, 1) := by decide +kernel
theorem dX4_find_6 : decode cX4_find 6 = .ok (.istore_n 2, 1) := by decide +kernel
theorem dX4_find_7 : decode cX4_find 7 = .ok (.iload_n 2, 1) := by decide +kernel
theorem dX4_find_8 : decode cX4_find 8 = .ok (.bipush 6, 2) := by decide +kernel
theorem dX4_find_10 : decode cX4_find 10 = .ok (.if_icmp .ge 16, 3) := by decide +kernel
theorem dX4_find_13 : decode cX4_find 13 = .ok (.aload_n 0, 1) := by decide +kernel
theorem dX4_find_14 : decode cX4_find 14 = .ok (.getfield 9, 3) := by decide +kernel
theorem dX4_find_17 : decode cX4_find 17 = .ok (.iload_n 2, 1) := by decide +kernel
theorem dX4_find_18 : decode cX4_find 18 = .ok (.iconst 0, 1) := by decide +kernel
theorem dX4_find_19 : decode cX4_find 19 = .ok (.iastore, 1) := by decide +kernel
theorem dX4_find_20 : decode cX4_find 20 = .ok (.iinc 2 1, 3) := by decide +kernel
theorem dX4_find_23 : decode cX4_find 23 = .ok (.goto (-16), 3) := by decide +kernel
theorem dX4_find_26 : decode cX4_find 26 = .ok (.iconst 0, 1) := by decide +kernel
theorem dX4_find_27 : decode cX4_find 27 = .ok (.istore_n 2, 1) := by decide +kernel
theorem dX4_find_28 : decode cX4_find 28 = .ok (.iload_n 2, 1) := by decide +kernel
theorem dX4_find_29 : decode cX4_find 29 = .ok (.aload_n 1, 1) := by decide +kernel
theorem dX4_find_30 : decode cX4_find 30 = .ok (.getfield 25, 3) := by decide +kernel
theorem dX4_find_33 : decode cX4_find 33 = .ok (.if_icmp .ge 15, 3) := by decide +kernel
theorem dX4_find_36 : decode cX4_find 36 = .ok (.aload_n 0, 1) := by decide +kernel
theorem dX4_find_37 : decode cX4_find 37 = .ok (.aload_n 1, 1) := by decide +kernel
theorem dX4_find_38 : decode cX4_find 38 = .ok (.iload_n 2, 1) := by decide +kernel
theorem dX4_find_39 : decode cX4_find 39 = .ok (.invokevirtual 30, 3) := by decide +kernel
theorem dX4_find_42 : decode cX4_find 42 = .ok (.iinc 2 1, 3) := by decide +kernel
theorem dX4_find_45 : decode cX4_find 45 = .ok (.goto (-17), 3) := by decide +kernel
theorem dX4_find_48 : decode cX4_find 48 = .ok (.iconst 0, 1) := by decide +kernel
theorem dX4_find_49 : decode cX4_find 49 = .ok (.istore_n 2, 1) := by decide +kernel
theorem dX4_find_50 : decode cX4_find 50 = .ok (.iload_n 2, 1) := by decide +kernel
theorem dX4_find_51 : decode cX4_find 51 = .ok (.bipush 6, 2) := by decide +kernel
theorem dX4_find_53 : decode cX4_find 53 = .ok (.if_icmp .ge 26, 3) := by decide +kernel
theorem dX4_find_56 : decode cX4_find 56 = .ok (.aload_n 0, 1) := by decide +kernel
theorem dX4_find_57 : decode cX4_find 57 = .ok (.getfield 18, 3) := by decide +kernel
theorem dX4_find_60 : decode cX4_find 60 = .ok (.ifCond .ne 19, 3) := by decide +kernel
theorem dX4_find_63 : decode cX4_find 63 = .ok (.aload_n 0, 1) := by decide +kernel
theorem dX4_find_64 : decode cX4_find 64 = .ok (.iload_n 2, 1) := by decide +kernel
theorem dX4_find_65 : decode cX4_find 65 = .ok (.invokevirtual 34, 3) := by decide +kernel
theorem dX4_find_68 : decode cX4_find 68 = .ok (.aload_n 0, 1) := by decide +kernel
theorem dX4_find_69 : decode cX4_find 69 = .ok (.iload_n 2, 1) := by decide +kernel
theorem dX4_find_70 : decode cX4_find 70 = .ok (.invokevirtual 38, 3) := by decide +kernel
theorem dX4_find_73 : decode cX4_find 73 = .ok (.iinc 2 1, 3) := by decide +kernel
theorem dX4_find_76 : decode cX4_find 76 = .ok (.goto (-26), 3) := by decide +kernel
theorem dX4_find_79 : decode cX4_find 79 = .ok (.return_, 1) := by decide +kernel
theorem dX10_commonPart_0 : decode cX10_commonPart 0 = .ok (.lload_n 0, 1) := by decide +kernel
theorem dX10_commonPart_1 : decode cX10_commonPart 1 = .ok (.lstore 4, 2) := by decide +kernel
theorem dX10_commonPart_3 : decode cX10_commonPart 3 = .ok (.lload_n 2, 1) := by decide +kernel
theorem dX10_commonPart_4 : decode cX10_commonPart 4 = .ok (.lstore 6, 2) := by decide +kernel
theorem dX10_commonPart_6 : decode cX10_commonPart 6 = .ok (.iconst 0, 1) := by decide +kernel
theorem dX10_commonPart_7 : decode cX10_commonPart 7 = .ok (.istore 8, 2) := by decide +kernel
theorem dX10_commonPart_9 : decode cX10_commonPart 9 = .ok (.iload 8, 2) := by decide +kernel
theorem dX10_commonPart_11 : decode cX10_commonPart 11 = .ok (.sipush 200, 3) := by decide +kernel
theorem dX10_commonPart_14 : decode cX10_commonPart 14 = .ok (.if_icmp .ge 31, 3) := by decide +kernel
theorem dX10_commonPart_17 : decode cX10_commonPart 17 = .ok (.lload 6, 2) := by decide +kernel
theorem dX10_commonPart_19 : decode cX10_commonPart 19 = .ok (.lconst 0, 1) := by decide +kernel
theorem dX10_commonPart_20 : decode cX10_commonPart 20 = .ok (.lcmp, 1) := by decide +kernel
theorem dX10_commonPart_21 : decode cX10_commonPart 21 = .ok (.ifCond .eq 24, 3) := by decide +kernel
theorem dX10_commonPart_24 : decode cX10_commonPart 24 = .ok (.lload 4, 2) := by decide +kernel
theorem dX10_commonPart_26 : decode cX10_commonPart 26 = .ok (.lload 6, 2) := by decide +kernel
theorem dX10_commonPart_28 : decode cX10_commonPart 28 = .ok (.lrem, 1) := by decide +kernel
theorem dX10_commonPart_29 : decode cX10_commonPart 29 = .ok (.lstore 9, 2) := by decide +kernel
theorem dX10_commonPart_31 : decode cX10_commonPart 31 = .ok (.lload 6, 2) := by decide +kernel
theorem dX10_commonPart_33 : decode cX10_commonPart 33 = .ok (.lstore 4, 2) := by decide +kernel
theorem dX10_commonPart_35 : decode cX10_commonPart 35 = .ok (.lload 9, 2) := by decide +kernel
theorem dX10_commonPart_37 : decode cX10_commonPart 37 = .ok (.lstore 6, 2) := by decide +kernel
theorem dX10_commonPart_39 : decode cX10_commonPart 39 = .ok (.iinc 8 1, 3) := by decide +kernel
theorem dX10_commonPart_42 : decode cX10_commonPart 42 = .ok (.goto (-33), 3) := by decide +kernel
theorem dX10_commonPart_45 : decode cX10_commonPart 45 = .ok (.lload 4, 2) := by decide +kernel
theorem dX10_commonPart_47 : decode cX10_commonPart 47 = .ok (.lreturn, 1) := by decide +kernel
theorem iw_X4_goThrough_2 : ∀ w ∈ u_ws RX2 TX2 14, w ∈ wsX4_goThrough := by decide +kernel
set_option maxHeartbeats 4000000 in
set_option maxRecDepth 100000 in
theorem s_X4_goThrough (l : Launch) (D : va_G) (ca : Nat → ClassId) (sz : Nat) (h0 : Nat) (e1 : Nat) (e2 : Nat) (e3 : Nat) (ks : Nat) (fe1 : Nat → Int32) (pl : Nat) (p5 : Nat) (p6 : Nat) (p7 : Nat) (p8 : Nat) (p9 : Nat) (p10 : Nat) (p11 : Nat) (p12 : Nat) (p13 : Nat) (kc : Nat) (kl : Nat) (kn : Nat) (ko : Nat) (xb : Int32) (fp10 : Nat → Int32) (fp11 : Nat → Int32) (fp12 : Nat → Int32) (fp13 : Nat → Int32) (k : Nat) (hk : k < 10) : Met l yX4_goThrough wsX4_goThrough ({ frames := 1, cells := 0, slots := 0, locals := 23 }) (PC [.ref h0, .ref pl, .int (nI k)] sz D ca [(h0, .inr (4, [.ref e1, .ref e2, .int (nI ks), .ref e3])), (e1, .inl (ca 1, 6, .inl fe1)), (pl, .inr (2, [.int (nI kc), .int (nI kl), .int xb, .int (nI kn), .int (nI ko), .ref p5, .ref p6, .ref p7, .ref p8, .ref p9, .ref p10, .ref p11, .ref p12, .ref p13])), (p10, .inl (ca 1, 10, .inl fp10)), (p11, .inl (ca 1, 10, .inl fp11)), (p12, .inl (ca 1, 90, .inl fp12)), (p13, .inl (ca 1, 90, .inl fp13))]) (QV (fun (u : (Nat → Int32)) => True) (fun (u : (Nat → Int32)) => [(h0, .inr (4, [.ref e1, .ref e2, .int (nI ks), .ref e3])), (e1, .inl (ca 1, 6, .inl u)), (pl, .inr (2, [.int (nI kc), .int (nI kl), .int xb, .int (nI kn), .int (nI ko), .ref p5, .ref p6, .ref p7, .ref p8, .ref p9, .ref p10, .ref p11, .ref p12, .ref p13])), (p10, .inl (ca 1, 10, .inl fp10)), (p11, .inl (ca 1, 10, .inl fp11)), (p12, .inl (ca 1, 90, .inl fp12)), (p13, .inl (ca 1, 90, .inl fp13))]) [(h0, .inr (4, [.ref e1, .ref e2, .int (nI ks), .ref e3])), (e1, .inl (ca 1, 6, .inl fe1)), (pl, .inr (2, [.int (nI kc), .int (nI kl), .int xb, .int (nI kn), .int (nI ko), .ref p5, .ref p6, .ref p7, .ref p8, .ref p9, .ref p10, .ref p11, .ref p12, .ref p13])), (p10, .inl (ca 1, 10, .inl fp10)), (p11, .inl (ca 1, 10, .inl fp11)), (p12, .inl (ca 1, 90, .inl fp12)), (p13, .inl (ca 1, 90, .inl fp13))] sz D) 0 0 (va_A [(h0, .inr (4, [.ref e1, .ref e2, .int (nI ks), .ref e3])), (e1, .inl (ca 1, 6, .inl fe1)), (pl, .inr (2, [.int (nI kc), .int (nI kl), .int xb, .int (nI kn), .int (nI ko), .ref p5, .ref p6, .ref p7, .ref p8, .ref p9, .ref p10, .ref p11, .ref p12, .ref p13])), (p10, .inl (ca 1, 10, .inl fp10)), (p11, .inl (ca 1, 10, .inl fp11)), (p12, .inl (ca 1, 90, .inl fp12)), (p13, .inl (ca 1, 90, .inl fp13))] sz) := by
  refine Met.ofW (cc := cX4_goThrough) (maxL := 8) (ret := none) (by decide +kernel) rfl ?_
  intro p e s m args below meth c s₁ B hml hv
  obtain ⟨rfl, hsz, hP, hC, hD0⟩ := hv
  have hx := B.exec
  have hb := B.bytes
  have hr := B.returns
  have hts := atoms_spec (ws := wsX4_goThrough) B.pre
  have hown : s.vm.findClass RX4 = some m.cls := findClass_of_methodNamed B.named
  have hlocks := B.notSynchronized
  subst hsz
  have hD := hD0.self (sz := s.heap.size)
  dsimp only [QV, QI, QL, BQ]
  generalize hAe : va_A [(h0, .inr (4, [.ref e1, .ref e2, .int (nI ks), .ref e3])), (e1, .inl (ca 1, 6, .inl fe1)), (pl, .inr (2, [.int (nI kc), .int (nI kl), .int xb, .int (nI kn), .int (nI ko), .ref p5, .ref p6, .ref p7, .ref p8, .ref p9, .ref p10, .ref p11, .ref p12, .ref p13])), (p10, .inl (ca 1, 10, .inl fp10)), (p11, .inl (ca 1, 10, .inl fp11)), (p12, .inl (ca 1, 90, .inl fp12)), (p13, .inl (ca 1, 90, .inl fp13))] s.heap.size = A at hD ⊢
  have hA : ∀ q : Nat, s.heap.size ≤ q → A q := fun q h => by rw [← hAe]; exact Or.inr h
  have hDA : ∀ {w : va_W}, va_D A w → va_D (va_A [(h0, .inr (4, [.ref e1, .ref e2, .int (nI ks), .ref e3])), (e1, .inl (ca 1, 6, .inl fe1)), (pl, .inr (2, [.int (nI kc), .int (nI kl), .int xb, .int (nI kn), .int (nI ko), .ref p5, .ref p6, .ref p7, .ref p8, .ref p9, .ref p10, .ref p11, .ref p12, .ref p13])), (p10, .inl (ca 1, 10, .inl fp10)), (p11, .inl (ca 1, 10, .inl fp11)), (p12, .inl (ca 1, 90, .inl fp12)), (p13, .inl (ca 1, 90, .inl fp13))] s.heap.size) w := fun h => by rw [hAe]; exact h
  have hS : va_S A s.heap s.heap [] := va_S.rf
  have hP : va_P D vwCl [(h0, .inr (4, [.ref e1, .ref e2, .int (nI ks), .ref e3])), (e1, .inl (ca 1, 6, .inl fe1)), (pl, .inr (2, [.int (nI kc), .int (nI kl), .int xb, .int (nI kn), .int (nI ko), .ref p5, .ref p6, .ref p7, .ref p8, .ref p9, .ref p10, .ref p11, .ref p12, .ref p13])), (p10, .inl (ca 1, 10, .inl fp10)), (p11, .inl (ca 1, 10, .inl fp11)), (p12, .inl (ca 1, 90, .inl fp12)), (p13, .inl (ca 1, 90, .inl fp13))] s.heap := hP
  have hl := lv_entry ([.ref h0, .ref pl, .int (nI k)]) (n := 8) (Nat.le_of_ble_eq_true rfl)
  rw [lg_entry_eq]
  generalize (lg_sl ([.ref h0, .ref pl, .int (nI k)]) ++ List.replicate (8 - (lg_sl ([.ref h0, .ref pl, .int (nI k)])).length) Slot.unset).toArray = ls at hl ⊢
  have hl : lv_has ls 8 [(0, .ref h0), (1, .ref pl), (2, .int (nI k))] := hl
  have hM := clamp_lt (fp11 k)
  refine lv_iconst (v := 0) hx hb dX4_goThrough_0 (by decide +kernel) ?_
  refine lv_istore_n (lv' := [(3, .int 0), (0, .ref h0), (1, .ref pl), (2, .int (nI k))]) hx hb dX4_goThrough_1 rfl hl (by decide +kernel) rfl (fun ls hl => ?_)
  refine lv_iconst (v := 0) hx hb dX4_goThrough_2 (by decide +kernel) ?_
  refine lv_istore (lv' := [(4, .int 0), (3, .int 0), (0, .ref h0), (1, .ref pl), (2, .int (nI k))]) hx hb dX4_goThrough_3 hl (by decide +kernel) rfl (fun ls hl => ?_)
  refine lp_ind (I := fun (n : Nat) H locs ls => ∃ (ji : Nat) (jh : Int32) (je : Nat → Int32), ji ≤ (fp11 k).toNatClampNeg ∧ ji + n = (fp11 k).toNatClampNeg + 1 ∧ lv_has ls 8 [(4, .int (nI ji)), (3, .int jh), (0, .ref h0), (1, .ref pl), (2, .int (nI k))] ∧ va_P D vwCl [(h0, .inr (4, [.ref e1, .ref e2, .int (nI ks), .ref e3])), (e1, .inl (ca 1, 6, .inl je)), (pl, .inr (2, [.int (nI kc), .int (nI kl), .int xb, .int (nI kn), .int (nI ko), .ref p5, .ref p6, .ref p7, .ref p8, .ref p9, .ref p10, .ref p11, .ref p12, .ref p13])), (p10, .inl (ca 1, 10, .inl fp10)), (p11, .inl (ca 1, 10, .inl fp11)), (p12, .inl (ca 1, 90, .inl fp12)), (p13, .inl (ca 1, 90, .inl fp13))] H ∧ va_D A [(h0, .inr (4, [.ref e1, .ref e2, .int (nI ks), .ref e3])), (e1, .inl (ca 1, 6, .inl je)), (pl, .inr (2, [.int (nI kc), .int (nI kl), .int xb, .int (nI kn), .int (nI ko), .ref p5, .ref p6, .ref p7, .ref p8, .ref p9, .ref p10, .ref p11, .ref p12, .ref p13])), (p10, .inl (ca 1, 10, .inl fp10)), (p11, .inl (ca 1, 10, .inl fp11)), (p12, .inl (ca 1, 90, .inl fp12)), (p13, .inl (ca 1, 90, .inl fp13))] ∧ va_S A s.heap H locs) (Wf := fun H locs ls => W p l e _ s m _ below meth c H locs _ _ _ (F0 m 5 ls [])) ((fp11 k).toNatClampNeg + 1) ⟨0, 0, fe1, (by omega), (by omega), hl, hP, hD, hS⟩ ?_ ?_
  · intro H locs ls hI
    obtain ⟨ji, jh, je, hji, hm, -⟩ := hI
    omega
  intro n ih_1 H locs ls hI
  obtain ⟨ji, jh, je, hji, hm, hl, hP, hD, hS⟩ := hI
  refine lv_iload hx hb dX4_goThrough_5 (lv_at hl 0 rfl) ?_
  refine lv_aload_n hx hb dX4_goThrough_7 rfl (lv_at hl 3 rfl) ?_
  refine va_get (D := D) (ci := 2) (v := .ref p11) (C := RX2) (T := TX2) (N := 14) hx hb hts iw_X4_goThrough_2 hown hC.1 hP 2 rfl rfl 11 (by decide +kernel) (hts (.fieldLink RX4 41 "FairWheel$Plan" "opCount" "[I") (by decide +kernel)) (fun _ h9 => h9) rfl dX4_goThrough_8 ?_
  refine lv_iload_n hx hb dX4_goThrough_11 rfl (lv_at hl 4 rfl) ?_
  refine ka_iald hx hb hC.1 hP 4 1 rfl rfl k rfl (by omega) (by decide +kernel) dX4_goThrough_12 ?_
  refine lv_topi (fun y_2 ey_2 => ?_)
  refine lv_icmp_ge (tgt := 142) hx hb dX4_goThrough_13 (by decide +kernel) (fun c_3 => ?_) (fun c_3 => ?_)
  ·
    exact W.vret hx hb hr (fun t ht hW => ⟨⟨je, rfl, trivial, by rw [ht]; exact hP.sub [0, 1, 2, 3, 4, 5, 6] rfl, hDA (hD.sub [0, 1, 2, 3, 4, 5, 6] (by decide +kernel) rfl)⟩, hS.F ht⟩) hS.2.2 dX4_goThrough_142
  · refine lv_aload_n hx hb dX4_goThrough_16 rfl (lv_at hl 3 rfl) ?_
    refine lv_iload_n hx hb dX4_goThrough_17 rfl (lv_at hl 4 rfl) ?_
    refine lv_iload hx hb dX4_goThrough_18 (lv_at hl 0 rfl) ?_
    refine kc_i (wr := [(h0, .inr (4, [.ref e1, .ref e2, .int (nI ks), .ref e3])), (e1, .inl (ca 1, 6, .inl je)), (p13, .inl (ca 1, 90, .inl fp13))]) (va_runV (As := [.int (nI k), .int (nI ji)]) (rest := []) ⟨hx, hb, hml, hown, hts⟩ (s_X2_opAt l D ca H.size pl p5 p6 p7 p8 p9 p10 p11 p12 p13 kc kl kn ko xb fp10 fp11 fp12 k (nI ji) (by omega)) (cwV 2 hts gX4_goThrough_X2_opAt rfl rfl rfl (by decide +kernel) ⟨(Nat.le_of_ble_eq_true rfl), (Nat.le_of_ble_eq_true rfl)⟩) (PC.preV (ci := 2) hC hP hD [2, 3, 4, 5] rfl (by decide +kernel) rfl rfl) rfl rfl hl.1 rfl (lv_room (Nat.le_of_ble_eq_true rfl)) dX4_goThrough_20 ⟨(Nat.le_of_ble_eq_true rfl), (Nat.le_of_ble_eq_true rfl)⟩) hP hD hS hA [2, 3, 4, 5] [0, 1, 6] rfl rfl (by decide +kernel) (by decide +kernel) (fun r_4 u_6 H locs hw_5 hP hD hS => ?_)
    have hu_7 := hw_5
    have hP : va_P D vwCl [(h0, .inr (4, [.ref e1, .ref e2, .int (nI ks), .ref e3])), (e1, .inl (ca 1, 6, .inl je)), (p13, .inl (ca 1, 90, .inl fp13)), (pl, .inr (2, [.int (nI kc), .int (nI kl), .int xb, .int (nI kn), .int (nI ko), .ref p5, .ref p6, .ref p7, .ref p8, .ref p9, .ref p10, .ref p11, .ref p12, .ref p13])), (p10, .inl (ca 1, 10, .inl fp10)), (p11, .inl (ca 1, 10, .inl fp11)), (p12, .inl (ca 1, 90, .inl fp12))] H := hP
    have hD : va_D A [(h0, .inr (4, [.ref e1, .ref e2, .int (nI ks), .ref e3])), (e1, .inl (ca 1, 6, .inl je)), (p13, .inl (ca 1, 90, .inl fp13)), (pl, .inr (2, [.int (nI kc), .int (nI kl), .int xb, .int (nI kn), .int (nI ko), .ref p5, .ref p6, .ref p7, .ref p8, .ref p9, .ref p10, .ref p11, .ref p12, .ref p13])), (p10, .inl (ca 1, 10, .inl fp10)), (p11, .inl (ca 1, 10, .inl fp11)), (p12, .inl (ca 1, 90, .inl fp12))] := hD
    refine lv_istore (lv' := [(5, .int r_4), (4, .int (nI ji)), (3, .int jh), (0, .ref h0), (1, .ref pl), (2, .int (nI k))]) hx hb dX4_goThrough_23 hl (by decide +kernel) rfl (fun ls hl => ?_)
    refine lv_iload hx hb dX4_goThrough_25 (lv_at hl 0 rfl) ?_
    refine lv_iconst (v := (-1)) hx hb dX4_goThrough_27 (by decide +kernel) ?_
    refine lv_icmp_ne (tgt := 35) hx hb dX4_goThrough_28 (by decide +kernel) (fun c_8 => ?_) (fun c_8 => ?_)
    · obtain ⟨j_9, hj_9, rfl⟩ := hu_7.resolve_left c_8
      refine lv_aload_n hx hb dX4_goThrough_35 rfl (lv_at hl 4 rfl) ?_
      refine va_get (D := D) (ci := 2) (v := .ref p12) (C := RX2) (T := TX2) (N := 14) hx hb hts iw_X4_goThrough_2 hown hC.1 hP 3 rfl rfl 12 (by decide +kernel) (hts (.fieldLink RX4 48 "FairWheel$Plan" "codes" "[I") (by decide +kernel)) (fun _ h9 => h9) rfl dX4_goThrough_36 ?_
      refine lv_iload hx hb dX4_goThrough_39 (lv_at hl 0 rfl) ?_
      refine ka_iald hx hb hC.1 hP 6 1 rfl rfl j_9 rfl (by omega) (by decide +kernel) dX4_goThrough_41 ?_
      refine lv_topi (fun y_10 ey_10 => ?_)
      refine lv_istore (lv' := [(6, .int y_10), (5, .int (nI j_9)), (4, .int (nI ji)), (3, .int jh), (0, .ref h0), (1, .ref pl), (2, .int (nI k))]) hx hb dX4_goThrough_42 hl (by decide +kernel) rfl (fun ls hl => ?_)
      refine lv_iload hx hb dX4_goThrough_44 (lv_at hl 1 rfl) ?_
      refine lv_iconst (v := (-1)) hx hb dX4_goThrough_46 (by decide +kernel) ?_
      refine lv_icmp_ne (tgt := 54) hx hb dX4_goThrough_47 (by decide +kernel) (fun c_11 => ?_) (fun c_11 => (nI_neg_ne (by omega) (by decide +kernel) c_11).elim)
      refine lv_aload_n hx hb dX4_goThrough_54 rfl (lv_at hl 5 rfl) ?_
      refine va_get (D := D) (ci := 2) (v := .ref p13) (C := RX2) (T := TX2) (N := 14) hx hb hts iw_X4_goThrough_2 hown hC.1 hP 3 rfl rfl 13 (by decide +kernel) (hts (.fieldLink RX4 51 "FairWheel$Plan" "numbers" "[I") (by decide +kernel)) (fun _ h9 => h9) rfl dX4_goThrough_55 ?_
      refine lv_iload hx hb dX4_goThrough_58 (lv_at hl 1 rfl) ?_
      refine ka_iald hx hb hC.1 hP 2 1 rfl rfl j_9 rfl (by omega) (by decide +kernel) dX4_goThrough_60 ?_
      refine lv_topi (fun y_12 ey_12 => ?_)
      refine lv_istore (lv' := [(7, .int y_12), (6, .int y_10), (5, .int (nI j_9)), (4, .int (nI ji)), (3, .int jh), (0, .ref h0), (1, .ref pl), (2, .int (nI k))]) hx hb dX4_goThrough_61 hl (by decide +kernel) rfl (fun ls hl => ?_)
      refine lv_iload hx hb dX4_goThrough_63 (lv_at hl 1 rfl) ?_
      refine lv_bipush (v := 13) hx hb dX4_goThrough_65 (by decide +kernel) ?_
      refine lv_icmp_ne (tgt := 113) hx hb dX4_goThrough_67 (by decide +kernel) (fun c_13 => ?_) (fun c_13 => ?_)
      · refine lv_iload hx hb dX4_goThrough_113 (lv_at hl 1 rfl) ?_
        refine lv_bipush (v := 14) hx hb dX4_goThrough_115 (by decide +kernel) ?_
        refine lv_icmp_ne (tgt := 136) hx hb dX4_goThrough_117 (by decide +kernel) (fun c_14 => ?_) (fun c_14 => ?_)
        · refine lv_iinc (v := nI (ji + 1)) (lv' := [(4, .int (nI (ji + 1))), (7, .int y_12), (6, .int y_10), (5, .int (nI j_9)), (3, .int jh), (0, .ref h0), (1, .ref pl), (2, .int (nI k))]) hx hb dX4_goThrough_136 hl (k := 3) rfl (nI_1 _) (by decide +kernel) rfl (fun ls hl => ?_)
          refine lv_goto (tgt := 5) hx hb dX4_goThrough_139 (by decide +kernel) ?_
          exact ih_1 _ _ _ ⟨(ji + 1), jh, je, (by have := lt_clamp (j := ji) (by omega) (show ¬ fp11 k ≤ nI ji by rw [← ey_2]; exact c_3); omega), (by have := lt_clamp (j := ji) (by omega) (show ¬ fp11 k ≤ nI ji by rw [← ey_2]; exact c_3); omega), lv_sub hl [0, 4, 5, 6, 7] rfl, (hP.sub [0, 1, 3, 4, 5, 6, 2] rfl), (hD.sub [0, 1, 3, 4, 5, 6, 2] (by decide +kernel) rfl), hS⟩
        · refine lv_iload hx hb dX4_goThrough_120 (lv_at hl 0 rfl) ?_
          refine lv_bipush (v := 6) hx hb dX4_goThrough_122 (by decide +kernel) ?_
          refine lv_icmp_ge (tgt := 136) hx hb dX4_goThrough_124 (by decide +kernel) (fun c_15 => ?_) (fun c_15 => ?_)
          · refine lv_iinc (v := nI (ji + 1)) (lv' := [(4, .int (nI (ji + 1))), (7, .int y_12), (6, .int y_10), (5, .int (nI j_9)), (3, .int jh), (0, .ref h0), (1, .ref pl), (2, .int (nI k))]) hx hb dX4_goThrough_136 hl (k := 3) rfl (nI_1 _) (by decide +kernel) rfl (fun ls hl => ?_)
            refine lv_goto (tgt := 5) hx hb dX4_goThrough_139 (by decide +kernel) ?_
            exact ih_1 _ _ _ ⟨(ji + 1), jh, je, (by have := lt_clamp (j := ji) (by omega) (show ¬ fp11 k ≤ nI ji by rw [← ey_2]; exact c_3); omega), (by have := lt_clamp (j := ji) (by omega) (show ¬ fp11 k ≤ nI ji by rw [← ey_2]; exact c_3); omega), lv_sub hl [0, 4, 5, 6, 7] rfl, (hP.sub [0, 1, 3, 4, 5, 6, 2] rfl), (hD.sub [0, 1, 3, 4, 5, 6, 2] (by decide +kernel) rfl), hS⟩
          · refine lv_iload_n hx hb dX4_goThrough_127 rfl (lv_at hl 4 rfl) ?_
            refine lv_iconst (v := 1) hx hb dX4_goThrough_128 (by decide +kernel) ?_
            refine lv_iload hx hb dX4_goThrough_129 (lv_at hl 0 rfl) ?_
            refine lv_ishl hx hb dX4_goThrough_131 ?_
            refine lv_topi (fun y_16 ey_16 => ?_)
            refine lv_iconst (v := (-1)) hx hb dX4_goThrough_132 (by decide +kernel) ?_
            refine lv_ixor hx hb dX4_goThrough_133 ?_
            refine lv_topi (fun y_17 ey_17 => ?_)
            refine lv_iand hx hb dX4_goThrough_134 ?_
            refine lv_topi (fun y_18 ey_18 => ?_)
            refine lv_istore_n (lv' := [(3, .int y_18), (7, .int y_12), (6, .int y_10), (5, .int (nI j_9)), (4, .int (nI ji)), (0, .ref h0), (1, .ref pl), (2, .int (nI k))]) hx hb dX4_goThrough_135 rfl hl (by decide +kernel) rfl (fun ls hl => ?_)
            refine lv_iinc (v := nI (ji + 1)) (lv' := [(4, .int (nI (ji + 1))), (3, .int y_18), (7, .int y_12), (6, .int y_10), (5, .int (nI j_9)), (0, .ref h0), (1, .ref pl), (2, .int (nI k))]) hx hb dX4_goThrough_136 hl (k := 4) rfl (nI_1 _) (by decide +kernel) rfl (fun ls hl => ?_)
            refine lv_goto (tgt := 5) hx hb dX4_goThrough_139 (by decide +kernel) ?_
            exact ih_1 _ _ _ ⟨(ji + 1), y_18, je, (by have := lt_clamp (j := ji) (by omega) (show ¬ fp11 k ≤ nI ji by rw [← ey_2]; exact c_3); omega), (by have := lt_clamp (j := ji) (by omega) (show ¬ fp11 k ≤ nI ji by rw [← ey_2]; exact c_3); omega), lv_sub hl [0, 1, 5, 6, 7] rfl, (hP.sub [0, 1, 3, 4, 5, 6, 2] rfl), (hD.sub [0, 1, 3, 4, 5, 6, 2] (by decide +kernel) rfl), hS⟩
      · refine lv_iload hx hb dX4_goThrough_70 (lv_at hl 0 rfl) ?_
        refine lv_aload_n hx hb dX4_goThrough_72 rfl (lv_at hl 6 rfl) ?_
        refine va_get (D := D) (ci := 2) (v := .int (nI kl)) (C := RX2) (T := TX2) (N := 14) hx hb hts iw_X4_goThrough_2 hown hC.1 hP 3 rfl rfl 1 (by decide +kernel) (hts (.fieldLink RX4 54 "FairWheel$Plan" "locks" "I") (by decide +kernel)) (fun _ h9 => h9) rfl dX4_goThrough_73 ?_
        refine lv_icmp_ge (tgt := 95) hx hb dX4_goThrough_76 (by decide +kernel) (fun c_19 => ?_) (fun c_19 => ?_)
        ·
          exact W.vret hx hb hr (fun t ht hW => ⟨⟨je, rfl, trivial, by rw [ht]; exact hP.sub [0, 1, 3, 4, 5, 6, 2] rfl, hDA (hD.sub [0, 1, 3, 4, 5, 6, 2] (by decide +kernel) rfl)⟩, hS.F ht⟩) hS.2.2 dX4_goThrough_95
        · refine lv_iload hx hb dX4_goThrough_79 (lv_at hl 0 rfl) ?_
          refine lv_bipush (v := 6) hx hb dX4_goThrough_81 (by decide +kernel) ?_
          refine lv_icmp_ge (tgt := 95) hx hb dX4_goThrough_83 (by decide +kernel) (fun c_20 => ?_) (fun c_20 => ?_)
          ·
            exact W.vret hx hb hr (fun t ht hW => ⟨⟨je, rfl, trivial, by rw [ht]; exact hP.sub [0, 1, 3, 4, 5, 6, 2] rfl, hDA (hD.sub [0, 1, 3, 4, 5, 6, 2] (by decide +kernel) rfl)⟩, hS.F ht⟩) hS.2.2 dX4_goThrough_95
          · refine lv_iload_n hx hb dX4_goThrough_86 rfl (lv_at hl 4 rfl) ?_
            refine lv_iconst (v := 1) hx hb dX4_goThrough_87 (by decide +kernel) ?_
            refine lv_iload hx hb dX4_goThrough_88 (lv_at hl 0 rfl) ?_
            refine lv_ishl hx hb dX4_goThrough_90 ?_
            refine lv_topi (fun y_21 ey_21 => ?_)
            refine lv_iand hx hb dX4_goThrough_91 ?_
            refine lv_topi (fun y_22 ey_22 => ?_)
            refine lv_if_eq (tgt := 96) hx hb dX4_goThrough_92 (by decide +kernel) (fun c_23 => ?_) (fun c_23 => ?_)
            · refine lv_aload_n hx hb dX4_goThrough_96 rfl (lv_at hl 5 rfl) ?_
              refine lv_iload hx hb dX4_goThrough_97 (lv_at hl 0 rfl) ?_
              refine lv_iload_n hx hb dX4_goThrough_99 rfl (lv_at hl 4 rfl) ?_
              refine kc_v (wr := [(p13, .inl (ca 1, 90, .inl fp13)), (pl, .inr (2, [.int (nI kc), .int (nI kl), .int xb, .int (nI kn), .int (nI ko), .ref p5, .ref p6, .ref p7, .ref p8, .ref p9, .ref p10, .ref p11, .ref p12, .ref p13])), (p10, .inl (ca 1, 10, .inl fp10)), (p11, .inl (ca 1, 10, .inl fp11)), (p12, .inl (ca 1, 90, .inl fp12))]) (va_runV (As := [.int y_12, .int jh]) (rest := []) ⟨hx, hb, hml, hown, hts⟩ (s_X4_noteBehind l D ca H.size h0 e1 e2 e3 ks je y_12 jh) (cwV 2 hts gX4_goThrough_X4_noteBehind rfl rfl rfl (by decide +kernel) ⟨(Nat.le_of_ble_eq_true rfl), (Nat.le_of_ble_eq_true rfl)⟩) (PC.preV (ci := 4) hC hP hD [0, 1] rfl (by decide +kernel) rfl rfl) rfl rfl hl.1 rfl (lv_room (Nat.le_of_ble_eq_true rfl)) dX4_goThrough_100 ⟨(Nat.le_of_ble_eq_true rfl), (Nat.le_of_ble_eq_true rfl)⟩) hP hD hS hA [0, 1] [2, 3, 4, 5, 6] rfl rfl (by decide +kernel) (by decide +kernel) (fun u_25 H locs hw_24 hP hD hS => ?_)
              obtain ⟨f_26, rfl⟩ : ∃ z, z = u_25 := ⟨_, rfl⟩
              have hP : va_P D vwCl [(p13, .inl (ca 1, 90, .inl fp13)), (pl, .inr (2, [.int (nI kc), .int (nI kl), .int xb, .int (nI kn), .int (nI ko), .ref p5, .ref p6, .ref p7, .ref p8, .ref p9, .ref p10, .ref p11, .ref p12, .ref p13])), (p10, .inl (ca 1, 10, .inl fp10)), (p11, .inl (ca 1, 10, .inl fp11)), (p12, .inl (ca 1, 90, .inl fp12)), (h0, .inr (4, [.ref e1, .ref e2, .int (nI ks), .ref e3])), (e1, .inl (ca 1, 6, .inl f_26))] H := hP
              have hD : va_D A [(p13, .inl (ca 1, 90, .inl fp13)), (pl, .inr (2, [.int (nI kc), .int (nI kl), .int xb, .int (nI kn), .int (nI ko), .ref p5, .ref p6, .ref p7, .ref p8, .ref p9, .ref p10, .ref p11, .ref p12, .ref p13])), (p10, .inl (ca 1, 10, .inl fp10)), (p11, .inl (ca 1, 10, .inl fp11)), (p12, .inl (ca 1, 90, .inl fp12)), (h0, .inr (4, [.ref e1, .ref e2, .int (nI ks), .ref e3])), (e1, .inl (ca 1, 6, .inl f_26))] := hD
              refine lv_iload_n hx hb dX4_goThrough_103 rfl (lv_at hl 4 rfl) ?_
              refine lv_iconst (v := 1) hx hb dX4_goThrough_104 (by decide +kernel) ?_
              refine lv_iload hx hb dX4_goThrough_105 (lv_at hl 0 rfl) ?_
              refine lv_ishl hx hb dX4_goThrough_107 ?_
              refine lv_topi (fun y_27 ey_27 => ?_)
              refine lv_ior hx hb dX4_goThrough_108 ?_
              refine lv_topi (fun y_28 ey_28 => ?_)
              refine lv_istore_n (lv' := [(3, .int y_28), (7, .int y_12), (6, .int y_10), (5, .int (nI j_9)), (4, .int (nI ji)), (0, .ref h0), (1, .ref pl), (2, .int (nI k))]) hx hb dX4_goThrough_109 rfl hl (by decide +kernel) rfl (fun ls hl => ?_)
              refine lv_goto (tgt := 136) hx hb dX4_goThrough_110 (by decide +kernel) ?_
              refine lv_iinc (v := nI (ji + 1)) (lv' := [(4, .int (nI (ji + 1))), (3, .int y_28), (7, .int y_12), (6, .int y_10), (5, .int (nI j_9)), (0, .ref h0), (1, .ref pl), (2, .int (nI k))]) hx hb dX4_goThrough_136 hl (k := 4) rfl (nI_1 _) (by decide +kernel) rfl (fun ls hl => ?_)
              refine lv_goto (tgt := 5) hx hb dX4_goThrough_139 (by decide +kernel) ?_
              exact ih_1 _ _ _ ⟨(ji + 1), y_28, f_26, (by have := lt_clamp (j := ji) (by omega) (show ¬ fp11 k ≤ nI ji by rw [← ey_2]; exact c_3); omega), (by have := lt_clamp (j := ji) (by omega) (show ¬ fp11 k ≤ nI ji by rw [← ey_2]; exact c_3); omega), lv_sub hl [0, 1, 5, 6, 7] rfl, (hP.sub [5, 6, 1, 2, 3, 4, 0] rfl), (hD.sub [5, 6, 1, 2, 3, 4, 0] (by decide +kernel) rfl), hS⟩
            ·
              exact W.vret hx hb hr (fun t ht hW => ⟨⟨je, rfl, trivial, by rw [ht]; exact hP.sub [0, 1, 3, 4, 5, 6, 2] rfl, hDA (hD.sub [0, 1, 3, 4, 5, 6, 2] (by decide +kernel) rfl)⟩, hS.F ht⟩) hS.2.2 dX4_goThrough_95
    · refine lv_iconst (v := (-1)) hx hb dX4_goThrough_31 (by decide +kernel) ?_
      refine lv_goto (tgt := 42) hx hb dX4_goThrough_32 (by decide +kernel) ?_
      refine lv_istore (lv' := [(6, .int (-1)), (5, .int r_4), (4, .int (nI ji)), (3, .int jh), (0, .ref h0), (1, .ref pl), (2, .int (nI k))]) hx hb dX4_goThrough_42 hl (by decide +kernel) rfl (fun ls hl => ?_)
      refine lv_iload hx hb dX4_goThrough_44 (lv_at hl 1 rfl) ?_
      refine lv_iconst (v := (-1)) hx hb dX4_goThrough_46 (by decide +kernel) ?_
      refine lv_icmp_ne (tgt := 54) hx hb dX4_goThrough_47 (by decide +kernel) (fun c_29 => absurd c_8 c_29) (fun c_29 => ?_)
      refine lv_iconst (v := 0) hx hb dX4_goThrough_50 (by decide +kernel) ?_
      refine lv_goto (tgt := 61) hx hb dX4_goThrough_51 (by decide +kernel) ?_
      refine lv_istore (lv' := [(7, .int 0), (6, .int (-1)), (5, .int r_4), (4, .int (nI ji)), (3, .int jh), (0, .ref h0), (1, .ref pl), (2, .int (nI k))]) hx hb dX4_goThrough_61 hl (by decide +kernel) rfl (fun ls hl => ?_)
      refine lv_iload hx hb dX4_goThrough_63 (lv_at hl 1 rfl) ?_
      refine lv_bipush (v := 13) hx hb dX4_goThrough_65 (by decide +kernel) ?_
      refine lv_icmp_ne (tgt := 113) hx hb dX4_goThrough_67 (by decide +kernel) (fun c_31 => ?_) (fun c_31 => absurd c_31 (by decide +kernel))
      refine lv_iload hx hb dX4_goThrough_113 (lv_at hl 1 rfl) ?_
      refine lv_bipush (v := 14) hx hb dX4_goThrough_115 (by decide +kernel) ?_
      refine lv_icmp_ne (tgt := 136) hx hb dX4_goThrough_117 (by decide +kernel) (fun c_32 => ?_) (fun c_32 => absurd c_32 (by decide +kernel))
      refine lv_iinc (v := nI (ji + 1)) (lv' := [(4, .int (nI (ji + 1))), (7, .int 0), (6, .int (-1)), (5, .int r_4), (3, .int jh), (0, .ref h0), (1, .ref pl), (2, .int (nI k))]) hx hb dX4_goThrough_136 hl (k := 3) rfl (nI_1 _) (by decide +kernel) rfl (fun ls hl => ?_)
      refine lv_goto (tgt := 5) hx hb dX4_goThrough_139 (by decide +kernel) ?_
      exact ih_1 _ _ _ ⟨(ji + 1), jh, je, (by have := lt_clamp (j := ji) (by omega) (show ¬ fp11 k ≤ nI ji by rw [← ey_2]; exact c_3); omega), (by have := lt_clamp (j := ji) (by omega) (show ¬ fp11 k ≤ nI ji by rw [← ey_2]; exact c_3); omega), lv_sub hl [0, 4, 5, 6, 7] rfl, (hP.sub [0, 1, 3, 4, 5, 6, 2] rfl), (hD.sub [0, 1, 3, 4, 5, 6, 2] (by decide +kernel) rfl), hS⟩
theorem iw_X4_find_2 : ∀ w ∈ u_ws RX2 TX2 14, w ∈ wsX4_find := by decide +kernel
theorem iw_X4_find_4 : ∀ w ∈ u_ws RX4 TX4 4, w ∈ wsX4_find := by decide +kernel
set_option maxHeartbeats 4000000 in
set_option maxRecDepth 100000 in
theorem s_X4_find (l : Launch) (D : va_G) (ca : Nat → ClassId) (sz : Nat) (h0 : Nat) (e1 : Nat) (e2 : Nat) (e3 : Nat) (ks : Nat) (fe1 : Nat → Int32) (fe2 : Nat → Int32) (fe3 : Nat → Int32) (pl : Nat) (p5 : Nat) (p6 : Nat) (p7 : Nat) (p8 : Nat) (p9 : Nat) (p10 : Nat) (p11 : Nat) (p12 : Nat) (p13 : Nat) (kc : Nat) (kl : Nat) (kn : Nat) (ko : Nat) (xb : Int32) (fp10 : Nat → Int32) (fp11 : Nat → Int32) (fp12 : Nat → Int32) (fp13 : Nat → Int32) (hkn : kn ≤ 10) : Met l yX4_find wsX4_find ({ frames := 3, cells := 0, slots := 0, locals := 60 }) (PC [.ref h0, .ref pl] sz D ca [(h0, .inr (4, [.ref e1, .ref e2, .int (nI ks), .ref e3])), (e1, .inl (ca 1, 6, .inl fe1)), (e2, .inl (ca 1, 6, .inl fe2)), (e3, .inl (ca 1, 6, .inl fe3)), (pl, .inr (2, [.int (nI kc), .int (nI kl), .int xb, .int (nI kn), .int (nI ko), .ref p5, .ref p6, .ref p7, .ref p8, .ref p9, .ref p10, .ref p11, .ref p12, .ref p13])), (p10, .inl (ca 1, 10, .inl fp10)), (p11, .inl (ca 1, 10, .inl fp11)), (p12, .inl (ca 1, 90, .inl fp12)), (p13, .inl (ca 1, 90, .inl fp13))]) (QV (fun (u : Nat × (Nat → Int32) × (Nat → Int32) × (Nat → Int32)) => u.1 ≤ 6) (fun (u : Nat × (Nat → Int32) × (Nat → Int32) × (Nat → Int32)) => [(h0, .inr (4, [.ref e1, .ref e2, .int (nI u.1), .ref e3])), (e1, .inl (ca 1, 6, .inl u.2.1)), (e2, .inl (ca 1, 6, .inl u.2.2.1)), (e3, .inl (ca 1, 6, .inl u.2.2.2)), (pl, .inr (2, [.int (nI kc), .int (nI kl), .int xb, .int (nI kn), .int (nI ko), .ref p5, .ref p6, .ref p7, .ref p8, .ref p9, .ref p10, .ref p11, .ref p12, .ref p13])), (p10, .inl (ca 1, 10, .inl fp10)), (p11, .inl (ca 1, 10, .inl fp11)), (p12, .inl (ca 1, 90, .inl fp12)), (p13, .inl (ca 1, 90, .inl fp13))]) [(h0, .inr (4, [.ref e1, .ref e2, .int (nI ks), .ref e3])), (e1, .inl (ca 1, 6, .inl fe1)), (e2, .inl (ca 1, 6, .inl fe2)), (e3, .inl (ca 1, 6, .inl fe3)), (pl, .inr (2, [.int (nI kc), .int (nI kl), .int xb, .int (nI kn), .int (nI ko), .ref p5, .ref p6, .ref p7, .ref p8, .ref p9, .ref p10, .ref p11, .ref p12, .ref p13])), (p10, .inl (ca 1, 10, .inl fp10)), (p11, .inl (ca 1, 10, .inl fp11)), (p12, .inl (ca 1, 90, .inl fp12)), (p13, .inl (ca 1, 90, .inl fp13))] sz D) 0 0 (va_A [(h0, .inr (4, [.ref e1, .ref e2, .int (nI ks), .ref e3])), (e1, .inl (ca 1, 6, .inl fe1)), (e2, .inl (ca 1, 6, .inl fe2)), (e3, .inl (ca 1, 6, .inl fe3)), (pl, .inr (2, [.int (nI kc), .int (nI kl), .int xb, .int (nI kn), .int (nI ko), .ref p5, .ref p6, .ref p7, .ref p8, .ref p9, .ref p10, .ref p11, .ref p12, .ref p13])), (p10, .inl (ca 1, 10, .inl fp10)), (p11, .inl (ca 1, 10, .inl fp11)), (p12, .inl (ca 1, 90, .inl fp12)), (p13, .inl (ca 1, 90, .inl fp13))] sz) := by
  refine Met.ofW (cc := cX4_find) (maxL := 3) (ret := none) (by decide +kernel) rfl ?_
  intro p e s m args below meth c s₁ B hml hv
  obtain ⟨rfl, hsz, hP, hC, hD0⟩ := hv
  have hx := B.exec
  have hb := B.bytes
  have hr := B.returns
  have hts := atoms_spec (ws := wsX4_find) B.pre
  have hown : s.vm.findClass RX4 = some m.cls := findClass_of_methodNamed B.named
  have hlocks := B.notSynchronized
  subst hsz
  have hD := hD0.self (sz := s.heap.size)
  dsimp only [QV, QI, QL, BQ]
  generalize hAe : va_A [(h0, .inr (4, [.ref e1, .ref e2, .int (nI ks), .ref e3])), (e1, .inl (ca 1, 6, .inl fe1)), (e2, .inl (ca 1, 6, .inl fe2)), (e3, .inl (ca 1, 6, .inl fe3)), (pl, .inr (2, [.int (nI kc), .int (nI kl), .int xb, .int (nI kn), .int (nI ko), .ref p5, .ref p6, .ref p7, .ref p8, .ref p9, .ref p10, .ref p11, .ref p12, .ref p13])), (p10, .inl (ca 1, 10, .inl fp10)), (p11, .inl (ca 1, 10, .inl fp11)), (p12, .inl (ca 1, 90, .inl fp12)), (p13, .inl (ca 1, 90, .inl fp13))] s.heap.size = A at hD ⊢
  have hA : ∀ q : Nat, s.heap.size ≤ q → A q := fun q h => by rw [← hAe]; exact Or.inr h
  have hDA : ∀ {w : va_W}, va_D A w → va_D (va_A [(h0, .inr (4, [.ref e1, .ref e2, .int (nI ks), .ref e3])), (e1, .inl (ca 1, 6, .inl fe1)), (e2, .inl (ca 1, 6, .inl fe2)), (e3, .inl (ca 1, 6, .inl fe3)), (pl, .inr (2, [.int (nI kc), .int (nI kl), .int xb, .int (nI kn), .int (nI ko), .ref p5, .ref p6, .ref p7, .ref p8, .ref p9, .ref p10, .ref p11, .ref p12, .ref p13])), (p10, .inl (ca 1, 10, .inl fp10)), (p11, .inl (ca 1, 10, .inl fp11)), (p12, .inl (ca 1, 90, .inl fp12)), (p13, .inl (ca 1, 90, .inl fp13))] s.heap.size) w := fun h => by rw [hAe]; exact h
  have hS : va_S A s.heap s.heap [] := va_S.rf
  have hP : va_P D vwCl [(h0, .inr (4, [.ref e1, .ref e2, .int (nI ks), .ref e3])), (e1, .inl (ca 1, 6, .inl fe1)), (e2, .inl (ca 1, 6, .inl fe2)), (e3, .inl (ca 1, 6, .inl fe3)), (pl, .inr (2, [.int (nI kc), .int (nI kl), .int xb, .int (nI kn), .int (nI ko), .ref p5, .ref p6, .ref p7, .ref p8, .ref p9, .ref p10, .ref p11, .ref p12, .ref p13])), (p10, .inl (ca 1, 10, .inl fp10)), (p11, .inl (ca 1, 10, .inl fp11)), (p12, .inl (ca 1, 90, .inl fp12)), (p13, .inl (ca 1, 90, .inl fp13))] s.heap := hP
  have hl := lv_entry ([.ref h0, .ref pl]) (n := 3) (Nat.le_of_ble_eq_true rfl)
  rw [lg_entry_eq]
  generalize (lg_sl ([.ref h0, .ref pl]) ++ List.replicate (3 - (lg_sl ([.ref h0, .ref pl])).length) Slot.unset).toArray = ls at hl ⊢
  have hl : lv_has ls 3 [(0, .ref h0), (1, .ref pl)] := hl
  refine lv_aload_n hx hb dX4_find_0 rfl (lv_at hl 0 rfl) ?_
  refine lv_iconst (v := 0) hx hb dX4_find_1 (by decide +kernel) ?_
  refine va_put (D := D) (ci := 4) (v := .int 0) (ty := .int) (C := RX4) (T := TX4) (N := 4) hx hb hts iw_X4_find_4 tyX4 tyX4_ok nmX4 hown hC.1 hP hD hS 0 rfl rfl 2 (by decide +kernel) (hts (.fieldLink RX4 18 "FairWheel$Risk" "size" "I") (by decide +kernel)) (fun _ h9 => h9) rfl (by decide +kernel) rfl rfl (Nat.le_of_ble_eq_true rfl) dX4_find_2 (fun H locs hP hD hS => ?_)
  have hP : va_P D vwCl [(h0, .inr (4, [.ref e1, .ref e2, .int 0, .ref e3])), (e1, .inl (ca 1, 6, .inl fe1)), (e2, .inl (ca 1, 6, .inl fe2)), (e3, .inl (ca 1, 6, .inl fe3)), (pl, .inr (2, [.int (nI kc), .int (nI kl), .int xb, .int (nI kn), .int (nI ko), .ref p5, .ref p6, .ref p7, .ref p8, .ref p9, .ref p10, .ref p11, .ref p12, .ref p13])), (p10, .inl (ca 1, 10, .inl fp10)), (p11, .inl (ca 1, 10, .inl fp11)), (p12, .inl (ca 1, 90, .inl fp12)), (p13, .inl (ca 1, 90, .inl fp13))] H := hP
  have hD : va_D A [(h0, .inr (4, [.ref e1, .ref e2, .int 0, .ref e3])), (e1, .inl (ca 1, 6, .inl fe1)), (e2, .inl (ca 1, 6, .inl fe2)), (e3, .inl (ca 1, 6, .inl fe3)), (pl, .inr (2, [.int (nI kc), .int (nI kl), .int xb, .int (nI kn), .int (nI ko), .ref p5, .ref p6, .ref p7, .ref p8, .ref p9, .ref p10, .ref p11, .ref p12, .ref p13])), (p10, .inl (ca 1, 10, .inl fp10)), (p11, .inl (ca 1, 10, .inl fp11)), (p12, .inl (ca 1, 90, .inl fp12)), (p13, .inl (ca 1, 90, .inl fp13))] := hD
  refine lv_iconst (v := 0) hx hb dX4_find_5 (by decide +kernel) ?_
  refine lv_istore_n (lv' := [(2, .int 0), (0, .ref h0), (1, .ref pl)]) hx hb dX4_find_6 rfl hl (by decide +kernel) rfl (fun ls hl => ?_)
  refine lp_ind (I := fun (n : Nat) H locs ls => ∃ (ji : Nat) (ja : Nat → Int32), ji ≤ 6 ∧ ji + n = 6 + 1 ∧ lv_has ls 3 [(2, .int (nI ji)), (0, .ref h0), (1, .ref pl)] ∧ va_P D vwCl [(h0, .inr (4, [.ref e1, .ref e2, .int 0, .ref e3])), (e1, .inl (ca 1, 6, .inl ja)), (e2, .inl (ca 1, 6, .inl fe2)), (e3, .inl (ca 1, 6, .inl fe3)), (pl, .inr (2, [.int (nI kc), .int (nI kl), .int xb, .int (nI kn), .int (nI ko), .ref p5, .ref p6, .ref p7, .ref p8, .ref p9, .ref p10, .ref p11, .ref p12, .ref p13])), (p10, .inl (ca 1, 10, .inl fp10)), (p11, .inl (ca 1, 10, .inl fp11)), (p12, .inl (ca 1, 90, .inl fp12)), (p13, .inl (ca 1, 90, .inl fp13))] H ∧ va_D A [(h0, .inr (4, [.ref e1, .ref e2, .int 0, .ref e3])), (e1, .inl (ca 1, 6, .inl ja)), (e2, .inl (ca 1, 6, .inl fe2)), (e3, .inl (ca 1, 6, .inl fe3)), (pl, .inr (2, [.int (nI kc), .int (nI kl), .int xb, .int (nI kn), .int (nI ko), .ref p5, .ref p6, .ref p7, .ref p8, .ref p9, .ref p10, .ref p11, .ref p12, .ref p13])), (p10, .inl (ca 1, 10, .inl fp10)), (p11, .inl (ca 1, 10, .inl fp11)), (p12, .inl (ca 1, 90, .inl fp12)), (p13, .inl (ca 1, 90, .inl fp13))] ∧ va_S A s.heap H locs) (Wf := fun H locs ls => W p l e _ s m _ below meth c H locs _ _ _ (F0 m 7 ls [])) (6 + 1) ⟨0, fe1, (by omega), (by omega), hl, hP, hD, hS⟩ ?_ ?_
  · intro H locs ls hI
    obtain ⟨ji, ja, hji, hmji, -⟩ := hI
    omega
  intro n ih_1 H locs ls hI
  obtain ⟨ji, ja, hji, hmji, hl, hP, hD, hS⟩ := hI
  refine lv_iload_n hx hb dX4_find_7 rfl (lv_at hl 0 rfl) ?_
  refine lv_bipush (v := 6) hx hb dX4_find_8 (by decide +kernel) ?_
  refine lv_icmp_ge (tgt := 26) hx hb dX4_find_10 (by decide +kernel) (fun c_2 => ?_) (fun c_2 => ?_)
  · have nc_2 : 6 ≤ ji := (nI_leI (a := 6) (b := ji) (by omega) (by omega)).mp c_2
    refine lv_iconst (v := 0) hx hb dX4_find_26 (by decide +kernel) ?_
    refine lv_istore_n (lv' := [(2, .int 0), (0, .ref h0), (1, .ref pl)]) hx hb dX4_find_27 rfl hl (by decide +kernel) rfl (fun ls hl => ?_)
    refine lp_ind (I := fun (n : Nat) H locs ls => ∃ (jo : Nat) (jb : Nat → Int32), jo ≤ kn ∧ jo + n = kn + 1 ∧ lv_has ls 3 [(2, .int (nI jo)), (0, .ref h0), (1, .ref pl)] ∧ va_P D vwCl [(h0, .inr (4, [.ref e1, .ref e2, .int 0, .ref e3])), (e1, .inl (ca 1, 6, .inl jb)), (e2, .inl (ca 1, 6, .inl fe2)), (e3, .inl (ca 1, 6, .inl fe3)), (pl, .inr (2, [.int (nI kc), .int (nI kl), .int xb, .int (nI kn), .int (nI ko), .ref p5, .ref p6, .ref p7, .ref p8, .ref p9, .ref p10, .ref p11, .ref p12, .ref p13])), (p10, .inl (ca 1, 10, .inl fp10)), (p11, .inl (ca 1, 10, .inl fp11)), (p12, .inl (ca 1, 90, .inl fp12)), (p13, .inl (ca 1, 90, .inl fp13))] H ∧ va_D A [(h0, .inr (4, [.ref e1, .ref e2, .int 0, .ref e3])), (e1, .inl (ca 1, 6, .inl jb)), (e2, .inl (ca 1, 6, .inl fe2)), (e3, .inl (ca 1, 6, .inl fe3)), (pl, .inr (2, [.int (nI kc), .int (nI kl), .int xb, .int (nI kn), .int (nI ko), .ref p5, .ref p6, .ref p7, .ref p8, .ref p9, .ref p10, .ref p11, .ref p12, .ref p13])), (p10, .inl (ca 1, 10, .inl fp10)), (p11, .inl (ca 1, 10, .inl fp11)), (p12, .inl (ca 1, 90, .inl fp12)), (p13, .inl (ca 1, 90, .inl fp13))] ∧ va_S A s.heap H locs) (Wf := fun H locs ls => W p l e _ s m _ below meth c H locs _ _ _ (F0 m 28 ls [])) (kn + 1) ⟨0, ja, (by omega), (by omega), hl, hP, hD, hS⟩ ?_ ?_
    · intro H locs ls hI
      obtain ⟨jo, jb, hjo, hmjo, -⟩ := hI
      omega
    intro n ih_3 H locs ls hI
    obtain ⟨jo, jb, hjo, hmjo, hl, hP, hD, hS⟩ := hI
    refine lv_iload_n hx hb dX4_find_28 rfl (lv_at hl 0 rfl) ?_
    refine lv_aload_n hx hb dX4_find_29 rfl (lv_at hl 2 rfl) ?_
    refine va_get (D := D) (ci := 2) (v := .int (nI kn)) (C := RX2) (T := TX2) (N := 14) hx hb hts iw_X4_find_2 hown hC.1 hP 4 rfl rfl 3 (by decide +kernel) (hts (.fieldLink RX4 25 "FairWheel$Plan" "count" "I") (by decide +kernel)) (fun _ h9 => h9) rfl dX4_find_30 ?_
    refine lv_icmp_ge (tgt := 48) hx hb dX4_find_33 (by decide +kernel) (fun c_4 => ?_) (fun c_4 => ?_)
    · have nc_4 : kn ≤ jo := (nI_leI (a := kn) (b := jo) (by omega) (by omega)).mp c_4
      refine lv_iconst (v := 0) hx hb dX4_find_48 (by decide +kernel) ?_
      refine lv_istore_n (lv' := [(2, .int 0), (0, .ref h0), (1, .ref pl)]) hx hb dX4_find_49 rfl hl (by decide +kernel) rfl (fun ls hl => ?_)
      refine lp_ind (I := fun (n : Nat) H locs ls => ∃ (jz : Nat) (jl : Nat) (jd : Nat → Int32) (je : Nat → Int32), jl ≤ 6 ∧ jl + n = 7 ∧ jz ≤ 6 ∧ lv_has ls 3 [(2, .int (nI jl)), (0, .ref h0), (1, .ref pl)] ∧ va_P D vwCl [(h0, .inr (4, [.ref e1, .ref e2, .int (nI jz), .ref e3])), (e1, .inl (ca 1, 6, .inl jb)), (e2, .inl (ca 1, 6, .inl jd)), (e3, .inl (ca 1, 6, .inl je)), (pl, .inr (2, [.int (nI kc), .int (nI kl), .int xb, .int (nI kn), .int (nI ko), .ref p5, .ref p6, .ref p7, .ref p8, .ref p9, .ref p10, .ref p11, .ref p12, .ref p13])), (p10, .inl (ca 1, 10, .inl fp10)), (p11, .inl (ca 1, 10, .inl fp11)), (p12, .inl (ca 1, 90, .inl fp12)), (p13, .inl (ca 1, 90, .inl fp13))] H ∧ va_D A [(h0, .inr (4, [.ref e1, .ref e2, .int (nI jz), .ref e3])), (e1, .inl (ca 1, 6, .inl jb)), (e2, .inl (ca 1, 6, .inl jd)), (e3, .inl (ca 1, 6, .inl je)), (pl, .inr (2, [.int (nI kc), .int (nI kl), .int xb, .int (nI kn), .int (nI ko), .ref p5, .ref p6, .ref p7, .ref p8, .ref p9, .ref p10, .ref p11, .ref p12, .ref p13])), (p10, .inl (ca 1, 10, .inl fp10)), (p11, .inl (ca 1, 10, .inl fp11)), (p12, .inl (ca 1, 90, .inl fp12)), (p13, .inl (ca 1, 90, .inl fp13))] ∧ va_S A s.heap H locs) (Wf := fun H locs ls => W p l e _ s m _ below meth c H locs _ _ _ (F0 m 50 ls [])) (7) ⟨0, 0, fe2, fe3, (by omega), (by omega), (by omega), hl, hP, hD, hS⟩ ?_ ?_
      · intro H locs ls hI
        obtain ⟨jz, jl, jd, je, hjl, hm, hjz, -⟩ := hI
        omega
      intro n ih_5 H locs ls hI
      obtain ⟨jz, jl, jd, je, hjl, hm, hjz, hl, hP, hD, hS⟩ := hI
      refine lv_iload_n hx hb dX4_find_50 rfl (lv_at hl 0 rfl) ?_
      refine lv_bipush (v := 6) hx hb dX4_find_51 (by decide +kernel) ?_
      refine lv_icmp_ge (tgt := 79) hx hb dX4_find_53 (by decide +kernel) (fun c_6 => ?_) (fun c_6 => ?_)
      · have nc_6 : 6 ≤ jl := (nI_leI (a := 6) (b := jl) (by omega) (by omega)).mp c_6
        exact W.vret hx hb hr (fun t ht hW => ⟨⟨(jz, jb, jd, je), rfl, (by dsimp only; omega), by rw [ht]; exact hP.sub [0, 1, 2, 3, 4, 5, 6, 7, 8] rfl, hDA (hD.sub [0, 1, 2, 3, 4, 5, 6, 7, 8] (by decide +kernel) rfl)⟩, hS.F ht⟩) hS.2.2 dX4_find_79
      · have nc_6 : ¬ (6 ≤ jl) := fun h => c_6 ((nI_leI (a := 6) (b := jl) (by omega) (by omega)).mpr h)
        refine lv_aload_n hx hb dX4_find_56 rfl (lv_at hl 1 rfl) ?_
        refine va_get (D := D) (ci := 4) (v := .int (nI jz)) (C := RX4) (T := TX4) (N := 4) hx hb hts iw_X4_find_4 hown hC.1 hP 0 rfl rfl 2 (by decide +kernel) (hts (.fieldLink RX4 18 "FairWheel$Risk" "size" "I") (by decide +kernel)) (fun _ h9 => h9) rfl dX4_find_57 ?_
        refine lv_if_ne (tgt := 79) hx hb dX4_find_60 (by decide +kernel) (fun c_7 => ?_) (fun c_7 => ?_)
        · have nc_7 : ¬ (jz = 0) := fun h => c_7 ((nI_eq (a := jz) (b := 0) (by omega) (by omega)).mpr h)
          exact W.vret hx hb hr (fun t ht hW => ⟨⟨(jz, jb, jd, je), rfl, (by dsimp only; omega), by rw [ht]; exact hP.sub [0, 1, 2, 3, 4, 5, 6, 7, 8] rfl, hDA (hD.sub [0, 1, 2, 3, 4, 5, 6, 7, 8] (by decide +kernel) rfl)⟩, hS.F ht⟩) hS.2.2 dX4_find_79
        · have nc_7 : jz = 0 := (nI_eq (a := jz) (b := 0) (by omega) (by omega)).mp c_7
          refine lv_aload_n hx hb dX4_find_63 rfl (lv_at hl 1 rfl) ?_
          refine lv_iload_n hx hb dX4_find_64 rfl (lv_at hl 0 rfl) ?_
          refine kc_v (wr := [(e3, .inl (ca 1, 6, .inl je)), (pl, .inr (2, [.int (nI kc), .int (nI kl), .int xb, .int (nI kn), .int (nI ko), .ref p5, .ref p6, .ref p7, .ref p8, .ref p9, .ref p10, .ref p11, .ref p12, .ref p13])), (p10, .inl (ca 1, 10, .inl fp10)), (p11, .inl (ca 1, 10, .inl fp11)), (p12, .inl (ca 1, 90, .inl fp12)), (p13, .inl (ca 1, 90, .inl fp13))]) (va_runV (As := [.int (nI jl)]) (rest := []) ⟨hx, hb, hml, hown, hts⟩ (s_X4_measure l D ca H.size h0 e1 e2 e3 jz jb jd (nI jl)) (cwV 1 hts gX4_find_X4_measure rfl rfl rfl (by decide +kernel) ⟨(Nat.le_of_ble_eq_true rfl), (Nat.le_of_ble_eq_true rfl)⟩) (PC.preV (ci := 4) hC hP hD [0, 1, 2] rfl (by decide +kernel) rfl rfl) rfl rfl hl.1 rfl (lv_room (Nat.le_of_ble_eq_true rfl)) dX4_find_65 ⟨(Nat.le_of_ble_eq_true rfl), (Nat.le_of_ble_eq_true rfl)⟩) hP hD hS hA [0, 1, 2] [3, 4, 5, 6, 7, 8] rfl rfl (by decide +kernel) (by decide +kernel) (fun u_9 H locs hw_8 hP hD hS => ?_)
          obtain ⟨f_10, rfl⟩ : ∃ z, z = u_9 := ⟨_, rfl⟩
          have hP : va_P D vwCl [(e3, .inl (ca 1, 6, .inl je)), (pl, .inr (2, [.int (nI kc), .int (nI kl), .int xb, .int (nI kn), .int (nI ko), .ref p5, .ref p6, .ref p7, .ref p8, .ref p9, .ref p10, .ref p11, .ref p12, .ref p13])), (p10, .inl (ca 1, 10, .inl fp10)), (p11, .inl (ca 1, 10, .inl fp11)), (p12, .inl (ca 1, 90, .inl fp12)), (p13, .inl (ca 1, 90, .inl fp13)), (h0, .inr (4, [.ref e1, .ref e2, .int (nI jz), .ref e3])), (e1, .inl (ca 1, 6, .inl jb)), (e2, .inl (ca 1, 6, .inl f_10))] H := hP
          have hD : va_D A [(e3, .inl (ca 1, 6, .inl je)), (pl, .inr (2, [.int (nI kc), .int (nI kl), .int xb, .int (nI kn), .int (nI ko), .ref p5, .ref p6, .ref p7, .ref p8, .ref p9, .ref p10, .ref p11, .ref p12, .ref p13])), (p10, .inl (ca 1, 10, .inl fp10)), (p11, .inl (ca 1, 10, .inl fp11)), (p12, .inl (ca 1, 90, .inl fp12)), (p13, .inl (ca 1, 90, .inl fp13)), (h0, .inr (4, [.ref e1, .ref e2, .int (nI jz), .ref e3])), (e1, .inl (ca 1, 6, .inl jb)), (e2, .inl (ca 1, 6, .inl f_10))] := hD
          refine lv_aload_n hx hb dX4_find_68 rfl (lv_at hl 1 rfl) ?_
          refine lv_iload_n hx hb dX4_find_69 rfl (lv_at hl 0 rfl) ?_
          refine kc_v (wr := [(pl, .inr (2, [.int (nI kc), .int (nI kl), .int xb, .int (nI kn), .int (nI ko), .ref p5, .ref p6, .ref p7, .ref p8, .ref p9, .ref p10, .ref p11, .ref p12, .ref p13])), (p10, .inl (ca 1, 10, .inl fp10)), (p11, .inl (ca 1, 10, .inl fp11)), (p12, .inl (ca 1, 90, .inl fp12)), (p13, .inl (ca 1, 90, .inl fp13))]) (va_runV (As := [.int (nI jl)]) (rest := []) ⟨hx, hb, hml, hown, hts⟩ (s_X4_goRound l D ca H.size h0 e1 e2 e3 jz jb f_10 je jl (by omega) (by omega)) (cwV 1 hts gX4_find_X4_goRound rfl rfl rfl (by decide +kernel) ⟨(Nat.le_of_ble_eq_true rfl), (Nat.le_of_ble_eq_true rfl)⟩) (PC.preV (ci := 4) hC hP hD [6, 7, 8, 0] rfl (by decide +kernel) rfl rfl) rfl rfl hl.1 rfl (lv_room (Nat.le_of_ble_eq_true rfl)) dX4_find_70 ⟨(Nat.le_of_ble_eq_true rfl), (Nat.le_of_ble_eq_true rfl)⟩) hP hD hS hA [6, 7, 8, 0] [1, 2, 3, 4, 5] rfl rfl (by decide +kernel) (by decide +kernel) (fun u_12 H locs hw_11 hP hD hS => ?_)
          obtain ⟨k_13, f_14⟩ := u_12
          have hu_15 := hw_11
          have hP : va_P D vwCl [(pl, .inr (2, [.int (nI kc), .int (nI kl), .int xb, .int (nI kn), .int (nI ko), .ref p5, .ref p6, .ref p7, .ref p8, .ref p9, .ref p10, .ref p11, .ref p12, .ref p13])), (p10, .inl (ca 1, 10, .inl fp10)), (p11, .inl (ca 1, 10, .inl fp11)), (p12, .inl (ca 1, 90, .inl fp12)), (p13, .inl (ca 1, 90, .inl fp13)), (h0, .inr (4, [.ref e1, .ref e2, .int (nI k_13), .ref e3])), (e1, .inl (ca 1, 6, .inl jb)), (e2, .inl (ca 1, 6, .inl f_10)), (e3, .inl (ca 1, 6, .inl f_14))] H := hP
          have hD : va_D A [(pl, .inr (2, [.int (nI kc), .int (nI kl), .int xb, .int (nI kn), .int (nI ko), .ref p5, .ref p6, .ref p7, .ref p8, .ref p9, .ref p10, .ref p11, .ref p12, .ref p13])), (p10, .inl (ca 1, 10, .inl fp10)), (p11, .inl (ca 1, 10, .inl fp11)), (p12, .inl (ca 1, 90, .inl fp12)), (p13, .inl (ca 1, 90, .inl fp13)), (h0, .inr (4, [.ref e1, .ref e2, .int (nI k_13), .ref e3])), (e1, .inl (ca 1, 6, .inl jb)), (e2, .inl (ca 1, 6, .inl f_10)), (e3, .inl (ca 1, 6, .inl f_14))] := hD
          refine lv_iinc (v := nI (jl + 1)) (lv' := [(2, .int (nI (jl + 1))), (0, .ref h0), (1, .ref pl)]) hx hb dX4_find_73 hl (k := 0) rfl (nI_1 _) (by decide +kernel) rfl (fun ls hl => ?_)
          refine lv_goto (tgt := 50) hx hb dX4_find_76 (by decide +kernel) ?_
          exact ih_5 _ _ _ ⟨k_13, (jl + 1), f_10, f_14, (by omega), (by omega), (by omega), lv_sub hl [0, 1, 2] rfl, (hP.sub [5, 6, 7, 8, 0, 1, 2, 3, 4] rfl), (hD.sub [5, 6, 7, 8, 0, 1, 2, 3, 4] (by decide +kernel) rfl), hS⟩
    · have nc_4 : ¬ (kn ≤ jo) := fun h => c_4 ((nI_leI (a := kn) (b := jo) (by omega) (by omega)).mpr h)
      refine lv_aload_n hx hb dX4_find_36 rfl (lv_at hl 1 rfl) ?_
      refine lv_aload_n hx hb dX4_find_37 rfl (lv_at hl 2 rfl) ?_
      refine lv_iload_n hx hb dX4_find_38 rfl (lv_at hl 0 rfl) ?_
      refine kc_v (wr := [(e2, .inl (ca 1, 6, .inl fe2)), (e3, .inl (ca 1, 6, .inl fe3))]) (va_runV (As := [.ref pl, .int (nI jo)]) (rest := []) ⟨hx, hb, hml, hown, hts⟩ (s_X4_goThrough l D ca H.size h0 e1 e2 e3 0 jb pl p5 p6 p7 p8 p9 p10 p11 p12 p13 kc kl kn ko xb fp10 fp11 fp12 fp13 jo (by omega)) (cwV 2 hts gX4_find_X4_goThrough rfl rfl rfl (by decide +kernel) ⟨(Nat.le_of_ble_eq_true rfl), (Nat.le_of_ble_eq_true rfl)⟩) (PC.preV (ci := 4) hC hP hD [0, 1, 4, 5, 6, 7, 8] rfl (by decide +kernel) rfl rfl) rfl rfl hl.1 rfl (lv_room (Nat.le_of_ble_eq_true rfl)) dX4_find_39 ⟨(Nat.le_of_ble_eq_true rfl), (Nat.le_of_ble_eq_true rfl)⟩) hP hD hS hA [0, 1, 4, 5, 6, 7, 8] [2, 3] rfl rfl (by decide +kernel) (by decide +kernel) (fun u_17 H locs hw_16 hP hD hS => ?_)
      obtain ⟨f_18, rfl⟩ : ∃ z, z = u_17 := ⟨_, rfl⟩
      have hP : va_P D vwCl [(e2, .inl (ca 1, 6, .inl fe2)), (e3, .inl (ca 1, 6, .inl fe3)), (h0, .inr (4, [.ref e1, .ref e2, .int (nI 0), .ref e3])), (e1, .inl (ca 1, 6, .inl f_18)), (pl, .inr (2, [.int (nI kc), .int (nI kl), .int xb, .int (nI kn), .int (nI ko), .ref p5, .ref p6, .ref p7, .ref p8, .ref p9, .ref p10, .ref p11, .ref p12, .ref p13])), (p10, .inl (ca 1, 10, .inl fp10)), (p11, .inl (ca 1, 10, .inl fp11)), (p12, .inl (ca 1, 90, .inl fp12)), (p13, .inl (ca 1, 90, .inl fp13))] H := hP
      have hD : va_D A [(e2, .inl (ca 1, 6, .inl fe2)), (e3, .inl (ca 1, 6, .inl fe3)), (h0, .inr (4, [.ref e1, .ref e2, .int (nI 0), .ref e3])), (e1, .inl (ca 1, 6, .inl f_18)), (pl, .inr (2, [.int (nI kc), .int (nI kl), .int xb, .int (nI kn), .int (nI ko), .ref p5, .ref p6, .ref p7, .ref p8, .ref p9, .ref p10, .ref p11, .ref p12, .ref p13])), (p10, .inl (ca 1, 10, .inl fp10)), (p11, .inl (ca 1, 10, .inl fp11)), (p12, .inl (ca 1, 90, .inl fp12)), (p13, .inl (ca 1, 90, .inl fp13))] := hD
      refine lv_iinc (v := nI (jo + 1)) (lv' := [(2, .int (nI (jo + 1))), (0, .ref h0), (1, .ref pl)]) hx hb dX4_find_42 hl (k := 0) rfl (nI_1 _) (by decide +kernel) rfl (fun ls hl => ?_)
      refine lv_goto (tgt := 28) hx hb dX4_find_45 (by decide +kernel) ?_
      exact ih_3 _ _ _ ⟨(jo + 1), f_18, (by omega), (by omega), lv_sub hl [0, 1, 2] rfl, (hP.sub [2, 3, 0, 1, 4, 5, 6, 7, 8] rfl), (hD.sub [2, 3, 0, 1, 4, 5, 6, 7, 8] (by decide +kernel) rfl), hS⟩
  · have nc_2 : ¬ (6 ≤ ji) := fun h => c_2 ((nI_leI (a := 6) (b := ji) (by omega) (by omega)).mpr h)
    refine lv_aload_n hx hb dX4_find_13 rfl (lv_at hl 1 rfl) ?_
    refine va_get (D := D) (ci := 4) (v := .ref e1) (C := RX4) (T := TX4) (N := 4) hx hb hts iw_X4_find_4 hown hC.1 hP 0 rfl rfl 0 (by decide +kernel) (hts (.fieldLink RX4 9 "FairWheel$Risk" "behind" "[I") (by decide +kernel)) (fun _ h9 => h9) rfl dX4_find_14 ?_
    refine lv_iload_n hx hb dX4_find_17 rfl (lv_at hl 0 rfl) ?_
    refine lv_iconst (v := 0) hx hb dX4_find_18 (by decide +kernel) ?_
    refine ka_iast hx hb hC.1 hP hD hS 1 1 rfl rfl ji rfl (by omega) (by decide +kernel) dX4_find_19 (fun H locs hP hD hS => ?_)
    have hP : va_P D vwCl [(h0, .inr (4, [.ref e1, .ref e2, .int 0, .ref e3])), (e1, .inl (ca 1, 6, .inl (upd ja ji 0))), (e2, .inl (ca 1, 6, .inl fe2)), (e3, .inl (ca 1, 6, .inl fe3)), (pl, .inr (2, [.int (nI kc), .int (nI kl), .int xb, .int (nI kn), .int (nI ko), .ref p5, .ref p6, .ref p7, .ref p8, .ref p9, .ref p10, .ref p11, .ref p12, .ref p13])), (p10, .inl (ca 1, 10, .inl fp10)), (p11, .inl (ca 1, 10, .inl fp11)), (p12, .inl (ca 1, 90, .inl fp12)), (p13, .inl (ca 1, 90, .inl fp13))] H := hP
    have hD : va_D A [(h0, .inr (4, [.ref e1, .ref e2, .int 0, .ref e3])), (e1, .inl (ca 1, 6, .inl (upd ja ji 0))), (e2, .inl (ca 1, 6, .inl fe2)), (e3, .inl (ca 1, 6, .inl fe3)), (pl, .inr (2, [.int (nI kc), .int (nI kl), .int xb, .int (nI kn), .int (nI ko), .ref p5, .ref p6, .ref p7, .ref p8, .ref p9, .ref p10, .ref p11, .ref p12, .ref p13])), (p10, .inl (ca 1, 10, .inl fp10)), (p11, .inl (ca 1, 10, .inl fp11)), (p12, .inl (ca 1, 90, .inl fp12)), (p13, .inl (ca 1, 90, .inl fp13))] := hD
    generalize (upd ja ji 0) = f_19 at hP hD
    refine lv_iinc (v := nI (ji + 1)) (lv' := [(2, .int (nI (ji + 1))), (0, .ref h0), (1, .ref pl)]) hx hb dX4_find_20 hl (k := 0) rfl (nI_1 _) (by decide +kernel) rfl (fun ls hl => ?_)
    refine lv_goto (tgt := 7) hx hb dX4_find_23 (by decide +kernel) ?_
    exact ih_1 _ _ _ ⟨(ji + 1), f_19, (by omega), (by omega), lv_sub hl [0, 1, 2] rfl, hP, hD, hS⟩
set_option maxHeartbeats 4000000 in
set_option maxRecDepth 100000 in
theorem s_X10_commonPart (l : Launch) (D : va_G) (ca : Nat → ClassId) (sz : Nat) (xa : Int64) (xb : Int64) : Met l yX10_commonPart wsX10_commonPart ({ frames := 0, cells := 0, slots := 0, locals := 0 }) (PC [.long xa, .long xb] sz D ca []) (QL (fun (r : Int64) (u : Unit) => True) (fun (_ : Unit) => []) [] sz D) 0 0 (va_A [] sz) := by
  refine Met.ofW (cc := cX10_commonPart) (maxL := 11) (ret := (some .long)) (by decide +kernel) rfl ?_
  intro p e s m args below meth c s₁ B hml hv
  obtain ⟨rfl, hsz, hP, hC, hD0⟩ := hv
  have hx := B.exec
  have hb := B.bytes
  have hr := B.returns
  have hts := atoms_spec (ws := wsX10_commonPart) B.pre
  have hown : s.vm.findClass RX10 = some m.cls := findClass_of_methodNamed B.named
  have hlocks := B.notSynchronized
  subst hsz
  have hD := hD0.self (sz := s.heap.size)
  dsimp only [QV, QI, QL, BQ]
  generalize hAe : va_A [] s.heap.size = A at hD ⊢
  have hA : ∀ q : Nat, s.heap.size ≤ q → A q := fun q h => by rw [← hAe]; exact Or.inr h
  have hDA : ∀ {w : va_W}, va_D A w → va_D (va_A [] s.heap.size) w := fun h => by rw [hAe]; exact h
  have hS : va_S A s.heap s.heap [] := va_S.rf
  have hP : va_P D vwCl [] s.heap := hP
  have hl := lv_entry ([.long xa, .long xb]) (n := 11) (Nat.le_of_ble_eq_true rfl)
  rw [lg_entry_eq]
  generalize (lg_sl ([.long xa, .long xb]) ++ List.replicate (11 - (lg_sl ([.long xa, .long xb])).length) Slot.unset).toArray = ls at hl ⊢
  have hl : lv_has ls 11 [(0, .long xa), (2, .long xb)] := hl
  refine lv_lload_n hx hb dX10_commonPart_0 rfl (lv_at hl 0 rfl) ?_
  refine lv_lstore (lv' := [(4, .long xa), (0, .long xa), (2, .long xb)]) hx hb dX10_commonPart_1 hl (by decide +kernel) rfl (fun ls hl => ?_)
  refine lv_lload_n hx hb dX10_commonPart_3 rfl (lv_at hl 2 rfl) ?_
  refine lv_lstore (lv' := [(6, .long xb), (4, .long xa), (0, .long xa), (2, .long xb)]) hx hb dX10_commonPart_4 hl (by decide +kernel) rfl (fun ls hl => ?_)
  refine lv_iconst (v := 0) hx hb dX10_commonPart_6 (by decide +kernel) ?_
  refine lv_istore (lv' := [(8, .int 0), (6, .long xb), (4, .long xa), (0, .long xa), (2, .long xb)]) hx hb dX10_commonPart_7 hl (by decide +kernel) rfl (fun ls hl => ?_)
  refine lp_ind (I := fun (n : Nat) H locs ls => ∃ (ji : Nat) (jh : Int64) (jl : Int64), ji ≤ 200 ∧ ji + n = 200 + 1 ∧ lv_has ls 11 [(8, .int (nI ji)), (6, .long jl), (4, .long jh), (0, .long xa), (2, .long xb)] ∧ va_P D vwCl [] H ∧ va_D A [] ∧ va_S A s.heap H locs) (Wf := fun H locs ls => W p l e _ s m _ below meth c H locs _ _ _ (F0 m 9 ls [])) (200 + 1) ⟨0, xa, xb, (by omega), (by omega), hl, hP, hD, hS⟩ ?_ ?_
  · intro H locs ls hI
    obtain ⟨ji, jh, jl, hji, hmji, -⟩ := hI
    omega
  intro n ih_1 H locs ls hI
  obtain ⟨ji, jh, jl, hji, hmji, hl, hP, hD, hS⟩ := hI
  refine lv_iload hx hb dX10_commonPart_9 (lv_at hl 0 rfl) ?_
  refine lv_sipush (v := 200) hx hb dX10_commonPart_11 (by decide +kernel) ?_
  refine lv_icmp_ge (tgt := 45) hx hb dX10_commonPart_14 (by decide +kernel) (fun c_2 => ?_) (fun c_2 => ?_)
  · have nc_2 : 200 ≤ ji := (nI_leI (a := 200) (b := ji) (by omega) (by omega)).mp c_2
    refine lv_lload hx hb dX10_commonPart_45 (lv_at hl 2 rfl) ?_
    exact W.lret (v := jh) hx hb hr (fun t ht hW => ⟨⟨jh, (), rfl, trivial, by rw [ht]; exact hP.sub [] rfl, hDA (hD.sub [] (by decide +kernel) rfl)⟩, hS.F ht⟩) hS.2.2 dX10_commonPart_47
  · have nc_2 : ¬ (200 ≤ ji) := fun h => c_2 ((nI_leI (a := 200) (b := ji) (by omega) (by omega)).mpr h)
    refine lv_lload hx hb dX10_commonPart_17 (lv_at hl 1 rfl) ?_
    refine lv_lconst (v := 0) hx hb dX10_commonPart_19 (by decide +kernel) ?_
    refine W.lcmp hx hb dX10_commonPart_20 ?_
    refine lv_topi (fun y_3 ey_3 => ?_)
    refine lv_if_eq (tgt := 45) hx hb dX10_commonPart_21 (by decide +kernel) (fun c_4 => ?_) (fun c_4 => ?_)
    · refine lv_lload hx hb dX10_commonPart_45 (lv_at hl 2 rfl) ?_
      exact W.lret (v := jh) hx hb hr (fun t ht hW => ⟨⟨jh, (), rfl, trivial, by rw [ht]; exact hP.sub [] rfl, hDA (hD.sub [] (by decide +kernel) rfl)⟩, hS.F ht⟩) hS.2.2 dX10_commonPart_47
    · refine lv_lload hx hb dX10_commonPart_24 (lv_at hl 2 rfl) ?_
      refine lv_lload hx hb dX10_commonPart_26 (lv_at hl 1 rfl) ?_
      refine lv_lrem hx hb dX10_commonPart_28 (lcmp_ne c_4 ey_3) ?_
      refine lv_topl (fun y_5 ey_5 => ?_)
      refine lv_lstore (lv' := [(9, .long y_5), (8, .int (nI ji)), (6, .long jl), (4, .long jh), (0, .long xa), (2, .long xb)]) hx hb dX10_commonPart_29 hl (by decide +kernel) rfl (fun ls hl => ?_)
      refine lv_lload hx hb dX10_commonPart_31 (lv_at hl 2 rfl) ?_
      refine lv_lstore (lv' := [(4, .long jl), (9, .long y_5), (8, .int (nI ji)), (6, .long jl), (0, .long xa), (2, .long xb)]) hx hb dX10_commonPart_33 hl (by decide +kernel) rfl (fun ls hl => ?_)
      refine lv_lload hx hb dX10_commonPart_35 (lv_at hl 1 rfl) ?_
      refine lv_lstore (lv' := [(6, .long y_5), (4, .long jl), (9, .long y_5), (8, .int (nI ji)), (0, .long xa), (2, .long xb)]) hx hb dX10_commonPart_37 hl (by decide +kernel) rfl (fun ls hl => ?_)
      refine lv_iinc (v := nI (ji + 1)) (lv' := [(8, .int (nI (ji + 1))), (6, .long y_5), (4, .long jl), (9, .long y_5), (0, .long xa), (2, .long xb)]) hx hb dX10_commonPart_39 hl (k := 3) rfl (nI_1 _) (by decide +kernel) rfl (fun ls hl => ?_)
      refine lv_goto (tgt := 9) hx hb dX10_commonPart_42 (by decide +kernel) ?_
      exact ih_1 _ _ _ ⟨(ji + 1), jl, y_5, (by omega), (by omega), lv_sub hl [0, 1, 2, 4, 5] rfl, hP, hD, hS⟩
