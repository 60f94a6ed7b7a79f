set_option maxRecDepth 20000 in
theorem ggX11_layBehind_X11_opsOf : GoodIn wsX11_layBehind wsX11_opsOf := goodIn_r _ [16, 17, 2, 18, 19, 20, 21, 22, 23, 24, 25, 26, 27, 28, 29, 30, 31, 32, 33, 34, 35, 36, 37, 38, 39, 40, 41, 42, 43, 44, 45, 46, 47, 48, 49, 50, 51, 52, 53, 54, 55, 56, 57, 58, 59, 60, 61, 62, 63, 64, 65, 66, 67, 68, 69, 70, 71, 72] (by decide +kernel) (by decide +kernel)
set_option maxRecDepth 20000 in
theorem gX11_layBehind_X11_opsOf : GoodIn wsX11_layBehind (wsV RX11 297 RX11 yX11_opsOf wsX11_opsOf) := goodIn_app (goodIn_of _ (by decide +kernel)) ggX11_layBehind_X11_opsOf
set_option maxRecDepth 20000 in
theorem ggX11_layBehind_X11_taskMany : GoodIn wsX11_layBehind wsX11_taskMany := goodIn_r _ [11, 12, 2, 18, 19, 20, 21, 22, 23, 24, 25, 26, 27, 28, 29, 30, 31, 32, 33, 34, 35, 36, 37, 38, 39, 40, 41, 42, 43, 44, 45, 46, 47, 48, 49, 50, 51, 52, 53, 54, 55, 56, 57, 58, 59, 60, 61, 62, 63, 64, 65, 66, 67, 68, 69, 70, 71, 72] (by decide +kernel) (by decide +kernel)
set_option maxRecDepth 20000 in
theorem gX11_layBehind_X11_taskMany : GoodIn wsX11_layBehind (wsV RX11 276 RX11 yX11_taskMany wsX11_taskMany) := goodIn_app (goodIn_of _ (by decide +kernel)) ggX11_layBehind_X11_taskMany
theorem dX11_layBehind_0 : decode cX11_layBehind 0 = .ok (.iconst 0, 1) := by decide +kernel
theorem dX11_layBehind_1 : decode cX11_layBehind 1 = .ok (.istore_n 1, 1) := by decide +kernel
theorem dX11_layBehind_2 : decode cX11_layBehind 2 = .ok (.iload_n 1, 1) := by decide +kernel
theorem dX11_layBehind_3 : decode cX11_layBehind 3 = .ok (.bipush 6, 2) := by decide +kernel
theorem dX11_layBehind_5 : decode cX11_layBehind 5 = .ok (.if_icmp .ge 16, 3) := by decide +kernel
theorem dX11_layBehind_8 : decode cX11_layBehind 8 = .ok (.aload_n 0, 1) := by decide +kernel
theorem dX11_layBehind_9 : decode cX11_layBehind 9 = .ok (.getfield 92, 3) := by decide +kernel
theorem dX11_layBehind_12 : decode cX11_layBehind 12 = .ok (.iload_n 1, 1) := by decide +kernel
theorem dX11_layBehind_13 : decode cX11_layBehind 13 = .ok (.iconst 0, 1) := by decide +kernel
theorem dX11_layBehind_14 : decode cX11_layBehind 14 = .ok (.iastore, 1) := by decide +kernel
theorem dX11_layBehind_15 : decode cX11_layBehind 15 = .ok (.iinc 1 1, 3) := by decide +kernel
theorem dX11_layBehind_18 : decode cX11_layBehind 18 = .ok (.goto (-16), 3) := by decide +kernel
theorem dX11_layBehind_21 : decode cX11_layBehind 21 = .ok (.iconst 0, 1) := by decide +kernel
theorem dX11_layBehind_22 : decode cX11_layBehind 22 = .ok (.istore_n 1, 1) := by decide +kernel
theorem dX11_layBehind_23 : decode cX11_layBehind 23 = .ok (.iload_n 1, 1) := by decide +kernel
theorem dX11_layBehind_24 : decode cX11_layBehind 24 = .ok (.aload_n 0, 1) := by decide +kernel
theorem dX11_layBehind_25 : decode cX11_layBehind 25 = .ok (.invokevirtual 276, 3) := by decide +kernel
theorem dX11_layBehind_28 : decode cX11_layBehind 28 = .ok (.if_icmp .ge 194, 3) := by decide +kernel
theorem dX11_layBehind_31 : decode cX11_layBehind 31 = .ok (.iconst 0, 1) := by decide +kernel
theorem dX11_layBehind_32 : decode cX11_layBehind 32 = .ok (.istore_n 2, 1) := by decide +kernel
theorem dX11_layBehind_33 : decode cX11_layBehind 33 = .ok (.iconst 1, 1) := by decide +kernel
theorem dX11_layBehind_34 : decode cX11_layBehind 34 = .ok (.istore_n 3, 1) := by decide +kernel
theorem dX11_layBehind_35 : decode cX11_layBehind 35 = .ok (.iconst 0, 1) := by decide +kernel
theorem dX11_layBehind_36 : decode cX11_layBehind 36 = .ok (.istore 4, 2) := by decide +kernel
theorem dX11_layBehind_38 : decode cX11_layBehind 38 = .ok (.iload 4, 2) := by decide +kernel
theorem dX11_layBehind_40 : decode cX11_layBehind 40 = .ok (.aload_n 0, 1) := by decide +kernel
theorem dX11_layBehind_41 : decode cX11_layBehind 41 = .ok (.iload_n 1, 1) := by decide +kernel
theorem dX11_layBehind_42 : decode cX11_layBehind 42 = .ok (.invokevirtual 297, 3) := by decide +kernel
theorem dX11_layBehind_45 : decode cX11_layBehind 45 = .ok (.if_icmp .ge 171, 3) := by decide +kernel
theorem dX11_layBehind_48 : decode cX11_layBehind 48 = .ok (.iload_n 3, 1) := by decide +kernel
theorem dX11_layBehind_49 : decode cX11_layBehind 49 = .ok (.ifCond .eq 167, 3) := by decide +kernel
theorem dX11_layBehind_52 : decode cX11_layBehind 52 = .ok (.bipush 90, 2) := by decide +kernel
theorem dX11_layBehind_54 : decode cX11_layBehind 54 = .ok (.aload_n 0, 1) := by decide +kernel
theorem dX11_layBehind_55 : decode cX11_layBehind 55 = .ok (.getfield 244, 3) := by decide +kernel
theorem dX11_layBehind_58 : decode cX11_layBehind 58 = .ok (.imul, 1) := by decide +kernel
theorem dX11_layBehind_59 : decode cX11_layBehind 59 = .ok (.aload_n 0, 1) := by decide +kernel
theorem dX11_layBehind_60 : decode cX11_layBehind 60 = .ok (.getfield 54, 3) := by decide +kernel
theorem dX11_layBehind_63 : decode cX11_layBehind 63 = .ok (.bipush 10, 2) := by decide +kernel
theorem dX11_layBehind_65 : decode cX11_layBehind 65 = .ok (.aload_n 0, 1) := by decide +kernel
theorem dX11_layBehind_66 : decode cX11_layBehind 66 = .ok (.getfield 244, 3) := by decide +kernel
theorem dX11_layBehind_69 : decode cX11_layBehind 69 = .ok (.imul, 1) := by decide +kernel
theorem dX11_layBehind_70 : decode cX11_layBehind 70 = .ok (.iload_n 1, 1) := by decide +kernel
theorem dX11_layBehind_71 : decode cX11_layBehind 71 = .ok (.iadd, 1) := by decide +kernel
theorem dX11_layBehind_72 : decode cX11_layBehind 72 = .ok (.iaload, 1) := by decide +kernel
theorem dX11_layBehind_73 : decode cX11_layBehind 73 = .ok (.iadd, 1) := by decide +kernel
theorem dX11_layBehind_74 : decode cX11_layBehind 74 = .ok (.iload 4, 2) := by decide +kernel
theorem dX11_layBehind_76 : decode cX11_layBehind 76 = .ok (.iadd, 1) := by decide +kernel
theorem dX11_layBehind_77 : decode cX11_layBehind 77 = .ok (.istore 5, 2) := by decide +kernel
theorem dX11_layBehind_79 : decode cX11_layBehind 79 = .ok (.aload_n 0, 1) := by decide +kernel
theorem dX11_layBehind_80 : decode cX11_layBehind 80 = .ok (.getfield 39, 3) := by decide +kernel
theorem dX11_layBehind_83 : decode cX11_layBehind 83 = .ok (.iload 5, 2) := by decide +kernel
theorem dX11_layBehind_85 : decode cX11_layBehind 85 = .ok (.iaload, 1) := by decide +kernel
theorem dX11_layBehind_86 : decode cX11_layBehind 86 = .ok (.istore 6, 2) := by decide +kernel
theorem dX11_layBehind_88 : decode cX11_layBehind 88 = .ok (.aload_n 0, 1) := by decide +kernel
theorem dX11_layBehind_89 : decode cX11_layBehind 89 = .ok (.getfield 36, 3) := by decide +kernel
theorem dX11_layBehind_92 : decode cX11_layBehind 92 = .ok (.iload 5, 2) := by decide +kernel
theorem dX11_layBehind_94 : decode cX11_layBehind 94 = .ok (.iaload, 1) := by decide +kernel
theorem dX11_layBehind_95 : decode cX11_layBehind 95 = .ok (.iconst 1, 1) := by decide +kernel
theorem dX11_layBehind_96 : decode cX11_layBehind 96 = .ok (.if_icmp .ne 87, 3) := by decide +kernel
theorem dX11_layBehind_99 : decode cX11_layBehind 99 = .ok (.iload 6, 2) := by decide +kernel
theorem dX11_layBehind_101 : decode cX11_layBehind 101 = .ok (.aload_n 0, 1) := by decide +kernel
theorem dX11_layBehind_102 : decode cX11_layBehind 102 = .ok (.getfield 24, 3) := by decide +kernel
theorem dX11_layBehind_105 : decode cX11_layBehind 105 = .ok (.aload_n 0, 1) := by decide +kernel
theorem dX11_layBehind_106 : decode cX11_layBehind 106 = .ok (.getfield 244, 3) := by decide +kernel
theorem dX11_layBehind_109 : decode cX11_layBehind 109 = .ok (.iaload, 1) := by decide +kernel
theorem dX11_layBehind_110 : decode cX11_layBehind 110 = .ok (.if_icmp .ge 16, 3) := by decide +kernel
theorem dX11_layBehind_113 : decode cX11_layBehind 113 = .ok (.iload_n 2, 1) := by decide +kernel
theorem dX11_layBehind_114 : decode cX11_layBehind 114 = .ok (.iload 6, 2) := by decide +kernel
theorem dX11_layBehind_116 : decode cX11_layBehind 116 = .ok (.ishr, 1) := by decide +kernel
theorem dX11_layBehind_117 : decode cX11_layBehind 117 = .ok (.iconst 1, 1) := by decide +kernel
theorem dX11_layBehind_118 : decode cX11_layBehind 118 = .ok (.iand, 1) := by decide +kernel
theorem dX11_layBehind_119 : decode cX11_layBehind 119 = .ok (.ifCond .ne 7, 3) := by decide +kernel
theorem dX11_layBehind_122 : decode cX11_layBehind 122 = .ok (.iconst 1, 1) := by decide +kernel
theorem dX11_layBehind_123 : decode cX11_layBehind 123 = .ok (.goto 4, 3) := by decide +kernel
theorem dX11_layBehind_126 : decode cX11_layBehind 126 = .ok (.iconst 0, 1) := by decide +kernel
theorem dX11_layBehind_127 : decode cX11_layBehind 127 = .ok (.istore_n 3, 1) := by decide +kernel
theorem dX11_layBehind_128 : decode cX11_layBehind 128 = .ok (.iconst 0, 1) := by decide +kernel
theorem dX11_layBehind_129 : decode cX11_layBehind 129 = .ok (.istore 7, 2) := by decide +kernel
theorem dX11_layBehind_131 : decode cX11_layBehind 131 = .ok (.iload 7, 2) := by decide +kernel
theorem dX11_layBehind_133 : decode cX11_layBehind 133 = .ok (.bipush 6, 2) := by decide +kernel
theorem dX11_layBehind_135 : decode cX11_layBehind 135 = .ok (.if_icmp .ge 37, 3) := by decide +kernel
theorem dX11_layBehind_138 : decode cX11_layBehind 138 = .ok (.iload_n 3, 1) := by decide +kernel
theorem dX11_layBehind_139 : decode cX11_layBehind 139 = .ok (.ifCond .eq 33, 3) := by decide +kernel
theorem dX11_layBehind_142 : decode cX11_layBehind 142 = .ok (.iload_n 2, 1) := by decide +kernel
theorem dX11_layBehind_143 : decode cX11_layBehind 143 = .ok (.iload 7, 2) := by decide +kernel
theorem dX11_layBehind_145 : decode cX11_layBehind 145 = .ok (.ishr, 1) := by decide +kernel
theorem dX11_layBehind_146 : decode cX11_layBehind 146 = .ok (.iconst 1, 1) := by decide +kernel
theorem dX11_layBehind_147 : decode cX11_layBehind 147 = .ok (.iand, 1) := by decide +kernel
theorem dX11_layBehind_148 : decode cX11_layBehind 148 = .ok (.iconst 1, 1) := by decide +kernel
theorem dX11_layBehind_149 : decode cX11_layBehind 149 = .ok (.if_icmp .ne 17, 3) := by decide +kernel
theorem dX11_layBehind_152 : decode cX11_layBehind 152 = .ok (.aload_n 0, 1) := by decide +kernel
theorem dX11_layBehind_153 : decode cX11_layBehind 153 = .ok (.getfield 92, 3) := by decide +kernel
theorem dX11_layBehind_156 : decode cX11_layBehind 156 = .ok (.iload 7, 2) := by decide +kernel
theorem dX11_layBehind_158 : decode cX11_layBehind 158 = .ok (.dup2, 1) := by decide +kernel
theorem dX11_layBehind_159 : decode cX11_layBehind 159 = .ok (.iaload, 1) := by decide +kernel
theorem dX11_layBehind_160 : decode cX11_layBehind 160 = .ok (.iconst 1, 1) := by decide +kernel
theorem dX11_layBehind_161 : decode cX11_layBehind 161 = .ok (.iload 6, 2) := by decide +kernel
theorem dX11_layBehind_163 : decode cX11_layBehind 163 = .ok (.ishl, 1) := by decide +kernel
theorem dX11_layBehind_164 : decode cX11_layBehind 164 = .ok (.ior, 1) := by decide +kernel
theorem dX11_layBehind_165 : decode cX11_layBehind 165 = .ok (.iastore, 1) := by decide +kernel
theorem dX11_layBehind_166 : decode cX11_layBehind 166 = .ok (.iinc 7 1, 3) := by decide +kernel
theorem dX11_layBehind_169 : decode cX11_layBehind 169 = .ok (.goto (-38), 3) := by decide +kernel
theorem dX11_layBehind_172 : decode cX11_layBehind 172 = .ok (.iload_n 3, 1) := by decide +kernel
theorem dX11_layBehind_173 : decode cX11_layBehind 173 = .ok (.ifCond .eq 10, 3) := by decide +kernel
theorem dX11_layBehind_176 : decode cX11_layBehind 176 = .ok (.iload_n 2, 1) := by decide +kernel
theorem dX11_layBehind_177 : decode cX11_layBehind 177 = .ok (.iconst 1, 1) := by decide +kernel
theorem dX11_layBehind_178 : decode cX11_layBehind 178 = .ok (.iload 6, 2) := by decide +kernel
theorem dX11_layBehind_180 : decode cX11_layBehind 180 = .ok (.ishl, 1) := by decide +kernel
theorem dX11_layBehind_181 : decode cX11_layBehind 181 = .ok (.ior, 1) := by decide +kernel
theorem dX11_layBehind_182 : decode cX11_layBehind 182 = .ok (.istore_n 2, 1) := by decide +kernel
theorem dX11_layBehind_183 : decode cX11_layBehind 183 = .ok (.aload_n 0, 1) := by decide +kernel
theorem dX11_layBehind_184 : decode cX11_layBehind 184 = .ok (.getfield 36, 3) := by decide +kernel
theorem dX11_layBehind_187 : decode cX11_layBehind 187 = .ok (.iload 5, 2) := by decide +kernel
theorem dX11_layBehind_189 : decode cX11_layBehind 189 = .ok (.iaload, 1) := by decide +kernel
theorem dX11_layBehind_190 : decode cX11_layBehind 190 = .ok (.iconst 2, 1) := by decide +kernel
theorem dX11_layBehind_191 : decode cX11_layBehind 191 = .ok (.if_icmp .ne 19, 3) := by decide +kernel
theorem dX11_layBehind_194 : decode cX11_layBehind 194 = .ok (.iload 6, 2) := by decide +kernel
theorem dX11_layBehind_196 : decode cX11_layBehind 196 = .ok (.bipush 6, 2) := by decide +kernel
theorem dX11_layBehind_198 : decode cX11_layBehind 198 = .ok (.if_icmp .ge 12, 3) := by decide +kernel
theorem dX11_layBehind_201 : decode cX11_layBehind 201 = .ok (.iload_n 2, 1) := by decide +kernel
theorem dX11_layBehind_202 : decode cX11_layBehind 202 = .ok (.iconst 1, 1) := by decide +kernel
theorem dX11_layBehind_203 : decode cX11_layBehind 203 = .ok (.iload 6, 2) := by decide +kernel
theorem dX11_layBehind_205 : decode cX11_layBehind 205 = .ok (.ishl, 1) := by decide +kernel
theorem dX11_layBehind_206 : decode cX11_layBehind 206 = .ok (.iconst (-1), 1) := by decide +kernel
theorem dX11_layBehind_207 : decode cX11_layBehind 207 = .ok (.ixor, 1) := by decide +kernel
theorem dX11_layBehind_208 : decode cX11_layBehind 208 = .ok (.iand, 1) := by decide +kernel
theorem dX11_layBehind_209 : decode cX11_layBehind 209 = .ok (.istore_n 2, 1) := by decide +kernel
theorem dX11_layBehind_210 : decode cX11_layBehind 210 = .ok (.iinc 4 1, 3) := by decide +kernel
theorem dX11_layBehind_213 : decode cX11_layBehind 213 = .ok (.goto (-175), 3) := by decide +kernel
theorem dX11_layBehind_216 : decode cX11_layBehind 216 = .ok (.iinc 1 1, 3) := by decide +kernel
theorem dX11_layBehind_219 : decode cX11_layBehind 219 = .ok (.goto (-196), 3) := by decide +kernel
theorem dX11_layBehind_222 : decode cX11_layBehind 222 = .ok (.return_, 1) := by decide +kernel
theorem dX11_findRound_0 : decode cX11_findRound 0 = .ok (.iconst 1, 1) := by decide +kernel
theorem dX11_findRound_1 : decode cX11_findRound 1 = .ok (.istore_n 3, 1) := by decide +kernel
theorem dX11_findRound_2 : decode cX11_findRound 2 = .ok (.aload_n 0, 1) := by decide +kernel
theorem dX11_findRound_3 : decode cX11_findRound 3 = .ok (.getfield 95, 3) := by decide +kernel
theorem dX11_findRound_6 : decode cX11_findRound 6 = .ok (.iconst 0, 1) := by decide +kernel
theorem dX11_findRound_7 : decode cX11_findRound 7 = .ok (.iload_n 1, 1) := by decide +kernel
theorem dX11_findRound_8 : decode cX11_findRound 8 = .ok (.iastore, 1) := by decide +kernel
theorem dX11_findRound_9 : decode cX11_findRound 9 = .ok (.aload_n 0, 1) := by decide +kernel
theorem dX11_findRound_10 : decode cX11_findRound 10 = .ok (.getfield 95, 3) := by decide +kernel
theorem dX11_findRound_13 : decode cX11_findRound 13 = .ok (.iconst 1, 1) := by decide +kernel
theorem dX11_findRound_14 : decode cX11_findRound 14 = .ok (.iconst (-1), 1) := by decide +kernel
theorem dX11_findRound_15 : decode cX11_findRound 15 = .ok (.iastore, 1) := by decide +kernel
theorem dX11_findRound_16 : decode cX11_findRound 16 = .ok (.iload_n 2, 1) := by decide +kernel
theorem dX11_findRound_17 : decode cX11_findRound 17 = .ok (.iconst 1, 1) := by decide +kernel
theorem dX11_findRound_18 : decode cX11_findRound 18 = .ok (.if_icmp .ne 23, 3) := by decide +kernel
theorem dX11_findRound_21 : decode cX11_findRound 21 = .ok (.aload_n 0, 1) := by decide +kernel
theorem dX11_findRound_22 : decode cX11_findRound 22 = .ok (.getfield 92, 3) := by decide +kernel
theorem dX11_findRound_25 : decode cX11_findRound 25 = .ok (.iload_n 1, 1) := by decide +kernel
theorem dX11_findRound_26 : decode cX11_findRound 26 = .ok (.iaload, 1) := by decide +kernel
theorem dX11_findRound_27 : decode cX11_findRound 27 = .ok (.iload_n 1, 1) := by decide +kernel
theorem dX11_findRound_28 : decode cX11_findRound 28 = .ok (.ishr, 1) := by decide +kernel
theorem dX11_findRound_29 : decode cX11_findRound 29 = .ok (.iconst 1, 1) := by decide +kernel
theorem dX11_findRound_30 : decode cX11_findRound 30 = .ok (.iand, 1) := by decide +kernel
theorem dX11_findRound_31 : decode cX11_findRound 31 = .ok (.iconst 1, 1) := by decide +kernel
theorem dX11_findRound_32 : decode cX11_findRound 32 = .ok (.if_icmp .ne 7, 3) := by decide +kernel
theorem dX11_findRound_35 : decode cX11_findRound 35 = .ok (.iconst 1, 1) := by decide +kernel
theorem dX11_findRound_36 : decode cX11_findRound 36 = .ok (.goto 4, 3) := by decide +kernel
theorem dX11_findRound_39 : decode cX11_findRound 39 = .ok (.iconst 0, 1) := by decide +kernel
theorem dX11_findRound_40 : decode cX11_findRound 40 = .ok (.ireturn, 1) := by decide +kernel
theorem dX11_findRound_41 : decode cX11_findRound 41 = .ok (.iload_n 3, 1) := by decide +kernel
theorem dX11_findRound_42 : decode cX11_findRound 42 = .ok (.ifCond .le 105, 3) := by decide +kernel
theorem dX11_findRound_45 : decode cX11_findRound 45 = .ok (.aload_n 0, 1) := by decide +kernel
theorem dX11_findRound_46 : decode cX11_findRound 46 = .ok (.getfield 95, 3) := by decide +kernel
theorem dX11_findRound_49 : decode cX11_findRound 49 = .ok (.iload_n 3, 1) := by decide +kernel
theorem dX11_findRound_50 : decode cX11_findRound 50 = .ok (.iaload, 1) := by decide +kernel
theorem dX11_findRound_51 : decode cX11_findRound 51 = .ok (.iconst 1, 1) := by decide +kernel
theorem dX11_findRound_52 : decode cX11_findRound 52 = .ok (.iadd, 1) := by decide +kernel
theorem dX11_findRound_53 : decode cX11_findRound 53 = .ok (.istore 4, 2) := by decide +kernel
theorem dX11_findRound_55 : decode cX11_findRound 55 = .ok (.iload 4, 2) := by decide +kernel
theorem dX11_findRound_57 : decode cX11_findRound 57 = .ok (.bipush 6, 2) := by decide +kernel
theorem dX11_findRound_59 : decode cX11_findRound 59 = .ok (.if_icmp .ge 30, 3) := by decide +kernel
theorem dX11_findRound_62 : decode cX11_findRound 62 = .ok (.aload_n 0, 1) := by decide +kernel
theorem dX11_findRound_63 : decode cX11_findRound 63 = .ok (.getfield 92, 3) := by decide +kernel
theorem dX11_findRound_66 : decode cX11_findRound 66 = .ok (.aload_n 0, 1) := by decide +kernel
theorem dX11_findRound_67 : decode cX11_findRound 67 = .ok (.getfield 95, 3) := by decide +kernel
theorem dX11_findRound_70 : decode cX11_findRound 70 = .ok (.iload_n 3, 1) := by decide +kernel
theorem dX11_findRound_71 : decode cX11_findRound 71 = .ok (.iconst 1, 1) := by decide +kernel
theorem dX11_findRound_72 : decode cX11_findRound 72 = .ok (.isub, 1) := by decide +kernel
theorem dX11_findRound_73 : decode cX11_findRound 73 = .ok (.iaload, 1) := by decide +kernel
theorem dX11_findRound_74 : decode cX11_findRound 74 = .ok (.iaload, 1) := by decide +kernel
theorem dX11_findRound_75 : decode cX11_findRound 75 = .ok (.iload 4, 2) := by decide +kernel
theorem dX11_findRound_77 : decode cX11_findRound 77 = .ok (.ishr, 1) := by decide +kernel
theorem dX11_findRound_78 : decode cX11_findRound 78 = .ok (.iconst 1, 1) := by decide +kernel
theorem dX11_findRound_79 : decode cX11_findRound 79 = .ok (.iand, 1) := by decide +kernel
theorem dX11_findRound_80 : decode cX11_findRound 80 = .ok (.ifCond .ne 9, 3) := by decide +kernel
theorem dX11_findRound_83 : decode cX11_findRound 83 = .ok (.iinc 4 1, 3) := by decide +kernel
theorem dX11_findRound_86 : decode cX11_findRound 86 = .ok (.goto (-31), 3) := by decide +kernel
theorem dX11_findRound_89 : decode cX11_findRound 89 = .ok (.aload_n 0, 1) := by decide +kernel
theorem dX11_findRound_90 : decode cX11_findRound 90 = .ok (.getfield 95, 3) := by decide +kernel
theorem dX11_findRound_93 : decode cX11_findRound 93 = .ok (.iload_n 3, 1) := by decide +kernel
theorem dX11_findRound_94 : decode cX11_findRound 94 = .ok (.iload 4, 2) := by decide +kernel
theorem dX11_findRound_96 : decode cX11_findRound 96 = .ok (.iastore, 1) := by decide +kernel
theorem dX11_findRound_97 : decode cX11_findRound 97 = .ok (.iload 4, 2) := by decide +kernel
theorem dX11_findRound_99 : decode cX11_findRound 99 = .ok (.bipush 6, 2) := by decide +kernel
theorem dX11_findRound_101 : decode cX11_findRound 101 = .ok (.if_icmp .ne 9, 3) := by decide +kernel
theorem dX11_findRound_104 : decode cX11_findRound 104 = .ok (.iinc 3 (-1), 3) := by decide +kernel
theorem dX11_findRound_107 : decode cX11_findRound 107 = .ok (.goto 37, 3) := by decide +kernel
theorem dX11_findRound_110 : decode cX11_findRound 110 = .ok (.iload_n 3, 1) := by decide +kernel
theorem dX11_findRound_111 : decode cX11_findRound 111 = .ok (.iconst 1, 1) := by decide +kernel
theorem dX11_findRound_112 : decode cX11_findRound 112 = .ok (.iadd, 1) := by decide +kernel
theorem dX11_findRound_113 : decode cX11_findRound 113 = .ok (.iload_n 2, 1) := by decide +kernel
theorem dX11_findRound_114 : decode cX11_findRound 114 = .ok (.if_icmp .ne 20, 3) := by decide +kernel
theorem dX11_findRound_117 : decode cX11_findRound 117 = .ok (.aload_n 0, 1) := by decide +kernel
theorem dX11_findRound_118 : decode cX11_findRound 118 = .ok (.getfield 92, 3) := by decide +kernel
theorem dX11_findRound_121 : decode cX11_findRound 121 = .ok (.iload 4, 2) := by decide +kernel
theorem dX11_findRound_123 : decode cX11_findRound 123 = .ok (.iaload, 1) := by decide +kernel
theorem dX11_findRound_124 : decode cX11_findRound 124 = .ok (.iload_n 1, 1) := by decide +kernel
theorem dX11_findRound_125 : decode cX11_findRound 125 = .ok (.ishr, 1) := by decide +kernel
theorem dX11_findRound_126 : decode cX11_findRound 126 = .ok (.iconst 1, 1) := by decide +kernel
theorem dX11_findRound_127 : decode cX11_findRound 127 = .ok (.iand, 1) := by decide +kernel
theorem dX11_findRound_128 : decode cX11_findRound 128 = .ok (.iconst 1, 1) := by decide +kernel
theorem dX11_findRound_129 : decode cX11_findRound 129 = .ok (.if_icmp .ne 15, 3) := by decide +kernel
theorem dX11_findRound_132 : decode cX11_findRound 132 = .ok (.iconst 1, 1) := by decide +kernel
theorem dX11_findRound_133 : decode cX11_findRound 133 = .ok (.ireturn, 1) := by decide +kernel
theorem dX11_findRound_134 : decode cX11_findRound 134 = .ok (.iinc 3 1, 3) := by decide +kernel
theorem dX11_findRound_137 : decode cX11_findRound 137 = .ok (.aload_n 0, 1) := by decide +kernel
theorem dX11_findRound_138 : decode cX11_findRound 138 = .ok (.getfield 95, 3) := by decide +kernel
theorem dX11_findRound_141 : decode cX11_findRound 141 = .ok (.iload_n 3, 1) := by decide +kernel
theorem dX11_findRound_142 : decode cX11_findRound 142 = .ok (.iconst (-1), 1) := by decide +kernel
theorem dX11_findRound_143 : decode cX11_findRound 143 = .ok (.iastore, 1) := by decide +kernel
theorem dX11_findRound_144 : decode cX11_findRound 144 = .ok (.goto (-103), 3) := by decide +kernel
theorem dX11_findRound_147 : decode cX11_findRound 147 = .ok (.iconst 0, 1) := by decide +kernel
theorem dX11_findRound_148 : decode cX11_findRound 148 = .ok (.ireturn, 1) := by decide +kernel
set_option maxRecDepth 20000 in
theorem ggX11_layRisk_X11_findRound : GoodIn wsX11_layRisk wsX11_findRound := goodIn_r _ [28, 3, 9, 29, 30, 31, 32, 33, 34, 35, 36, 37, 38, 39, 40, 41, 42, 43, 44, 45, 46, 47, 48, 49, 50, 51, 52, 53, 54, 55, 56, 57, 58, 59, 60, 61, 62, 63, 64, 65, 66, 67, 68, 69, 70, 71, 72, 73, 74, 75, 76, 77, 78, 79, 80, 81, 82, 83] (by decide +kernel) (by decide +kernel)
set_option maxRecDepth 20000 in
theorem gX11_layRisk_X11_findRound : GoodIn wsX11_layRisk (wsV RX11 386 RX11 yX11_findRound wsX11_findRound) := goodIn_app (goodIn_of _ (by decide +kernel)) ggX11_layRisk_X11_findRound
set_option maxRecDepth 20000 in
theorem ggX11_layRisk_X11_layBehind : GoodIn wsX11_layRisk wsX11_layBehind := goodIn_r _ [8, 9, 10, 11, 12, 13, 14, 15, 16, 17, 7, 18, 19, 20, 21, 22, 23, 24, 29, 30, 31, 32, 33, 34, 35, 36, 37, 38, 39, 40, 41, 42, 43, 44, 45, 46, 47, 48, 49, 50, 51, 52, 53, 54, 55, 56, 57, 58, 59, 60, 61, 62, 63, 64, 65, 66, 67, 68, 69, 70, 71, 72, 73, 74, 75, 76, 77, 78, 79, 80, 81, 82, 83] (by decide +kernel) (by decide +kernel)
set_option maxRecDepth 20000 in
theorem gX11_layRisk_X11_layBehind : GoodIn wsX11_layRisk (wsV RX11 380 RX11 yX11_layBehind wsX11_layBehind) := goodIn_app (goodIn_of _ (by decide +kernel)) ggX11_layRisk_X11_layBehind
theorem dX11_layRisk_0 : decode cX11_layRisk 0 = .ok (.aload_n 0, 1) := by decide +kernel
theorem dX11_layRisk_1 : decode cX11_layRisk 1 = .ok (.invokevirtual 380, 3) := by decide +kernel
theorem dX11_layRisk_4 : decode cX11_layRisk 4 = .ok (.aload_n 0, 1) := by decide +kernel
theorem dX11_layRisk_5 : decode cX11_layRisk 5 = .ok (.iconst 0, 1) := by decide +kernel
theorem dX11_layRisk_6 : decode cX11_layRisk 6 = .ok (.putfield 383, 3) := by decide +kernel
theorem dX11_layRisk_9 : decode cX11_layRisk 9 = .ok (.iconst 0, 1) := by decide +kernel
theorem dX11_layRisk_10 : decode cX11_layRisk 10 = .ok (.istore_n 1, 1) := by decide +kernel
theorem dX11_layRisk_11 : decode cX11_layRisk 11 = .ok (.iload_n 1, 1) := by decide +kernel
theorem dX11_layRisk_12 : decode cX11_layRisk 12 = .ok (.bipush 6, 2) := by decide +kernel
theorem dX11_layRisk_14 : decode cX11_layRisk 14 = .ok (.if_icmp .ge 79, 3) := by decide +kernel
theorem dX11_layRisk_17 : decode cX11_layRisk 17 = .ok (.aload_n 0, 1) := by decide +kernel
theorem dX11_layRisk_18 : decode cX11_layRisk 18 = .ok (.getfield 383, 3) := by decide +kernel
theorem dX11_layRisk_21 : decode cX11_layRisk 21 = .ok (.ifCond .ne 72, 3) := by decide +kernel
theorem dX11_layRisk_24 : decode cX11_layRisk 24 = .ok (.iconst 1, 1) := by decide +kernel
theorem dX11_layRisk_25 : decode cX11_layRisk 25 = .ok (.istore_n 2, 1) := by decide +kernel
theorem dX11_layRisk_26 : decode cX11_layRisk 26 = .ok (.iload_n 2, 1) := by decide +kernel
theorem dX11_layRisk_27 : decode cX11_layRisk 27 = .ok (.bipush 6, 2) := by decide +kernel
theorem dX11_layRisk_29 : decode cX11_layRisk 29 = .ok (.if_icmp .gt 58, 3) := by decide +kernel
theorem dX11_layRisk_32 : decode cX11_layRisk 32 = .ok (.aload_n 0, 1) := by decide +kernel
theorem dX11_layRisk_33 : decode cX11_layRisk 33 = .ok (.getfield 383, 3) := by decide +kernel
theorem dX11_layRisk_36 : decode cX11_layRisk 36 = .ok (.ifCond .ne 51, 3) := by decide +kernel
theorem dX11_layRisk_39 : decode cX11_layRisk 39 = .ok (.aload_n 0, 1) := by decide +kernel
theorem dX11_layRisk_40 : decode cX11_layRisk 40 = .ok (.iload_n 1, 1) := by decide +kernel
theorem dX11_layRisk_41 : decode cX11_layRisk 41 = .ok (.iload_n 2, 1) := by decide +kernel
theorem dX11_layRisk_42 : decode cX11_layRisk 42 = .ok (.invokevirtual 386, 3) := by decide +kernel
theorem dX11_layRisk_45 : decode cX11_layRisk 45 = .ok (.ifCond .ne 6, 3) := by decide +kernel
theorem dX11_layRisk_48 : decode cX11_layRisk 48 = .ok (.goto 33, 3) := by decide +kernel
theorem dX11_layRisk_51 : decode cX11_layRisk 51 = .ok (.aload_n 0, 1) := by decide +kernel
theorem dX11_layRisk_52 : decode cX11_layRisk 52 = .ok (.iload_n 2, 1) := by decide +kernel
theorem dX11_layRisk_53 : decode cX11_layRisk 53 = .ok (.putfield 383, 3) := by decide +kernel
theorem dX11_layRisk_56 : decode cX11_layRisk 56 = .ok (.iconst 0, 1) := by decide +kernel
theorem dX11_layRisk_57 : decode cX11_layRisk 57 = .ok (.istore_n 3, 1) := by decide +kernel
theorem dX11_layRisk_58 : decode cX11_layRisk 58 = .ok (.iload_n 3, 1) := by decide +kernel
theorem dX11_layRisk_59 : decode cX11_layRisk 59 = .ok (.iload_n 2, 1) := by decide +kernel
theorem dX11_layRisk_60 : decode cX11_layRisk 60 = .ok (.if_icmp .ge 21, 3) := by decide +kernel
theorem dX11_layRisk_63 : decode cX11_layRisk 63 = .ok (.aload_n 0, 1) := by decide +kernel
theorem dX11_layRisk_64 : decode cX11_layRisk 64 = .ok (.getfield 98, 3) := by decide +kernel
theorem dX11_layRisk_67 : decode cX11_layRisk 67 = .ok (.iload_n 3, 1) := by decide +kernel
theorem dX11_layRisk_68 : decode cX11_layRisk 68 = .ok (.aload_n 0, 1) := by decide +kernel
theorem dX11_layRisk_69 : decode cX11_layRisk 69 = .ok (.getfield 95, 3) := by decide +kernel
theorem dX11_layRisk_72 : decode cX11_layRisk 72 = .ok (.iload_n 3, 1) := by decide +kernel
theorem dX11_layRisk_73 : decode cX11_layRisk 73 = .ok (.iaload, 1) := by decide +kernel
theorem dX11_layRisk_74 : decode cX11_layRisk 74 = .ok (.iastore, 1) := by decide +kernel
theorem dX11_layRisk_75 : decode cX11_layRisk 75 = .ok (.iinc 3 1, 3) := by decide +kernel
theorem dX11_layRisk_78 : decode cX11_layRisk 78 = .ok (.goto (-20), 3) := by decide +kernel
theorem dX11_layRisk_81 : decode cX11_layRisk 81 = .ok (.iinc 2 1, 3) := by decide +kernel
theorem dX11_layRisk_84 : decode cX11_layRisk 84 = .ok (.goto (-58), 3) := by decide +kernel
theorem dX11_layRisk_87 : decode cX11_layRisk 87 = .ok (.iinc 1 1, 3) := by decide +kernel
theorem dX11_layRisk_90 : decode cX11_layRisk 90 = .ok (.goto (-79), 3) := by decide +kernel
theorem dX11_layRisk_93 : decode cX11_layRisk 93 = .ok (.return_, 1) := by decide +kernel
set_option maxRecDepth 20000 in
theorem ggX11_risk_X11_layRisk : GoodIn wsX11_risk wsX11_layRisk := goodIn_r _ [7, 1, 2, 8, 9, 10, 11, 6, 12, 13, 14, 15, 16, 17, 18, 19, 20, 21, 22, 23, 24, 25, 26, 27, 28, 29, 30, 31, 32, 33, 34, 35, 36, 37, 38, 39, 40, 41, 42, 43, 44, 45, 46, 47, 48, 49, 50, 51, 52, 53, 54, 55, 56, 57, 58, 59, 60, 61, 62, 63, 64, 65, 66, 67, 68, 69, 70, 71, 72, 73, 74, 75, 76, 77, 78, 79, 80, 81, 82, 83, 84, 85, 86, 87] (by decide +kernel) (by decide +kernel)
set_option maxRecDepth 20000 in
theorem gX11_risk_X11_layRisk : GoodIn wsX11_risk (wsV RX11 389 RX11 yX11_layRisk wsX11_layRisk) := goodIn_app (goodIn_of _ (by decide +kernel)) ggX11_risk_X11_layRisk
theorem dX11_risk_0 : decode cX11_risk 0 = .ok (.iload_n 1, 1) := by decide +kernel
theorem dX11_risk_1 : decode cX11_risk 1 = .ok (.ifCond .ge 6, 3) := by decide +kernel
theorem dX11_risk_4 : decode cX11_risk 4 = .ok (.bipush (-2), 2) := by decide +kernel
theorem dX11_risk_6 : decode cX11_risk 6 = .ok (.ireturn, 1) := by decide +kernel
theorem dX11_risk_7 : decode cX11_risk 7 = .ok (.aload_n 0, 1) := by decide +kernel
theorem dX11_risk_8 : decode cX11_risk 8 = .ok (.invokevirtual 389, 3) := by decide +kernel
theorem dX11_risk_11 : decode cX11_risk 11 = .ok (.iload_n 1, 1) := by decide +kernel
theorem dX11_risk_12 : decode cX11_risk 12 = .ok (.ifCond .ne 10, 3) := by decide +kernel
theorem dX11_risk_15 : decode cX11_risk 15 = .ok (.aload_n 0, 1) := by decide +kernel
theorem dX11_risk_16 : decode cX11_risk 16 = .ok (.getfield 383, 3) := by decide +kernel
theorem dX11_risk_19 : decode cX11_risk 19 = .ok (.goto 23, 3) := by decide +kernel
theorem dX11_risk_22 : decode cX11_risk 22 = .ok (.iload_n 1, 1) := by decide +kernel
theorem dX11_risk_23 : decode cX11_risk 23 = .ok (.aload_n 0, 1) := by decide +kernel
theorem dX11_risk_24 : decode cX11_risk 24 = .ok (.getfield 383, 3) := by decide +kernel
theorem dX11_risk_27 : decode cX11_risk 27 = .ok (.if_icmp .gt 14, 3) := by decide +kernel
theorem dX11_risk_30 : decode cX11_risk 30 = .ok (.aload_n 0, 1) := by decide +kernel
theorem dX11_risk_31 : decode cX11_risk 31 = .ok (.getfield 98, 3) := by decide +kernel
theorem dX11_risk_34 : decode cX11_risk 34 = .ok (.iload_n 1, 1) := by decide +kernel
theorem dX11_risk_35 : decode cX11_risk 35 = .ok (.iconst 1, 1) := by decide +kernel
theorem dX11_risk_36 : decode cX11_risk 36 = .ok (.isub, 1) := by decide +kernel
theorem dX11_risk_37 : decode cX11_risk 37 = .ok (.iaload, 1) := by decide +kernel
theorem dX11_risk_38 : decode cX11_risk 38 = .ok (.goto 4, 3) := by decide +kernel
theorem dX11_risk_41 : decode cX11_risk 41 = .ok (.iconst (-1), 1) := by decide +kernel
theorem dX11_risk_42 : decode cX11_risk 42 = .ok (.ireturn, 1) := by decide +kernel
theorem iw_X11_layBehind_11 : ∀ w ∈ u_ws RX11 TX11 55, w ∈ wsX11_layBehind := by decide +kernel
set_option maxHeartbeats 4000000 in
set_option maxRecDepth 100000 in
theorem m_layBehind (l : Launch) (D : va_G) (ca : Nat → ClassId) (sz : Nat) (h0 : Nat) (ztape : Nat) (ztext : Nat) (zcores : Nat) (zlocks : Nat) (zbells : Nat) (ztasks : Nat) (zops : Nat) (zopSort : Nat) (zopNumber : Nat) (zkind : Nat) (zevery : Nat) (zbudget : Nat) (zshareTold : Nat) (zfirstOp : Nat) (zopMany : Nat) (zisCores : Nat) (zisLocks : Nat) (zisBells : Nat) (ztName : Nat) (zall : Nat) (zrows : Nat) (zpicked : Nat) (zpileTask : Nat) (zpileLock : Nat) (zwas : Nat) (zbehind : Nat) (zriskRow : Nat) (zriskBest : Nat) (zcTick : Nat) (zcProcessor : Nat) (zcTask : Nat) (zgTick : Nat) (zgTask : Nat) (zgTold : Nat) (zgUntold : Nat) (zgRan : Nat) (zboxAll : Nat) (zboxRows : Nat) (zisBoxed : Nat) (ktp : Nat) (ksz : Nat) (nfaultKind : Int32) (nfaultPlace : Int32) (kat : Nat) (ken : Nat) (ntoken : Int32) (nnumber : Int32) (nname : Int64) (kb : Nat) (kr : Nat) (kp : Nat) (nriskMany : Int32) (kto : Nat) (ksi : Nat) (ntime : Int32) (f_locks : Nat → Int32) (f_tasks : Nat → Int32) (f_opSort : Nat → Int32) (f_opNumber : Nat → Int32) (f_firstOp : Nat → Int32) (f_opMany : Nat → Int32) (f_behind : Nat → Int32) (kl : Nat) (kn : Nat) (ml : Nat → Nat) (fs : Nat → Nat) (hlo : f_locks kb = nI kl) (htk : f_tasks kb = nI kn) (hkb : kb < 2) (hkn : kn ≤ 10) (hP1 : PL1 kb kn ml fs f_opMany f_firstOp f_opNumber) : Met l yX11_layBehind wsX11_layBehind ({ frames := 1, cells := 0, slots := 0, locals := 21 }) (PC [.ref h0] sz D ca [(h0, .inr (11, [.ref ztape, .ref ztext, .int (nI ktp), .int (nI ksz), .int nfaultKind, .int nfaultPlace, .int (nI kat), .int (nI ken), .int ntoken, .int nnumber, .long nname, .ref zcores, .ref zlocks, .ref zbells, .ref ztasks, .ref zops, .ref zopSort, .ref zopNumber, .ref zkind, .ref zevery, .ref zbudget, .ref zshareTold, .ref zfirstOp, .ref zopMany, .ref zisCores, .ref zisLocks, .ref zisBells, .ref ztName, .int (nI kb), .int (nI kr), .ref zall, .ref zrows, .ref zpicked, .ref zpileTask, .ref zpileLock, .int (nI kp), .ref zwas, .ref zbehind, .ref zriskRow, .ref zriskBest, .int nriskMany, .ref zcTick, .ref zcProcessor, .ref zcTask, .int (nI kto), .ref zgTick, .ref zgTask, .ref zgTold, .ref zgUntold, .ref zgRan, .int (nI ksi), .int ntime, .ref zboxAll, .ref zboxRows, .ref zisBoxed])), (zlocks, .inl (ca 1, 2, .inl f_locks)), (ztasks, .inl (ca 1, 2, .inl f_tasks)), (zopSort, .inl (ca 1, 180, .inl f_opSort)), (zopNumber, .inl (ca 1, 180, .inl f_opNumber)), (zfirstOp, .inl (ca 1, 20, .inl f_firstOp)), (zopMany, .inl (ca 1, 20, .inl f_opMany)), (zbehind, .inl (ca 1, 6, .inl f_behind))]) (QV (fun (u : (Nat → Int32)) => True) (fun (u : (Nat → Int32)) => [(h0, .inr (11, [.ref ztape, .ref ztext, .int (nI ktp), .int (nI ksz), .int nfaultKind, .int nfaultPlace, .int (nI kat), .int (nI ken), .int ntoken, .int nnumber, .long nname, .ref zcores, .ref zlocks, .ref zbells, .ref ztasks, .ref zops, .ref zopSort, .ref zopNumber, .ref zkind, .ref zevery, .ref zbudget, .ref zshareTold, .ref zfirstOp, .ref zopMany, .ref zisCores, .ref zisLocks, .ref zisBells, .ref ztName, .int (nI kb), .int (nI kr), .ref zall, .ref zrows, .ref zpicked, .ref zpileTask, .ref zpileLock, .int (nI kp), .ref zwas, .ref zbehind, .ref zriskRow, .ref zriskBest, .int nriskMany, .ref zcTick, .ref zcProcessor, .ref zcTask, .int (nI kto), .ref zgTick, .ref zgTask, .ref zgTold, .ref zgUntold, .ref zgRan, .int (nI ksi), .int ntime, .ref zboxAll, .ref zboxRows, .ref zisBoxed])), (zlocks, .inl (ca 1, 2, .inl f_locks)), (ztasks, .inl (ca 1, 2, .inl f_tasks)), (zopSort, .inl (ca 1, 180, .inl f_opSort)), (zopNumber, .inl (ca 1, 180, .inl f_opNumber)), (zfirstOp, .inl (ca 1, 20, .inl f_firstOp)), (zopMany, .inl (ca 1, 20, .inl f_opMany)), (zbehind, .inl (ca 1, 6, .inl u))]) [(h0, .inr (11, [.ref ztape, .ref ztext, .int (nI ktp), .int (nI ksz), .int nfaultKind, .int nfaultPlace, .int (nI kat), .int (nI ken), .int ntoken, .int nnumber, .long nname, .ref zcores, .ref zlocks, .ref zbells, .ref ztasks, .ref zops, .ref zopSort, .ref zopNumber, .ref zkind, .ref zevery, .ref zbudget, .ref zshareTold, .ref zfirstOp, .ref zopMany, .ref zisCores, .ref zisLocks, .ref zisBells, .ref ztName, .int (nI kb), .int (nI kr), .ref zall, .ref zrows, .ref zpicked, .ref zpileTask, .ref zpileLock, .int (nI kp), .ref zwas, .ref zbehind, .ref zriskRow, .ref zriskBest, .int nriskMany, .ref zcTick, .ref zcProcessor, .ref zcTask, .int (nI kto), .ref zgTick, .ref zgTask, .ref zgTold, .ref zgUntold, .ref zgRan, .int (nI ksi), .int ntime, .ref zboxAll, .ref zboxRows, .ref zisBoxed])), (zlocks, .inl (ca 1, 2, .inl f_locks)), (ztasks, .inl (ca 1, 2, .inl f_tasks)), (zopSort, .inl (ca 1, 180, .inl f_opSort)), (zopNumber, .inl (ca 1, 180, .inl f_opNumber)), (zfirstOp, .inl (ca 1, 20, .inl f_firstOp)), (zopMany, .inl (ca 1, 20, .inl f_opMany)), (zbehind, .inl (ca 1, 6, .inl f_behind))] sz D) 0 0 (va_A [(h0, .inr (11, [.ref ztape, .ref ztext, .int (nI ktp), .int (nI ksz), .int nfaultKind, .int nfaultPlace, .int (nI kat), .int (nI ken), .int ntoken, .int nnumber, .long nname, .ref zcores, .ref zlocks, .ref zbells, .ref ztasks, .ref zops, .ref zopSort, .ref zopNumber, .ref zkind, .ref zevery, .ref zbudget, .ref zshareTold, .ref zfirstOp, .ref zopMany, .ref zisCores, .ref zisLocks, .ref zisBells, .ref ztName, .int (nI kb), .int (nI kr), .ref zall, .ref zrows, .ref zpicked, .ref zpileTask, .ref zpileLock, .int (nI kp), .ref zwas, .ref zbehind, .ref zriskRow, .ref zriskBest, .int nriskMany, .ref zcTick, .ref zcProcessor, .ref zcTask, .int (nI kto), .ref zgTick, .ref zgTask, .ref zgTold, .ref zgUntold, .ref zgRan, .int (nI ksi), .int ntime, .ref zboxAll, .ref zboxRows, .ref zisBoxed])), (zlocks, .inl (ca 1, 2, .inl f_locks)), (ztasks, .inl (ca 1, 2, .inl f_tasks)), (zopSort, .inl (ca 1, 180, .inl f_opSort)), (zopNumber, .inl (ca 1, 180, .inl f_opNumber)), (zfirstOp, .inl (ca 1, 20, .inl f_firstOp)), (zopMany, .inl (ca 1, 20, .inl f_opMany)), (zbehind, .inl (ca 1, 6, .inl f_behind))] sz) := by
  refine Met.ofW (cc := cX11_layBehind) (maxL := 8) (ret := none) (by decide +kernel) rfl ?_
  intro p e s m args below meth c s₁ B hml hv
  obtain ⟨rfl, hsz, hP, hC, hD0⟩ := hv
  have hx := B.exec
  have hb := B.bytes
  have hr := B.returns
  have hts := atoms_spec (ws := wsX11_layBehind) B.pre
  have hown : s.vm.findClass RX11 = some m.cls := findClass_of_methodNamed B.named
  have hlocks := B.notSynchronized
  subst hsz
  have hD := hD0.self (sz := s.heap.size)
  dsimp only [QV, QI, QL, BQ]
  generalize hAe : va_A [(h0, .inr (11, [.ref ztape, .ref ztext, .int (nI ktp), .int (nI ksz), .int nfaultKind, .int nfaultPlace, .int (nI kat), .int (nI ken), .int ntoken, .int nnumber, .long nname, .ref zcores, .ref zlocks, .ref zbells, .ref ztasks, .ref zops, .ref zopSort, .ref zopNumber, .ref zkind, .ref zevery, .ref zbudget, .ref zshareTold, .ref zfirstOp, .ref zopMany, .ref zisCores, .ref zisLocks, .ref zisBells, .ref ztName, .int (nI kb), .int (nI kr), .ref zall, .ref zrows, .ref zpicked, .ref zpileTask, .ref zpileLock, .int (nI kp), .ref zwas, .ref zbehind, .ref zriskRow, .ref zriskBest, .int nriskMany, .ref zcTick, .ref zcProcessor, .ref zcTask, .int (nI kto), .ref zgTick, .ref zgTask, .ref zgTold, .ref zgUntold, .ref zgRan, .int (nI ksi), .int ntime, .ref zboxAll, .ref zboxRows, .ref zisBoxed])), (zlocks, .inl (ca 1, 2, .inl f_locks)), (ztasks, .inl (ca 1, 2, .inl f_tasks)), (zopSort, .inl (ca 1, 180, .inl f_opSort)), (zopNumber, .inl (ca 1, 180, .inl f_opNumber)), (zfirstOp, .inl (ca 1, 20, .inl f_firstOp)), (zopMany, .inl (ca 1, 20, .inl f_opMany)), (zbehind, .inl (ca 1, 6, .inl f_behind))] s.heap.size = A at hD ⊢
  have hA : ∀ q : Nat, s.heap.size ≤ q → A q := fun q h => by rw [← hAe]; exact Or.inr h
  have hDA : ∀ {w : va_W}, va_D A w → va_D (va_A [(h0, .inr (11, [.ref ztape, .ref ztext, .int (nI ktp), .int (nI ksz), .int nfaultKind, .int nfaultPlace, .int (nI kat), .int (nI ken), .int ntoken, .int nnumber, .long nname, .ref zcores, .ref zlocks, .ref zbells, .ref ztasks, .ref zops, .ref zopSort, .ref zopNumber, .ref zkind, .ref zevery, .ref zbudget, .ref zshareTold, .ref zfirstOp, .ref zopMany, .ref zisCores, .ref zisLocks, .ref zisBells, .ref ztName, .int (nI kb), .int (nI kr), .ref zall, .ref zrows, .ref zpicked, .ref zpileTask, .ref zpileLock, .int (nI kp), .ref zwas, .ref zbehind, .ref zriskRow, .ref zriskBest, .int nriskMany, .ref zcTick, .ref zcProcessor, .ref zcTask, .int (nI kto), .ref zgTick, .ref zgTask, .ref zgTold, .ref zgUntold, .ref zgRan, .int (nI ksi), .int ntime, .ref zboxAll, .ref zboxRows, .ref zisBoxed])), (zlocks, .inl (ca 1, 2, .inl f_locks)), (ztasks, .inl (ca 1, 2, .inl f_tasks)), (zopSort, .inl (ca 1, 180, .inl f_opSort)), (zopNumber, .inl (ca 1, 180, .inl f_opNumber)), (zfirstOp, .inl (ca 1, 20, .inl f_firstOp)), (zopMany, .inl (ca 1, 20, .inl f_opMany)), (zbehind, .inl (ca 1, 6, .inl f_behind))] s.heap.size) w := fun h => by rw [hAe]; exact h
  have hS : va_S A s.heap s.heap [] := va_S.rf
  have hP : va_P D vwCl [(h0, .inr (11, [.ref ztape, .ref ztext, .int (nI ktp), .int (nI ksz), .int nfaultKind, .int nfaultPlace, .int (nI kat), .int (nI ken), .int ntoken, .int nnumber, .long nname, .ref zcores, .ref zlocks, .ref zbells, .ref ztasks, .ref zops, .ref zopSort, .ref zopNumber, .ref zkind, .ref zevery, .ref zbudget, .ref zshareTold, .ref zfirstOp, .ref zopMany, .ref zisCores, .ref zisLocks, .ref zisBells, .ref ztName, .int (nI kb), .int (nI kr), .ref zall, .ref zrows, .ref zpicked, .ref zpileTask, .ref zpileLock, .int (nI kp), .ref zwas, .ref zbehind, .ref zriskRow, .ref zriskBest, .int nriskMany, .ref zcTick, .ref zcProcessor, .ref zcTask, .int (nI kto), .ref zgTick, .ref zgTask, .ref zgTold, .ref zgUntold, .ref zgRan, .int (nI ksi), .int ntime, .ref zboxAll, .ref zboxRows, .ref zisBoxed])), (zlocks, .inl (ca 1, 2, .inl f_locks)), (ztasks, .inl (ca 1, 2, .inl f_tasks)), (zopSort, .inl (ca 1, 180, .inl f_opSort)), (zopNumber, .inl (ca 1, 180, .inl f_opNumber)), (zfirstOp, .inl (ca 1, 20, .inl f_firstOp)), (zopMany, .inl (ca 1, 20, .inl f_opMany)), (zbehind, .inl (ca 1, 6, .inl f_behind))] s.heap := hP
  have hl := lv_entry ([.ref h0]) (n := 8) (Nat.le_of_ble_eq_true rfl)
  rw [lg_entry_eq]
  generalize (lg_sl ([.ref h0]) ++ List.replicate (8 - (lg_sl ([.ref h0])).length) Slot.unset).toArray = ls at hl ⊢
  have hl : lv_has ls 8 [(0, .ref h0)] := hl
  refine lv_iconst (v := 0) hx hb dX11_layBehind_0 (by decide +kernel) ?_
  refine lv_istore_n (lv' := [(1, .int 0), (0, .ref h0)]) hx hb dX11_layBehind_1 rfl hl (by decide +kernel) rfl (fun ls hl => ?_)
  refine lp_ind (I := fun (n : Nat) H locs ls => ∃ (j0 : Nat) (b0 : Nat → Int32), j0 ≤ 6 ∧ j0 + n = 7 ∧ lv_has ls 8 [(1, .int (nI j0)), (0, .ref h0)] ∧ va_P D vwCl [(h0, .inr (11, [.ref ztape, .ref ztext, .int (nI ktp), .int (nI ksz), .int nfaultKind, .int nfaultPlace, .int (nI kat), .int (nI ken), .int ntoken, .int nnumber, .long nname, .ref zcores, .ref zlocks, .ref zbells, .ref ztasks, .ref zops, .ref zopSort, .ref zopNumber, .ref zkind, .ref zevery, .ref zbudget, .ref zshareTold, .ref zfirstOp, .ref zopMany, .ref zisCores, .ref zisLocks, .ref zisBells, .ref ztName, .int (nI kb), .int (nI kr), .ref zall, .ref zrows, .ref zpicked, .ref zpileTask, .ref zpileLock, .int (nI kp), .ref zwas, .ref zbehind, .ref zriskRow, .ref zriskBest, .int nriskMany, .ref zcTick, .ref zcProcessor, .ref zcTask, .int (nI kto), .ref zgTick, .ref zgTask, .ref zgTold, .ref zgUntold, .ref zgRan, .int (nI ksi), .int ntime, .ref zboxAll, .ref zboxRows, .ref zisBoxed])), (zlocks, .inl (ca 1, 2, .inl f_locks)), (ztasks, .inl (ca 1, 2, .inl f_tasks)), (zopSort, .inl (ca 1, 180, .inl f_opSort)), (zopNumber, .inl (ca 1, 180, .inl f_opNumber)), (zfirstOp, .inl (ca 1, 20, .inl f_firstOp)), (zopMany, .inl (ca 1, 20, .inl f_opMany)), (zbehind, .inl (ca 1, 6, .inl b0))] H ∧ va_D A [(h0, .inr (11, [.ref ztape, .ref ztext, .int (nI ktp), .int (nI ksz), .int nfaultKind, .int nfaultPlace, .int (nI kat), .int (nI ken), .int ntoken, .int nnumber, .long nname, .ref zcores, .ref zlocks, .ref zbells, .ref ztasks, .ref zops, .ref zopSort, .ref zopNumber, .ref zkind, .ref zevery, .ref zbudget, .ref zshareTold, .ref zfirstOp, .ref zopMany, .ref zisCores, .ref zisLocks, .ref zisBells, .ref ztName, .int (nI kb), .int (nI kr), .ref zall, .ref zrows, .ref zpicked, .ref zpileTask, .ref zpileLock, .int (nI kp), .ref zwas, .ref zbehind, .ref zriskRow, .ref zriskBest, .int nriskMany, .ref zcTick, .ref zcProcessor, .ref zcTask, .int (nI kto), .ref zgTick, .ref zgTask, .ref zgTold, .ref zgUntold, .ref zgRan, .int (nI ksi), .int ntime, .ref zboxAll, .ref zboxRows, .ref zisBoxed])), (zlocks, .inl (ca 1, 2, .inl f_locks)), (ztasks, .inl (ca 1, 2, .inl f_tasks)), (zopSort, .inl (ca 1, 180, .inl f_opSort)), (zopNumber, .inl (ca 1, 180, .inl f_opNumber)), (zfirstOp, .inl (ca 1, 20, .inl f_firstOp)), (zopMany, .inl (ca 1, 20, .inl f_opMany)), (zbehind, .inl (ca 1, 6, .inl b0))] ∧ va_S A s.heap H locs) (Wf := fun H locs ls => W p l e _ s m _ below meth c H locs _ _ _ (F0 m 2 ls [])) (7) ⟨0, f_behind, (by omega), (by omega), hl, hP, hD, hS⟩ ?_ ?_
  · intro H locs ls hI
    obtain ⟨j0, b0, hj0, hm0, -⟩ := hI
    omega
  intro n ih_1 H locs ls hI
  obtain ⟨j0, b0, hj0, hm0, hl, hP, hD, hS⟩ := hI
  refine lv_iload_n hx hb dX11_layBehind_2 rfl (lv_at hl 0 rfl) ?_
  refine lv_bipush (v := 6) hx hb dX11_layBehind_3 (by decide +kernel) ?_
  refine lv_icmp_ge (tgt := 21) hx hb dX11_layBehind_5 (by decide +kernel) (fun c_2 => ?_) (fun c_2 => ?_)
  · have nc_2 : 6 ≤ j0 := (nI_leI (a := 6) (b := j0) (by omega) (by omega)).mp c_2
    refine lv_iconst (v := 0) hx hb dX11_layBehind_21 (by decide +kernel) ?_
    refine lv_istore_n (lv' := [(1, .int 0), (0, .ref h0)]) hx hb dX11_layBehind_22 rfl hl (by decide +kernel) rfl (fun ls hl => ?_)
    refine lp_ind (I := fun (n : Nat) H locs ls => ∃ (jt : Nat) (b1 : Nat → Int32), jt ≤ kn ∧ jt + n = kn + 1 ∧ lv_has ls 8 [(1, .int (nI jt)), (0, .ref h0)] ∧ va_P D vwCl [(h0, .inr (11, [.ref ztape, .ref ztext, .int (nI ktp), .int (nI ksz), .int nfaultKind, .int nfaultPlace, .int (nI kat), .int (nI ken), .int ntoken, .int nnumber, .long nname, .ref zcores, .ref zlocks, .ref zbells, .ref ztasks, .ref zops, .ref zopSort, .ref zopNumber, .ref zkind, .ref zevery, .ref zbudget, .ref zshareTold, .ref zfirstOp, .ref zopMany, .ref zisCores, .ref zisLocks, .ref zisBells, .ref ztName, .int (nI kb), .int (nI kr), .ref zall, .ref zrows, .ref zpicked, .ref zpileTask, .ref zpileLock, .int (nI kp), .ref zwas, .ref zbehind, .ref zriskRow, .ref zriskBest, .int nriskMany, .ref zcTick, .ref zcProcessor, .ref zcTask, .int (nI kto), .ref zgTick, .ref zgTask, .ref zgTold, .ref zgUntold, .ref zgRan, .int (nI ksi), .int ntime, .ref zboxAll, .ref zboxRows, .ref zisBoxed])), (zlocks, .inl (ca 1, 2, .inl f_locks)), (ztasks, .inl (ca 1, 2, .inl f_tasks)), (zopSort, .inl (ca 1, 180, .inl f_opSort)), (zopNumber, .inl (ca 1, 180, .inl f_opNumber)), (zfirstOp, .inl (ca 1, 20, .inl f_firstOp)), (zopMany, .inl (ca 1, 20, .inl f_opMany)), (zbehind, .inl (ca 1, 6, .inl b1))] H ∧ va_D A [(h0, .inr (11, [.ref ztape, .ref ztext, .int (nI ktp), .int (nI ksz), .int nfaultKind, .int nfaultPlace, .int (nI kat), .int (nI ken), .int ntoken, .int nnumber, .long nname, .ref zcores, .ref zlocks, .ref zbells, .ref ztasks, .ref zops, .ref zopSort, .ref zopNumber, .ref zkind, .ref zevery, .ref zbudget, .ref zshareTold, .ref zfirstOp, .ref zopMany, .ref zisCores, .ref zisLocks, .ref zisBells, .ref ztName, .int (nI kb), .int (nI kr), .ref zall, .ref zrows, .ref zpicked, .ref zpileTask, .ref zpileLock, .int (nI kp), .ref zwas, .ref zbehind, .ref zriskRow, .ref zriskBest, .int nriskMany, .ref zcTick, .ref zcProcessor, .ref zcTask, .int (nI kto), .ref zgTick, .ref zgTask, .ref zgTold, .ref zgUntold, .ref zgRan, .int (nI ksi), .int ntime, .ref zboxAll, .ref zboxRows, .ref zisBoxed])), (zlocks, .inl (ca 1, 2, .inl f_locks)), (ztasks, .inl (ca 1, 2, .inl f_tasks)), (zopSort, .inl (ca 1, 180, .inl f_opSort)), (zopNumber, .inl (ca 1, 180, .inl f_opNumber)), (zfirstOp, .inl (ca 1, 20, .inl f_firstOp)), (zopMany, .inl (ca 1, 20, .inl f_opMany)), (zbehind, .inl (ca 1, 6, .inl b1))] ∧ va_S A s.heap H locs) (Wf := fun H locs ls => W p l e _ s m _ below meth c H locs _ _ _ (F0 m 23 ls [])) (kn + 1) ⟨0, b0, (by omega), (by omega), hl, hP, hD, hS⟩ ?_ ?_
    · intro H locs ls hI
      obtain ⟨jt, b1, hjt, hm1, -⟩ := hI
      omega
    intro n ih_3 H locs ls hI
    obtain ⟨jt, b1, hjt, hm1, hl, hP, hD, hS⟩ := hI
    refine lv_iload_n hx hb dX11_layBehind_23 rfl (lv_at hl 0 rfl) ?_
    refine lv_aload_n hx hb dX11_layBehind_24 rfl (lv_at hl 1 rfl) ?_
    refine kc_i (wr := [(zlocks, .inl (ca 1, 2, .inl f_locks)), (zopSort, .inl (ca 1, 180, .inl f_opSort)), (zopNumber, .inl (ca 1, 180, .inl f_opNumber)), (zfirstOp, .inl (ca 1, 20, .inl f_firstOp)), (zopMany, .inl (ca 1, 20, .inl f_opMany)), (zbehind, .inl (ca 1, 6, .inl b1))]) (va_runV (As := []) (rest := [.int (nI jt)]) ⟨hx, hb, hml, hown, hts⟩ (m_taskMany l D ca H.size h0 ztape ztext zcores zlocks zbells ztasks zops zopSort zopNumber zkind zevery zbudget zshareTold zfirstOp zopMany zisCores zisLocks zisBells ztName zall zrows zpicked zpileTask zpileLock zwas zbehind zriskRow zriskBest zcTick zcProcessor zcTask zgTick zgTask zgTold zgUntold zgRan zboxAll zboxRows zisBoxed ktp ksz nfaultKind nfaultPlace kat ken ntoken nnumber nname kb kr kp nriskMany kto ksi ntime f_tasks kn htk hkb) (cwV 0 hts gX11_layBehind_X11_taskMany rfl rfl rfl (by decide +kernel) ⟨(Nat.le_of_ble_eq_true rfl), (Nat.le_of_ble_eq_true rfl)⟩) (PC.preV (ci := 11) hC hP hD [0, 2] rfl (by decide +kernel) rfl rfl) rfl rfl hl.1 rfl (lv_room (Nat.le_of_ble_eq_true rfl)) dX11_layBehind_25 ⟨(Nat.le_of_ble_eq_true rfl), (Nat.le_of_ble_eq_true rfl)⟩) hP hD hS hA [0, 2] [1, 3, 4, 5, 6, 7] rfl rfl (by decide +kernel) (by decide +kernel) (fun r_4 u_6 H locs hw_5 hP hD hS => ?_)
    subst hw_5
    have hP : va_P D vwCl [(zlocks, .inl (ca 1, 2, .inl f_locks)), (zopSort, .inl (ca 1, 180, .inl f_opSort)), (zopNumber, .inl (ca 1, 180, .inl f_opNumber)), (zfirstOp, .inl (ca 1, 20, .inl f_firstOp)), (zopMany, .inl (ca 1, 20, .inl f_opMany)), (zbehind, .inl (ca 1, 6, .inl b1)), (h0, .inr (11, [.ref ztape, .ref ztext, .int (nI ktp), .int (nI ksz), .int nfaultKind, .int nfaultPlace, .int (nI kat), .int (nI ken), .int ntoken, .int nnumber, .long nname, .ref zcores, .ref zlocks, .ref zbells, .ref ztasks, .ref zops, .ref zopSort, .ref zopNumber, .ref zkind, .ref zevery, .ref zbudget, .ref zshareTold, .ref zfirstOp, .ref zopMany, .ref zisCores, .ref zisLocks, .ref zisBells, .ref ztName, .int (nI kb), .int (nI kr), .ref zall, .ref zrows, .ref zpicked, .ref zpileTask, .ref zpileLock, .int (nI kp), .ref zwas, .ref zbehind, .ref zriskRow, .ref zriskBest, .int nriskMany, .ref zcTick, .ref zcProcessor, .ref zcTask, .int (nI kto), .ref zgTick, .ref zgTask, .ref zgTold, .ref zgUntold, .ref zgRan, .int (nI ksi), .int ntime, .ref zboxAll, .ref zboxRows, .ref zisBoxed])), (ztasks, .inl (ca 1, 2, .inl f_tasks))] H := hP
    have hD : va_D A [(zlocks, .inl (ca 1, 2, .inl f_locks)), (zopSort, .inl (ca 1, 180, .inl f_opSort)), (zopNumber, .inl (ca 1, 180, .inl f_opNumber)), (zfirstOp, .inl (ca 1, 20, .inl f_firstOp)), (zopMany, .inl (ca 1, 20, .inl f_opMany)), (zbehind, .inl (ca 1, 6, .inl b1)), (h0, .inr (11, [.ref ztape, .ref ztext, .int (nI ktp), .int (nI ksz), .int nfaultKind, .int nfaultPlace, .int (nI kat), .int (nI ken), .int ntoken, .int nnumber, .long nname, .ref zcores, .ref zlocks, .ref zbells, .ref ztasks, .ref zops, .ref zopSort, .ref zopNumber, .ref zkind, .ref zevery, .ref zbudget, .ref zshareTold, .ref zfirstOp, .ref zopMany, .ref zisCores, .ref zisLocks, .ref zisBells, .ref ztName, .int (nI kb), .int (nI kr), .ref zall, .ref zrows, .ref zpicked, .ref zpileTask, .ref zpileLock, .int (nI kp), .ref zwas, .ref zbehind, .ref zriskRow, .ref zriskBest, .int nriskMany, .ref zcTick, .ref zcProcessor, .ref zcTask, .int (nI kto), .ref zgTick, .ref zgTask, .ref zgTold, .ref zgUntold, .ref zgRan, .int (nI ksi), .int ntime, .ref zboxAll, .ref zboxRows, .ref zisBoxed])), (ztasks, .inl (ca 1, 2, .inl f_tasks))] := hD
    refine lv_icmp_ge (tgt := 222) hx hb dX11_layBehind_28 (by decide +kernel) (fun c_7 => ?_) (fun c_7 => ?_)
    · have nc_7 : kn ≤ jt := (nI_leI (a := kn) (b := jt) (by omega) (by omega)).mp c_7
      exact W.vret hx hb hr (fun t ht hW => ⟨⟨b1, rfl, trivial, by rw [ht]; exact hP.sub [6, 0, 7, 1, 2, 3, 4, 5] rfl, hDA (hD.sub [6, 0, 7, 1, 2, 3, 4, 5] (by decide +kernel) rfl)⟩, hS.F ht⟩) hS.2.2 dX11_layBehind_222
    · have nc_7 : ¬ (kn ≤ jt) := fun h => c_7 ((nI_leI (a := kn) (b := jt) (by omega) (by omega)).mpr h)
      obtain ⟨hmy, hfi, hsum, -⟩ := hP1 jt (by omega)
      refine lv_iconst (v := 0) hx hb dX11_layBehind_31 (by decide +kernel) ?_
      refine lv_istore_n (lv' := [(2, .int 0), (1, .int (nI jt)), (0, .ref h0)]) hx hb dX11_layBehind_32 rfl hl (by decide +kernel) rfl (fun ls hl => ?_)
      refine lv_iconst (v := 1) hx hb dX11_layBehind_33 (by decide +kernel) ?_
      refine lv_istore_n (lv' := [(3, .int 1), (2, .int 0), (1, .int (nI jt)), (0, .ref h0)]) hx hb dX11_layBehind_34 rfl hl (by decide +kernel) rfl (fun ls hl => ?_)
      refine lv_iconst (v := 0) hx hb dX11_layBehind_35 (by decide +kernel) ?_
      refine lv_istore (lv' := [(4, .int 0), (3, .int 1), (2, .int 0), (1, .int (nI jt)), (0, .ref h0)]) hx hb dX11_layBehind_36 hl (by decide +kernel) rfl (fun ls hl => ?_)
      refine lp_ind (I := fun (n : Nat) H locs ls => ∃ (ji : Nat) (jh : Int32) (jon : Int32) (b2 : Nat → Int32), ji ≤ ml jt ∧ ji + n = ml jt + 1 ∧ lv_has ls 8 [(4, .int (nI ji)), (3, .int jon), (2, .int jh), (1, .int (nI jt)), (0, .ref h0)] ∧ va_P D vwCl [(zlocks, .inl (ca 1, 2, .inl f_locks)), (zopSort, .inl (ca 1, 180, .inl f_opSort)), (zopNumber, .inl (ca 1, 180, .inl f_opNumber)), (zfirstOp, .inl (ca 1, 20, .inl f_firstOp)), (zopMany, .inl (ca 1, 20, .inl f_opMany)), (zbehind, .inl (ca 1, 6, .inl b2)), (h0, .inr (11, [.ref ztape, .ref ztext, .int (nI ktp), .int (nI ksz), .int nfaultKind, .int nfaultPlace, .int (nI kat), .int (nI ken), .int ntoken, .int nnumber, .long nname, .ref zcores, .ref zlocks, .ref zbells, .ref ztasks, .ref zops, .ref zopSort, .ref zopNumber, .ref zkind, .ref zevery, .ref zbudget, .ref zshareTold, .ref zfirstOp, .ref zopMany, .ref zisCores, .ref zisLocks, .ref zisBells, .ref ztName, .int (nI kb), .int (nI kr), .ref zall, .ref zrows, .ref zpicked, .ref zpileTask, .ref zpileLock, .int (nI kp), .ref zwas, .ref zbehind, .ref zriskRow, .ref zriskBest, .int nriskMany, .ref zcTick, .ref zcProcessor, .ref zcTask, .int (nI kto), .ref zgTick, .ref zgTask, .ref zgTold, .ref zgUntold, .ref zgRan, .int (nI ksi), .int ntime, .ref zboxAll, .ref zboxRows, .ref zisBoxed])), (ztasks, .inl (ca 1, 2, .inl f_tasks))] H ∧ va_D A [(zlocks, .inl (ca 1, 2, .inl f_locks)), (zopSort, .inl (ca 1, 180, .inl f_opSort)), (zopNumber, .inl (ca 1, 180, .inl f_opNumber)), (zfirstOp, .inl (ca 1, 20, .inl f_firstOp)), (zopMany, .inl (ca 1, 20, .inl f_opMany)), (zbehind, .inl (ca 1, 6, .inl b2)), (h0, .inr (11, [.ref ztape, .ref ztext, .int (nI ktp), .int (nI ksz), .int nfaultKind, .int nfaultPlace, .int (nI kat), .int (nI ken), .int ntoken, .int nnumber, .long nname, .ref zcores, .ref zlocks, .ref zbells, .ref ztasks, .ref zops, .ref zopSort, .ref zopNumber, .ref zkind, .ref zevery, .ref zbudget, .ref zshareTold, .ref zfirstOp, .ref zopMany, .ref zisCores, .ref zisLocks, .ref zisBells, .ref ztName, .int (nI kb), .int (nI kr), .ref zall, .ref zrows, .ref zpicked, .ref zpileTask, .ref zpileLock, .int (nI kp), .ref zwas, .ref zbehind, .ref zriskRow, .ref zriskBest, .int nriskMany, .ref zcTick, .ref zcProcessor, .ref zcTask, .int (nI kto), .ref zgTick, .ref zgTask, .ref zgTold, .ref zgUntold, .ref zgRan, .int (nI ksi), .int ntime, .ref zboxAll, .ref zboxRows, .ref zisBoxed])), (ztasks, .inl (ca 1, 2, .inl f_tasks))] ∧ va_S A s.heap H locs) (Wf := fun H locs ls => W p l e _ s m _ below meth c H locs _ _ _ (F0 m 38 ls [])) (ml jt + 1) ⟨0, 0, 1, b1, (by omega), (by omega), hl, hP, hD, hS⟩ ?_ ?_
      · intro H locs ls hI
        obtain ⟨ji, jh, jon, b2, hji, hm2, -⟩ := hI
        omega
      intro n ih_8 H locs ls hI
      obtain ⟨ji, jh, jon, b2, hji, hm2, hl, hP, hD, hS⟩ := hI
      refine lv_iload hx hb dX11_layBehind_38 (lv_at hl 0 rfl) ?_
      refine lv_aload_n hx hb dX11_layBehind_40 rfl (lv_at hl 4 rfl) ?_
      refine lv_iload_n hx hb dX11_layBehind_41 rfl (lv_at hl 3 rfl) ?_
      refine kc_i (wr := [(zlocks, .inl (ca 1, 2, .inl f_locks)), (zopSort, .inl (ca 1, 180, .inl f_opSort)), (zopNumber, .inl (ca 1, 180, .inl f_opNumber)), (zfirstOp, .inl (ca 1, 20, .inl f_firstOp)), (zbehind, .inl (ca 1, 6, .inl b2)), (ztasks, .inl (ca 1, 2, .inl f_tasks))]) (va_runV (As := [.int (nI jt)]) (rest := [.int (nI ji)]) ⟨hx, hb, hml, hown, hts⟩ (m_opsOf l D ca H.size h0 ztape ztext zcores zlocks zbells ztasks zops zopSort zopNumber zkind zevery zbudget zshareTold zfirstOp zopMany zisCores zisLocks zisBells ztName zall zrows zpicked zpileTask zpileLock zwas zbehind zriskRow zriskBest zcTick zcProcessor zcTask zgTick zgTask zgTold zgUntold zgRan zboxAll zboxRows zisBoxed ktp ksz nfaultKind nfaultPlace kat ken ntoken nnumber nname kb kr kp nriskMany kto ksi ntime f_opMany jt hkb (by omega)) (cwV 1 hts gX11_layBehind_X11_opsOf rfl rfl rfl (by decide +kernel) ⟨(Nat.le_of_ble_eq_true rfl), (Nat.le_of_ble_eq_true rfl)⟩) (PC.preV (ci := 11) hC hP hD [6, 4] rfl (by decide +kernel) rfl rfl) rfl rfl hl.1 rfl (lv_room (Nat.le_of_ble_eq_true rfl)) dX11_layBehind_42 ⟨(Nat.le_of_ble_eq_true rfl), (Nat.le_of_ble_eq_true rfl)⟩) hP hD hS hA [6, 4] [0, 1, 2, 3, 5, 7] rfl rfl (by decide +kernel) (by decide +kernel) (fun r_9 u_11 H locs hw_10 hP hD hS => ?_)
      subst hw_10
      have hP : va_P D vwCl [(zlocks, .inl (ca 1, 2, .inl f_locks)), (zopSort, .inl (ca 1, 180, .inl f_opSort)), (zopNumber, .inl (ca 1, 180, .inl f_opNumber)), (zfirstOp, .inl (ca 1, 20, .inl f_firstOp)), (zbehind, .inl (ca 1, 6, .inl b2)), (ztasks, .inl (ca 1, 2, .inl f_tasks)), (h0, .inr (11, [.ref ztape, .ref ztext, .int (nI ktp), .int (nI ksz), .int nfaultKind, .int nfaultPlace, .int (nI kat), .int (nI ken), .int ntoken, .int nnumber, .long nname, .ref zcores, .ref zlocks, .ref zbells, .ref ztasks, .ref zops, .ref zopSort, .ref zopNumber, .ref zkind, .ref zevery, .ref zbudget, .ref zshareTold, .ref zfirstOp, .ref zopMany, .ref zisCores, .ref zisLocks, .ref zisBells, .ref ztName, .int (nI kb), .int (nI kr), .ref zall, .ref zrows, .ref zpicked, .ref zpileTask, .ref zpileLock, .int (nI kp), .ref zwas, .ref zbehind, .ref zriskRow, .ref zriskBest, .int nriskMany, .ref zcTick, .ref zcProcessor, .ref zcTask, .int (nI kto), .ref zgTick, .ref zgTask, .ref zgTold, .ref zgUntold, .ref zgRan, .int (nI ksi), .int ntime, .ref zboxAll, .ref zboxRows, .ref zisBoxed])), (zopMany, .inl (ca 1, 20, .inl f_opMany))] H := hP
      have hD : va_D A [(zlocks, .inl (ca 1, 2, .inl f_locks)), (zopSort, .inl (ca 1, 180, .inl f_opSort)), (zopNumber, .inl (ca 1, 180, .inl f_opNumber)), (zfirstOp, .inl (ca 1, 20, .inl f_firstOp)), (zbehind, .inl (ca 1, 6, .inl b2)), (ztasks, .inl (ca 1, 2, .inl f_tasks)), (h0, .inr (11, [.ref ztape, .ref ztext, .int (nI ktp), .int (nI ksz), .int nfaultKind, .int nfaultPlace, .int (nI kat), .int (nI ken), .int ntoken, .int nnumber, .long nname, .ref zcores, .ref zlocks, .ref zbells, .ref ztasks, .ref zops, .ref zopSort, .ref zopNumber, .ref zkind, .ref zevery, .ref zbudget, .ref zshareTold, .ref zfirstOp, .ref zopMany, .ref zisCores, .ref zisLocks, .ref zisBells, .ref ztName, .int (nI kb), .int (nI kr), .ref zall, .ref zrows, .ref zpicked, .ref zpileTask, .ref zpileLock, .int (nI kp), .ref zwas, .ref zbehind, .ref zriskRow, .ref zriskBest, .int nriskMany, .ref zcTick, .ref zcProcessor, .ref zcTask, .int (nI kto), .ref zgTick, .ref zgTask, .ref zgTold, .ref zgUntold, .ref zgRan, .int (nI ksi), .int ntime, .ref zboxAll, .ref zboxRows, .ref zisBoxed])), (zopMany, .inl (ca 1, 20, .inl f_opMany))] := hD
      refine nt_i (nI (ml jt)) hmy ?_
      refine lv_icmp_ge (tgt := 216) hx hb dX11_layBehind_45 (by decide +kernel) (fun c_12 => ?_) (fun c_12 => ?_)
      · have nc_12 : (ml jt) ≤ ji := (nI_leI (a := (ml jt)) (b := ji) (by omega) (by omega)).mp c_12
        refine lv_iinc (v := nI (jt + 1)) (lv' := [(1, .int (nI (jt + 1))), (4, .int (nI ji)), (3, .int jon), (2, .int jh), (0, .ref h0)]) hx hb dX11_layBehind_216 hl (k := 3) rfl (nI_1 _) (by decide +kernel) rfl (fun ls hl => ?_)
        refine lv_goto (tgt := 23) hx hb dX11_layBehind_219 (by decide +kernel) ?_
        exact ih_3 _ _ _ ⟨(jt + 1), b2, (by omega), (by omega), lv_sub hl [0, 4] rfl, (hP.sub [6, 0, 5, 1, 2, 3, 7, 4] rfl), (hD.sub [6, 0, 5, 1, 2, 3, 7, 4] (by decide +kernel) rfl), hS⟩
      · have nc_12 : ¬ ((ml jt) ≤ ji) := fun h => c_12 ((nI_leI (a := (ml jt)) (b := ji) (by omega) (by omega)).mpr h)
        refine lv_iload_n hx hb dX11_layBehind_48 rfl (lv_at hl 1 rfl) ?_
        refine lv_if_eq (tgt := 216) hx hb dX11_layBehind_49 (by decide +kernel) (fun c_13 => ?_) (fun c_13 => ?_)
        · refine lv_iinc (v := nI (jt + 1)) (lv' := [(1, .int (nI (jt + 1))), (4, .int (nI ji)), (3, .int jon), (2, .int jh), (0, .ref h0)]) hx hb dX11_layBehind_216 hl (k := 3) rfl (nI_1 _) (by decide +kernel) rfl (fun ls hl => ?_)
          refine lv_goto (tgt := 23) hx hb dX11_layBehind_219 (by decide +kernel) ?_
          exact ih_3 _ _ _ ⟨(jt + 1), b2, (by omega), (by omega), lv_sub hl [0, 4] rfl, (hP.sub [6, 0, 5, 1, 2, 3, 7, 4] rfl), (hD.sub [6, 0, 5, 1, 2, 3, 7, 4] (by decide +kernel) rfl), hS⟩
        · refine lv_bipush (v := 90) hx hb dX11_layBehind_52 (by decide +kernel) ?_
          refine lv_aload_n hx hb dX11_layBehind_54 rfl (lv_at hl 4 rfl) ?_
          refine va_get (D := D) (ci := 11) (v := .int (nI kb)) (C := RX11) (T := TX11) (N := 55) hx hb hts iw_X11_layBehind_11 hown hC.1 hP 6 rfl rfl 28 (by decide +kernel) (hts (.fieldLink RX11 244 "FairWheelModel" "bank" "I") (by decide +kernel)) (fun _ h9 => h9) rfl dX11_layBehind_55 ?_
          refine lv_imul hx hb dX11_layBehind_58 ?_
          refine nt_i (nI (90 * kb)) (pk_mul 90 kb) ?_
          refine lv_aload_n hx hb dX11_layBehind_59 rfl (lv_at hl 4 rfl) ?_
          refine va_get (D := D) (ci := 11) (v := .ref zfirstOp) (C := RX11) (T := TX11) (N := 55) hx hb hts iw_X11_layBehind_11 hown hC.1 hP 6 rfl rfl 22 (by decide +kernel) (hts (.fieldLink RX11 54 "FairWheelModel" "firstOp" "[I") (by decide +kernel)) (fun _ h9 => h9) rfl dX11_layBehind_60 ?_
          refine lv_bipush (v := 10) hx hb dX11_layBehind_63 (by decide +kernel) ?_
          refine lv_aload_n hx hb dX11_layBehind_65 rfl (lv_at hl 4 rfl) ?_
          refine va_get (D := D) (ci := 11) (v := .int (nI kb)) (C := RX11) (T := TX11) (N := 55) hx hb hts iw_X11_layBehind_11 hown hC.1 hP 6 rfl rfl 28 (by decide +kernel) (hts (.fieldLink RX11 244 "FairWheelModel" "bank" "I") (by decide +kernel)) (fun _ h9 => h9) rfl dX11_layBehind_66 ?_
          refine lv_imul hx hb dX11_layBehind_69 ?_
          refine nt_i (nI (10 * kb)) (pk_mul 10 kb) ?_
          refine lv_iload_n hx hb dX11_layBehind_70 rfl (lv_at hl 3 rfl) ?_
          refine lv_iadd hx hb dX11_layBehind_71 ?_
          refine nt_i (nI (10 * kb + jt)) (nI_add (10 * kb) jt) ?_
          refine ka_iald hx hb hC.1 hP 3 1 rfl rfl (10 * kb + jt) rfl (by omega) (by decide +kernel) dX11_layBehind_72 ?_
          refine nt_i (nI (fs jt)) hfi ?_
          refine lv_iadd hx hb dX11_layBehind_73 ?_
          refine nt_i (nI (90 * kb + fs jt)) (nI_add (90 * kb) (fs jt)) ?_
          refine lv_iload hx hb dX11_layBehind_74 (lv_at hl 0 rfl) ?_
          refine lv_iadd hx hb dX11_layBehind_76 ?_
          refine nt_i (nI (90 * kb + fs jt + ji)) (nI_add (90 * kb + fs jt) ji) ?_
          refine lv_istore (lv' := [(5, .int (nI (90 * kb + fs jt + ji))), (4, .int (nI ji)), (3, .int jon), (2, .int jh), (1, .int (nI jt)), (0, .ref h0)]) hx hb dX11_layBehind_77 hl (by decide +kernel) rfl (fun ls hl => ?_)
          refine lv_aload_n hx hb dX11_layBehind_79 rfl (lv_at hl 5 rfl) ?_
          refine va_get (D := D) (ci := 11) (v := .ref zopNumber) (C := RX11) (T := TX11) (N := 55) hx hb hts iw_X11_layBehind_11 hown hC.1 hP 6 rfl rfl 17 (by decide +kernel) (hts (.fieldLink RX11 39 "FairWheelModel" "opNumber" "[I") (by decide +kernel)) (fun _ h9 => h9) rfl dX11_layBehind_80 ?_
          refine lv_iload hx hb dX11_layBehind_83 (lv_at hl 0 rfl) ?_
          refine ka_iald hx hb hC.1 hP 2 1 rfl rfl (90 * kb + fs jt + ji) rfl (by omega) (by decide +kernel) dX11_layBehind_85 ?_
          refine lv_istore (lv' := [(6, .int (f_opNumber (90 * kb + fs jt + ji))), (5, .int (nI (90 * kb + fs jt + ji))), (4, .int (nI ji)), (3, .int jon), (2, .int jh), (1, .int (nI jt)), (0, .ref h0)]) hx hb dX11_layBehind_86 hl (by decide +kernel) rfl (fun ls hl => ?_)
          refine lv_aload_n hx hb dX11_layBehind_88 rfl (lv_at hl 6 rfl) ?_
          refine va_get (D := D) (ci := 11) (v := .ref zopSort) (C := RX11) (T := TX11) (N := 55) hx hb hts iw_X11_layBehind_11 hown hC.1 hP 6 rfl rfl 16 (by decide +kernel) (hts (.fieldLink RX11 36 "FairWheelModel" "opSort" "[I") (by decide +kernel)) (fun _ h9 => h9) rfl dX11_layBehind_89 ?_
          refine lv_iload hx hb dX11_layBehind_92 (lv_at hl 1 rfl) ?_
          refine ka_iald hx hb hC.1 hP 1 1 rfl rfl (90 * kb + fs jt + ji) rfl (by omega) (by decide +kernel) dX11_layBehind_94 ?_
          refine lv_iconst (v := 1) hx hb dX11_layBehind_95 (by decide +kernel) ?_
          refine lv_icmp_ne (tgt := 183) hx hb dX11_layBehind_96 (by decide +kernel) (fun c_14 => ?_) (fun c_14 => ?_)
          · refine lv_aload_n hx hb dX11_layBehind_183 rfl (lv_at hl 6 rfl) ?_
            refine va_get (D := D) (ci := 11) (v := .ref zopSort) (C := RX11) (T := TX11) (N := 55) hx hb hts iw_X11_layBehind_11 hown hC.1 hP 6 rfl rfl 16 (by decide +kernel) (hts (.fieldLink RX11 36 "FairWheelModel" "opSort" "[I") (by decide +kernel)) (fun _ h9 => h9) rfl dX11_layBehind_184 ?_
            refine lv_iload hx hb dX11_layBehind_187 (lv_at hl 1 rfl) ?_
            refine ka_iald hx hb hC.1 hP 1 1 rfl rfl (90 * kb + fs jt + ji) rfl (by omega) (by decide +kernel) dX11_layBehind_189 ?_
            refine lv_iconst (v := 2) hx hb dX11_layBehind_190 (by decide +kernel) ?_
            refine lv_icmp_ne (tgt := 210) hx hb dX11_layBehind_191 (by decide +kernel) (fun c_15 => ?_) (fun c_15 => ?_)
            · refine lv_iinc (v := nI (ji + 1)) (lv' := [(4, .int (nI (ji + 1))), (6, .int (f_opNumber (90 * kb + fs jt + ji))), (5, .int (nI (90 * kb + fs jt + ji))), (3, .int jon), (2, .int jh), (1, .int (nI jt)), (0, .ref h0)]) hx hb dX11_layBehind_210 hl (k := 2) rfl (nI_1 _) (by decide +kernel) rfl (fun ls hl => ?_)
              refine lv_goto (tgt := 38) hx hb dX11_layBehind_213 (by decide +kernel) ?_
              exact ih_8 _ _ _ ⟨(ji + 1), jh, jon, b2, (by omega), (by omega), lv_sub hl [0, 3, 4, 5, 6] rfl, (hP.sub [0, 1, 2, 3, 7, 4, 6, 5] rfl), (hD.sub [0, 1, 2, 3, 7, 4, 6, 5] (by decide +kernel) rfl), hS⟩
            · refine lv_iload hx hb dX11_layBehind_194 (lv_at hl 0 rfl) ?_
              refine lv_bipush (v := 6) hx hb dX11_layBehind_196 (by decide +kernel) ?_
              refine lv_icmp_ge (tgt := 210) hx hb dX11_layBehind_198 (by decide +kernel) (fun c_16 => ?_) (fun c_16 => ?_)
              · refine lv_iinc (v := nI (ji + 1)) (lv' := [(4, .int (nI (ji + 1))), (6, .int (f_opNumber (90 * kb + fs jt + ji))), (5, .int (nI (90 * kb + fs jt + ji))), (3, .int jon), (2, .int jh), (1, .int (nI jt)), (0, .ref h0)]) hx hb dX11_layBehind_210 hl (k := 2) rfl (nI_1 _) (by decide +kernel) rfl (fun ls hl => ?_)
                refine lv_goto (tgt := 38) hx hb dX11_layBehind_213 (by decide +kernel) ?_
                exact ih_8 _ _ _ ⟨(ji + 1), jh, jon, b2, (by omega), (by omega), lv_sub hl [0, 3, 4, 5, 6] rfl, (hP.sub [0, 1, 2, 3, 7, 4, 6, 5] rfl), (hD.sub [0, 1, 2, 3, 7, 4, 6, 5] (by decide +kernel) rfl), hS⟩
              · refine lv_iload_n hx hb dX11_layBehind_201 rfl (lv_at hl 4 rfl) ?_
                refine lv_iconst (v := 1) hx hb dX11_layBehind_202 (by decide +kernel) ?_
                refine lv_iload hx hb dX11_layBehind_203 (lv_at hl 0 rfl) ?_
                refine lv_ishl hx hb dX11_layBehind_205 ?_
                refine lv_topi (fun y_17 ey_17 => ?_)
                refine lv_iconst (v := (-1)) hx hb dX11_layBehind_206 (by decide +kernel) ?_
                refine lv_ixor hx hb dX11_layBehind_207 ?_
                refine lv_topi (fun y_18 ey_18 => ?_)
                refine lv_iand hx hb dX11_layBehind_208 ?_
                refine lv_topi (fun y_19 ey_19 => ?_)
                refine lv_istore_n (lv' := [(2, .int y_19), (6, .int (f_opNumber (90 * kb + fs jt + ji))), (5, .int (nI (90 * kb + fs jt + ji))), (4, .int (nI ji)), (3, .int jon), (1, .int (nI jt)), (0, .ref h0)]) hx hb dX11_layBehind_209 rfl hl (by decide +kernel) rfl (fun ls hl => ?_)
                refine lv_iinc (v := nI (ji + 1)) (lv' := [(4, .int (nI (ji + 1))), (2, .int y_19), (6, .int (f_opNumber (90 * kb + fs jt + ji))), (5, .int (nI (90 * kb + fs jt + ji))), (3, .int jon), (1, .int (nI jt)), (0, .ref h0)]) hx hb dX11_layBehind_210 hl (k := 3) rfl (nI_1 _) (by decide +kernel) rfl (fun ls hl => ?_)
                refine lv_goto (tgt := 38) hx hb dX11_layBehind_213 (by decide +kernel) ?_
                exact ih_8 _ _ _ ⟨(ji + 1), y_19, jon, b2, (by omega), (by omega), lv_sub hl [0, 4, 1, 5, 6] rfl, (hP.sub [0, 1, 2, 3, 7, 4, 6, 5] rfl), (hD.sub [0, 1, 2, 3, 7, 4, 6, 5] (by decide +kernel) rfl), hS⟩
          · refine lv_iload hx hb dX11_layBehind_99 (lv_at hl 0 rfl) ?_
            refine lv_aload_n hx hb dX11_layBehind_101 rfl (lv_at hl 6 rfl) ?_
            refine va_get (D := D) (ci := 11) (v := .ref zlocks) (C := RX11) (T := TX11) (N := 55) hx hb hts iw_X11_layBehind_11 hown hC.1 hP 6 rfl rfl 12 (by decide +kernel) (hts (.fieldLink RX11 24 "FairWheelModel" "locks" "[I") (by decide +kernel)) (fun _ h9 => h9) rfl dX11_layBehind_102 ?_
            refine lv_aload_n hx hb dX11_layBehind_105 rfl (lv_at hl 6 rfl) ?_
            refine va_get (D := D) (ci := 11) (v := .int (nI kb)) (C := RX11) (T := TX11) (N := 55) hx hb hts iw_X11_layBehind_11 hown hC.1 hP 6 rfl rfl 28 (by decide +kernel) (hts (.fieldLink RX11 244 "FairWheelModel" "bank" "I") (by decide +kernel)) (fun _ h9 => h9) rfl dX11_layBehind_106 ?_
            refine ka_iald hx hb hC.1 hP 0 1 rfl rfl kb rfl (by omega) (by decide +kernel) dX11_layBehind_109 ?_
            refine nt_i (nI kl) hlo ?_
            refine lv_icmp_ge (tgt := 126) hx hb dX11_layBehind_110 (by decide +kernel) (fun c_20 => ?_) (fun c_20 => ?_)
            · refine lv_iconst (v := 0) hx hb dX11_layBehind_126 (by decide +kernel) ?_
              refine lv_istore_n (lv' := [(3, .int 0), (6, .int (f_opNumber (90 * kb + fs jt + ji))), (5, .int (nI (90 * kb + fs jt + ji))), (4, .int (nI ji)), (2, .int jh), (1, .int (nI jt)), (0, .ref h0)]) hx hb dX11_layBehind_127 rfl hl (by decide +kernel) rfl (fun ls hl => ?_)
              refine lv_iconst (v := 0) hx hb dX11_layBehind_128 (by decide +kernel) ?_
              refine lv_istore (lv' := [(7, .int 0), (3, .int 0), (6, .int (f_opNumber (90 * kb + fs jt + ji))), (5, .int (nI (90 * kb + fs jt + ji))), (4, .int (nI ji)), (2, .int jh), (1, .int (nI jt)), (0, .ref h0)]) hx hb dX11_layBehind_129 hl (by decide +kernel) rfl (fun ls hl => ?_)
              refine lp_ind (I := fun (n : Nat) H locs ls => ∃ (jl : Nat) (b3 : Nat → Int32), jl ≤ 6 ∧ jl + n = 7 ∧ lv_has ls 8 [(7, .int (nI jl)), (3, .int 0), (6, .int (f_opNumber (90 * kb + fs jt + ji))), (5, .int (nI (90 * kb + fs jt + ji))), (4, .int (nI ji)), (2, .int jh), (1, .int (nI jt)), (0, .ref h0)] ∧ va_P D vwCl [(zlocks, .inl (ca 1, 2, .inl f_locks)), (zopSort, .inl (ca 1, 180, .inl f_opSort)), (zopNumber, .inl (ca 1, 180, .inl f_opNumber)), (zfirstOp, .inl (ca 1, 20, .inl f_firstOp)), (zbehind, .inl (ca 1, 6, .inl b3)), (ztasks, .inl (ca 1, 2, .inl f_tasks)), (h0, .inr (11, [.ref ztape, .ref ztext, .int (nI ktp), .int (nI ksz), .int nfaultKind, .int nfaultPlace, .int (nI kat), .int (nI ken), .int ntoken, .int nnumber, .long nname, .ref zcores, .ref zlocks, .ref zbells, .ref ztasks, .ref zops, .ref zopSort, .ref zopNumber, .ref zkind, .ref zevery, .ref zbudget, .ref zshareTold, .ref zfirstOp, .ref zopMany, .ref zisCores, .ref zisLocks, .ref zisBells, .ref ztName, .int (nI kb), .int (nI kr), .ref zall, .ref zrows, .ref zpicked, .ref zpileTask, .ref zpileLock, .int (nI kp), .ref zwas, .ref zbehind, .ref zriskRow, .ref zriskBest, .int nriskMany, .ref zcTick, .ref zcProcessor, .ref zcTask, .int (nI kto), .ref zgTick, .ref zgTask, .ref zgTold, .ref zgUntold, .ref zgRan, .int (nI ksi), .int ntime, .ref zboxAll, .ref zboxRows, .ref zisBoxed])), (zopMany, .inl (ca 1, 20, .inl f_opMany))] H ∧ va_D A [(zlocks, .inl (ca 1, 2, .inl f_locks)), (zopSort, .inl (ca 1, 180, .inl f_opSort)), (zopNumber, .inl (ca 1, 180, .inl f_opNumber)), (zfirstOp, .inl (ca 1, 20, .inl f_firstOp)), (zbehind, .inl (ca 1, 6, .inl b3)), (ztasks, .inl (ca 1, 2, .inl f_tasks)), (h0, .inr (11, [.ref ztape, .ref ztext, .int (nI ktp), .int (nI ksz), .int nfaultKind, .int nfaultPlace, .int (nI kat), .int (nI ken), .int ntoken, .int nnumber, .long nname, .ref zcores, .ref zlocks, .ref zbells, .ref ztasks, .ref zops, .ref zopSort, .ref zopNumber, .ref zkind, .ref zevery, .ref zbudget, .ref zshareTold, .ref zfirstOp, .ref zopMany, .ref zisCores, .ref zisLocks, .ref zisBells, .ref ztName, .int (nI kb), .int (nI kr), .ref zall, .ref zrows, .ref zpicked, .ref zpileTask, .ref zpileLock, .int (nI kp), .ref zwas, .ref zbehind, .ref zriskRow, .ref zriskBest, .int nriskMany, .ref zcTick, .ref zcProcessor, .ref zcTask, .int (nI kto), .ref zgTick, .ref zgTask, .ref zgTold, .ref zgUntold, .ref zgRan, .int (nI ksi), .int ntime, .ref zboxAll, .ref zboxRows, .ref zisBoxed])), (zopMany, .inl (ca 1, 20, .inl f_opMany))] ∧ va_S A s.heap H locs) (Wf := fun H locs ls => W p l e _ s m _ below meth c H locs _ _ _ (F0 m 131 ls [])) (7) ⟨0, b2, (by omega), (by omega), hl, hP, hD, hS⟩ ?_ ?_
              · intro H locs ls hI
                obtain ⟨jl, b3, hjl, hm3, -⟩ := hI
                omega
              intro n ih_21 H locs ls hI
              obtain ⟨jl, b3, hjl, hm3, hl, hP, hD, hS⟩ := hI
              refine lv_iload hx hb dX11_layBehind_131 (lv_at hl 0 rfl) ?_
              refine lv_bipush (v := 6) hx hb dX11_layBehind_133 (by decide +kernel) ?_
              refine lv_icmp_ge (tgt := 172) hx hb dX11_layBehind_135 (by decide +kernel) (fun c_22 => ?_) (fun c_22 => ?_)
              · have nc_22 : 6 ≤ jl := (nI_leI (a := 6) (b := jl) (by omega) (by omega)).mp c_22
                refine lv_iload_n hx hb dX11_layBehind_172 rfl (lv_at hl 1 rfl) ?_
                refine lv_if_eq (tgt := 183) hx hb dX11_layBehind_173 (by decide +kernel) (fun c_23 => ?_) (fun c_23 => absurd (by decide +kernel) c_23)
                refine lv_aload_n hx hb dX11_layBehind_183 rfl (lv_at hl 7 rfl) ?_
                refine va_get (D := D) (ci := 11) (v := .ref zopSort) (C := RX11) (T := TX11) (N := 55) hx hb hts iw_X11_layBehind_11 hown hC.1 hP 6 rfl rfl 16 (by decide +kernel) (hts (.fieldLink RX11 36 "FairWheelModel" "opSort" "[I") (by decide +kernel)) (fun _ h9 => h9) rfl dX11_layBehind_184 ?_
                refine lv_iload hx hb dX11_layBehind_187 (lv_at hl 3 rfl) ?_
                refine ka_iald hx hb hC.1 hP 1 1 rfl rfl (90 * kb + fs jt + ji) rfl (by omega) (by decide +kernel) dX11_layBehind_189 ?_
                refine lv_iconst (v := 2) hx hb dX11_layBehind_190 (by decide +kernel) ?_
                refine lv_icmp_ne (tgt := 210) hx hb dX11_layBehind_191 (by decide +kernel) (fun c_24 => ?_) (fun c_24 => absurd (c_14.symm.trans c_24) (by decide +kernel))
                refine lv_iinc (v := nI (ji + 1)) (lv' := [(4, .int (nI (ji + 1))), (7, .int (nI jl)), (3, .int 0), (6, .int (f_opNumber (90 * kb + fs jt + ji))), (5, .int (nI (90 * kb + fs jt + ji))), (2, .int jh), (1, .int (nI jt)), (0, .ref h0)]) hx hb dX11_layBehind_210 hl (k := 4) rfl (nI_1 _) (by decide +kernel) rfl (fun ls hl => ?_)
                refine lv_goto (tgt := 38) hx hb dX11_layBehind_213 (by decide +kernel) ?_
                exact ih_8 _ _ _ ⟨(ji + 1), jh, 0, b3, (by omega), (by omega), lv_sub hl [0, 2, 5, 6, 7] rfl, (hP.sub [0, 1, 2, 3, 7, 4, 6, 5] rfl), (hD.sub [0, 1, 2, 3, 7, 4, 6, 5] (by decide +kernel) rfl), hS⟩
              · have nc_22 : ¬ (6 ≤ jl) := fun h => c_22 ((nI_leI (a := 6) (b := jl) (by omega) (by omega)).mpr h)
                refine lv_iload_n hx hb dX11_layBehind_138 rfl (lv_at hl 1 rfl) ?_
                refine lv_if_eq (tgt := 172) hx hb dX11_layBehind_139 (by decide +kernel) (fun c_25 => ?_) (fun c_25 => absurd (by decide +kernel) c_25)
                refine lv_iload_n hx hb dX11_layBehind_172 rfl (lv_at hl 1 rfl) ?_
                refine lv_if_eq (tgt := 183) hx hb dX11_layBehind_173 (by decide +kernel) (fun c_26 => ?_) (fun c_26 => absurd (by decide +kernel) c_26)
                refine lv_aload_n hx hb dX11_layBehind_183 rfl (lv_at hl 7 rfl) ?_
                refine va_get (D := D) (ci := 11) (v := .ref zopSort) (C := RX11) (T := TX11) (N := 55) hx hb hts iw_X11_layBehind_11 hown hC.1 hP 6 rfl rfl 16 (by decide +kernel) (hts (.fieldLink RX11 36 "FairWheelModel" "opSort" "[I") (by decide +kernel)) (fun _ h9 => h9) rfl dX11_layBehind_184 ?_
                refine lv_iload hx hb dX11_layBehind_187 (lv_at hl 3 rfl) ?_
                refine ka_iald hx hb hC.1 hP 1 1 rfl rfl (90 * kb + fs jt + ji) rfl (by omega) (by decide +kernel) dX11_layBehind_189 ?_
                refine lv_iconst (v := 2) hx hb dX11_layBehind_190 (by decide +kernel) ?_
                refine lv_icmp_ne (tgt := 210) hx hb dX11_layBehind_191 (by decide +kernel) (fun c_27 => ?_) (fun c_27 => absurd (c_14.symm.trans c_27) (by decide +kernel))
                refine lv_iinc (v := nI (ji + 1)) (lv' := [(4, .int (nI (ji + 1))), (7, .int (nI jl)), (3, .int 0), (6, .int (f_opNumber (90 * kb + fs jt + ji))), (5, .int (nI (90 * kb + fs jt + ji))), (2, .int jh), (1, .int (nI jt)), (0, .ref h0)]) hx hb dX11_layBehind_210 hl (k := 4) rfl (nI_1 _) (by decide +kernel) rfl (fun ls hl => ?_)
                refine lv_goto (tgt := 38) hx hb dX11_layBehind_213 (by decide +kernel) ?_
                exact ih_8 _ _ _ ⟨(ji + 1), jh, 0, b3, (by omega), (by omega), lv_sub hl [0, 2, 5, 6, 7] rfl, (hP.sub [0, 1, 2, 3, 7, 4, 6, 5] rfl), (hD.sub [0, 1, 2, 3, 7, 4, 6, 5] (by decide +kernel) rfl), hS⟩
            · refine lv_iload_n hx hb dX11_layBehind_113 rfl (lv_at hl 4 rfl) ?_
              refine lv_iload hx hb dX11_layBehind_114 (lv_at hl 0 rfl) ?_
              refine lv_ishr hx hb dX11_layBehind_116 ?_
              refine lv_topi (fun y_28 ey_28 => ?_)
              refine lv_iconst (v := 1) hx hb dX11_layBehind_117 (by decide +kernel) ?_
              refine lv_iand hx hb dX11_layBehind_118 ?_
              refine lv_topi (fun y_29 ey_29 => ?_)
              refine lv_if_ne (tgt := 126) hx hb dX11_layBehind_119 (by decide +kernel) (fun c_30 => ?_) (fun c_30 => ?_)
              · refine lv_iconst (v := 0) hx hb dX11_layBehind_126 (by decide +kernel) ?_
                refine lv_istore_n (lv' := [(3, .int 0), (6, .int (f_opNumber (90 * kb + fs jt + ji))), (5, .int (nI (90 * kb + fs jt + ji))), (4, .int (nI ji)), (2, .int jh), (1, .int (nI jt)), (0, .ref h0)]) hx hb dX11_layBehind_127 rfl hl (by decide +kernel) rfl (fun ls hl => ?_)
                refine lv_iconst (v := 0) hx hb dX11_layBehind_128 (by decide +kernel) ?_
                refine lv_istore (lv' := [(7, .int 0), (3, .int 0), (6, .int (f_opNumber (90 * kb + fs jt + ji))), (5, .int (nI (90 * kb + fs jt + ji))), (4, .int (nI ji)), (2, .int jh), (1, .int (nI jt)), (0, .ref h0)]) hx hb dX11_layBehind_129 hl (by decide +kernel) rfl (fun ls hl => ?_)
                refine lp_ind (I := fun (n : Nat) H locs ls => ∃ (jl : Nat) (b3 : Nat → Int32), jl ≤ 6 ∧ jl + n = 7 ∧ lv_has ls 8 [(7, .int (nI jl)), (3, .int 0), (6, .int (f_opNumber (90 * kb + fs jt + ji))), (5, .int (nI (90 * kb + fs jt + ji))), (4, .int (nI ji)), (2, .int jh), (1, .int (nI jt)), (0, .ref h0)] ∧ va_P D vwCl [(zlocks, .inl (ca 1, 2, .inl f_locks)), (zopSort, .inl (ca 1, 180, .inl f_opSort)), (zopNumber, .inl (ca 1, 180, .inl f_opNumber)), (zfirstOp, .inl (ca 1, 20, .inl f_firstOp)), (zbehind, .inl (ca 1, 6, .inl b3)), (ztasks, .inl (ca 1, 2, .inl f_tasks)), (h0, .inr (11, [.ref ztape, .ref ztext, .int (nI ktp), .int (nI ksz), .int nfaultKind, .int nfaultPlace, .int (nI kat), .int (nI ken), .int ntoken, .int nnumber, .long nname, .ref zcores, .ref zlocks, .ref zbells, .ref ztasks, .ref zops, .ref zopSort, .ref zopNumber, .ref zkind, .ref zevery, .ref zbudget, .ref zshareTold, .ref zfirstOp, .ref zopMany, .ref zisCores, .ref zisLocks, .ref zisBells, .ref ztName, .int (nI kb), .int (nI kr), .ref zall, .ref zrows, .ref zpicked, .ref zpileTask, .ref zpileLock, .int (nI kp), .ref zwas, .ref zbehind, .ref zriskRow, .ref zriskBest, .int nriskMany, .ref zcTick, .ref zcProcessor, .ref zcTask, .int (nI kto), .ref zgTick, .ref zgTask, .ref zgTold, .ref zgUntold, .ref zgRan, .int (nI ksi), .int ntime, .ref zboxAll, .ref zboxRows, .ref zisBoxed])), (zopMany, .inl (ca 1, 20, .inl f_opMany))] H ∧ va_D A [(zlocks, .inl (ca 1, 2, .inl f_locks)), (zopSort, .inl (ca 1, 180, .inl f_opSort)), (zopNumber, .inl (ca 1, 180, .inl f_opNumber)), (zfirstOp, .inl (ca 1, 20, .inl f_firstOp)), (zbehind, .inl (ca 1, 6, .inl b3)), (ztasks, .inl (ca 1, 2, .inl f_tasks)), (h0, .inr (11, [.ref ztape, .ref ztext, .int (nI ktp), .int (nI ksz), .int nfaultKind, .int nfaultPlace, .int (nI kat), .int (nI ken), .int ntoken, .int nnumber, .long nname, .ref zcores, .ref zlocks, .ref zbells, .ref ztasks, .ref zops, .ref zopSort, .ref zopNumber, .ref zkind, .ref zevery, .ref zbudget, .ref zshareTold, .ref zfirstOp, .ref zopMany, .ref zisCores, .ref zisLocks, .ref zisBells, .ref ztName, .int (nI kb), .int (nI kr), .ref zall, .ref zrows, .ref zpicked, .ref zpileTask, .ref zpileLock, .int (nI kp), .ref zwas, .ref zbehind, .ref zriskRow, .ref zriskBest, .int nriskMany, .ref zcTick, .ref zcProcessor, .ref zcTask, .int (nI kto), .ref zgTick, .ref zgTask, .ref zgTold, .ref zgUntold, .ref zgRan, .int (nI ksi), .int ntime, .ref zboxAll, .ref zboxRows, .ref zisBoxed])), (zopMany, .inl (ca 1, 20, .inl f_opMany))] ∧ va_S A s.heap H locs) (Wf := fun H locs ls => W p l e _ s m _ below meth c H locs _ _ _ (F0 m 131 ls [])) (7) ⟨0, b2, (by omega), (by omega), hl, hP, hD, hS⟩ ?_ ?_
                · intro H locs ls hI
                  obtain ⟨jl, b3, hjl, hm3, -⟩ := hI
                  omega
                intro n ih_31 H locs ls hI
                obtain ⟨jl, b3, hjl, hm3, hl, hP, hD, hS⟩ := hI
                refine lv_iload hx hb dX11_layBehind_131 (lv_at hl 0 rfl) ?_
                refine lv_bipush (v := 6) hx hb dX11_layBehind_133 (by decide +kernel) ?_
                refine lv_icmp_ge (tgt := 172) hx hb dX11_layBehind_135 (by decide +kernel) (fun c_32 => ?_) (fun c_32 => ?_)
                · have nc_32 : 6 ≤ jl := (nI_leI (a := 6) (b := jl) (by omega) (by omega)).mp c_32
                  refine lv_iload_n hx hb dX11_layBehind_172 rfl (lv_at hl 1 rfl) ?_
                  refine lv_if_eq (tgt := 183) hx hb dX11_layBehind_173 (by decide +kernel) (fun c_33 => ?_) (fun c_33 => absurd (by decide +kernel) c_33)
                  refine lv_aload_n hx hb dX11_layBehind_183 rfl (lv_at hl 7 rfl) ?_
                  refine va_get (D := D) (ci := 11) (v := .ref zopSort) (C := RX11) (T := TX11) (N := 55) hx hb hts iw_X11_layBehind_11 hown hC.1 hP 6 rfl rfl 16 (by decide +kernel) (hts (.fieldLink RX11 36 "FairWheelModel" "opSort" "[I") (by decide +kernel)) (fun _ h9 => h9) rfl dX11_layBehind_184 ?_
                  refine lv_iload hx hb dX11_layBehind_187 (lv_at hl 3 rfl) ?_
                  refine ka_iald hx hb hC.1 hP 1 1 rfl rfl (90 * kb + fs jt + ji) rfl (by omega) (by decide +kernel) dX11_layBehind_189 ?_
                  refine lv_iconst (v := 2) hx hb dX11_layBehind_190 (by decide +kernel) ?_
                  refine lv_icmp_ne (tgt := 210) hx hb dX11_layBehind_191 (by decide +kernel) (fun c_34 => ?_) (fun c_34 => absurd (c_14.symm.trans c_34) (by decide +kernel))
                  refine lv_iinc (v := nI (ji + 1)) (lv' := [(4, .int (nI (ji + 1))), (7, .int (nI jl)), (3, .int 0), (6, .int (f_opNumber (90 * kb + fs jt + ji))), (5, .int (nI (90 * kb + fs jt + ji))), (2, .int jh), (1, .int (nI jt)), (0, .ref h0)]) hx hb dX11_layBehind_210 hl (k := 4) rfl (nI_1 _) (by decide +kernel) rfl (fun ls hl => ?_)
                  refine lv_goto (tgt := 38) hx hb dX11_layBehind_213 (by decide +kernel) ?_
                  exact ih_8 _ _ _ ⟨(ji + 1), jh, 0, b3, (by omega), (by omega), lv_sub hl [0, 2, 5, 6, 7] rfl, (hP.sub [0, 1, 2, 3, 7, 4, 6, 5] rfl), (hD.sub [0, 1, 2, 3, 7, 4, 6, 5] (by decide +kernel) rfl), hS⟩
                · have nc_32 : ¬ (6 ≤ jl) := fun h => c_32 ((nI_leI (a := 6) (b := jl) (by omega) (by omega)).mpr h)
                  refine lv_iload_n hx hb dX11_layBehind_138 rfl (lv_at hl 1 rfl) ?_
                  refine lv_if_eq (tgt := 172) hx hb dX11_layBehind_139 (by decide +kernel) (fun c_35 => ?_) (fun c_35 => absurd (by decide +kernel) c_35)
                  refine lv_iload_n hx hb dX11_layBehind_172 rfl (lv_at hl 1 rfl) ?_
                  refine lv_if_eq (tgt := 183) hx hb dX11_layBehind_173 (by decide +kernel) (fun c_36 => ?_) (fun c_36 => absurd (by decide +kernel) c_36)
                  refine lv_aload_n hx hb dX11_layBehind_183 rfl (lv_at hl 7 rfl) ?_
                  refine va_get (D := D) (ci := 11) (v := .ref zopSort) (C := RX11) (T := TX11) (N := 55) hx hb hts iw_X11_layBehind_11 hown hC.1 hP 6 rfl rfl 16 (by decide +kernel) (hts (.fieldLink RX11 36 "FairWheelModel" "opSort" "[I") (by decide +kernel)) (fun _ h9 => h9) rfl dX11_layBehind_184 ?_
                  refine lv_iload hx hb dX11_layBehind_187 (lv_at hl 3 rfl) ?_
                  refine ka_iald hx hb hC.1 hP 1 1 rfl rfl (90 * kb + fs jt + ji) rfl (by omega) (by decide +kernel) dX11_layBehind_189 ?_
                  refine lv_iconst (v := 2) hx hb dX11_layBehind_190 (by decide +kernel) ?_
                  refine lv_icmp_ne (tgt := 210) hx hb dX11_layBehind_191 (by decide +kernel) (fun c_37 => ?_) (fun c_37 => absurd (c_14.symm.trans c_37) (by decide +kernel))
                  refine lv_iinc (v := nI (ji + 1)) (lv' := [(4, .int (nI (ji + 1))), (7, .int (nI jl)), (3, .int 0), (6, .int (f_opNumber (90 * kb + fs jt + ji))), (5, .int (nI (90 * kb + fs jt + ji))), (2, .int jh), (1, .int (nI jt)), (0, .ref h0)]) hx hb dX11_layBehind_210 hl (k := 4) rfl (nI_1 _) (by decide +kernel) rfl (fun ls hl => ?_)
                  refine lv_goto (tgt := 38) hx hb dX11_layBehind_213 (by decide +kernel) ?_
                  exact ih_8 _ _ _ ⟨(ji + 1), jh, 0, b3, (by omega), (by omega), lv_sub hl [0, 2, 5, 6, 7] rfl, (hP.sub [0, 1, 2, 3, 7, 4, 6, 5] rfl), (hD.sub [0, 1, 2, 3, 7, 4, 6, 5] (by decide +kernel) rfl), hS⟩
              · refine lv_iconst (v := 1) hx hb dX11_layBehind_122 (by decide +kernel) ?_
                refine lv_goto (tgt := 127) hx hb dX11_layBehind_123 (by decide +kernel) ?_
                refine lv_istore_n (lv' := [(3, .int 1), (6, .int (f_opNumber (90 * kb + fs jt + ji))), (5, .int (nI (90 * kb + fs jt + ji))), (4, .int (nI ji)), (2, .int jh), (1, .int (nI jt)), (0, .ref h0)]) hx hb dX11_layBehind_127 rfl hl (by decide +kernel) rfl (fun ls hl => ?_)
                refine lv_iconst (v := 0) hx hb dX11_layBehind_128 (by decide +kernel) ?_
                refine lv_istore (lv' := [(7, .int 0), (3, .int 1), (6, .int (f_opNumber (90 * kb + fs jt + ji))), (5, .int (nI (90 * kb + fs jt + ji))), (4, .int (nI ji)), (2, .int jh), (1, .int (nI jt)), (0, .ref h0)]) hx hb dX11_layBehind_129 hl (by decide +kernel) rfl (fun ls hl => ?_)
                refine lp_ind (I := fun (n : Nat) H locs ls => ∃ (jl : Nat) (b3 : Nat → Int32), jl ≤ 6 ∧ jl + n = 7 ∧ lv_has ls 8 [(7, .int (nI jl)), (3, .int 1), (6, .int (f_opNumber (90 * kb + fs jt + ji))), (5, .int (nI (90 * kb + fs jt + ji))), (4, .int (nI ji)), (2, .int jh), (1, .int (nI jt)), (0, .ref h0)] ∧ va_P D vwCl [(zlocks, .inl (ca 1, 2, .inl f_locks)), (zopSort, .inl (ca 1, 180, .inl f_opSort)), (zopNumber, .inl (ca 1, 180, .inl f_opNumber)), (zfirstOp, .inl (ca 1, 20, .inl f_firstOp)), (zbehind, .inl (ca 1, 6, .inl b3)), (ztasks, .inl (ca 1, 2, .inl f_tasks)), (h0, .inr (11, [.ref ztape, .ref ztext, .int (nI ktp), .int (nI ksz), .int nfaultKind, .int nfaultPlace, .int (nI kat), .int (nI ken), .int ntoken, .int nnumber, .long nname, .ref zcores, .ref zlocks, .ref zbells, .ref ztasks, .ref zops, .ref zopSort, .ref zopNumber, .ref zkind, .ref zevery, .ref zbudget, .ref zshareTold, .ref zfirstOp, .ref zopMany, .ref zisCores, .ref zisLocks, .ref zisBells, .ref ztName, .int (nI kb), .int (nI kr), .ref zall, .ref zrows, .ref zpicked, .ref zpileTask, .ref zpileLock, .int (nI kp), .ref zwas, .ref zbehind, .ref zriskRow, .ref zriskBest, .int nriskMany, .ref zcTick, .ref zcProcessor, .ref zcTask, .int (nI kto), .ref zgTick, .ref zgTask, .ref zgTold, .ref zgUntold, .ref zgRan, .int (nI ksi), .int ntime, .ref zboxAll, .ref zboxRows, .ref zisBoxed])), (zopMany, .inl (ca 1, 20, .inl f_opMany))] H ∧ va_D A [(zlocks, .inl (ca 1, 2, .inl f_locks)), (zopSort, .inl (ca 1, 180, .inl f_opSort)), (zopNumber, .inl (ca 1, 180, .inl f_opNumber)), (zfirstOp, .inl (ca 1, 20, .inl f_firstOp)), (zbehind, .inl (ca 1, 6, .inl b3)), (ztasks, .inl (ca 1, 2, .inl f_tasks)), (h0, .inr (11, [.ref ztape, .ref ztext, .int (nI ktp), .int (nI ksz), .int nfaultKind, .int nfaultPlace, .int (nI kat), .int (nI ken), .int ntoken, .int nnumber, .long nname, .ref zcores, .ref zlocks, .ref zbells, .ref ztasks, .ref zops, .ref zopSort, .ref zopNumber, .ref zkind, .ref zevery, .ref zbudget, .ref zshareTold, .ref zfirstOp, .ref zopMany, .ref zisCores, .ref zisLocks, .ref zisBells, .ref ztName, .int (nI kb), .int (nI kr), .ref zall, .ref zrows, .ref zpicked, .ref zpileTask, .ref zpileLock, .int (nI kp), .ref zwas, .ref zbehind, .ref zriskRow, .ref zriskBest, .int nriskMany, .ref zcTick, .ref zcProcessor, .ref zcTask, .int (nI kto), .ref zgTick, .ref zgTask, .ref zgTold, .ref zgUntold, .ref zgRan, .int (nI ksi), .int ntime, .ref zboxAll, .ref zboxRows, .ref zisBoxed])), (zopMany, .inl (ca 1, 20, .inl f_opMany))] ∧ va_S A s.heap H locs) (Wf := fun H locs ls => W p l e _ s m _ below meth c H locs _ _ _ (F0 m 131 ls [])) (7) ⟨0, b2, (by omega), (by omega), hl, hP, hD, hS⟩ ?_ ?_
                · intro H locs ls hI
                  obtain ⟨jl, b3, hjl, hm3, -⟩ := hI
                  omega
                intro n ih_38 H locs ls hI
                obtain ⟨jl, b3, hjl, hm3, hl, hP, hD, hS⟩ := hI
                refine lv_iload hx hb dX11_layBehind_131 (lv_at hl 0 rfl) ?_
                refine lv_bipush (v := 6) hx hb dX11_layBehind_133 (by decide +kernel) ?_
                refine lv_icmp_ge (tgt := 172) hx hb dX11_layBehind_135 (by decide +kernel) (fun c_39 => ?_) (fun c_39 => ?_)
                · have nc_39 : 6 ≤ jl := (nI_leI (a := 6) (b := jl) (by omega) (by omega)).mp c_39
                  refine lv_iload_n hx hb dX11_layBehind_172 rfl (lv_at hl 1 rfl) ?_
                  refine lv_if_eq (tgt := 183) hx hb dX11_layBehind_173 (by decide +kernel) (fun c_40 => absurd c_40 (by decide +kernel)) (fun c_40 => ?_)
                  refine lv_iload_n hx hb dX11_layBehind_176 rfl (lv_at hl 5 rfl) ?_
                  refine lv_iconst (v := 1) hx hb dX11_layBehind_177 (by decide +kernel) ?_
                  refine lv_iload hx hb dX11_layBehind_178 (lv_at hl 2 rfl) ?_
                  refine lv_ishl hx hb dX11_layBehind_180 ?_
                  refine lv_topi (fun y_41 ey_41 => ?_)
                  refine lv_ior hx hb dX11_layBehind_181 ?_
                  refine lv_topi (fun y_42 ey_42 => ?_)
                  refine lv_istore_n (lv' := [(2, .int y_42), (7, .int (nI jl)), (3, .int 1), (6, .int (f_opNumber (90 * kb + fs jt + ji))), (5, .int (nI (90 * kb + fs jt + ji))), (4, .int (nI ji)), (1, .int (nI jt)), (0, .ref h0)]) hx hb dX11_layBehind_182 rfl hl (by decide +kernel) rfl (fun ls hl => ?_)
                  refine lv_aload_n hx hb dX11_layBehind_183 rfl (lv_at hl 7 rfl) ?_
                  refine va_get (D := D) (ci := 11) (v := .ref zopSort) (C := RX11) (T := TX11) (N := 55) hx hb hts iw_X11_layBehind_11 hown hC.1 hP 6 rfl rfl 16 (by decide +kernel) (hts (.fieldLink RX11 36 "FairWheelModel" "opSort" "[I") (by decide +kernel)) (fun _ h9 => h9) rfl dX11_layBehind_184 ?_
                  refine lv_iload hx hb dX11_layBehind_187 (lv_at hl 4 rfl) ?_
                  refine ka_iald hx hb hC.1 hP 1 1 rfl rfl (90 * kb + fs jt + ji) rfl (by omega) (by decide +kernel) dX11_layBehind_189 ?_
                  refine lv_iconst (v := 2) hx hb dX11_layBehind_190 (by decide +kernel) ?_
                  refine lv_icmp_ne (tgt := 210) hx hb dX11_layBehind_191 (by decide +kernel) (fun c_43 => ?_) (fun c_43 => absurd (c_14.symm.trans c_43) (by decide +kernel))
                  refine lv_iinc (v := nI (ji + 1)) (lv' := [(4, .int (nI (ji + 1))), (2, .int y_42), (7, .int (nI jl)), (3, .int 1), (6, .int (f_opNumber (90 * kb + fs jt + ji))), (5, .int (nI (90 * kb + fs jt + ji))), (1, .int (nI jt)), (0, .ref h0)]) hx hb dX11_layBehind_210 hl (k := 5) rfl (nI_1 _) (by decide +kernel) rfl (fun ls hl => ?_)
                  refine lv_goto (tgt := 38) hx hb dX11_layBehind_213 (by decide +kernel) ?_
                  exact ih_8 _ _ _ ⟨(ji + 1), y_42, 1, b3, (by omega), (by omega), lv_sub hl [0, 3, 1, 6, 7] rfl, (hP.sub [0, 1, 2, 3, 7, 4, 6, 5] rfl), (hD.sub [0, 1, 2, 3, 7, 4, 6, 5] (by decide +kernel) rfl), hS⟩
                · have nc_39 : ¬ (6 ≤ jl) := fun h => c_39 ((nI_leI (a := 6) (b := jl) (by omega) (by omega)).mpr h)
                  refine lv_iload_n hx hb dX11_layBehind_138 rfl (lv_at hl 1 rfl) ?_
                  refine lv_if_eq (tgt := 172) hx hb dX11_layBehind_139 (by decide +kernel) (fun c_44 => absurd c_44 (by decide +kernel)) (fun c_44 => ?_)
                  refine lv_iload_n hx hb dX11_layBehind_142 rfl (lv_at hl 5 rfl) ?_
                  refine lv_iload hx hb dX11_layBehind_143 (lv_at hl 0 rfl) ?_
                  refine lv_ishr hx hb dX11_layBehind_145 ?_
                  refine lv_topi (fun y_45 ey_45 => ?_)
                  refine lv_iconst (v := 1) hx hb dX11_layBehind_146 (by decide +kernel) ?_
                  refine lv_iand hx hb dX11_layBehind_147 ?_
                  refine lv_topi (fun y_46 ey_46 => ?_)
                  refine lv_iconst (v := 1) hx hb dX11_layBehind_148 (by decide +kernel) ?_
                  refine lv_icmp_ne (tgt := 166) hx hb dX11_layBehind_149 (by decide +kernel) (fun c_47 => ?_) (fun c_47 => ?_)
                  · refine lv_iinc (v := nI (jl + 1)) (lv' := [(7, .int (nI (jl + 1))), (3, .int 1), (6, .int (f_opNumber (90 * kb + fs jt + ji))), (5, .int (nI (90 * kb + fs jt + ji))), (4, .int (nI ji)), (2, .int jh), (1, .int (nI jt)), (0, .ref h0)]) hx hb dX11_layBehind_166 hl (k := 0) rfl (nI_1 _) (by decide +kernel) rfl (fun ls hl => ?_)
                    refine lv_goto (tgt := 131) hx hb dX11_layBehind_169 (by decide +kernel) ?_
                    exact ih_38 _ _ _ ⟨(jl + 1), b3, (by omega), (by omega), lv_sub hl [0, 1, 2, 3, 4, 5, 6, 7] rfl, hP, hD, hS⟩
                  · refine lv_aload_n hx hb dX11_layBehind_152 rfl (lv_at hl 7 rfl) ?_
                    refine va_get (D := D) (ci := 11) (v := .ref zbehind) (C := RX11) (T := TX11) (N := 55) hx hb hts iw_X11_layBehind_11 hown hC.1 hP 6 rfl rfl 37 (by decide +kernel) (hts (.fieldLink RX11 92 "FairWheelModel" "behind" "[I") (by decide +kernel)) (fun _ h9 => h9) rfl dX11_layBehind_153 ?_
                    refine lv_iload hx hb dX11_layBehind_156 (lv_at hl 0 rfl) ?_
                    refine lv_dup2_11 hx hb dX11_layBehind_158 rfl rfl ?_
                    refine ka_iald hx hb hC.1 hP 4 1 rfl rfl jl rfl (by omega) (by decide +kernel) dX11_layBehind_159 ?_
                    refine lv_iconst (v := 1) hx hb dX11_layBehind_160 (by decide +kernel) ?_
                    refine lv_iload hx hb dX11_layBehind_161 (lv_at hl 2 rfl) ?_
                    refine lv_ishl hx hb dX11_layBehind_163 ?_
                    refine lv_topi (fun y_48 ey_48 => ?_)
                    refine lv_ior hx hb dX11_layBehind_164 ?_
                    refine lv_topi (fun y_49 ey_49 => ?_)
                    refine ka_iast hx hb hC.1 hP hD hS 4 1 rfl rfl jl rfl (by omega) (by decide +kernel) dX11_layBehind_165 (fun H locs hP hD hS => ?_)
                    have hP : va_P D vwCl [(zlocks, .inl (ca 1, 2, .inl f_locks)), (zopSort, .inl (ca 1, 180, .inl f_opSort)), (zopNumber, .inl (ca 1, 180, .inl f_opNumber)), (zfirstOp, .inl (ca 1, 20, .inl f_firstOp)), (zbehind, .inl (ca 1, 6, .inl (upd b3 jl y_49))), (ztasks, .inl (ca 1, 2, .inl f_tasks)), (h0, .inr (11, [.ref ztape, .ref ztext, .int (nI ktp), .int (nI ksz), .int nfaultKind, .int nfaultPlace, .int (nI kat), .int (nI ken), .int ntoken, .int nnumber, .long nname, .ref zcores, .ref zlocks, .ref zbells, .ref ztasks, .ref zops, .ref zopSort, .ref zopNumber, .ref zkind, .ref zevery, .ref zbudget, .ref zshareTold, .ref zfirstOp, .ref zopMany, .ref zisCores, .ref zisLocks, .ref zisBells, .ref ztName, .int (nI kb), .int (nI kr), .ref zall, .ref zrows, .ref zpicked, .ref zpileTask, .ref zpileLock, .int (nI kp), .ref zwas, .ref zbehind, .ref zriskRow, .ref zriskBest, .int nriskMany, .ref zcTick, .ref zcProcessor, .ref zcTask, .int (nI kto), .ref zgTick, .ref zgTask, .ref zgTold, .ref zgUntold, .ref zgRan, .int (nI ksi), .int ntime, .ref zboxAll, .ref zboxRows, .ref zisBoxed])), (zopMany, .inl (ca 1, 20, .inl f_opMany))] H := hP
                    have hD : va_D A [(zlocks, .inl (ca 1, 2, .inl f_locks)), (zopSort, .inl (ca 1, 180, .inl f_opSort)), (zopNumber, .inl (ca 1, 180, .inl f_opNumber)), (zfirstOp, .inl (ca 1, 20, .inl f_firstOp)), (zbehind, .inl (ca 1, 6, .inl (upd b3 jl y_49))), (ztasks, .inl (ca 1, 2, .inl f_tasks)), (h0, .inr (11, [.ref ztape, .ref ztext, .int (nI ktp), .int (nI ksz), .int nfaultKind, .int nfaultPlace, .int (nI kat), .int (nI ken), .int ntoken, .int nnumber, .long nname, .ref zcores, .ref zlocks, .ref zbells, .ref ztasks, .ref zops, .ref zopSort, .ref zopNumber, .ref zkind, .ref zevery, .ref zbudget, .ref zshareTold, .ref zfirstOp, .ref zopMany, .ref zisCores, .ref zisLocks, .ref zisBells, .ref ztName, .int (nI kb), .int (nI kr), .ref zall, .ref zrows, .ref zpicked, .ref zpileTask, .ref zpileLock, .int (nI kp), .ref zwas, .ref zbehind, .ref zriskRow, .ref zriskBest, .int nriskMany, .ref zcTick, .ref zcProcessor, .ref zcTask, .int (nI kto), .ref zgTick, .ref zgTask, .ref zgTold, .ref zgUntold, .ref zgRan, .int (nI ksi), .int ntime, .ref zboxAll, .ref zboxRows, .ref zisBoxed])), (zopMany, .inl (ca 1, 20, .inl f_opMany))] := hD
                    refine lv_iinc (v := nI (jl + 1)) (lv' := [(7, .int (nI (jl + 1))), (3, .int 1), (6, .int (f_opNumber (90 * kb + fs jt + ji))), (5, .int (nI (90 * kb + fs jt + ji))), (4, .int (nI ji)), (2, .int jh), (1, .int (nI jt)), (0, .ref h0)]) hx hb dX11_layBehind_166 hl (k := 0) rfl (nI_1 _) (by decide +kernel) rfl (fun ls hl => ?_)
                    refine lv_goto (tgt := 131) hx hb dX11_layBehind_169 (by decide +kernel) ?_
                    exact ih_38 _ _ _ ⟨(jl + 1), (upd b3 jl y_49), (by omega), (by omega), lv_sub hl [0, 1, 2, 3, 4, 5, 6, 7] rfl, hP, hD, hS⟩
  · have nc_2 : ¬ (6 ≤ j0) := fun h => c_2 ((nI_leI (a := 6) (b := j0) (by omega) (by omega)).mpr h)
    refine lv_aload_n hx hb dX11_layBehind_8 rfl (lv_at hl 1 rfl) ?_
    refine va_get (D := D) (ci := 11) (v := .ref zbehind) (C := RX11) (T := TX11) (N := 55) hx hb hts iw_X11_layBehind_11 hown hC.1 hP 0 rfl rfl 37 (by decide +kernel) (hts (.fieldLink RX11 92 "FairWheelModel" "behind" "[I") (by decide +kernel)) (fun _ h9 => h9) rfl dX11_layBehind_9 ?_
    refine lv_iload_n hx hb dX11_layBehind_12 rfl (lv_at hl 0 rfl) ?_
    refine lv_iconst (v := 0) hx hb dX11_layBehind_13 (by decide +kernel) ?_
    refine ka_iast hx hb hC.1 hP hD hS 7 1 rfl rfl j0 rfl (by omega) (by decide +kernel) dX11_layBehind_14 (fun H locs hP hD hS => ?_)
    have hP : va_P D vwCl [(h0, .inr (11, [.ref ztape, .ref ztext, .int (nI ktp), .int (nI ksz), .int nfaultKind, .int nfaultPlace, .int (nI kat), .int (nI ken), .int ntoken, .int nnumber, .long nname, .ref zcores, .ref zlocks, .ref zbells, .ref ztasks, .ref zops, .ref zopSort, .ref zopNumber, .ref zkind, .ref zevery, .ref zbudget, .ref zshareTold, .ref zfirstOp, .ref zopMany, .ref zisCores, .ref zisLocks, .ref zisBells, .ref ztName, .int (nI kb), .int (nI kr), .ref zall, .ref zrows, .ref zpicked, .ref zpileTask, .ref zpileLock, .int (nI kp), .ref zwas, .ref zbehind, .ref zriskRow, .ref zriskBest, .int nriskMany, .ref zcTick, .ref zcProcessor, .ref zcTask, .int (nI kto), .ref zgTick, .ref zgTask, .ref zgTold, .ref zgUntold, .ref zgRan, .int (nI ksi), .int ntime, .ref zboxAll, .ref zboxRows, .ref zisBoxed])), (zlocks, .inl (ca 1, 2, .inl f_locks)), (ztasks, .inl (ca 1, 2, .inl f_tasks)), (zopSort, .inl (ca 1, 180, .inl f_opSort)), (zopNumber, .inl (ca 1, 180, .inl f_opNumber)), (zfirstOp, .inl (ca 1, 20, .inl f_firstOp)), (zopMany, .inl (ca 1, 20, .inl f_opMany)), (zbehind, .inl (ca 1, 6, .inl (upd b0 j0 0)))] H := hP
    have hD : va_D A [(h0, .inr (11, [.ref ztape, .ref ztext, .int (nI ktp), .int (nI ksz), .int nfaultKind, .int nfaultPlace, .int (nI kat), .int (nI ken), .int ntoken, .int nnumber, .long nname, .ref zcores, .ref zlocks, .ref zbells, .ref ztasks, .ref zops, .ref zopSort, .ref zopNumber, .ref zkind, .ref zevery, .ref zbudget, .ref zshareTold, .ref zfirstOp, .ref zopMany, .ref zisCores, .ref zisLocks, .ref zisBells, .ref ztName, .int (nI kb), .int (nI kr), .ref zall, .ref zrows, .ref zpicked, .ref zpileTask, .ref zpileLock, .int (nI kp), .ref zwas, .ref zbehind, .ref zriskRow, .ref zriskBest, .int nriskMany, .ref zcTick, .ref zcProcessor, .ref zcTask, .int (nI kto), .ref zgTick, .ref zgTask, .ref zgTold, .ref zgUntold, .ref zgRan, .int (nI ksi), .int ntime, .ref zboxAll, .ref zboxRows, .ref zisBoxed])), (zlocks, .inl (ca 1, 2, .inl f_locks)), (ztasks, .inl (ca 1, 2, .inl f_tasks)), (zopSort, .inl (ca 1, 180, .inl f_opSort)), (zopNumber, .inl (ca 1, 180, .inl f_opNumber)), (zfirstOp, .inl (ca 1, 20, .inl f_firstOp)), (zopMany, .inl (ca 1, 20, .inl f_opMany)), (zbehind, .inl (ca 1, 6, .inl (upd b0 j0 0)))] := hD
    refine lv_iinc (v := nI (j0 + 1)) (lv' := [(1, .int (nI (j0 + 1))), (0, .ref h0)]) hx hb dX11_layBehind_15 hl (k := 0) rfl (nI_1 _) (by decide +kernel) rfl (fun ls hl => ?_)
    refine lv_goto (tgt := 2) hx hb dX11_layBehind_18 (by decide +kernel) ?_
    exact ih_1 _ _ _ ⟨(j0 + 1), (upd b0 j0 0), (by omega), (by omega), lv_sub hl [0, 1] rfl, hP, hD, hS⟩
theorem iw_X11_findRound_11 : ∀ w ∈ u_ws RX11 TX11 55, w ∈ wsX11_findRound := by decide +kernel
set_option maxHeartbeats 4000000 in
set_option maxRecDepth 100000 in
theorem m_findRound (l : Launch) (D : va_G) (ca : Nat → ClassId) (sz : Nat) (h0 : Nat) (ztape : Nat) (ztext : Nat) (zcores : Nat) (zlocks : Nat) (zbells : Nat) (ztasks : Nat) (zops : Nat) (zopSort : Nat) (zopNumber : Nat) (zkind : Nat) (zevery : Nat) (zbudget : Nat) (zshareTold : Nat) (zfirstOp : Nat) (zopMany : Nat) (zisCores : Nat) (zisLocks : Nat) (zisBells : Nat) (ztName : Nat) (zall : Nat) (zrows : Nat) (zpicked : Nat) (zpileTask : Nat) (zpileLock : Nat) (zwas : Nat) (zbehind : Nat) (zriskRow : Nat) (zriskBest : Nat) (zcTick : Nat) (zcProcessor : Nat) (zcTask : Nat) (zgTick : Nat) (zgTask : Nat) (zgTold : Nat) (zgUntold : Nat) (zgRan : Nat) (zboxAll : Nat) (zboxRows : Nat) (zisBoxed : Nat) (ktp : Nat) (ksz : Nat) (nfaultKind : Int32) (nfaultPlace : Int32) (kat : Nat) (ken : Nat) (ntoken : Int32) (nnumber : Int32) (nname : Int64) (kb : Nat) (kr : Nat) (kp : Nat) (nriskMany : Int32) (kto : Nat) (ksi : Nat) (ntime : Int32) (f_behind : Nat → Int32) (f_riskRow : Nat → Int32) (kf : Nat) (km : Nat) (hkf : kf < 6) (hkm1 : 1 ≤ km) (hkm : km ≤ 6) : Met l yX11_findRound wsX11_findRound ({ frames := 0, cells := 0, slots := 0, locals := 0 }) (PC [.ref h0, .int (nI kf), .int (nI km)] sz D ca [(h0, .inr (11, [.ref ztape, .ref ztext, .int (nI ktp), .int (nI ksz), .int nfaultKind, .int nfaultPlace, .int (nI kat), .int (nI ken), .int ntoken, .int nnumber, .long nname, .ref zcores, .ref zlocks, .ref zbells, .ref ztasks, .ref zops, .ref zopSort, .ref zopNumber, .ref zkind, .ref zevery, .ref zbudget, .ref zshareTold, .ref zfirstOp, .ref zopMany, .ref zisCores, .ref zisLocks, .ref zisBells, .ref ztName, .int (nI kb), .int (nI kr), .ref zall, .ref zrows, .ref zpicked, .ref zpileTask, .ref zpileLock, .int (nI kp), .ref zwas, .ref zbehind, .ref zriskRow, .ref zriskBest, .int nriskMany, .ref zcTick, .ref zcProcessor, .ref zcTask, .int (nI kto), .ref zgTick, .ref zgTask, .ref zgTold, .ref zgUntold, .ref zgRan, .int (nI ksi), .int ntime, .ref zboxAll, .ref zboxRows, .ref zisBoxed])), (zbehind, .inl (ca 1, 6, .inl f_behind)), (zriskRow, .inl (ca 1, 8, .inl f_riskRow))]) (QI (fun (r : Int32) (u : (Nat → Int32)) => r = 0 ∨ r = 1) (fun (u : (Nat → Int32)) => [(h0, .inr (11, [.ref ztape, .ref ztext, .int (nI ktp), .int (nI ksz), .int nfaultKind, .int nfaultPlace, .int (nI kat), .int (nI ken), .int ntoken, .int nnumber, .long nname, .ref zcores, .ref zlocks, .ref zbells, .ref ztasks, .ref zops, .ref zopSort, .ref zopNumber, .ref zkind, .ref zevery, .ref zbudget, .ref zshareTold, .ref zfirstOp, .ref zopMany, .ref zisCores, .ref zisLocks, .ref zisBells, .ref ztName, .int (nI kb), .int (nI kr), .ref zall, .ref zrows, .ref zpicked, .ref zpileTask, .ref zpileLock, .int (nI kp), .ref zwas, .ref zbehind, .ref zriskRow, .ref zriskBest, .int nriskMany, .ref zcTick, .ref zcProcessor, .ref zcTask, .int (nI kto), .ref zgTick, .ref zgTask, .ref zgTold, .ref zgUntold, .ref zgRan, .int (nI ksi), .int ntime, .ref zboxAll, .ref zboxRows, .ref zisBoxed])), (zbehind, .inl (ca 1, 6, .inl f_behind)), (zriskRow, .inl (ca 1, 8, .inl u))]) [(h0, .inr (11, [.ref ztape, .ref ztext, .int (nI ktp), .int (nI ksz), .int nfaultKind, .int nfaultPlace, .int (nI kat), .int (nI ken), .int ntoken, .int nnumber, .long nname, .ref zcores, .ref zlocks, .ref zbells, .ref ztasks, .ref zops, .ref zopSort, .ref zopNumber, .ref zkind, .ref zevery, .ref zbudget, .ref zshareTold, .ref zfirstOp, .ref zopMany, .ref zisCores, .ref zisLocks, .ref zisBells, .ref ztName, .int (nI kb), .int (nI kr), .ref zall, .ref zrows, .ref zpicked, .ref zpileTask, .ref zpileLock, .int (nI kp), .ref zwas, .ref zbehind, .ref zriskRow, .ref zriskBest, .int nriskMany, .ref zcTick, .ref zcProcessor, .ref zcTask, .int (nI kto), .ref zgTick, .ref zgTask, .ref zgTold, .ref zgUntold, .ref zgRan, .int (nI ksi), .int ntime, .ref zboxAll, .ref zboxRows, .ref zisBoxed])), (zbehind, .inl (ca 1, 6, .inl f_behind)), (zriskRow, .inl (ca 1, 8, .inl f_riskRow))] sz D) 0 0 (va_A [(h0, .inr (11, [.ref ztape, .ref ztext, .int (nI ktp), .int (nI ksz), .int nfaultKind, .int nfaultPlace, .int (nI kat), .int (nI ken), .int ntoken, .int nnumber, .long nname, .ref zcores, .ref zlocks, .ref zbells, .ref ztasks, .ref zops, .ref zopSort, .ref zopNumber, .ref zkind, .ref zevery, .ref zbudget, .ref zshareTold, .ref zfirstOp, .ref zopMany, .ref zisCores, .ref zisLocks, .ref zisBells, .ref ztName, .int (nI kb), .int (nI kr), .ref zall, .ref zrows, .ref zpicked, .ref zpileTask, .ref zpileLock, .int (nI kp), .ref zwas, .ref zbehind, .ref zriskRow, .ref zriskBest, .int nriskMany, .ref zcTick, .ref zcProcessor, .ref zcTask, .int (nI kto), .ref zgTick, .ref zgTask, .ref zgTold, .ref zgUntold, .ref zgRan, .int (nI ksi), .int ntime, .ref zboxAll, .ref zboxRows, .ref zisBoxed])), (zbehind, .inl (ca 1, 6, .inl f_behind)), (zriskRow, .inl (ca 1, 8, .inl f_riskRow))] sz) := by
  refine Met.ofW (cc := cX11_findRound) (maxL := 5) (ret := (some .boolean)) (by decide +kernel) rfl ?_
  intro p e s m args below meth c s₁ B hml hv
  obtain ⟨rfl, hsz, hP, hC, hD0⟩ := hv
  have hx := B.exec
  have hb := B.bytes
  have hr := B.returns
  have hts := atoms_spec (ws := wsX11_findRound) B.pre
  have hown : s.vm.findClass RX11 = some m.cls := findClass_of_methodNamed B.named
  have hlocks := B.notSynchronized
  subst hsz
  have hD := hD0.self (sz := s.heap.size)
  dsimp only [QV, QI, QL, BQ]
  generalize hAe : va_A [(h0, .inr (11, [.ref ztape, .ref ztext, .int (nI ktp), .int (nI ksz), .int nfaultKind, .int nfaultPlace, .int (nI kat), .int (nI ken), .int ntoken, .int nnumber, .long nname, .ref zcores, .ref zlocks, .ref zbells, .ref ztasks, .ref zops, .ref zopSort, .ref zopNumber, .ref zkind, .ref zevery, .ref zbudget, .ref zshareTold, .ref zfirstOp, .ref zopMany, .ref zisCores, .ref zisLocks, .ref zisBells, .ref ztName, .int (nI kb), .int (nI kr), .ref zall, .ref zrows, .ref zpicked, .ref zpileTask, .ref zpileLock, .int (nI kp), .ref zwas, .ref zbehind, .ref zriskRow, .ref zriskBest, .int nriskMany, .ref zcTick, .ref zcProcessor, .ref zcTask, .int (nI kto), .ref zgTick, .ref zgTask, .ref zgTold, .ref zgUntold, .ref zgRan, .int (nI ksi), .int ntime, .ref zboxAll, .ref zboxRows, .ref zisBoxed])), (zbehind, .inl (ca 1, 6, .inl f_behind)), (zriskRow, .inl (ca 1, 8, .inl f_riskRow))] s.heap.size = A at hD ⊢
  have hA : ∀ q : Nat, s.heap.size ≤ q → A q := fun q h => by rw [← hAe]; exact Or.inr h
  have hDA : ∀ {w : va_W}, va_D A w → va_D (va_A [(h0, .inr (11, [.ref ztape, .ref ztext, .int (nI ktp), .int (nI ksz), .int nfaultKind, .int nfaultPlace, .int (nI kat), .int (nI ken), .int ntoken, .int nnumber, .long nname, .ref zcores, .ref zlocks, .ref zbells, .ref ztasks, .ref zops, .ref zopSort, .ref zopNumber, .ref zkind, .ref zevery, .ref zbudget, .ref zshareTold, .ref zfirstOp, .ref zopMany, .ref zisCores, .ref zisLocks, .ref zisBells, .ref ztName, .int (nI kb), .int (nI kr), .ref zall, .ref zrows, .ref zpicked, .ref zpileTask, .ref zpileLock, .int (nI kp), .ref zwas, .ref zbehind, .ref zriskRow, .ref zriskBest, .int nriskMany, .ref zcTick, .ref zcProcessor, .ref zcTask, .int (nI kto), .ref zgTick, .ref zgTask, .ref zgTold, .ref zgUntold, .ref zgRan, .int (nI ksi), .int ntime, .ref zboxAll, .ref zboxRows, .ref zisBoxed])), (zbehind, .inl (ca 1, 6, .inl f_behind)), (zriskRow, .inl (ca 1, 8, .inl f_riskRow))] s.heap.size) w := fun h => by rw [hAe]; exact h
  have hS : va_S A s.heap s.heap [] := va_S.rf
  have hP : va_P D vwCl [(h0, .inr (11, [.ref ztape, .ref ztext, .int (nI ktp), .int (nI ksz), .int nfaultKind, .int nfaultPlace, .int (nI kat), .int (nI ken), .int ntoken, .int nnumber, .long nname, .ref zcores, .ref zlocks, .ref zbells, .ref ztasks, .ref zops, .ref zopSort, .ref zopNumber, .ref zkind, .ref zevery, .ref zbudget, .ref zshareTold, .ref zfirstOp, .ref zopMany, .ref zisCores, .ref zisLocks, .ref zisBells, .ref ztName, .int (nI kb), .int (nI kr), .ref zall, .ref zrows, .ref zpicked, .ref zpileTask, .ref zpileLock, .int (nI kp), .ref zwas, .ref zbehind, .ref zriskRow, .ref zriskBest, .int nriskMany, .ref zcTick, .ref zcProcessor, .ref zcTask, .int (nI kto), .ref zgTick, .ref zgTask, .ref zgTold, .ref zgUntold, .ref zgRan, .int (nI ksi), .int ntime, .ref zboxAll, .ref zboxRows, .ref zisBoxed])), (zbehind, .inl (ca 1, 6, .inl f_behind)), (zriskRow, .inl (ca 1, 8, .inl f_riskRow))] s.heap := hP
  have hl := lv_entry ([.ref h0, .int (nI kf), .int (nI km)]) (n := 5) (Nat.le_of_ble_eq_true rfl)
  rw [lg_entry_eq]
  generalize (lg_sl ([.ref h0, .int (nI kf), .int (nI km)]) ++ List.replicate (5 - (lg_sl ([.ref h0, .int (nI kf), .int (nI km)])).length) Slot.unset).toArray = ls at hl ⊢
  have hl : lv_has ls 5 [(0, .ref h0), (1, .int (nI kf)), (2, .int (nI km))] := hl
  refine lv_iconst (v := 1) hx hb dX11_findRound_0 (by decide +kernel) ?_
  refine lv_istore_n (lv' := [(3, .int 1), (0, .ref h0), (1, .int (nI kf)), (2, .int (nI km))]) hx hb dX11_findRound_1 rfl hl (by decide +kernel) rfl (fun ls hl => ?_)
  refine lv_aload_n hx hb dX11_findRound_2 rfl (lv_at hl 1 rfl) ?_
  refine va_get (D := D) (ci := 11) (v := .ref zriskRow) (C := RX11) (T := TX11) (N := 55) hx hb hts iw_X11_findRound_11 hown hC.1 hP 0 rfl rfl 38 (by decide +kernel) (hts (.fieldLink RX11 95 "FairWheelModel" "riskRow" "[I") (by decide +kernel)) (fun _ h9 => h9) rfl dX11_findRound_3 ?_
  refine lv_iconst (v := 0) hx hb dX11_findRound_6 (by decide +kernel) ?_
  refine lv_iload_n hx hb dX11_findRound_7 rfl (lv_at hl 2 rfl) ?_
  refine ka_iast hx hb hC.1 hP hD hS 2 1 rfl rfl 0 rfl (by decide +kernel) (by decide +kernel) dX11_findRound_8 (fun H locs hP hD hS => ?_)
  have hP : va_P D vwCl [(h0, .inr (11, [.ref ztape, .ref ztext, .int (nI ktp), .int (nI ksz), .int nfaultKind, .int nfaultPlace, .int (nI kat), .int (nI ken), .int ntoken, .int nnumber, .long nname, .ref zcores, .ref zlocks, .ref zbells, .ref ztasks, .ref zops, .ref zopSort, .ref zopNumber, .ref zkind, .ref zevery, .ref zbudget, .ref zshareTold, .ref zfirstOp, .ref zopMany, .ref zisCores, .ref zisLocks, .ref zisBells, .ref ztName, .int (nI kb), .int (nI kr), .ref zall, .ref zrows, .ref zpicked, .ref zpileTask, .ref zpileLock, .int (nI kp), .ref zwas, .ref zbehind, .ref zriskRow, .ref zriskBest, .int nriskMany, .ref zcTick, .ref zcProcessor, .ref zcTask, .int (nI kto), .ref zgTick, .ref zgTask, .ref zgTold, .ref zgUntold, .ref zgRan, .int (nI ksi), .int ntime, .ref zboxAll, .ref zboxRows, .ref zisBoxed])), (zbehind, .inl (ca 1, 6, .inl f_behind)), (zriskRow, .inl (ca 1, 8, .inl (upd f_riskRow 0 (nI kf))))] H := hP
  have hD : va_D A [(h0, .inr (11, [.ref ztape, .ref ztext, .int (nI ktp), .int (nI ksz), .int nfaultKind, .int nfaultPlace, .int (nI kat), .int (nI ken), .int ntoken, .int nnumber, .long nname, .ref zcores, .ref zlocks, .ref zbells, .ref ztasks, .ref zops, .ref zopSort, .ref zopNumber, .ref zkind, .ref zevery, .ref zbudget, .ref zshareTold, .ref zfirstOp, .ref zopMany, .ref zisCores, .ref zisLocks, .ref zisBells, .ref ztName, .int (nI kb), .int (nI kr), .ref zall, .ref zrows, .ref zpicked, .ref zpileTask, .ref zpileLock, .int (nI kp), .ref zwas, .ref zbehind, .ref zriskRow, .ref zriskBest, .int nriskMany, .ref zcTick, .ref zcProcessor, .ref zcTask, .int (nI kto), .ref zgTick, .ref zgTask, .ref zgTold, .ref zgUntold, .ref zgRan, .int (nI ksi), .int ntime, .ref zboxAll, .ref zboxRows, .ref zisBoxed])), (zbehind, .inl (ca 1, 6, .inl f_behind)), (zriskRow, .inl (ca 1, 8, .inl (upd f_riskRow 0 (nI kf))))] := hD
  refine lv_aload_n hx hb dX11_findRound_9 rfl (lv_at hl 1 rfl) ?_
  refine va_get (D := D) (ci := 11) (v := .ref zriskRow) (C := RX11) (T := TX11) (N := 55) hx hb hts iw_X11_findRound_11 hown hC.1 hP 0 rfl rfl 38 (by decide +kernel) (hts (.fieldLink RX11 95 "FairWheelModel" "riskRow" "[I") (by decide +kernel)) (fun _ h9 => h9) rfl dX11_findRound_10 ?_
  refine lv_iconst (v := 1) hx hb dX11_findRound_13 (by decide +kernel) ?_
  refine lv_iconst (v := (-1)) hx hb dX11_findRound_14 (by decide +kernel) ?_
  refine ka_iast hx hb hC.1 hP hD hS 2 1 rfl rfl 1 rfl (by decide +kernel) (by decide +kernel) dX11_findRound_15 (fun H locs hP hD hS => ?_)
  have hP : va_P D vwCl [(h0, .inr (11, [.ref ztape, .ref ztext, .int (nI ktp), .int (nI ksz), .int nfaultKind, .int nfaultPlace, .int (nI kat), .int (nI ken), .int ntoken, .int nnumber, .long nname, .ref zcores, .ref zlocks, .ref zbells, .ref ztasks, .ref zops, .ref zopSort, .ref zopNumber, .ref zkind, .ref zevery, .ref zbudget, .ref zshareTold, .ref zfirstOp, .ref zopMany, .ref zisCores, .ref zisLocks, .ref zisBells, .ref ztName, .int (nI kb), .int (nI kr), .ref zall, .ref zrows, .ref zpicked, .ref zpileTask, .ref zpileLock, .int (nI kp), .ref zwas, .ref zbehind, .ref zriskRow, .ref zriskBest, .int nriskMany, .ref zcTick, .ref zcProcessor, .ref zcTask, .int (nI kto), .ref zgTick, .ref zgTask, .ref zgTold, .ref zgUntold, .ref zgRan, .int (nI ksi), .int ntime, .ref zboxAll, .ref zboxRows, .ref zisBoxed])), (zbehind, .inl (ca 1, 6, .inl f_behind)), (zriskRow, .inl (ca 1, 8, .inl (upd (upd f_riskRow 0 (nI kf)) 1 (-1))))] H := hP
  have hD : va_D A [(h0, .inr (11, [.ref ztape, .ref ztext, .int (nI ktp), .int (nI ksz), .int nfaultKind, .int nfaultPlace, .int (nI kat), .int (nI ken), .int ntoken, .int nnumber, .long nname, .ref zcores, .ref zlocks, .ref zbells, .ref ztasks, .ref zops, .ref zopSort, .ref zopNumber, .ref zkind, .ref zevery, .ref zbudget, .ref zshareTold, .ref zfirstOp, .ref zopMany, .ref zisCores, .ref zisLocks, .ref zisBells, .ref ztName, .int (nI kb), .int (nI kr), .ref zall, .ref zrows, .ref zpicked, .ref zpileTask, .ref zpileLock, .int (nI kp), .ref zwas, .ref zbehind, .ref zriskRow, .ref zriskBest, .int nriskMany, .ref zcTick, .ref zcProcessor, .ref zcTask, .int (nI kto), .ref zgTick, .ref zgTask, .ref zgTold, .ref zgUntold, .ref zgRan, .int (nI ksi), .int ntime, .ref zboxAll, .ref zboxRows, .ref zisBoxed])), (zbehind, .inl (ca 1, 6, .inl f_behind)), (zriskRow, .inl (ca 1, 8, .inl (upd (upd f_riskRow 0 (nI kf)) 1 (-1))))] := hD
  refine lv_iload_n hx hb dX11_findRound_16 rfl (lv_at hl 3 rfl) ?_
  refine lv_iconst (v := 1) hx hb dX11_findRound_17 (by decide +kernel) ?_
  refine lv_icmp_ne (tgt := 41) hx hb dX11_findRound_18 (by decide +kernel) (fun c_1 => ?_) (fun c_1 => ?_)
  · have nc_1 : ¬ (km = 1) := fun h => c_1 ((nI_eq (a := km) (b := 1) (by omega) (by omega)).mpr h)
    refine lp_ind (I := fun (n : Nat) H locs ls => ∃ (jd : Nat) (jr : Nat → Int32), jd + 1 ≤ km ∧ FR jd jr ∧ mz jd jr < n ∧ lv_has ls 5 [(3, .int (nI jd)), (0, .ref h0), (1, .int (nI kf)), (2, .int (nI km))] ∧ va_P D vwCl [(h0, .inr (11, [.ref ztape, .ref ztext, .int (nI ktp), .int (nI ksz), .int nfaultKind, .int nfaultPlace, .int (nI kat), .int (nI ken), .int ntoken, .int nnumber, .long nname, .ref zcores, .ref zlocks, .ref zbells, .ref ztasks, .ref zops, .ref zopSort, .ref zopNumber, .ref zkind, .ref zevery, .ref zbudget, .ref zshareTold, .ref zfirstOp, .ref zopMany, .ref zisCores, .ref zisLocks, .ref zisBells, .ref ztName, .int (nI kb), .int (nI kr), .ref zall, .ref zrows, .ref zpicked, .ref zpileTask, .ref zpileLock, .int (nI kp), .ref zwas, .ref zbehind, .ref zriskRow, .ref zriskBest, .int nriskMany, .ref zcTick, .ref zcProcessor, .ref zcTask, .int (nI kto), .ref zgTick, .ref zgTask, .ref zgTold, .ref zgUntold, .ref zgRan, .int (nI ksi), .int ntime, .ref zboxAll, .ref zboxRows, .ref zisBoxed])), (zbehind, .inl (ca 1, 6, .inl f_behind)), (zriskRow, .inl (ca 1, 8, .inl jr))] H ∧ va_D A [(h0, .inr (11, [.ref ztape, .ref ztext, .int (nI ktp), .int (nI ksz), .int nfaultKind, .int nfaultPlace, .int (nI kat), .int (nI ken), .int ntoken, .int nnumber, .long nname, .ref zcores, .ref zlocks, .ref zbells, .ref ztasks, .ref zops, .ref zopSort, .ref zopNumber, .ref zkind, .ref zevery, .ref zbudget, .ref zshareTold, .ref zfirstOp, .ref zopMany, .ref zisCores, .ref zisLocks, .ref zisBells, .ref ztName, .int (nI kb), .int (nI kr), .ref zall, .ref zrows, .ref zpicked, .ref zpileTask, .ref zpileLock, .int (nI kp), .ref zwas, .ref zbehind, .ref zriskRow, .ref zriskBest, .int nriskMany, .ref zcTick, .ref zcProcessor, .ref zcTask, .int (nI kto), .ref zgTick, .ref zgTask, .ref zgTold, .ref zgUntold, .ref zgRan, .int (nI ksi), .int ntime, .ref zboxAll, .ref zboxRows, .ref zisBoxed])), (zbehind, .inl (ca 1, 6, .inl f_behind)), (zriskRow, .inl (ca 1, 8, .inl jr))] ∧ va_S A s.heap H locs) (Wf := fun H locs ls => W p l e _ s m _ below meth c H locs _ _ _ (F0 m 41 ls [])) (mz 1 (upd (upd f_riskRow 0 (nI kf)) 1 (-1)) + 1) ⟨1, (upd (upd f_riskRow 0 (nI kf)) 1 (-1)), (by omega), (FR.z hkf), (Nat.lt_succ_self _), hl, hP, hD, hS⟩ ?_ ?_
    · intro H locs ls hI
      obtain ⟨jd, jr, hjd, hFR, hm, -⟩ := hI
      omega
    intro n ih_2 H locs ls hI
    obtain ⟨jd, jr, hjd, hFR, hm, hl, hP, hD, hS⟩ := hI
    refine lv_iload_n hx hb dX11_findRound_41 rfl (lv_at hl 0 rfl) ?_
    refine lv_if_le (tgt := 147) hx hb dX11_findRound_42 (by decide +kernel) (fun c_3 => ?_) (fun c_3 => ?_)
    · have nc_3 : jd ≤ 0 := (nI_leI (a := jd) (b := 0) (by omega) (by omega)).mp c_3
      refine lv_iconst (v := 0) hx hb dX11_findRound_147 (by decide +kernel) ?_
      exact W.zret (v := 0) hx hb hr (rfl) (fun t ht hW => ⟨⟨0, jr, rfl, (Or.inl rfl), by rw [ht]; exact hP.sub [0, 1, 2] rfl, hDA (hD.sub [0, 1, 2] (by decide +kernel) rfl)⟩, hS.F ht⟩) hS.2.2 dX11_findRound_148
    · have nc_3 : ¬ (jd ≤ 0) := fun h => c_3 ((nI_leI (a := jd) (b := 0) (by omega) (by omega)).mpr h)
      refine lv_aload_n hx hb dX11_findRound_45 rfl (lv_at hl 1 rfl) ?_
      refine va_get (D := D) (ci := 11) (v := .ref zriskRow) (C := RX11) (T := TX11) (N := 55) hx hb hts iw_X11_findRound_11 hown hC.1 hP 0 rfl rfl 38 (by decide +kernel) (hts (.fieldLink RX11 95 "FairWheelModel" "riskRow" "[I") (by decide +kernel)) (fun _ h9 => h9) rfl dX11_findRound_46 ?_
      refine lv_iload_n hx hb dX11_findRound_49 rfl (lv_at hl 0 rfl) ?_
      refine ka_iald hx hb hC.1 hP 2 1 rfl rfl jd rfl (by omega) (by decide +kernel) dX11_findRound_50 ?_
      refine lv_iconst (v := 1) hx hb dX11_findRound_51 (by decide +kernel) ?_
      refine lv_iadd hx hb dX11_findRound_52 ?_
      refine lv_topi (fun y_4 ey_4 => ?_)
      obtain ⟨j0, hj0, ej0, hrv⟩ := hFR.nx ey_4
      refine nt_i (nI j0) ej0 ?_
      refine lv_istore (lv' := [(4, .int (nI j0)), (3, .int (nI jd)), (0, .ref h0), (1, .int (nI kf)), (2, .int (nI km))]) hx hb dX11_findRound_53 hl (by decide +kernel) rfl (fun ls hl => ?_)
      refine lp_ind (I := fun (n : Nat) H locs ls => ∃ (jl : Nat), jl ≤ 6 ∧ j0 ≤ jl ∧ jl + n = 7 ∧ lv_has ls 5 [(4, .int (nI jl)), (3, .int (nI jd)), (0, .ref h0), (1, .int (nI kf)), (2, .int (nI km))] ∧ va_P D vwCl [(h0, .inr (11, [.ref ztape, .ref ztext, .int (nI ktp), .int (nI ksz), .int nfaultKind, .int nfaultPlace, .int (nI kat), .int (nI ken), .int ntoken, .int nnumber, .long nname, .ref zcores, .ref zlocks, .ref zbells, .ref ztasks, .ref zops, .ref zopSort, .ref zopNumber, .ref zkind, .ref zevery, .ref zbudget, .ref zshareTold, .ref zfirstOp, .ref zopMany, .ref zisCores, .ref zisLocks, .ref zisBells, .ref ztName, .int (nI kb), .int (nI kr), .ref zall, .ref zrows, .ref zpicked, .ref zpileTask, .ref zpileLock, .int (nI kp), .ref zwas, .ref zbehind, .ref zriskRow, .ref zriskBest, .int nriskMany, .ref zcTick, .ref zcProcessor, .ref zcTask, .int (nI kto), .ref zgTick, .ref zgTask, .ref zgTold, .ref zgUntold, .ref zgRan, .int (nI ksi), .int ntime, .ref zboxAll, .ref zboxRows, .ref zisBoxed])), (zbehind, .inl (ca 1, 6, .inl f_behind)), (zriskRow, .inl (ca 1, 8, .inl jr))] H ∧ va_D A [(h0, .inr (11, [.ref ztape, .ref ztext, .int (nI ktp), .int (nI ksz), .int nfaultKind, .int nfaultPlace, .int (nI kat), .int (nI ken), .int ntoken, .int nnumber, .long nname, .ref zcores, .ref zlocks, .ref zbells, .ref ztasks, .ref zops, .ref zopSort, .ref zopNumber, .ref zkind, .ref zevery, .ref zbudget, .ref zshareTold, .ref zfirstOp, .ref zopMany, .ref zisCores, .ref zisLocks, .ref zisBells, .ref ztName, .int (nI kb), .int (nI kr), .ref zall, .ref zrows, .ref zpicked, .ref zpileTask, .ref zpileLock, .int (nI kp), .ref zwas, .ref zbehind, .ref zriskRow, .ref zriskBest, .int nriskMany, .ref zcTick, .ref zcProcessor, .ref zcTask, .int (nI kto), .ref zgTick, .ref zgTask, .ref zgTold, .ref zgUntold, .ref zgRan, .int (nI ksi), .int ntime, .ref zboxAll, .ref zboxRows, .ref zisBoxed])), (zbehind, .inl (ca 1, 6, .inl f_behind)), (zriskRow, .inl (ca 1, 8, .inl jr))] ∧ va_S A s.heap H locs) (Wf := fun H locs ls => W p l e _ s m _ below meth c H locs _ _ _ (F0 m 55 ls [])) (7 - j0) ⟨j0, (by omega), (by omega), (by omega), hl, hP, hD, hS⟩ ?_ ?_
      · intro H locs ls hI
        obtain ⟨jl, hjl, hj0l, hm2, -⟩ := hI
        omega
      intro n ih_5 H locs ls hI
      obtain ⟨jl, hjl, hj0l, hm2, hl, hP, hD, hS⟩ := hI
      refine lv_iload hx hb dX11_findRound_55 (lv_at hl 0 rfl) ?_
      refine lv_bipush (v := 6) hx hb dX11_findRound_57 (by decide +kernel) ?_
      refine lv_icmp_ge (tgt := 89) hx hb dX11_findRound_59 (by decide +kernel) (fun c_6 => ?_) (fun c_6 => ?_)
      · have nc_6 : 6 ≤ jl := (nI_leI (a := 6) (b := jl) (by omega) (by omega)).mp c_6
        refine lv_aload_n hx hb dX11_findRound_89 rfl (lv_at hl 2 rfl) ?_
        refine va_get (D := D) (ci := 11) (v := .ref zriskRow) (C := RX11) (T := TX11) (N := 55) hx hb hts iw_X11_findRound_11 hown hC.1 hP 0 rfl rfl 38 (by decide +kernel) (hts (.fieldLink RX11 95 "FairWheelModel" "riskRow" "[I") (by decide +kernel)) (fun _ h9 => h9) rfl dX11_findRound_90 ?_
        refine lv_iload_n hx hb dX11_findRound_93 rfl (lv_at hl 1 rfl) ?_
        refine lv_iload hx hb dX11_findRound_94 (lv_at hl 0 rfl) ?_
        refine ka_iast hx hb hC.1 hP hD hS 2 1 rfl rfl jd rfl (by omega) (by decide +kernel) dX11_findRound_96 (fun H locs hP hD hS => ?_)
        have hP : va_P D vwCl [(h0, .inr (11, [.ref ztape, .ref ztext, .int (nI ktp), .int (nI ksz), .int nfaultKind, .int nfaultPlace, .int (nI kat), .int (nI ken), .int ntoken, .int nnumber, .long nname, .ref zcores, .ref zlocks, .ref zbells, .ref ztasks, .ref zops, .ref zopSort, .ref zopNumber, .ref zkind, .ref zevery, .ref zbudget, .ref zshareTold, .ref zfirstOp, .ref zopMany, .ref zisCores, .ref zisLocks, .ref zisBells, .ref ztName, .int (nI kb), .int (nI kr), .ref zall, .ref zrows, .ref zpicked, .ref zpileTask, .ref zpileLock, .int (nI kp), .ref zwas, .ref zbehind, .ref zriskRow, .ref zriskBest, .int nriskMany, .ref zcTick, .ref zcProcessor, .ref zcTask, .int (nI kto), .ref zgTick, .ref zgTask, .ref zgTold, .ref zgUntold, .ref zgRan, .int (nI ksi), .int ntime, .ref zboxAll, .ref zboxRows, .ref zisBoxed])), (zbehind, .inl (ca 1, 6, .inl f_behind)), (zriskRow, .inl (ca 1, 8, .inl (upd jr jd (nI jl))))] H := hP
        have hD : va_D A [(h0, .inr (11, [.ref ztape, .ref ztext, .int (nI ktp), .int (nI ksz), .int nfaultKind, .int nfaultPlace, .int (nI kat), .int (nI ken), .int ntoken, .int nnumber, .long nname, .ref zcores, .ref zlocks, .ref zbells, .ref ztasks, .ref zops, .ref zopSort, .ref zopNumber, .ref zkind, .ref zevery, .ref zbudget, .ref zshareTold, .ref zfirstOp, .ref zopMany, .ref zisCores, .ref zisLocks, .ref zisBells, .ref ztName, .int (nI kb), .int (nI kr), .ref zall, .ref zrows, .ref zpicked, .ref zpileTask, .ref zpileLock, .int (nI kp), .ref zwas, .ref zbehind, .ref zriskRow, .ref zriskBest, .int nriskMany, .ref zcTick, .ref zcProcessor, .ref zcTask, .int (nI kto), .ref zgTick, .ref zgTask, .ref zgTold, .ref zgUntold, .ref zgRan, .int (nI ksi), .int ntime, .ref zboxAll, .ref zboxRows, .ref zisBoxed])), (zbehind, .inl (ca 1, 6, .inl f_behind)), (zriskRow, .inl (ca 1, 8, .inl (upd jr jd (nI jl))))] := hD
        refine lv_iload hx hb dX11_findRound_97 (lv_at hl 0 rfl) ?_
        refine lv_bipush (v := 6) hx hb dX11_findRound_99 (by decide +kernel) ?_
        refine lv_icmp_ne (tgt := 110) hx hb dX11_findRound_101 (by decide +kernel) (fun c_7 => ?_) (fun c_7 => ?_)
        · have nc_7 : ¬ (jl = 6) := fun h => c_7 ((nI_eq (a := jl) (b := 6) (by omega) (by omega)).mpr h)
          refine lv_iload_n hx hb dX11_findRound_110 rfl (lv_at hl 1 rfl) ?_
          refine lv_iconst (v := 1) hx hb dX11_findRound_111 (by decide +kernel) ?_
          refine lv_iadd hx hb dX11_findRound_112 ?_
          refine nt_i (nI (jd + 1)) (nI_add jd 1) ?_
          refine lv_iload_n hx hb dX11_findRound_113 rfl (lv_at hl 4 rfl) ?_
          refine lv_icmp_ne (tgt := 134) hx hb dX11_findRound_114 (by decide +kernel) (fun c_8 => ?_) (fun c_8 => ?_)
          · have nc_8 : ¬ ((jd + 1) = km) := fun h => c_8 ((nI_eq (a := (jd + 1)) (b := km) (by omega) (by omega)).mpr h)
            refine lv_iinc (v := nI (jd + 1)) (lv' := [(3, .int (nI (jd + 1))), (4, .int (nI jl)), (0, .ref h0), (1, .int (nI kf)), (2, .int (nI km))]) hx hb dX11_findRound_134 hl (k := 1) rfl (nI_1 _) (by decide +kernel) rfl (fun ls hl => ?_)
            refine lv_aload_n hx hb dX11_findRound_137 rfl (lv_at hl 2 rfl) ?_
            refine va_get (D := D) (ci := 11) (v := .ref zriskRow) (C := RX11) (T := TX11) (N := 55) hx hb hts iw_X11_findRound_11 hown hC.1 hP 0 rfl rfl 38 (by decide +kernel) (hts (.fieldLink RX11 95 "FairWheelModel" "riskRow" "[I") (by decide +kernel)) (fun _ h9 => h9) rfl dX11_findRound_138 ?_
            refine lv_iload_n hx hb dX11_findRound_141 rfl (lv_at hl 0 rfl) ?_
            refine lv_iconst (v := (-1)) hx hb dX11_findRound_142 (by decide +kernel) ?_
            refine ka_iast hx hb hC.1 hP hD hS 2 1 rfl rfl (jd + 1) rfl (by omega) (by decide +kernel) dX11_findRound_143 (fun H locs hP hD hS => ?_)
            have hP : va_P D vwCl [(h0, .inr (11, [.ref ztape, .ref ztext, .int (nI ktp), .int (nI ksz), .int nfaultKind, .int nfaultPlace, .int (nI kat), .int (nI ken), .int ntoken, .int nnumber, .long nname, .ref zcores, .ref zlocks, .ref zbells, .ref ztasks, .ref zops, .ref zopSort, .ref zopNumber, .ref zkind, .ref zevery, .ref zbudget, .ref zshareTold, .ref zfirstOp, .ref zopMany, .ref zisCores, .ref zisLocks, .ref zisBells, .ref ztName, .int (nI kb), .int (nI kr), .ref zall, .ref zrows, .ref zpicked, .ref zpileTask, .ref zpileLock, .int (nI kp), .ref zwas, .ref zbehind, .ref zriskRow, .ref zriskBest, .int nriskMany, .ref zcTick, .ref zcProcessor, .ref zcTask, .int (nI kto), .ref zgTick, .ref zgTask, .ref zgTold, .ref zgUntold, .ref zgRan, .int (nI ksi), .int ntime, .ref zboxAll, .ref zboxRows, .ref zisBoxed])), (zbehind, .inl (ca 1, 6, .inl f_behind)), (zriskRow, .inl (ca 1, 8, .inl (upd (upd jr jd (nI jl)) (jd + 1) (-1))))] H := hP
            have hD : va_D A [(h0, .inr (11, [.ref ztape, .ref ztext, .int (nI ktp), .int (nI ksz), .int nfaultKind, .int nfaultPlace, .int (nI kat), .int (nI ken), .int ntoken, .int nnumber, .long nname, .ref zcores, .ref zlocks, .ref zbells, .ref ztasks, .ref zops, .ref zopSort, .ref zopNumber, .ref zkind, .ref zevery, .ref zbudget, .ref zshareTold, .ref zfirstOp, .ref zopMany, .ref zisCores, .ref zisLocks, .ref zisBells, .ref ztName, .int (nI kb), .int (nI kr), .ref zall, .ref zrows, .ref zpicked, .ref zpileTask, .ref zpileLock, .int (nI kp), .ref zwas, .ref zbehind, .ref zriskRow, .ref zriskBest, .int nriskMany, .ref zcTick, .ref zcProcessor, .ref zcTask, .int (nI kto), .ref zgTick, .ref zgTask, .ref zgTold, .ref zgUntold, .ref zgRan, .int (nI ksi), .int ntime, .ref zboxAll, .ref zboxRows, .ref zisBoxed])), (zbehind, .inl (ca 1, 6, .inl f_behind)), (zriskRow, .inl (ca 1, 8, .inl (upd (upd jr jd (nI jl)) (jd + 1) (-1))))] := hD
            refine lv_goto (tgt := 41) hx hb dX11_findRound_144 (by decide +kernel) ?_
            exact ih_2 _ _ _ ⟨(jd + 1), (upd (upd jr jd (nI jl)) (jd + 1) (-1)), (by omega), (hFR.up (by omega)), (mz_up (by omega) (by omega) (by omega) (by omega) hrv hm), lv_sub hl [0, 2, 3, 4] rfl, hP, hD, hS⟩
          · have nc_8 : (jd + 1) = km := (nI_eq (a := (jd + 1)) (b := km) (by omega) (by omega)).mp c_8
            refine lv_aload_n hx hb dX11_findRound_117 rfl (lv_at hl 2 rfl) ?_
            refine va_get (D := D) (ci := 11) (v := .ref zbehind) (C := RX11) (T := TX11) (N := 55) hx hb hts iw_X11_findRound_11 hown hC.1 hP 0 rfl rfl 37 (by decide +kernel) (hts (.fieldLink RX11 92 "FairWheelModel" "behind" "[I") (by decide +kernel)) (fun _ h9 => h9) rfl dX11_findRound_118 ?_
            refine lv_iload hx hb dX11_findRound_121 (lv_at hl 0 rfl) ?_
            refine ka_iald hx hb hC.1 hP 1 1 rfl rfl jl rfl (by omega) (by decide +kernel) dX11_findRound_123 ?_
            refine lv_iload_n hx hb dX11_findRound_124 rfl (lv_at hl 3 rfl) ?_
            refine lv_ishr hx hb dX11_findRound_125 ?_
            refine lv_topi (fun y_9 ey_9 => ?_)
            refine lv_iconst (v := 1) hx hb dX11_findRound_126 (by decide +kernel) ?_
            refine lv_iand hx hb dX11_findRound_127 ?_
            refine lv_topi (fun y_10 ey_10 => ?_)
            refine lv_iconst (v := 1) hx hb dX11_findRound_128 (by decide +kernel) ?_
            refine lv_icmp_ne (tgt := 144) hx hb dX11_findRound_129 (by decide +kernel) (fun c_11 => ?_) (fun c_11 => ?_)
            · refine lv_goto (tgt := 41) hx hb dX11_findRound_144 (by decide +kernel) ?_
              exact ih_2 _ _ _ ⟨jd, (upd jr jd (nI jl)), (by omega), (hFR.sm (by omega)), (mz_sm (by omega) (by omega) (by omega) hrv hm), lv_sub hl [1, 2, 3, 4] rfl, hP, hD, hS⟩
            · refine lv_iconst (v := 1) hx hb dX11_findRound_132 (by decide +kernel) ?_
              exact W.zret (v := 1) hx hb hr (rfl) (fun t ht hW => ⟨⟨1, (upd jr jd (nI jl)), rfl, (Or.inr rfl), by rw [ht]; exact hP.sub [0, 1, 2] rfl, hDA (hD.sub [0, 1, 2] (by decide +kernel) rfl)⟩, hS.F ht⟩) hS.2.2 dX11_findRound_133
        · have nc_7 : jl = 6 := (nI_eq (a := jl) (b := 6) (by omega) (by omega)).mp c_7
          refine lv_iinc (v := nI (jd - 1)) (lv' := [(3, .int (nI (jd - 1))), (4, .int (nI jl)), (0, .ref h0), (1, .int (nI kf)), (2, .int (nI km))]) hx hb dX11_findRound_104 hl (k := 1) rfl (nI_dec (by omega)) (by decide +kernel) rfl (fun ls hl => ?_)
          refine lv_goto (tgt := 144) hx hb dX11_findRound_107 (by decide +kernel) ?_
          refine lv_goto (tgt := 41) hx hb dX11_findRound_144 (by decide +kernel) ?_
          exact ih_2 _ _ _ ⟨(jd - 1), (upd jr jd (nI jl)), (by omega), (hFR.dn (by omega)), (mz_dn (by omega) hj0 hrv hm), lv_sub hl [0, 2, 3, 4] rfl, hP, hD, hS⟩
      · have nc_6 : ¬ (6 ≤ jl) := fun h => c_6 ((nI_leI (a := 6) (b := jl) (by omega) (by omega)).mpr h)
        refine lv_aload_n hx hb dX11_findRound_62 rfl (lv_at hl 2 rfl) ?_
        refine va_get (D := D) (ci := 11) (v := .ref zbehind) (C := RX11) (T := TX11) (N := 55) hx hb hts iw_X11_findRound_11 hown hC.1 hP 0 rfl rfl 37 (by decide +kernel) (hts (.fieldLink RX11 92 "FairWheelModel" "behind" "[I") (by decide +kernel)) (fun _ h9 => h9) rfl dX11_findRound_63 ?_
        refine lv_aload_n hx hb dX11_findRound_66 rfl (lv_at hl 2 rfl) ?_
        refine va_get (D := D) (ci := 11) (v := .ref zriskRow) (C := RX11) (T := TX11) (N := 55) hx hb hts iw_X11_findRound_11 hown hC.1 hP 0 rfl rfl 38 (by decide +kernel) (hts (.fieldLink RX11 95 "FairWheelModel" "riskRow" "[I") (by decide +kernel)) (fun _ h9 => h9) rfl dX11_findRound_67 ?_
        refine lv_iload_n hx hb dX11_findRound_70 rfl (lv_at hl 1 rfl) ?_
        refine lv_iconst (v := 1) hx hb dX11_findRound_71 (by decide +kernel) ?_
        refine lv_isub hx hb dX11_findRound_72 ?_
        refine nt_i (nI (jd - 1)) (nI_subk (a := jd) 1 (by omega) (by omega)) ?_
        refine ka_iald hx hb hC.1 hP 2 1 rfl rfl (jd - 1) rfl (by omega) (by decide +kernel) dX11_findRound_73 ?_
        obtain ⟨vb, hvb, evb⟩ := hFR.1 (jd - 1) (by omega)
        refine nt_i (nI vb) evb ?_
        refine ka_iald hx hb hC.1 hP 1 1 rfl rfl vb rfl (by omega) (by decide +kernel) dX11_findRound_74 ?_
        refine lv_iload hx hb dX11_findRound_75 (lv_at hl 0 rfl) ?_
        refine lv_ishr hx hb dX11_findRound_77 ?_
        refine lv_topi (fun y_12 ey_12 => ?_)
        refine lv_iconst (v := 1) hx hb dX11_findRound_78 (by decide +kernel) ?_
        refine lv_iand hx hb dX11_findRound_79 ?_
        refine lv_topi (fun y_13 ey_13 => ?_)
        refine lv_if_ne (tgt := 89) hx hb dX11_findRound_80 (by decide +kernel) (fun c_14 => ?_) (fun c_14 => ?_)
        · refine lv_aload_n hx hb dX11_findRound_89 rfl (lv_at hl 2 rfl) ?_
          refine va_get (D := D) (ci := 11) (v := .ref zriskRow) (C := RX11) (T := TX11) (N := 55) hx hb hts iw_X11_findRound_11 hown hC.1 hP 0 rfl rfl 38 (by decide +kernel) (hts (.fieldLink RX11 95 "FairWheelModel" "riskRow" "[I") (by decide +kernel)) (fun _ h9 => h9) rfl dX11_findRound_90 ?_
          refine lv_iload_n hx hb dX11_findRound_93 rfl (lv_at hl 1 rfl) ?_
          refine lv_iload hx hb dX11_findRound_94 (lv_at hl 0 rfl) ?_
          refine ka_iast hx hb hC.1 hP hD hS 2 1 rfl rfl jd rfl (by omega) (by decide +kernel) dX11_findRound_96 (fun H locs hP hD hS => ?_)
          have hP : va_P D vwCl [(h0, .inr (11, [.ref ztape, .ref ztext, .int (nI ktp), .int (nI ksz), .int nfaultKind, .int nfaultPlace, .int (nI kat), .int (nI ken), .int ntoken, .int nnumber, .long nname, .ref zcores, .ref zlocks, .ref zbells, .ref ztasks, .ref zops, .ref zopSort, .ref zopNumber, .ref zkind, .ref zevery, .ref zbudget, .ref zshareTold, .ref zfirstOp, .ref zopMany, .ref zisCores, .ref zisLocks, .ref zisBells, .ref ztName, .int (nI kb), .int (nI kr), .ref zall, .ref zrows, .ref zpicked, .ref zpileTask, .ref zpileLock, .int (nI kp), .ref zwas, .ref zbehind, .ref zriskRow, .ref zriskBest, .int nriskMany, .ref zcTick, .ref zcProcessor, .ref zcTask, .int (nI kto), .ref zgTick, .ref zgTask, .ref zgTold, .ref zgUntold, .ref zgRan, .int (nI ksi), .int ntime, .ref zboxAll, .ref zboxRows, .ref zisBoxed])), (zbehind, .inl (ca 1, 6, .inl f_behind)), (zriskRow, .inl (ca 1, 8, .inl (upd jr jd (nI jl))))] H := hP
          have hD : va_D A [(h0, .inr (11, [.ref ztape, .ref ztext, .int (nI ktp), .int (nI ksz), .int nfaultKind, .int nfaultPlace, .int (nI kat), .int (nI ken), .int ntoken, .int nnumber, .long nname, .ref zcores, .ref zlocks, .ref zbells, .ref ztasks, .ref zops, .ref zopSort, .ref zopNumber, .ref zkind, .ref zevery, .ref zbudget, .ref zshareTold, .ref zfirstOp, .ref zopMany, .ref zisCores, .ref zisLocks, .ref zisBells, .ref ztName, .int (nI kb), .int (nI kr), .ref zall, .ref zrows, .ref zpicked, .ref zpileTask, .ref zpileLock, .int (nI kp), .ref zwas, .ref zbehind, .ref zriskRow, .ref zriskBest, .int nriskMany, .ref zcTick, .ref zcProcessor, .ref zcTask, .int (nI kto), .ref zgTick, .ref zgTask, .ref zgTold, .ref zgUntold, .ref zgRan, .int (nI ksi), .int ntime, .ref zboxAll, .ref zboxRows, .ref zisBoxed])), (zbehind, .inl (ca 1, 6, .inl f_behind)), (zriskRow, .inl (ca 1, 8, .inl (upd jr jd (nI jl))))] := hD
          refine lv_iload hx hb dX11_findRound_97 (lv_at hl 0 rfl) ?_
          refine lv_bipush (v := 6) hx hb dX11_findRound_99 (by decide +kernel) ?_
          refine lv_icmp_ne (tgt := 110) hx hb dX11_findRound_101 (by decide +kernel) (fun c_15 => ?_) (fun c_15 => ?_)
          · have nc_15 : ¬ (jl = 6) := fun h => c_15 ((nI_eq (a := jl) (b := 6) (by omega) (by omega)).mpr h)
            refine lv_iload_n hx hb dX11_findRound_110 rfl (lv_at hl 1 rfl) ?_
            refine lv_iconst (v := 1) hx hb dX11_findRound_111 (by decide +kernel) ?_
            refine lv_iadd hx hb dX11_findRound_112 ?_
            refine nt_i (nI (jd + 1)) (nI_add jd 1) ?_
            refine lv_iload_n hx hb dX11_findRound_113 rfl (lv_at hl 4 rfl) ?_
            refine lv_icmp_ne (tgt := 134) hx hb dX11_findRound_114 (by decide +kernel) (fun c_16 => ?_) (fun c_16 => ?_)
            · have nc_16 : ¬ ((jd + 1) = km) := fun h => c_16 ((nI_eq (a := (jd + 1)) (b := km) (by omega) (by omega)).mpr h)
              refine lv_iinc (v := nI (jd + 1)) (lv' := [(3, .int (nI (jd + 1))), (4, .int (nI jl)), (0, .ref h0), (1, .int (nI kf)), (2, .int (nI km))]) hx hb dX11_findRound_134 hl (k := 1) rfl (nI_1 _) (by decide +kernel) rfl (fun ls hl => ?_)
              refine lv_aload_n hx hb dX11_findRound_137 rfl (lv_at hl 2 rfl) ?_
              refine va_get (D := D) (ci := 11) (v := .ref zriskRow) (C := RX11) (T := TX11) (N := 55) hx hb hts iw_X11_findRound_11 hown hC.1 hP 0 rfl rfl 38 (by decide +kernel) (hts (.fieldLink RX11 95 "FairWheelModel" "riskRow" "[I") (by decide +kernel)) (fun _ h9 => h9) rfl dX11_findRound_138 ?_
              refine lv_iload_n hx hb dX11_findRound_141 rfl (lv_at hl 0 rfl) ?_
              refine lv_iconst (v := (-1)) hx hb dX11_findRound_142 (by decide +kernel) ?_
              refine ka_iast hx hb hC.1 hP hD hS 2 1 rfl rfl (jd + 1) rfl (by omega) (by decide +kernel) dX11_findRound_143 (fun H locs hP hD hS => ?_)
              have hP : va_P D vwCl [(h0, .inr (11, [.ref ztape, .ref ztext, .int (nI ktp), .int (nI ksz), .int nfaultKind, .int nfaultPlace, .int (nI kat), .int (nI ken), .int ntoken, .int nnumber, .long nname, .ref zcores, .ref zlocks, .ref zbells, .ref ztasks, .ref zops, .ref zopSort, .ref zopNumber, .ref zkind, .ref zevery, .ref zbudget, .ref zshareTold, .ref zfirstOp, .ref zopMany, .ref zisCores, .ref zisLocks, .ref zisBells, .ref ztName, .int (nI kb), .int (nI kr), .ref zall, .ref zrows, .ref zpicked, .ref zpileTask, .ref zpileLock, .int (nI kp), .ref zwas, .ref zbehind, .ref zriskRow, .ref zriskBest, .int nriskMany, .ref zcTick, .ref zcProcessor, .ref zcTask, .int (nI kto), .ref zgTick, .ref zgTask, .ref zgTold, .ref zgUntold, .ref zgRan, .int (nI ksi), .int ntime, .ref zboxAll, .ref zboxRows, .ref zisBoxed])), (zbehind, .inl (ca 1, 6, .inl f_behind)), (zriskRow, .inl (ca 1, 8, .inl (upd (upd jr jd (nI jl)) (jd + 1) (-1))))] H := hP
              have hD : va_D A [(h0, .inr (11, [.ref ztape, .ref ztext, .int (nI ktp), .int (nI ksz), .int nfaultKind, .int nfaultPlace, .int (nI kat), .int (nI ken), .int ntoken, .int nnumber, .long nname, .ref zcores, .ref zlocks, .ref zbells, .ref ztasks, .ref zops, .ref zopSort, .ref zopNumber, .ref zkind, .ref zevery, .ref zbudget, .ref zshareTold, .ref zfirstOp, .ref zopMany, .ref zisCores, .ref zisLocks, .ref zisBells, .ref ztName, .int (nI kb), .int (nI kr), .ref zall, .ref zrows, .ref zpicked, .ref zpileTask, .ref zpileLock, .int (nI kp), .ref zwas, .ref zbehind, .ref zriskRow, .ref zriskBest, .int nriskMany, .ref zcTick, .ref zcProcessor, .ref zcTask, .int (nI kto), .ref zgTick, .ref zgTask, .ref zgTold, .ref zgUntold, .ref zgRan, .int (nI ksi), .int ntime, .ref zboxAll, .ref zboxRows, .ref zisBoxed])), (zbehind, .inl (ca 1, 6, .inl f_behind)), (zriskRow, .inl (ca 1, 8, .inl (upd (upd jr jd (nI jl)) (jd + 1) (-1))))] := hD
              refine lv_goto (tgt := 41) hx hb dX11_findRound_144 (by decide +kernel) ?_
              exact ih_2 _ _ _ ⟨(jd + 1), (upd (upd jr jd (nI jl)) (jd + 1) (-1)), (by omega), (hFR.up (by omega)), (mz_up (by omega) (by omega) (by omega) (by omega) hrv hm), lv_sub hl [0, 2, 3, 4] rfl, hP, hD, hS⟩
            · have nc_16 : (jd + 1) = km := (nI_eq (a := (jd + 1)) (b := km) (by omega) (by omega)).mp c_16
              refine lv_aload_n hx hb dX11_findRound_117 rfl (lv_at hl 2 rfl) ?_
              refine va_get (D := D) (ci := 11) (v := .ref zbehind) (C := RX11) (T := TX11) (N := 55) hx hb hts iw_X11_findRound_11 hown hC.1 hP 0 rfl rfl 37 (by decide +kernel) (hts (.fieldLink RX11 92 "FairWheelModel" "behind" "[I") (by decide +kernel)) (fun _ h9 => h9) rfl dX11_findRound_118 ?_
              refine lv_iload hx hb dX11_findRound_121 (lv_at hl 0 rfl) ?_
              refine ka_iald hx hb hC.1 hP 1 1 rfl rfl jl rfl (by omega) (by decide +kernel) dX11_findRound_123 ?_
              refine lv_iload_n hx hb dX11_findRound_124 rfl (lv_at hl 3 rfl) ?_
              refine lv_ishr hx hb dX11_findRound_125 ?_
              refine lv_topi (fun y_17 ey_17 => ?_)
              refine lv_iconst (v := 1) hx hb dX11_findRound_126 (by decide +kernel) ?_
              refine lv_iand hx hb dX11_findRound_127 ?_
              refine lv_topi (fun y_18 ey_18 => ?_)
              refine lv_iconst (v := 1) hx hb dX11_findRound_128 (by decide +kernel) ?_
              refine lv_icmp_ne (tgt := 144) hx hb dX11_findRound_129 (by decide +kernel) (fun c_19 => ?_) (fun c_19 => ?_)
              · refine lv_goto (tgt := 41) hx hb dX11_findRound_144 (by decide +kernel) ?_
                exact ih_2 _ _ _ ⟨jd, (upd jr jd (nI jl)), (by omega), (hFR.sm (by omega)), (mz_sm (by omega) (by omega) (by omega) hrv hm), lv_sub hl [1, 2, 3, 4] rfl, hP, hD, hS⟩
              · refine lv_iconst (v := 1) hx hb dX11_findRound_132 (by decide +kernel) ?_
                exact W.zret (v := 1) hx hb hr (rfl) (fun t ht hW => ⟨⟨1, (upd jr jd (nI jl)), rfl, (Or.inr rfl), by rw [ht]; exact hP.sub [0, 1, 2] rfl, hDA (hD.sub [0, 1, 2] (by decide +kernel) rfl)⟩, hS.F ht⟩) hS.2.2 dX11_findRound_133
          · have nc_15 : jl = 6 := (nI_eq (a := jl) (b := 6) (by omega) (by omega)).mp c_15
            refine lv_iinc (v := nI (jd - 1)) (lv' := [(3, .int (nI (jd - 1))), (4, .int (nI jl)), (0, .ref h0), (1, .int (nI kf)), (2, .int (nI km))]) hx hb dX11_findRound_104 hl (k := 1) rfl (nI_dec (by omega)) (by decide +kernel) rfl (fun ls hl => ?_)
            refine lv_goto (tgt := 144) hx hb dX11_findRound_107 (by decide +kernel) ?_
            refine lv_goto (tgt := 41) hx hb dX11_findRound_144 (by decide +kernel) ?_
            exact ih_2 _ _ _ ⟨(jd - 1), (upd jr jd (nI jl)), (by omega), (hFR.dn (by omega)), (mz_dn (by omega) hj0 hrv hm), lv_sub hl [0, 2, 3, 4] rfl, hP, hD, hS⟩
        · refine lv_iinc (v := nI (jl + 1)) (lv' := [(4, .int (nI (jl + 1))), (3, .int (nI jd)), (0, .ref h0), (1, .int (nI kf)), (2, .int (nI km))]) hx hb dX11_findRound_83 hl (k := 0) rfl (nI_1 _) (by decide +kernel) rfl (fun ls hl => ?_)
          refine lv_goto (tgt := 55) hx hb dX11_findRound_86 (by decide +kernel) ?_
          exact ih_5 _ _ _ ⟨(jl + 1), (by omega), (by omega), (by omega), lv_sub hl [0, 1, 2, 3, 4] rfl, hP, hD, hS⟩
  · have nc_1 : km = 1 := (nI_eq (a := km) (b := 1) (by omega) (by omega)).mp c_1
    refine lv_aload_n hx hb dX11_findRound_21 rfl (lv_at hl 1 rfl) ?_
    refine va_get (D := D) (ci := 11) (v := .ref zbehind) (C := RX11) (T := TX11) (N := 55) hx hb hts iw_X11_findRound_11 hown hC.1 hP 0 rfl rfl 37 (by decide +kernel) (hts (.fieldLink RX11 92 "FairWheelModel" "behind" "[I") (by decide +kernel)) (fun _ h9 => h9) rfl dX11_findRound_22 ?_
    refine lv_iload_n hx hb dX11_findRound_25 rfl (lv_at hl 2 rfl) ?_
    refine ka_iald hx hb hC.1 hP 1 1 rfl rfl kf rfl (by omega) (by decide +kernel) dX11_findRound_26 ?_
    refine lv_iload_n hx hb dX11_findRound_27 rfl (lv_at hl 2 rfl) ?_
    refine lv_ishr hx hb dX11_findRound_28 ?_
    refine lv_topi (fun y_20 ey_20 => ?_)
    refine lv_iconst (v := 1) hx hb dX11_findRound_29 (by decide +kernel) ?_
    refine lv_iand hx hb dX11_findRound_30 ?_
    refine lv_topi (fun y_21 ey_21 => ?_)
    refine lv_iconst (v := 1) hx hb dX11_findRound_31 (by decide +kernel) ?_
    refine lv_icmp_ne (tgt := 39) hx hb dX11_findRound_32 (by decide +kernel) (fun c_22 => ?_) (fun c_22 => ?_)
    · refine lv_iconst (v := 0) hx hb dX11_findRound_39 (by decide +kernel) ?_
      exact W.zret (v := 0) hx hb hr (rfl) (fun t ht hW => ⟨⟨0, (upd (upd f_riskRow 0 (nI kf)) 1 (-1)), rfl, (Or.inl rfl), by rw [ht]; exact hP.sub [0, 1, 2] rfl, hDA (hD.sub [0, 1, 2] (by decide +kernel) rfl)⟩, hS.F ht⟩) hS.2.2 dX11_findRound_40
    · refine lv_iconst (v := 1) hx hb dX11_findRound_35 (by decide +kernel) ?_
      refine lv_goto (tgt := 40) hx hb dX11_findRound_36 (by decide +kernel) ?_
      exact W.zret (v := 1) hx hb hr (rfl) (fun t ht hW => ⟨⟨1, (upd (upd f_riskRow 0 (nI kf)) 1 (-1)), rfl, (Or.inr rfl), by rw [ht]; exact hP.sub [0, 1, 2] rfl, hDA (hD.sub [0, 1, 2] (by decide +kernel) rfl)⟩, hS.F ht⟩) hS.2.2 dX11_findRound_40
theorem iw_X11_layRisk_11 : ∀ w ∈ u_ws RX11 TX11 55, w ∈ wsX11_layRisk := by decide +kernel
set_option maxHeartbeats 4000000 in
set_option maxRecDepth 100000 in
theorem m_layRisk (l : Launch) (D : va_G) (ca : Nat → ClassId) (sz : Nat) (h0 : Nat) (ztape : Nat) (ztext : Nat) (zcores : Nat) (zlocks : Nat) (zbells : Nat) (ztasks : Nat) (zops : Nat) (zopSort : Nat) (zopNumber : Nat) (zkind : Nat) (zevery : Nat) (zbudget : Nat) (zshareTold : Nat) (zfirstOp : Nat) (zopMany : Nat) (zisCores : Nat) (zisLocks : Nat) (zisBells : Nat) (ztName : Nat) (zall : Nat) (zrows : Nat) (zpicked : Nat) (zpileTask : Nat) (zpileLock : Nat) (zwas : Nat) (zbehind : Nat) (zriskRow : Nat) (zriskBest : Nat) (zcTick : Nat) (zcProcessor : Nat) (zcTask : Nat) (zgTick : Nat) (zgTask : Nat) (zgTold : Nat) (zgUntold : Nat) (zgRan : Nat) (zboxAll : Nat) (zboxRows : Nat) (zisBoxed : Nat) (ktp : Nat) (ksz : Nat) (nfaultKind : Int32) (nfaultPlace : Int32) (kat : Nat) (ken : Nat) (ntoken : Int32) (nnumber : Int32) (nname : Int64) (kb : Nat) (kr : Nat) (kp : Nat) (nriskMany : Int32) (kto : Nat) (ksi : Nat) (ntime : Int32) (f_locks : Nat → Int32) (f_tasks : Nat → Int32) (f_opSort : Nat → Int32) (f_opNumber : Nat → Int32) (f_firstOp : Nat → Int32) (f_opMany : Nat → Int32) (f_behind : Nat → Int32) (f_riskRow : Nat → Int32) (f_riskBest : Nat → Int32) (kl : Nat) (kn : Nat) (ml : Nat → Nat) (fs : Nat → Nat) (hlo : f_locks kb = nI kl) (htk : f_tasks kb = nI kn) (hkb : kb < 2) (hkn : kn ≤ 10) (hP1 : PL1 kb kn ml fs f_opMany f_firstOp f_opNumber) : Met l yX11_layRisk wsX11_layRisk ({ frames := 2, cells := 0, slots := 0, locals := 48 }) (PC [.ref h0] sz D ca [(h0, .inr (11, [.ref ztape, .ref ztext, .int (nI ktp), .int (nI ksz), .int nfaultKind, .int nfaultPlace, .int (nI kat), .int (nI ken), .int ntoken, .int nnumber, .long nname, .ref zcores, .ref zlocks, .ref zbells, .ref ztasks, .ref zops, .ref zopSort, .ref zopNumber, .ref zkind, .ref zevery, .ref zbudget, .ref zshareTold, .ref zfirstOp, .ref zopMany, .ref zisCores, .ref zisLocks, .ref zisBells, .ref ztName, .int (nI kb), .int (nI kr), .ref zall, .ref zrows, .ref zpicked, .ref zpileTask, .ref zpileLock, .int (nI kp), .ref zwas, .ref zbehind, .ref zriskRow, .ref zriskBest, .int nriskMany, .ref zcTick, .ref zcProcessor, .ref zcTask, .int (nI kto), .ref zgTick, .ref zgTask, .ref zgTold, .ref zgUntold, .ref zgRan, .int (nI ksi), .int ntime, .ref zboxAll, .ref zboxRows, .ref zisBoxed])), (zlocks, .inl (ca 1, 2, .inl f_locks)), (ztasks, .inl (ca 1, 2, .inl f_tasks)), (zopSort, .inl (ca 1, 180, .inl f_opSort)), (zopNumber, .inl (ca 1, 180, .inl f_opNumber)), (zfirstOp, .inl (ca 1, 20, .inl f_firstOp)), (zopMany, .inl (ca 1, 20, .inl f_opMany)), (zbehind, .inl (ca 1, 6, .inl f_behind)), (zriskRow, .inl (ca 1, 8, .inl f_riskRow)), (zriskBest, .inl (ca 1, 8, .inl f_riskBest))]) (QV (fun (u : Nat × (Nat → Int32) × (Nat → Int32) × (Nat → Int32)) => u.1 ≤ 6) (fun (u : Nat × (Nat → Int32) × (Nat → Int32) × (Nat → Int32)) => [(h0, .inr (11, [.ref ztape, .ref ztext, .int (nI ktp), .int (nI ksz), .int nfaultKind, .int nfaultPlace, .int (nI kat), .int (nI ken), .int ntoken, .int nnumber, .long nname, .ref zcores, .ref zlocks, .ref zbells, .ref ztasks, .ref zops, .ref zopSort, .ref zopNumber, .ref zkind, .ref zevery, .ref zbudget, .ref zshareTold, .ref zfirstOp, .ref zopMany, .ref zisCores, .ref zisLocks, .ref zisBells, .ref ztName, .int (nI kb), .int (nI kr), .ref zall, .ref zrows, .ref zpicked, .ref zpileTask, .ref zpileLock, .int (nI kp), .ref zwas, .ref zbehind, .ref zriskRow, .ref zriskBest, .int (nI u.1), .ref zcTick, .ref zcProcessor, .ref zcTask, .int (nI kto), .ref zgTick, .ref zgTask, .ref zgTold, .ref zgUntold, .ref zgRan, .int (nI ksi), .int ntime, .ref zboxAll, .ref zboxRows, .ref zisBoxed])), (zlocks, .inl (ca 1, 2, .inl f_locks)), (ztasks, .inl (ca 1, 2, .inl f_tasks)), (zopSort, .inl (ca 1, 180, .inl f_opSort)), (zopNumber, .inl (ca 1, 180, .inl f_opNumber)), (zfirstOp, .inl (ca 1, 20, .inl f_firstOp)), (zopMany, .inl (ca 1, 20, .inl f_opMany)), (zbehind, .inl (ca 1, 6, .inl u.2.1)), (zriskRow, .inl (ca 1, 8, .inl u.2.2.1)), (zriskBest, .inl (ca 1, 8, .inl u.2.2.2))]) [(h0, .inr (11, [.ref ztape, .ref ztext, .int (nI ktp), .int (nI ksz), .int nfaultKind, .int nfaultPlace, .int (nI kat), .int (nI ken), .int ntoken, .int nnumber, .long nname, .ref zcores, .ref zlocks, .ref zbells, .ref ztasks, .ref zops, .ref zopSort, .ref zopNumber, .ref zkind, .ref zevery, .ref zbudget, .ref zshareTold, .ref zfirstOp, .ref zopMany, .ref zisCores, .ref zisLocks, .ref zisBells, .ref ztName, .int (nI kb), .int (nI kr), .ref zall, .ref zrows, .ref zpicked, .ref zpileTask, .ref zpileLock, .int (nI kp), .ref zwas, .ref zbehind, .ref zriskRow, .ref zriskBest, .int nriskMany, .ref zcTick, .ref zcProcessor, .ref zcTask, .int (nI kto), .ref zgTick, .ref zgTask, .ref zgTold, .ref zgUntold, .ref zgRan, .int (nI ksi), .int ntime, .ref zboxAll, .ref zboxRows, .ref zisBoxed])), (zlocks, .inl (ca 1, 2, .inl f_locks)), (ztasks, .inl (ca 1, 2, .inl f_tasks)), (zopSort, .inl (ca 1, 180, .inl f_opSort)), (zopNumber, .inl (ca 1, 180, .inl f_opNumber)), (zfirstOp, .inl (ca 1, 20, .inl f_firstOp)), (zopMany, .inl (ca 1, 20, .inl f_opMany)), (zbehind, .inl (ca 1, 6, .inl f_behind)), (zriskRow, .inl (ca 1, 8, .inl f_riskRow)), (zriskBest, .inl (ca 1, 8, .inl f_riskBest))] sz D) 0 0 (va_A [(h0, .inr (11, [.ref ztape, .ref ztext, .int (nI ktp), .int (nI ksz), .int nfaultKind, .int nfaultPlace, .int (nI kat), .int (nI ken), .int ntoken, .int nnumber, .long nname, .ref zcores, .ref zlocks, .ref zbells, .ref ztasks, .ref zops, .ref zopSort, .ref zopNumber, .ref zkind, .ref zevery, .ref zbudget, .ref zshareTold, .ref zfirstOp, .ref zopMany, .ref zisCores, .ref zisLocks, .ref zisBells, .ref ztName, .int (nI kb), .int (nI kr), .ref zall, .ref zrows, .ref zpicked, .ref zpileTask, .ref zpileLock, .int (nI kp), .ref zwas, .ref zbehind, .ref zriskRow, .ref zriskBest, .int nriskMany, .ref zcTick, .ref zcProcessor, .ref zcTask, .int (nI kto), .ref zgTick, .ref zgTask, .ref zgTold, .ref zgUntold, .ref zgRan, .int (nI ksi), .int ntime, .ref zboxAll, .ref zboxRows, .ref zisBoxed])), (zlocks, .inl (ca 1, 2, .inl f_locks)), (ztasks, .inl (ca 1, 2, .inl f_tasks)), (zopSort, .inl (ca 1, 180, .inl f_opSort)), (zopNumber, .inl (ca 1, 180, .inl f_opNumber)), (zfirstOp, .inl (ca 1, 20, .inl f_firstOp)), (zopMany, .inl (ca 1, 20, .inl f_opMany)), (zbehind, .inl (ca 1, 6, .inl f_behind)), (zriskRow, .inl (ca 1, 8, .inl f_riskRow)), (zriskBest, .inl (ca 1, 8, .inl f_riskBest))] sz) := by
  refine Met.ofW (cc := cX11_layRisk) (maxL := 4) (ret := none) (by decide +kernel) rfl ?_
  intro p e s m args below meth c s₁ B hml hv
  obtain ⟨rfl, hsz, hP, hC, hD0⟩ := hv
  have hx := B.exec
  have hb := B.bytes
  have hr := B.returns
  have hts := atoms_spec (ws := wsX11_layRisk) B.pre
  have hown : s.vm.findClass RX11 = some m.cls := findClass_of_methodNamed B.named
  have hlocks := B.notSynchronized
  subst hsz
  have hD := hD0.self (sz := s.heap.size)
  dsimp only [QV, QI, QL, BQ]
  generalize hAe : va_A [(h0, .inr (11, [.ref ztape, .ref ztext, .int (nI ktp), .int (nI ksz), .int nfaultKind, .int nfaultPlace, .int (nI kat), .int (nI ken), .int ntoken, .int nnumber, .long nname, .ref zcores, .ref zlocks, .ref zbells, .ref ztasks, .ref zops, .ref zopSort, .ref zopNumber, .ref zkind, .ref zevery, .ref zbudget, .ref zshareTold, .ref zfirstOp, .ref zopMany, .ref zisCores, .ref zisLocks, .ref zisBells, .ref ztName, .int (nI kb), .int (nI kr), .ref zall, .ref zrows, .ref zpicked, .ref zpileTask, .ref zpileLock, .int (nI kp), .ref zwas, .ref zbehind, .ref zriskRow, .ref zriskBest, .int nriskMany, .ref zcTick, .ref zcProcessor, .ref zcTask, .int (nI kto), .ref zgTick, .ref zgTask, .ref zgTold, .ref zgUntold, .ref zgRan, .int (nI ksi), .int ntime, .ref zboxAll, .ref zboxRows, .ref zisBoxed])), (zlocks, .inl (ca 1, 2, .inl f_locks)), (ztasks, .inl (ca 1, 2, .inl f_tasks)), (zopSort, .inl (ca 1, 180, .inl f_opSort)), (zopNumber, .inl (ca 1, 180, .inl f_opNumber)), (zfirstOp, .inl (ca 1, 20, .inl f_firstOp)), (zopMany, .inl (ca 1, 20, .inl f_opMany)), (zbehind, .inl (ca 1, 6, .inl f_behind)), (zriskRow, .inl (ca 1, 8, .inl f_riskRow)), (zriskBest, .inl (ca 1, 8, .inl f_riskBest))] s.heap.size = A at hD ⊢
  have hA : ∀ q : Nat, s.heap.size ≤ q → A q := fun q h => by rw [← hAe]; exact Or.inr h
  have hDA : ∀ {w : va_W}, va_D A w → va_D (va_A [(h0, .inr (11, [.ref ztape, .ref ztext, .int (nI ktp), .int (nI ksz), .int nfaultKind, .int nfaultPlace, .int (nI kat), .int (nI ken), .int ntoken, .int nnumber, .long nname, .ref zcores, .ref zlocks, .ref zbells, .ref ztasks, .ref zops, .ref zopSort, .ref zopNumber, .ref zkind, .ref zevery, .ref zbudget, .ref zshareTold, .ref zfirstOp, .ref zopMany, .ref zisCores, .ref zisLocks, .ref zisBells, .ref ztName, .int (nI kb), .int (nI kr), .ref zall, .ref zrows, .ref zpicked, .ref zpileTask, .ref zpileLock, .int (nI kp), .ref zwas, .ref zbehind, .ref zriskRow, .ref zriskBest, .int nriskMany, .ref zcTick, .ref zcProcessor, .ref zcTask, .int (nI kto), .ref zgTick, .ref zgTask, .ref zgTold, .ref zgUntold, .ref zgRan, .int (nI ksi), .int ntime, .ref zboxAll, .ref zboxRows, .ref zisBoxed])), (zlocks, .inl (ca 1, 2, .inl f_locks)), (ztasks, .inl (ca 1, 2, .inl f_tasks)), (zopSort, .inl (ca 1, 180, .inl f_opSort)), (zopNumber, .inl (ca 1, 180, .inl f_opNumber)), (zfirstOp, .inl (ca 1, 20, .inl f_firstOp)), (zopMany, .inl (ca 1, 20, .inl f_opMany)), (zbehind, .inl (ca 1, 6, .inl f_behind)), (zriskRow, .inl (ca 1, 8, .inl f_riskRow)), (zriskBest, .inl (ca 1, 8, .inl f_riskBest))] s.heap.size) w := fun h => by rw [hAe]; exact h
  have hS : va_S A s.heap s.heap [] := va_S.rf
  have hP : va_P D vwCl [(h0, .inr (11, [.ref ztape, .ref ztext, .int (nI ktp), .int (nI ksz), .int nfaultKind, .int nfaultPlace, .int (nI kat), .int (nI ken), .int ntoken, .int nnumber, .long nname, .ref zcores, .ref zlocks, .ref zbells, .ref ztasks, .ref zops, .ref zopSort, .ref zopNumber, .ref zkind, .ref zevery, .ref zbudget, .ref zshareTold, .ref zfirstOp, .ref zopMany, .ref zisCores, .ref zisLocks, .ref zisBells, .ref ztName, .int (nI kb), .int (nI kr), .ref zall, .ref zrows, .ref zpicked, .ref zpileTask, .ref zpileLock, .int (nI kp), .ref zwas, .ref zbehind, .ref zriskRow, .ref zriskBest, .int nriskMany, .ref zcTick, .ref zcProcessor, .ref zcTask, .int (nI kto), .ref zgTick, .ref zgTask, .ref zgTold, .ref zgUntold, .ref zgRan, .int (nI ksi), .int ntime, .ref zboxAll, .ref zboxRows, .ref zisBoxed])), (zlocks, .inl (ca 1, 2, .inl f_locks)), (ztasks, .inl (ca 1, 2, .inl f_tasks)), (zopSort, .inl (ca 1, 180, .inl f_opSort)), (zopNumber, .inl (ca 1, 180, .inl f_opNumber)), (zfirstOp, .inl (ca 1, 20, .inl f_firstOp)), (zopMany, .inl (ca 1, 20, .inl f_opMany)), (zbehind, .inl (ca 1, 6, .inl f_behind)), (zriskRow, .inl (ca 1, 8, .inl f_riskRow)), (zriskBest, .inl (ca 1, 8, .inl f_riskBest))] s.heap := hP
  have hl := lv_entry ([.ref h0]) (n := 4) (Nat.le_of_ble_eq_true rfl)
  rw [lg_entry_eq]
  generalize (lg_sl ([.ref h0]) ++ List.replicate (4 - (lg_sl ([.ref h0])).length) Slot.unset).toArray = ls at hl ⊢
  have hl : lv_has ls 4 [(0, .ref h0)] := hl
  refine lv_aload_n hx hb dX11_layRisk_0 rfl (lv_at hl 0 rfl) ?_
  refine kc_v (wr := [(zriskRow, .inl (ca 1, 8, .inl f_riskRow)), (zriskBest, .inl (ca 1, 8, .inl f_riskBest))]) (va_runV (As := []) (rest := []) ⟨hx, hb, hml, hown, hts⟩ (m_layBehind l D ca s.heap.size h0 ztape ztext zcores zlocks zbells ztasks zops zopSort zopNumber zkind zevery zbudget zshareTold zfirstOp zopMany zisCores zisLocks zisBells ztName zall zrows zpicked zpileTask zpileLock zwas zbehind zriskRow zriskBest zcTick zcProcessor zcTask zgTick zgTask zgTold zgUntold zgRan zboxAll zboxRows zisBoxed ktp ksz nfaultKind nfaultPlace kat ken ntoken nnumber nname kb kr kp nriskMany kto ksi ntime f_locks f_tasks f_opSort f_opNumber f_firstOp f_opMany f_behind kl kn ml fs hlo htk hkb hkn hP1) (cwV 0 hts gX11_layRisk_X11_layBehind rfl rfl rfl (by decide +kernel) ⟨(Nat.le_of_ble_eq_true rfl), (Nat.le_of_ble_eq_true rfl)⟩) (PC.preV (ci := 11) hC hP hD [0, 1, 2, 3, 4, 5, 6, 7] rfl (by decide +kernel) rfl rfl) rfl rfl hl.1 rfl (lv_room (Nat.le_of_ble_eq_true rfl)) dX11_layRisk_1 ⟨(Nat.le_of_ble_eq_true rfl), (Nat.le_of_ble_eq_true rfl)⟩) hP hD hS hA [0, 1, 2, 3, 4, 5, 6, 7] [8, 9] rfl rfl (by decide +kernel) (by decide +kernel) (fun u_2 H locs hw_1 hP hD hS => ?_)
  obtain ⟨f_3, rfl⟩ : ∃ z, z = u_2 := ⟨_, rfl⟩
  have hP : va_P D vwCl [(zriskRow, .inl (ca 1, 8, .inl f_riskRow)), (zriskBest, .inl (ca 1, 8, .inl f_riskBest)), (h0, .inr (11, [.ref ztape, .ref ztext, .int (nI ktp), .int (nI ksz), .int nfaultKind, .int nfaultPlace, .int (nI kat), .int (nI ken), .int ntoken, .int nnumber, .long nname, .ref zcores, .ref zlocks, .ref zbells, .ref ztasks, .ref zops, .ref zopSort, .ref zopNumber, .ref zkind, .ref zevery, .ref zbudget, .ref zshareTold, .ref zfirstOp, .ref zopMany, .ref zisCores, .ref zisLocks, .ref zisBells, .ref ztName, .int (nI kb), .int (nI kr), .ref zall, .ref zrows, .ref zpicked, .ref zpileTask, .ref zpileLock, .int (nI kp), .ref zwas, .ref zbehind, .ref zriskRow, .ref zriskBest, .int nriskMany, .ref zcTick, .ref zcProcessor, .ref zcTask, .int (nI kto), .ref zgTick, .ref zgTask, .ref zgTold, .ref zgUntold, .ref zgRan, .int (nI ksi), .int ntime, .ref zboxAll, .ref zboxRows, .ref zisBoxed])), (zlocks, .inl (ca 1, 2, .inl f_locks)), (ztasks, .inl (ca 1, 2, .inl f_tasks)), (zopSort, .inl (ca 1, 180, .inl f_opSort)), (zopNumber, .inl (ca 1, 180, .inl f_opNumber)), (zfirstOp, .inl (ca 1, 20, .inl f_firstOp)), (zopMany, .inl (ca 1, 20, .inl f_opMany)), (zbehind, .inl (ca 1, 6, .inl f_3))] H := hP
  have hD : va_D A [(zriskRow, .inl (ca 1, 8, .inl f_riskRow)), (zriskBest, .inl (ca 1, 8, .inl f_riskBest)), (h0, .inr (11, [.ref ztape, .ref ztext, .int (nI ktp), .int (nI ksz), .int nfaultKind, .int nfaultPlace, .int (nI kat), .int (nI ken), .int ntoken, .int nnumber, .long nname, .ref zcores, .ref zlocks, .ref zbells, .ref ztasks, .ref zops, .ref zopSort, .ref zopNumber, .ref zkind, .ref zevery, .ref zbudget, .ref zshareTold, .ref zfirstOp, .ref zopMany, .ref zisCores, .ref zisLocks, .ref zisBells, .ref ztName, .int (nI kb), .int (nI kr), .ref zall, .ref zrows, .ref zpicked, .ref zpileTask, .ref zpileLock, .int (nI kp), .ref zwas, .ref zbehind, .ref zriskRow, .ref zriskBest, .int nriskMany, .ref zcTick, .ref zcProcessor, .ref zcTask, .int (nI kto), .ref zgTick, .ref zgTask, .ref zgTold, .ref zgUntold, .ref zgRan, .int (nI ksi), .int ntime, .ref zboxAll, .ref zboxRows, .ref zisBoxed])), (zlocks, .inl (ca 1, 2, .inl f_locks)), (ztasks, .inl (ca 1, 2, .inl f_tasks)), (zopSort, .inl (ca 1, 180, .inl f_opSort)), (zopNumber, .inl (ca 1, 180, .inl f_opNumber)), (zfirstOp, .inl (ca 1, 20, .inl f_firstOp)), (zopMany, .inl (ca 1, 20, .inl f_opMany)), (zbehind, .inl (ca 1, 6, .inl f_3))] := hD
  refine lv_aload_n hx hb dX11_layRisk_4 rfl (lv_at hl 0 rfl) ?_
  refine lv_iconst (v := 0) hx hb dX11_layRisk_5 (by decide +kernel) ?_
  refine va_put (D := D) (ci := 11) (v := .int 0) (ty := .int) (C := RX11) (T := TX11) (N := 55) hx hb hts iw_X11_layRisk_11 tyX11 tyX11_ok nmX11 hown hC.1 hP hD hS 2 rfl rfl 40 (by decide +kernel) (hts (.fieldLink RX11 383 "FairWheelModel" "riskMany" "I") (by decide +kernel)) (fun _ h9 => h9) rfl (by decide +kernel) rfl rfl (Nat.le_of_ble_eq_true rfl) dX11_layRisk_6 (fun H locs hP hD hS => ?_)
  have hP : va_P D vwCl [(zriskRow, .inl (ca 1, 8, .inl f_riskRow)), (zriskBest, .inl (ca 1, 8, .inl f_riskBest)), (h0, .inr (11, [.ref ztape, .ref ztext, .int (nI ktp), .int (nI ksz), .int nfaultKind, .int nfaultPlace, .int (nI kat), .int (nI ken), .int ntoken, .int nnumber, .long nname, .ref zcores, .ref zlocks, .ref zbells, .ref ztasks, .ref zops, .ref zopSort, .ref zopNumber, .ref zkind, .ref zevery, .ref zbudget, .ref zshareTold, .ref zfirstOp, .ref zopMany, .ref zisCores, .ref zisLocks, .ref zisBells, .ref ztName, .int (nI kb), .int (nI kr), .ref zall, .ref zrows, .ref zpicked, .ref zpileTask, .ref zpileLock, .int (nI kp), .ref zwas, .ref zbehind, .ref zriskRow, .ref zriskBest, .int 0, .ref zcTick, .ref zcProcessor, .ref zcTask, .int (nI kto), .ref zgTick, .ref zgTask, .ref zgTold, .ref zgUntold, .ref zgRan, .int (nI ksi), .int ntime, .ref zboxAll, .ref zboxRows, .ref zisBoxed])), (zlocks, .inl (ca 1, 2, .inl f_locks)), (ztasks, .inl (ca 1, 2, .inl f_tasks)), (zopSort, .inl (ca 1, 180, .inl f_opSort)), (zopNumber, .inl (ca 1, 180, .inl f_opNumber)), (zfirstOp, .inl (ca 1, 20, .inl f_firstOp)), (zopMany, .inl (ca 1, 20, .inl f_opMany)), (zbehind, .inl (ca 1, 6, .inl f_3))] H := hP
  have hD : va_D A [(zriskRow, .inl (ca 1, 8, .inl f_riskRow)), (zriskBest, .inl (ca 1, 8, .inl f_riskBest)), (h0, .inr (11, [.ref ztape, .ref ztext, .int (nI ktp), .int (nI ksz), .int nfaultKind, .int nfaultPlace, .int (nI kat), .int (nI ken), .int ntoken, .int nnumber, .long nname, .ref zcores, .ref zlocks, .ref zbells, .ref ztasks, .ref zops, .ref zopSort, .ref zopNumber, .ref zkind, .ref zevery, .ref zbudget, .ref zshareTold, .ref zfirstOp, .ref zopMany, .ref zisCores, .ref zisLocks, .ref zisBells, .ref ztName, .int (nI kb), .int (nI kr), .ref zall, .ref zrows, .ref zpicked, .ref zpileTask, .ref zpileLock, .int (nI kp), .ref zwas, .ref zbehind, .ref zriskRow, .ref zriskBest, .int 0, .ref zcTick, .ref zcProcessor, .ref zcTask, .int (nI kto), .ref zgTick, .ref zgTask, .ref zgTold, .ref zgUntold, .ref zgRan, .int (nI ksi), .int ntime, .ref zboxAll, .ref zboxRows, .ref zisBoxed])), (zlocks, .inl (ca 1, 2, .inl f_locks)), (ztasks, .inl (ca 1, 2, .inl f_tasks)), (zopSort, .inl (ca 1, 180, .inl f_opSort)), (zopNumber, .inl (ca 1, 180, .inl f_opNumber)), (zfirstOp, .inl (ca 1, 20, .inl f_firstOp)), (zopMany, .inl (ca 1, 20, .inl f_opMany)), (zbehind, .inl (ca 1, 6, .inl f_3))] := hD
  refine lv_iconst (v := 0) hx hb dX11_layRisk_9 (by decide +kernel) ?_
  refine lv_istore_n (lv' := [(1, .int 0), (0, .ref h0)]) hx hb dX11_layRisk_10 rfl hl (by decide +kernel) rfl (fun ls hl => ?_)
  refine lp_ind (I := fun (n : Nat) H locs ls => ∃ (jm : Nat) (jl : Nat) (r1 : Nat → Int32) (q1 : Nat → Int32), jl ≤ 6 ∧ jl + n = 7 ∧ jm ≤ 6 ∧ lv_has ls 4 [(1, .int (nI jl)), (0, .ref h0)] ∧ va_P D vwCl [(zriskRow, .inl (ca 1, 8, .inl r1)), (zriskBest, .inl (ca 1, 8, .inl q1)), (h0, .inr (11, [.ref ztape, .ref ztext, .int (nI ktp), .int (nI ksz), .int nfaultKind, .int nfaultPlace, .int (nI kat), .int (nI ken), .int ntoken, .int nnumber, .long nname, .ref zcores, .ref zlocks, .ref zbells, .ref ztasks, .ref zops, .ref zopSort, .ref zopNumber, .ref zkind, .ref zevery, .ref zbudget, .ref zshareTold, .ref zfirstOp, .ref zopMany, .ref zisCores, .ref zisLocks, .ref zisBells, .ref ztName, .int (nI kb), .int (nI kr), .ref zall, .ref zrows, .ref zpicked, .ref zpileTask, .ref zpileLock, .int (nI kp), .ref zwas, .ref zbehind, .ref zriskRow, .ref zriskBest, .int (nI jm), .ref zcTick, .ref zcProcessor, .ref zcTask, .int (nI kto), .ref zgTick, .ref zgTask, .ref zgTold, .ref zgUntold, .ref zgRan, .int (nI ksi), .int ntime, .ref zboxAll, .ref zboxRows, .ref zisBoxed])), (zlocks, .inl (ca 1, 2, .inl f_locks)), (ztasks, .inl (ca 1, 2, .inl f_tasks)), (zopSort, .inl (ca 1, 180, .inl f_opSort)), (zopNumber, .inl (ca 1, 180, .inl f_opNumber)), (zfirstOp, .inl (ca 1, 20, .inl f_firstOp)), (zopMany, .inl (ca 1, 20, .inl f_opMany)), (zbehind, .inl (ca 1, 6, .inl f_3))] H ∧ va_D A [(zriskRow, .inl (ca 1, 8, .inl r1)), (zriskBest, .inl (ca 1, 8, .inl q1)), (h0, .inr (11, [.ref ztape, .ref ztext, .int (nI ktp), .int (nI ksz), .int nfaultKind, .int nfaultPlace, .int (nI kat), .int (nI ken), .int ntoken, .int nnumber, .long nname, .ref zcores, .ref zlocks, .ref zbells, .ref ztasks, .ref zops, .ref zopSort, .ref zopNumber, .ref zkind, .ref zevery, .ref zbudget, .ref zshareTold, .ref zfirstOp, .ref zopMany, .ref zisCores, .ref zisLocks, .ref zisBells, .ref ztName, .int (nI kb), .int (nI kr), .ref zall, .ref zrows, .ref zpicked, .ref zpileTask, .ref zpileLock, .int (nI kp), .ref zwas, .ref zbehind, .ref zriskRow, .ref zriskBest, .int (nI jm), .ref zcTick, .ref zcProcessor, .ref zcTask, .int (nI kto), .ref zgTick, .ref zgTask, .ref zgTold, .ref zgUntold, .ref zgRan, .int (nI ksi), .int ntime, .ref zboxAll, .ref zboxRows, .ref zisBoxed])), (zlocks, .inl (ca 1, 2, .inl f_locks)), (ztasks, .inl (ca 1, 2, .inl f_tasks)), (zopSort, .inl (ca 1, 180, .inl f_opSort)), (zopNumber, .inl (ca 1, 180, .inl f_opNumber)), (zfirstOp, .inl (ca 1, 20, .inl f_firstOp)), (zopMany, .inl (ca 1, 20, .inl f_opMany)), (zbehind, .inl (ca 1, 6, .inl f_3))] ∧ va_S A s.heap H locs) (Wf := fun H locs ls => W p l e _ s m _ below meth c H locs _ _ _ (F0 m 11 ls [])) (7) ⟨0, 0, f_riskRow, f_riskBest, (by omega), (by omega), (by omega), hl, hP, hD, hS⟩ ?_ ?_
  · intro H locs ls hI
    obtain ⟨jm, jl, r1, q1, hjl, hm1, hjm, -⟩ := hI
    omega
  intro n ih_4 H locs ls hI
  obtain ⟨jm, jl, r1, q1, hjl, hm1, hjm, hl, hP, hD, hS⟩ := hI
  refine lv_iload_n hx hb dX11_layRisk_11 rfl (lv_at hl 0 rfl) ?_
  refine lv_bipush (v := 6) hx hb dX11_layRisk_12 (by decide +kernel) ?_
  refine lv_icmp_ge (tgt := 93) hx hb dX11_layRisk_14 (by decide +kernel) (fun c_5 => ?_) (fun c_5 => ?_)
  · have nc_5 : 6 ≤ jl := (nI_leI (a := 6) (b := jl) (by omega) (by omega)).mp c_5
    exact W.vret hx hb hr (fun t ht hW => ⟨⟨(jm, f_3, r1, q1), rfl, (by dsimp only; omega), by rw [ht]; exact hP.sub [2, 3, 4, 5, 6, 7, 8, 9, 0, 1] rfl, hDA (hD.sub [2, 3, 4, 5, 6, 7, 8, 9, 0, 1] (by decide +kernel) rfl)⟩, hS.F ht⟩) hS.2.2 dX11_layRisk_93
  · have nc_5 : ¬ (6 ≤ jl) := fun h => c_5 ((nI_leI (a := 6) (b := jl) (by omega) (by omega)).mpr h)
    refine lv_aload_n hx hb dX11_layRisk_17 rfl (lv_at hl 1 rfl) ?_
    refine va_get (D := D) (ci := 11) (v := .int (nI jm)) (C := RX11) (T := TX11) (N := 55) hx hb hts iw_X11_layRisk_11 hown hC.1 hP 2 rfl rfl 40 (by decide +kernel) (hts (.fieldLink RX11 383 "FairWheelModel" "riskMany" "I") (by decide +kernel)) (fun _ h9 => h9) rfl dX11_layRisk_18 ?_
    refine lv_if_ne (tgt := 93) hx hb dX11_layRisk_21 (by decide +kernel) (fun c_6 => ?_) (fun c_6 => ?_)
    · have nc_6 : ¬ (jm = 0) := fun h => c_6 ((nI_eq (a := jm) (b := 0) (by omega) (by omega)).mpr h)
      exact W.vret hx hb hr (fun t ht hW => ⟨⟨(jm, f_3, r1, q1), rfl, (by dsimp only; omega), by rw [ht]; exact hP.sub [2, 3, 4, 5, 6, 7, 8, 9, 0, 1] rfl, hDA (hD.sub [2, 3, 4, 5, 6, 7, 8, 9, 0, 1] (by decide +kernel) rfl)⟩, hS.F ht⟩) hS.2.2 dX11_layRisk_93
    · have nc_6 : jm = 0 := (nI_eq (a := jm) (b := 0) (by omega) (by omega)).mp c_6
      refine lv_iconst (v := 1) hx hb dX11_layRisk_24 (by decide +kernel) ?_
      refine lv_istore_n (lv' := [(2, .int 1), (1, .int (nI jl)), (0, .ref h0)]) hx hb dX11_layRisk_25 rfl hl (by decide +kernel) rfl (fun ls hl => ?_)
      refine lp_ind (I := fun (n : Nat) H locs ls => ∃ (jm2 : Nat) (jk : Nat) (r2 : Nat → Int32) (q2 : Nat → Int32), jk ≤ 7 ∧ 1 ≤ jk ∧ jk + n = 8 ∧ jm2 ≤ 6 ∧ lv_has ls 4 [(2, .int (nI jk)), (1, .int (nI jl)), (0, .ref h0)] ∧ va_P D vwCl [(zriskRow, .inl (ca 1, 8, .inl r2)), (zriskBest, .inl (ca 1, 8, .inl q2)), (h0, .inr (11, [.ref ztape, .ref ztext, .int (nI ktp), .int (nI ksz), .int nfaultKind, .int nfaultPlace, .int (nI kat), .int (nI ken), .int ntoken, .int nnumber, .long nname, .ref zcores, .ref zlocks, .ref zbells, .ref ztasks, .ref zops, .ref zopSort, .ref zopNumber, .ref zkind, .ref zevery, .ref zbudget, .ref zshareTold, .ref zfirstOp, .ref zopMany, .ref zisCores, .ref zisLocks, .ref zisBells, .ref ztName, .int (nI kb), .int (nI kr), .ref zall, .ref zrows, .ref zpicked, .ref zpileTask, .ref zpileLock, .int (nI kp), .ref zwas, .ref zbehind, .ref zriskRow, .ref zriskBest, .int (nI jm2), .ref zcTick, .ref zcProcessor, .ref zcTask, .int (nI kto), .ref zgTick, .ref zgTask, .ref zgTold, .ref zgUntold, .ref zgRan, .int (nI ksi), .int ntime, .ref zboxAll, .ref zboxRows, .ref zisBoxed])), (zlocks, .inl (ca 1, 2, .inl f_locks)), (ztasks, .inl (ca 1, 2, .inl f_tasks)), (zopSort, .inl (ca 1, 180, .inl f_opSort)), (zopNumber, .inl (ca 1, 180, .inl f_opNumber)), (zfirstOp, .inl (ca 1, 20, .inl f_firstOp)), (zopMany, .inl (ca 1, 20, .inl f_opMany)), (zbehind, .inl (ca 1, 6, .inl f_3))] H ∧ va_D A [(zriskRow, .inl (ca 1, 8, .inl r2)), (zriskBest, .inl (ca 1, 8, .inl q2)), (h0, .inr (11, [.ref ztape, .ref ztext, .int (nI ktp), .int (nI ksz), .int nfaultKind, .int nfaultPlace, .int (nI kat), .int (nI ken), .int ntoken, .int nnumber, .long nname, .ref zcores, .ref zlocks, .ref zbells, .ref ztasks, .ref zops, .ref zopSort, .ref zopNumber, .ref zkind, .ref zevery, .ref zbudget, .ref zshareTold, .ref zfirstOp, .ref zopMany, .ref zisCores, .ref zisLocks, .ref zisBells, .ref ztName, .int (nI kb), .int (nI kr), .ref zall, .ref zrows, .ref zpicked, .ref zpileTask, .ref zpileLock, .int (nI kp), .ref zwas, .ref zbehind, .ref zriskRow, .ref zriskBest, .int (nI jm2), .ref zcTick, .ref zcProcessor, .ref zcTask, .int (nI kto), .ref zgTick, .ref zgTask, .ref zgTold, .ref zgUntold, .ref zgRan, .int (nI ksi), .int ntime, .ref zboxAll, .ref zboxRows, .ref zisBoxed])), (zlocks, .inl (ca 1, 2, .inl f_locks)), (ztasks, .inl (ca 1, 2, .inl f_tasks)), (zopSort, .inl (ca 1, 180, .inl f_opSort)), (zopNumber, .inl (ca 1, 180, .inl f_opNumber)), (zfirstOp, .inl (ca 1, 20, .inl f_firstOp)), (zopMany, .inl (ca 1, 20, .inl f_opMany)), (zbehind, .inl (ca 1, 6, .inl f_3))] ∧ va_S A s.heap H locs) (Wf := fun H locs ls => W p l e _ s m _ below meth c H locs _ _ _ (F0 m 26 ls [])) (7) ⟨jm, 1, r1, q1, (by omega), (by omega), (by omega), (by omega), hl, hP, hD, hS⟩ ?_ ?_
      · intro H locs ls hI
        obtain ⟨jm2, jk, r2, q2, hjk, hjk1, hm2, hjm2, -⟩ := hI
        omega
      intro n ih_7 H locs ls hI
      obtain ⟨jm2, jk, r2, q2, hjk, hjk1, hm2, hjm2, hl, hP, hD, hS⟩ := hI
      refine lv_iload_n hx hb dX11_layRisk_26 rfl (lv_at hl 0 rfl) ?_
      refine lv_bipush (v := 6) hx hb dX11_layRisk_27 (by decide +kernel) ?_
      refine lv_icmp_gt (tgt := 87) hx hb dX11_layRisk_29 (by decide +kernel) (fun c_8 => ?_) (fun c_8 => ?_)
      · have nc_8 : 6 < jk := (nI_ltI (a := 6) (b := jk) (by omega) (by omega)).mp c_8
        refine lv_iinc (v := nI (jl + 1)) (lv' := [(1, .int (nI (jl + 1))), (2, .int (nI jk)), (0, .ref h0)]) hx hb dX11_layRisk_87 hl (k := 1) rfl (nI_1 _) (by decide +kernel) rfl (fun ls hl => ?_)
        refine lv_goto (tgt := 11) hx hb dX11_layRisk_90 (by decide +kernel) ?_
        exact ih_4 _ _ _ ⟨jm2, (jl + 1), r2, q2, (by omega), (by omega), (by omega), lv_sub hl [0, 2] rfl, hP, hD, hS⟩
      · have nc_8 : ¬ (6 < jk) := fun h => c_8 ((nI_ltI (a := 6) (b := jk) (by omega) (by omega)).mpr h)
        refine lv_aload_n hx hb dX11_layRisk_32 rfl (lv_at hl 2 rfl) ?_
        refine va_get (D := D) (ci := 11) (v := .int (nI jm2)) (C := RX11) (T := TX11) (N := 55) hx hb hts iw_X11_layRisk_11 hown hC.1 hP 2 rfl rfl 40 (by decide +kernel) (hts (.fieldLink RX11 383 "FairWheelModel" "riskMany" "I") (by decide +kernel)) (fun _ h9 => h9) rfl dX11_layRisk_33 ?_
        refine lv_if_ne (tgt := 87) hx hb dX11_layRisk_36 (by decide +kernel) (fun c_9 => ?_) (fun c_9 => ?_)
        · have nc_9 : ¬ (jm2 = 0) := fun h => c_9 ((nI_eq (a := jm2) (b := 0) (by omega) (by omega)).mpr h)
          refine lv_iinc (v := nI (jl + 1)) (lv' := [(1, .int (nI (jl + 1))), (2, .int (nI jk)), (0, .ref h0)]) hx hb dX11_layRisk_87 hl (k := 1) rfl (nI_1 _) (by decide +kernel) rfl (fun ls hl => ?_)
          refine lv_goto (tgt := 11) hx hb dX11_layRisk_90 (by decide +kernel) ?_
          exact ih_4 _ _ _ ⟨jm2, (jl + 1), r2, q2, (by omega), (by omega), (by omega), lv_sub hl [0, 2] rfl, hP, hD, hS⟩
        · have nc_9 : jm2 = 0 := (nI_eq (a := jm2) (b := 0) (by omega) (by omega)).mp c_9
          refine lv_aload_n hx hb dX11_layRisk_39 rfl (lv_at hl 2 rfl) ?_
          refine lv_iload_n hx hb dX11_layRisk_40 rfl (lv_at hl 1 rfl) ?_
          refine lv_iload_n hx hb dX11_layRisk_41 rfl (lv_at hl 0 rfl) ?_
          refine kc_i (wr := [(zriskBest, .inl (ca 1, 8, .inl q2)), (zlocks, .inl (ca 1, 2, .inl f_locks)), (ztasks, .inl (ca 1, 2, .inl f_tasks)), (zopSort, .inl (ca 1, 180, .inl f_opSort)), (zopNumber, .inl (ca 1, 180, .inl f_opNumber)), (zfirstOp, .inl (ca 1, 20, .inl f_firstOp)), (zopMany, .inl (ca 1, 20, .inl f_opMany))]) (va_runV (As := [.int (nI jl), .int (nI jk)]) (rest := []) ⟨hx, hb, hml, hown, hts⟩ (m_findRound l D ca H.size h0 ztape ztext zcores zlocks zbells ztasks zops zopSort zopNumber zkind zevery zbudget zshareTold zfirstOp zopMany zisCores zisLocks zisBells ztName zall zrows zpicked zpileTask zpileLock zwas zbehind zriskRow zriskBest zcTick zcProcessor zcTask zgTick zgTask zgTold zgUntold zgRan zboxAll zboxRows zisBoxed ktp ksz nfaultKind nfaultPlace kat ken ntoken nnumber nname kb kr kp (nI jm2) kto ksi ntime f_3 r2 jl jk (by omega) (by omega) (by omega)) (cwV 2 hts gX11_layRisk_X11_findRound rfl rfl rfl (by decide +kernel) ⟨(Nat.le_of_ble_eq_true rfl), (Nat.le_of_ble_eq_true rfl)⟩) (PC.preV (ci := 11) hC hP hD [2, 9, 0] rfl (by decide +kernel) rfl rfl) rfl rfl hl.1 rfl (lv_room (Nat.le_of_ble_eq_true rfl)) dX11_layRisk_42 ⟨(Nat.le_of_ble_eq_true rfl), (Nat.le_of_ble_eq_true rfl)⟩) hP hD hS hA [2, 9, 0] [1, 3, 4, 5, 6, 7, 8] rfl rfl (by decide +kernel) (by decide +kernel) (fun r_10 u_12 H locs hw_11 hP hD hS => ?_)
          obtain ⟨f_13, rfl⟩ : ∃ z, z = u_12 := ⟨_, rfl⟩
          have hu_14 := hw_11
          have hP : va_P D vwCl [(zriskBest, .inl (ca 1, 8, .inl q2)), (zlocks, .inl (ca 1, 2, .inl f_locks)), (ztasks, .inl (ca 1, 2, .inl f_tasks)), (zopSort, .inl (ca 1, 180, .inl f_opSort)), (zopNumber, .inl (ca 1, 180, .inl f_opNumber)), (zfirstOp, .inl (ca 1, 20, .inl f_firstOp)), (zopMany, .inl (ca 1, 20, .inl f_opMany)), (h0, .inr (11, [.ref ztape, .ref ztext, .int (nI ktp), .int (nI ksz), .int nfaultKind, .int nfaultPlace, .int (nI kat), .int (nI ken), .int ntoken, .int nnumber, .long nname, .ref zcores, .ref zlocks, .ref zbells, .ref ztasks, .ref zops, .ref zopSort, .ref zopNumber, .ref zkind, .ref zevery, .ref zbudget, .ref zshareTold, .ref zfirstOp, .ref zopMany, .ref zisCores, .ref zisLocks, .ref zisBells, .ref ztName, .int (nI kb), .int (nI kr), .ref zall, .ref zrows, .ref zpicked, .ref zpileTask, .ref zpileLock, .int (nI kp), .ref zwas, .ref zbehind, .ref zriskRow, .ref zriskBest, .int (nI jm2), .ref zcTick, .ref zcProcessor, .ref zcTask, .int (nI kto), .ref zgTick, .ref zgTask, .ref zgTold, .ref zgUntold, .ref zgRan, .int (nI ksi), .int ntime, .ref zboxAll, .ref zboxRows, .ref zisBoxed])), (zbehind, .inl (ca 1, 6, .inl f_3)), (zriskRow, .inl (ca 1, 8, .inl f_13))] H := hP
          have hD : va_D A [(zriskBest, .inl (ca 1, 8, .inl q2)), (zlocks, .inl (ca 1, 2, .inl f_locks)), (ztasks, .inl (ca 1, 2, .inl f_tasks)), (zopSort, .inl (ca 1, 180, .inl f_opSort)), (zopNumber, .inl (ca 1, 180, .inl f_opNumber)), (zfirstOp, .inl (ca 1, 20, .inl f_firstOp)), (zopMany, .inl (ca 1, 20, .inl f_opMany)), (h0, .inr (11, [.ref ztape, .ref ztext, .int (nI ktp), .int (nI ksz), .int nfaultKind, .int nfaultPlace, .int (nI kat), .int (nI ken), .int ntoken, .int nnumber, .long nname, .ref zcores, .ref zlocks, .ref zbells, .ref ztasks, .ref zops, .ref zopSort, .ref zopNumber, .ref zkind, .ref zevery, .ref zbudget, .ref zshareTold, .ref zfirstOp, .ref zopMany, .ref zisCores, .ref zisLocks, .ref zisBells, .ref ztName, .int (nI kb), .int (nI kr), .ref zall, .ref zrows, .ref zpicked, .ref zpileTask, .ref zpileLock, .int (nI kp), .ref zwas, .ref zbehind, .ref zriskRow, .ref zriskBest, .int (nI jm2), .ref zcTick, .ref zcProcessor, .ref zcTask, .int (nI kto), .ref zgTick, .ref zgTask, .ref zgTold, .ref zgUntold, .ref zgRan, .int (nI ksi), .int ntime, .ref zboxAll, .ref zboxRows, .ref zisBoxed])), (zbehind, .inl (ca 1, 6, .inl f_3)), (zriskRow, .inl (ca 1, 8, .inl f_13))] := hD
          refine lv_if_ne (tgt := 51) hx hb dX11_layRisk_45 (by decide +kernel) (fun c_15 => ?_) (fun c_15 => ?_)
          · refine lv_aload_n hx hb dX11_layRisk_51 rfl (lv_at hl 2 rfl) ?_
            refine lv_iload_n hx hb dX11_layRisk_52 rfl (lv_at hl 0 rfl) ?_
            refine va_put (D := D) (ci := 11) (v := .int (nI jk)) (ty := .int) (C := RX11) (T := TX11) (N := 55) hx hb hts iw_X11_layRisk_11 tyX11 tyX11_ok nmX11 hown hC.1 hP hD hS 7 rfl rfl 40 (by decide +kernel) (hts (.fieldLink RX11 383 "FairWheelModel" "riskMany" "I") (by decide +kernel)) (fun _ h9 => h9) rfl (by decide +kernel) rfl rfl (Nat.le_of_ble_eq_true rfl) dX11_layRisk_53 (fun H locs hP hD hS => ?_)
            have hP : va_P D vwCl [(zriskBest, .inl (ca 1, 8, .inl q2)), (zlocks, .inl (ca 1, 2, .inl f_locks)), (ztasks, .inl (ca 1, 2, .inl f_tasks)), (zopSort, .inl (ca 1, 180, .inl f_opSort)), (zopNumber, .inl (ca 1, 180, .inl f_opNumber)), (zfirstOp, .inl (ca 1, 20, .inl f_firstOp)), (zopMany, .inl (ca 1, 20, .inl f_opMany)), (h0, .inr (11, [.ref ztape, .ref ztext, .int (nI ktp), .int (nI ksz), .int nfaultKind, .int nfaultPlace, .int (nI kat), .int (nI ken), .int ntoken, .int nnumber, .long nname, .ref zcores, .ref zlocks, .ref zbells, .ref ztasks, .ref zops, .ref zopSort, .ref zopNumber, .ref zkind, .ref zevery, .ref zbudget, .ref zshareTold, .ref zfirstOp, .ref zopMany, .ref zisCores, .ref zisLocks, .ref zisBells, .ref ztName, .int (nI kb), .int (nI kr), .ref zall, .ref zrows, .ref zpicked, .ref zpileTask, .ref zpileLock, .int (nI kp), .ref zwas, .ref zbehind, .ref zriskRow, .ref zriskBest, .int (nI jk), .ref zcTick, .ref zcProcessor, .ref zcTask, .int (nI kto), .ref zgTick, .ref zgTask, .ref zgTold, .ref zgUntold, .ref zgRan, .int (nI ksi), .int ntime, .ref zboxAll, .ref zboxRows, .ref zisBoxed])), (zbehind, .inl (ca 1, 6, .inl f_3)), (zriskRow, .inl (ca 1, 8, .inl f_13))] H := hP
            have hD : va_D A [(zriskBest, .inl (ca 1, 8, .inl q2)), (zlocks, .inl (ca 1, 2, .inl f_locks)), (ztasks, .inl (ca 1, 2, .inl f_tasks)), (zopSort, .inl (ca 1, 180, .inl f_opSort)), (zopNumber, .inl (ca 1, 180, .inl f_opNumber)), (zfirstOp, .inl (ca 1, 20, .inl f_firstOp)), (zopMany, .inl (ca 1, 20, .inl f_opMany)), (h0, .inr (11, [.ref ztape, .ref ztext, .int (nI ktp), .int (nI ksz), .int nfaultKind, .int nfaultPlace, .int (nI kat), .int (nI ken), .int ntoken, .int nnumber, .long nname, .ref zcores, .ref zlocks, .ref zbells, .ref ztasks, .ref zops, .ref zopSort, .ref zopNumber, .ref zkind, .ref zevery, .ref zbudget, .ref zshareTold, .ref zfirstOp, .ref zopMany, .ref zisCores, .ref zisLocks, .ref zisBells, .ref ztName, .int (nI kb), .int (nI kr), .ref zall, .ref zrows, .ref zpicked, .ref zpileTask, .ref zpileLock, .int (nI kp), .ref zwas, .ref zbehind, .ref zriskRow, .ref zriskBest, .int (nI jk), .ref zcTick, .ref zcProcessor, .ref zcTask, .int (nI kto), .ref zgTick, .ref zgTask, .ref zgTold, .ref zgUntold, .ref zgRan, .int (nI ksi), .int ntime, .ref zboxAll, .ref zboxRows, .ref zisBoxed])), (zbehind, .inl (ca 1, 6, .inl f_3)), (zriskRow, .inl (ca 1, 8, .inl f_13))] := hD
            refine lv_iconst (v := 0) hx hb dX11_layRisk_56 (by decide +kernel) ?_
            refine lv_istore_n (lv' := [(3, .int 0), (2, .int (nI jk)), (1, .int (nI jl)), (0, .ref h0)]) hx hb dX11_layRisk_57 rfl hl (by decide +kernel) rfl (fun ls hl => ?_)
            refine lp_ind (I := fun (n : Nat) H locs ls => ∃ (jx : Nat) (q3 : Nat → Int32), jx ≤ jk ∧ jx + n = jk + 1 ∧ lv_has ls 4 [(3, .int (nI jx)), (2, .int (nI jk)), (1, .int (nI jl)), (0, .ref h0)] ∧ va_P D vwCl [(zriskBest, .inl (ca 1, 8, .inl q3)), (zlocks, .inl (ca 1, 2, .inl f_locks)), (ztasks, .inl (ca 1, 2, .inl f_tasks)), (zopSort, .inl (ca 1, 180, .inl f_opSort)), (zopNumber, .inl (ca 1, 180, .inl f_opNumber)), (zfirstOp, .inl (ca 1, 20, .inl f_firstOp)), (zopMany, .inl (ca 1, 20, .inl f_opMany)), (h0, .inr (11, [.ref ztape, .ref ztext, .int (nI ktp), .int (nI ksz), .int nfaultKind, .int nfaultPlace, .int (nI kat), .int (nI ken), .int ntoken, .int nnumber, .long nname, .ref zcores, .ref zlocks, .ref zbells, .ref ztasks, .ref zops, .ref zopSort, .ref zopNumber, .ref zkind, .ref zevery, .ref zbudget, .ref zshareTold, .ref zfirstOp, .ref zopMany, .ref zisCores, .ref zisLocks, .ref zisBells, .ref ztName, .int (nI kb), .int (nI kr), .ref zall, .ref zrows, .ref zpicked, .ref zpileTask, .ref zpileLock, .int (nI kp), .ref zwas, .ref zbehind, .ref zriskRow, .ref zriskBest, .int (nI jk), .ref zcTick, .ref zcProcessor, .ref zcTask, .int (nI kto), .ref zgTick, .ref zgTask, .ref zgTold, .ref zgUntold, .ref zgRan, .int (nI ksi), .int ntime, .ref zboxAll, .ref zboxRows, .ref zisBoxed])), (zbehind, .inl (ca 1, 6, .inl f_3)), (zriskRow, .inl (ca 1, 8, .inl f_13))] H ∧ va_D A [(zriskBest, .inl (ca 1, 8, .inl q3)), (zlocks, .inl (ca 1, 2, .inl f_locks)), (ztasks, .inl (ca 1, 2, .inl f_tasks)), (zopSort, .inl (ca 1, 180, .inl f_opSort)), (zopNumber, .inl (ca 1, 180, .inl f_opNumber)), (zfirstOp, .inl (ca 1, 20, .inl f_firstOp)), (zopMany, .inl (ca 1, 20, .inl f_opMany)), (h0, .inr (11, [.ref ztape, .ref ztext, .int (nI ktp), .int (nI ksz), .int nfaultKind, .int nfaultPlace, .int (nI kat), .int (nI ken), .int ntoken, .int nnumber, .long nname, .ref zcores, .ref zlocks, .ref zbells, .ref ztasks, .ref zops, .ref zopSort, .ref zopNumber, .ref zkind, .ref zevery, .ref zbudget, .ref zshareTold, .ref zfirstOp, .ref zopMany, .ref zisCores, .ref zisLocks, .ref zisBells, .ref ztName, .int (nI kb), .int (nI kr), .ref zall, .ref zrows, .ref zpicked, .ref zpileTask, .ref zpileLock, .int (nI kp), .ref zwas, .ref zbehind, .ref zriskRow, .ref zriskBest, .int (nI jk), .ref zcTick, .ref zcProcessor, .ref zcTask, .int (nI kto), .ref zgTick, .ref zgTask, .ref zgTold, .ref zgUntold, .ref zgRan, .int (nI ksi), .int ntime, .ref zboxAll, .ref zboxRows, .ref zisBoxed])), (zbehind, .inl (ca 1, 6, .inl f_3)), (zriskRow, .inl (ca 1, 8, .inl f_13))] ∧ va_S A s.heap H locs) (Wf := fun H locs ls => W p l e _ s m _ below meth c H locs _ _ _ (F0 m 58 ls [])) (jk + 1) ⟨0, q2, (by omega), (by omega), hl, hP, hD, hS⟩ ?_ ?_
            · intro H locs ls hI
              obtain ⟨jx, q3, hjx, hm3, -⟩ := hI
              omega
            intro n ih_16 H locs ls hI
            obtain ⟨jx, q3, hjx, hm3, hl, hP, hD, hS⟩ := hI
            refine lv_iload_n hx hb dX11_layRisk_58 rfl (lv_at hl 0 rfl) ?_
            refine lv_iload_n hx hb dX11_layRisk_59 rfl (lv_at hl 1 rfl) ?_
            refine lv_icmp_ge (tgt := 81) hx hb dX11_layRisk_60 (by decide +kernel) (fun c_17 => ?_) (fun c_17 => ?_)
            · have nc_17 : jk ≤ jx := (nI_leI (a := jk) (b := jx) (by omega) (by omega)).mp c_17
              refine lv_iinc (v := nI (jk + 1)) (lv' := [(2, .int (nI (jk + 1))), (3, .int (nI jx)), (1, .int (nI jl)), (0, .ref h0)]) hx hb dX11_layRisk_81 hl (k := 1) rfl (nI_1 _) (by decide +kernel) rfl (fun ls hl => ?_)
              refine lv_goto (tgt := 26) hx hb dX11_layRisk_84 (by decide +kernel) ?_
              exact ih_7 _ _ _ ⟨jk, (jk + 1), f_13, q3, (by omega), (by omega), (by omega), (by omega), lv_sub hl [0, 2, 3] rfl, (hP.sub [9, 0, 7, 1, 2, 3, 4, 5, 6, 8] rfl), (hD.sub [9, 0, 7, 1, 2, 3, 4, 5, 6, 8] (by decide +kernel) rfl), hS⟩
            · have nc_17 : ¬ (jk ≤ jx) := fun h => c_17 ((nI_leI (a := jk) (b := jx) (by omega) (by omega)).mpr h)
              refine lv_aload_n hx hb dX11_layRisk_63 rfl (lv_at hl 3 rfl) ?_
              refine va_get (D := D) (ci := 11) (v := .ref zriskBest) (C := RX11) (T := TX11) (N := 55) hx hb hts iw_X11_layRisk_11 hown hC.1 hP 7 rfl rfl 39 (by decide +kernel) (hts (.fieldLink RX11 98 "FairWheelModel" "riskBest" "[I") (by decide +kernel)) (fun _ h9 => h9) rfl dX11_layRisk_64 ?_
              refine lv_iload_n hx hb dX11_layRisk_67 rfl (lv_at hl 0 rfl) ?_
              refine lv_aload_n hx hb dX11_layRisk_68 rfl (lv_at hl 3 rfl) ?_
              refine va_get (D := D) (ci := 11) (v := .ref zriskRow) (C := RX11) (T := TX11) (N := 55) hx hb hts iw_X11_layRisk_11 hown hC.1 hP 7 rfl rfl 38 (by decide +kernel) (hts (.fieldLink RX11 95 "FairWheelModel" "riskRow" "[I") (by decide +kernel)) (fun _ h9 => h9) rfl dX11_layRisk_69 ?_
              refine lv_iload_n hx hb dX11_layRisk_72 rfl (lv_at hl 0 rfl) ?_
              refine ka_iald hx hb hC.1 hP 9 1 rfl rfl jx rfl (by omega) (by decide +kernel) dX11_layRisk_73 ?_
              refine ka_iast hx hb hC.1 hP hD hS 0 1 rfl rfl jx rfl (by omega) (by decide +kernel) dX11_layRisk_74 (fun H locs hP hD hS => ?_)
              have hP : va_P D vwCl [(zriskBest, .inl (ca 1, 8, .inl (upd q3 jx (f_13 jx)))), (zlocks, .inl (ca 1, 2, .inl f_locks)), (ztasks, .inl (ca 1, 2, .inl f_tasks)), (zopSort, .inl (ca 1, 180, .inl f_opSort)), (zopNumber, .inl (ca 1, 180, .inl f_opNumber)), (zfirstOp, .inl (ca 1, 20, .inl f_firstOp)), (zopMany, .inl (ca 1, 20, .inl f_opMany)), (h0, .inr (11, [.ref ztape, .ref ztext, .int (nI ktp), .int (nI ksz), .int nfaultKind, .int nfaultPlace, .int (nI kat), .int (nI ken), .int ntoken, .int nnumber, .long nname, .ref zcores, .ref zlocks, .ref zbells, .ref ztasks, .ref zops, .ref zopSort, .ref zopNumber, .ref zkind, .ref zevery, .ref zbudget, .ref zshareTold, .ref zfirstOp, .ref zopMany, .ref zisCores, .ref zisLocks, .ref zisBells, .ref ztName, .int (nI kb), .int (nI kr), .ref zall, .ref zrows, .ref zpicked, .ref zpileTask, .ref zpileLock, .int (nI kp), .ref zwas, .ref zbehind, .ref zriskRow, .ref zriskBest, .int (nI jk), .ref zcTick, .ref zcProcessor, .ref zcTask, .int (nI kto), .ref zgTick, .ref zgTask, .ref zgTold, .ref zgUntold, .ref zgRan, .int (nI ksi), .int ntime, .ref zboxAll, .ref zboxRows, .ref zisBoxed])), (zbehind, .inl (ca 1, 6, .inl f_3)), (zriskRow, .inl (ca 1, 8, .inl f_13))] H := hP
              have hD : va_D A [(zriskBest, .inl (ca 1, 8, .inl (upd q3 jx (f_13 jx)))), (zlocks, .inl (ca 1, 2, .inl f_locks)), (ztasks, .inl (ca 1, 2, .inl f_tasks)), (zopSort, .inl (ca 1, 180, .inl f_opSort)), (zopNumber, .inl (ca 1, 180, .inl f_opNumber)), (zfirstOp, .inl (ca 1, 20, .inl f_firstOp)), (zopMany, .inl (ca 1, 20, .inl f_opMany)), (h0, .inr (11, [.ref ztape, .ref ztext, .int (nI ktp), .int (nI ksz), .int nfaultKind, .int nfaultPlace, .int (nI kat), .int (nI ken), .int ntoken, .int nnumber, .long nname, .ref zcores, .ref zlocks, .ref zbells, .ref ztasks, .ref zops, .ref zopSort, .ref zopNumber, .ref zkind, .ref zevery, .ref zbudget, .ref zshareTold, .ref zfirstOp, .ref zopMany, .ref zisCores, .ref zisLocks, .ref zisBells, .ref ztName, .int (nI kb), .int (nI kr), .ref zall, .ref zrows, .ref zpicked, .ref zpileTask, .ref zpileLock, .int (nI kp), .ref zwas, .ref zbehind, .ref zriskRow, .ref zriskBest, .int (nI jk), .ref zcTick, .ref zcProcessor, .ref zcTask, .int (nI kto), .ref zgTick, .ref zgTask, .ref zgTold, .ref zgUntold, .ref zgRan, .int (nI ksi), .int ntime, .ref zboxAll, .ref zboxRows, .ref zisBoxed])), (zbehind, .inl (ca 1, 6, .inl f_3)), (zriskRow, .inl (ca 1, 8, .inl f_13))] := hD
              refine lv_iinc (v := nI (jx + 1)) (lv' := [(3, .int (nI (jx + 1))), (2, .int (nI jk)), (1, .int (nI jl)), (0, .ref h0)]) hx hb dX11_layRisk_75 hl (k := 0) rfl (nI_1 _) (by decide +kernel) rfl (fun ls hl => ?_)
              refine lv_goto (tgt := 58) hx hb dX11_layRisk_78 (by decide +kernel) ?_
              exact ih_16 _ _ _ ⟨(jx + 1), (upd q3 jx (f_13 jx)), (by omega), (by omega), lv_sub hl [0, 1, 2, 3] rfl, hP, hD, hS⟩
          · refine lv_goto (tgt := 81) hx hb dX11_layRisk_48 (by decide +kernel) ?_
            refine lv_iinc (v := nI (jk + 1)) (lv' := [(2, .int (nI (jk + 1))), (1, .int (nI jl)), (0, .ref h0)]) hx hb dX11_layRisk_81 hl (k := 0) rfl (nI_1 _) (by decide +kernel) rfl (fun ls hl => ?_)
            refine lv_goto (tgt := 26) hx hb dX11_layRisk_84 (by decide +kernel) ?_
            exact ih_7 _ _ _ ⟨jm2, (jk + 1), f_13, q2, (by omega), (by omega), (by omega), (by omega), lv_sub hl [0, 1, 2] rfl, (hP.sub [9, 0, 7, 1, 2, 3, 4, 5, 6, 8] rfl), (hD.sub [9, 0, 7, 1, 2, 3, 4, 5, 6, 8] (by decide +kernel) rfl), hS⟩
theorem iw_X11_risk_11 : ∀ w ∈ u_ws RX11 TX11 55, w ∈ wsX11_risk := by decide +kernel
set_option maxHeartbeats 4000000 in
set_option maxRecDepth 100000 in
theorem m_risk (l : Launch) (D : va_G) (ca : Nat → ClassId) (sz : Nat) (h0 : Nat) (ztape : Nat) (ztext : Nat) (zcores : Nat) (zlocks : Nat) (zbells : Nat) (ztasks : Nat) (zops : Nat) (zopSort : Nat) (zopNumber : Nat) (zkind : Nat) (zevery : Nat) (zbudget : Nat) (zshareTold : Nat) (zfirstOp : Nat) (zopMany : Nat) (zisCores : Nat) (zisLocks : Nat) (zisBells : Nat) (ztName : Nat) (zall : Nat) (zrows : Nat) (zpicked : Nat) (zpileTask : Nat) (zpileLock : Nat) (zwas : Nat) (zbehind : Nat) (zriskRow : Nat) (zriskBest : Nat) (zcTick : Nat) (zcProcessor : Nat) (zcTask : Nat) (zgTick : Nat) (zgTask : Nat) (zgTold : Nat) (zgUntold : Nat) (zgRan : Nat) (zboxAll : Nat) (zboxRows : Nat) (zisBoxed : Nat) (ktp : Nat) (ksz : Nat) (nfaultKind : Int32) (nfaultPlace : Int32) (kat : Nat) (ken : Nat) (ntoken : Int32) (nnumber : Int32) (nname : Int64) (kb : Nat) (kr : Nat) (kp : Nat) (nriskMany : Int32) (kto : Nat) (ksi : Nat) (ntime : Int32) (f_locks : Nat → Int32) (f_tasks : Nat → Int32) (f_opSort : Nat → Int32) (f_opNumber : Nat → Int32) (f_firstOp : Nat → Int32) (f_opMany : Nat → Int32) (f_behind : Nat → Int32) (f_riskRow : Nat → Int32) (f_riskBest : Nat → Int32) (kl : Nat) (kn : Nat) (ml : Nat → Nat) (fs : Nat → Nat) (x1 : Int32) (hlo : f_locks kb = nI kl) (htk : f_tasks kb = nI kn) (hkb : kb < 2) (hkn : kn ≤ 10) (hP1 : PL1 kb kn ml fs f_opMany f_firstOp f_opNumber) : Met l yX11_risk wsX11_risk ({ frames := 3, cells := 0, slots := 0, locals := 71 }) (PC [.ref h0, .int x1] sz D ca [(h0, .inr (11, [.ref ztape, .ref ztext, .int (nI ktp), .int (nI ksz), .int nfaultKind, .int nfaultPlace, .int (nI kat), .int (nI ken), .int ntoken, .int nnumber, .long nname, .ref zcores, .ref zlocks, .ref zbells, .ref ztasks, .ref zops, .ref zopSort, .ref zopNumber, .ref zkind, .ref zevery, .ref zbudget, .ref zshareTold, .ref zfirstOp, .ref zopMany, .ref zisCores, .ref zisLocks, .ref zisBells, .ref ztName, .int (nI kb), .int (nI kr), .ref zall, .ref zrows, .ref zpicked, .ref zpileTask, .ref zpileLock, .int (nI kp), .ref zwas, .ref zbehind, .ref zriskRow, .ref zriskBest, .int nriskMany, .ref zcTick, .ref zcProcessor, .ref zcTask, .int (nI kto), .ref zgTick, .ref zgTask, .ref zgTold, .ref zgUntold, .ref zgRan, .int (nI ksi), .int ntime, .ref zboxAll, .ref zboxRows, .ref zisBoxed])), (zlocks, .inl (ca 1, 2, .inl f_locks)), (ztasks, .inl (ca 1, 2, .inl f_tasks)), (zopSort, .inl (ca 1, 180, .inl f_opSort)), (zopNumber, .inl (ca 1, 180, .inl f_opNumber)), (zfirstOp, .inl (ca 1, 20, .inl f_firstOp)), (zopMany, .inl (ca 1, 20, .inl f_opMany)), (zbehind, .inl (ca 1, 6, .inl f_behind)), (zriskRow, .inl (ca 1, 8, .inl f_riskRow)), (zriskBest, .inl (ca 1, 8, .inl f_riskBest))]) (QI (fun (r : Int32) (u : Int32 × (Nat → Int32) × (Nat → Int32) × (Nat → Int32)) => True) (fun (u : Int32 × (Nat → Int32) × (Nat → Int32) × (Nat → Int32)) => [(h0, .inr (11, [.ref ztape, .ref ztext, .int (nI ktp), .int (nI ksz), .int nfaultKind, .int nfaultPlace, .int (nI kat), .int (nI ken), .int ntoken, .int nnumber, .long nname, .ref zcores, .ref zlocks, .ref zbells, .ref ztasks, .ref zops, .ref zopSort, .ref zopNumber, .ref zkind, .ref zevery, .ref zbudget, .ref zshareTold, .ref zfirstOp, .ref zopMany, .ref zisCores, .ref zisLocks, .ref zisBells, .ref ztName, .int (nI kb), .int (nI kr), .ref zall, .ref zrows, .ref zpicked, .ref zpileTask, .ref zpileLock, .int (nI kp), .ref zwas, .ref zbehind, .ref zriskRow, .ref zriskBest, .int u.1, .ref zcTick, .ref zcProcessor, .ref zcTask, .int (nI kto), .ref zgTick, .ref zgTask, .ref zgTold, .ref zgUntold, .ref zgRan, .int (nI ksi), .int ntime, .ref zboxAll, .ref zboxRows, .ref zisBoxed])), (zlocks, .inl (ca 1, 2, .inl f_locks)), (ztasks, .inl (ca 1, 2, .inl f_tasks)), (zopSort, .inl (ca 1, 180, .inl f_opSort)), (zopNumber, .inl (ca 1, 180, .inl f_opNumber)), (zfirstOp, .inl (ca 1, 20, .inl f_firstOp)), (zopMany, .inl (ca 1, 20, .inl f_opMany)), (zbehind, .inl (ca 1, 6, .inl u.2.1)), (zriskRow, .inl (ca 1, 8, .inl u.2.2.1)), (zriskBest, .inl (ca 1, 8, .inl u.2.2.2))]) [(h0, .inr (11, [.ref ztape, .ref ztext, .int (nI ktp), .int (nI ksz), .int nfaultKind, .int nfaultPlace, .int (nI kat), .int (nI ken), .int ntoken, .int nnumber, .long nname, .ref zcores, .ref zlocks, .ref zbells, .ref ztasks, .ref zops, .ref zopSort, .ref zopNumber, .ref zkind, .ref zevery, .ref zbudget, .ref zshareTold, .ref zfirstOp, .ref zopMany, .ref zisCores, .ref zisLocks, .ref zisBells, .ref ztName, .int (nI kb), .int (nI kr), .ref zall, .ref zrows, .ref zpicked, .ref zpileTask, .ref zpileLock, .int (nI kp), .ref zwas, .ref zbehind, .ref zriskRow, .ref zriskBest, .int nriskMany, .ref zcTick, .ref zcProcessor, .ref zcTask, .int (nI kto), .ref zgTick, .ref zgTask, .ref zgTold, .ref zgUntold, .ref zgRan, .int (nI ksi), .int ntime, .ref zboxAll, .ref zboxRows, .ref zisBoxed])), (zlocks, .inl (ca 1, 2, .inl f_locks)), (ztasks, .inl (ca 1, 2, .inl f_tasks)), (zopSort, .inl (ca 1, 180, .inl f_opSort)), (zopNumber, .inl (ca 1, 180, .inl f_opNumber)), (zfirstOp, .inl (ca 1, 20, .inl f_firstOp)), (zopMany, .inl (ca 1, 20, .inl f_opMany)), (zbehind, .inl (ca 1, 6, .inl f_behind)), (zriskRow, .inl (ca 1, 8, .inl f_riskRow)), (zriskBest, .inl (ca 1, 8, .inl f_riskBest))] sz D) 0 0 (va_A [(h0, .inr (11, [.ref ztape, .ref ztext, .int (nI ktp), .int (nI ksz), .int nfaultKind, .int nfaultPlace, .int (nI kat), .int (nI ken), .int ntoken, .int nnumber, .long nname, .ref zcores, .ref zlocks, .ref zbells, .ref ztasks, .ref zops, .ref zopSort, .ref zopNumber, .ref zkind, .ref zevery, .ref zbudget, .ref zshareTold, .ref zfirstOp, .ref zopMany, .ref zisCores, .ref zisLocks, .ref zisBells, .ref ztName, .int (nI kb), .int (nI kr), .ref zall, .ref zrows, .ref zpicked, .ref zpileTask, .ref zpileLock, .int (nI kp), .ref zwas, .ref zbehind, .ref zriskRow, .ref zriskBest, .int nriskMany, .ref zcTick, .ref zcProcessor, .ref zcTask, .int (nI kto), .ref zgTick, .ref zgTask, .ref zgTold, .ref zgUntold, .ref zgRan, .int (nI ksi), .int ntime, .ref zboxAll, .ref zboxRows, .ref zisBoxed])), (zlocks, .inl (ca 1, 2, .inl f_locks)), (ztasks, .inl (ca 1, 2, .inl f_tasks)), (zopSort, .inl (ca 1, 180, .inl f_opSort)), (zopNumber, .inl (ca 1, 180, .inl f_opNumber)), (zfirstOp, .inl (ca 1, 20, .inl f_firstOp)), (zopMany, .inl (ca 1, 20, .inl f_opMany)), (zbehind, .inl (ca 1, 6, .inl f_behind)), (zriskRow, .inl (ca 1, 8, .inl f_riskRow)), (zriskBest, .inl (ca 1, 8, .inl f_riskBest))] sz) := by
  refine Met.ofW (cc := cX11_risk) (maxL := 2) (ret := (some .int)) (by decide +kernel) rfl ?_
  intro p e s m args below meth c s₁ B hml hv
  obtain ⟨rfl, hsz, hP, hC, hD0⟩ := hv
  have hx := B.exec
  have hb := B.bytes
  have hr := B.returns
  have hts := atoms_spec (ws := wsX11_risk) B.pre
  have hown : s.vm.findClass RX11 = some m.cls := findClass_of_methodNamed B.named
  have hlocks := B.notSynchronized
  subst hsz
  have hD := hD0.self (sz := s.heap.size)
  dsimp only [QV, QI, QL, BQ]
  generalize hAe : va_A [(h0, .inr (11, [.ref ztape, .ref ztext, .int (nI ktp), .int (nI ksz), .int nfaultKind, .int nfaultPlace, .int (nI kat), .int (nI ken), .int ntoken, .int nnumber, .long nname, .ref zcores, .ref zlocks, .ref zbells, .ref ztasks, .ref zops, .ref zopSort, .ref zopNumber, .ref zkind, .ref zevery, .ref zbudget, .ref zshareTold, .ref zfirstOp, .ref zopMany, .ref zisCores, .ref zisLocks, .ref zisBells, .ref ztName, .int (nI kb), .int (nI kr), .ref zall, .ref zrows, .ref zpicked, .ref zpileTask, .ref zpileLock, .int (nI kp), .ref zwas, .ref zbehind, .ref zriskRow, .ref zriskBest, .int nriskMany, .ref zcTick, .ref zcProcessor, .ref zcTask, .int (nI kto), .ref zgTick, .ref zgTask, .ref zgTold, .ref zgUntold, .ref zgRan, .int (nI ksi), .int ntime, .ref zboxAll, .ref zboxRows, .ref zisBoxed])), (zlocks, .inl (ca 1, 2, .inl f_locks)), (ztasks, .inl (ca 1, 2, .inl f_tasks)), (zopSort, .inl (ca 1, 180, .inl f_opSort)), (zopNumber, .inl (ca 1, 180, .inl f_opNumber)), (zfirstOp, .inl (ca 1, 20, .inl f_firstOp)), (zopMany, .inl (ca 1, 20, .inl f_opMany)), (zbehind, .inl (ca 1, 6, .inl f_behind)), (zriskRow, .inl (ca 1, 8, .inl f_riskRow)), (zriskBest, .inl (ca 1, 8, .inl f_riskBest))] s.heap.size = A at hD ⊢
  have hA : ∀ q : Nat, s.heap.size ≤ q → A q := fun q h => by rw [← hAe]; exact Or.inr h
  have hDA : ∀ {w : va_W}, va_D A w → va_D (va_A [(h0, .inr (11, [.ref ztape, .ref ztext, .int (nI ktp), .int (nI ksz), .int nfaultKind, .int nfaultPlace, .int (nI kat), .int (nI ken), .int ntoken, .int nnumber, .long nname, .ref zcores, .ref zlocks, .ref zbells, .ref ztasks, .ref zops, .ref zopSort, .ref zopNumber, .ref zkind, .ref zevery, .ref zbudget, .ref zshareTold, .ref zfirstOp, .ref zopMany, .ref zisCores, .ref zisLocks, .ref zisBells, .ref ztName, .int (nI kb), .int (nI kr), .ref zall, .ref zrows, .ref zpicked, .ref zpileTask, .ref zpileLock, .int (nI kp), .ref zwas, .ref zbehind, .ref zriskRow, .ref zriskBest, .int nriskMany, .ref zcTick, .ref zcProcessor, .ref zcTask, .int (nI kto), .ref zgTick, .ref zgTask, .ref zgTold, .ref zgUntold, .ref zgRan, .int (nI ksi), .int ntime, .ref zboxAll, .ref zboxRows, .ref zisBoxed])), (zlocks, .inl (ca 1, 2, .inl f_locks)), (ztasks, .inl (ca 1, 2, .inl f_tasks)), (zopSort, .inl (ca 1, 180, .inl f_opSort)), (zopNumber, .inl (ca 1, 180, .inl f_opNumber)), (zfirstOp, .inl (ca 1, 20, .inl f_firstOp)), (zopMany, .inl (ca 1, 20, .inl f_opMany)), (zbehind, .inl (ca 1, 6, .inl f_behind)), (zriskRow, .inl (ca 1, 8, .inl f_riskRow)), (zriskBest, .inl (ca 1, 8, .inl f_riskBest))] s.heap.size) w := fun h => by rw [hAe]; exact h
  have hS : va_S A s.heap s.heap [] := va_S.rf
  have hP : va_P D vwCl [(h0, .inr (11, [.ref ztape, .ref ztext, .int (nI ktp), .int (nI ksz), .int nfaultKind, .int nfaultPlace, .int (nI kat), .int (nI ken), .int ntoken, .int nnumber, .long nname, .ref zcores, .ref zlocks, .ref zbells, .ref ztasks, .ref zops, .ref zopSort, .ref zopNumber, .ref zkind, .ref zevery, .ref zbudget, .ref zshareTold, .ref zfirstOp, .ref zopMany, .ref zisCores, .ref zisLocks, .ref zisBells, .ref ztName, .int (nI kb), .int (nI kr), .ref zall, .ref zrows, .ref zpicked, .ref zpileTask, .ref zpileLock, .int (nI kp), .ref zwas, .ref zbehind, .ref zriskRow, .ref zriskBest, .int nriskMany, .ref zcTick, .ref zcProcessor, .ref zcTask, .int (nI kto), .ref zgTick, .ref zgTask, .ref zgTold, .ref zgUntold, .ref zgRan, .int (nI ksi), .int ntime, .ref zboxAll, .ref zboxRows, .ref zisBoxed])), (zlocks, .inl (ca 1, 2, .inl f_locks)), (ztasks, .inl (ca 1, 2, .inl f_tasks)), (zopSort, .inl (ca 1, 180, .inl f_opSort)), (zopNumber, .inl (ca 1, 180, .inl f_opNumber)), (zfirstOp, .inl (ca 1, 20, .inl f_firstOp)), (zopMany, .inl (ca 1, 20, .inl f_opMany)), (zbehind, .inl (ca 1, 6, .inl f_behind)), (zriskRow, .inl (ca 1, 8, .inl f_riskRow)), (zriskBest, .inl (ca 1, 8, .inl f_riskBest))] s.heap := hP
  have hl := lv_entry ([.ref h0, .int x1]) (n := 2) (Nat.le_of_ble_eq_true rfl)
  rw [lg_entry_eq]
  generalize (lg_sl ([.ref h0, .int x1]) ++ List.replicate (2 - (lg_sl ([.ref h0, .int x1])).length) Slot.unset).toArray = ls at hl ⊢
  have hl : lv_has ls 2 [(0, .ref h0), (1, .int x1)] := hl
  refine lv_iload_n hx hb dX11_risk_0 rfl (lv_at hl 1 rfl) ?_
  refine lv_if_ge (tgt := 7) hx hb dX11_risk_1 (by decide +kernel) (fun c_1 => ?_) (fun c_1 => ?_)
  · refine lv_aload_n hx hb dX11_risk_7 rfl (lv_at hl 0 rfl) ?_
    refine kc_v (wr := []) (va_runV (As := []) (rest := []) ⟨hx, hb, hml, hown, hts⟩ (m_layRisk l D ca s.heap.size h0 ztape ztext zcores zlocks zbells ztasks zops zopSort zopNumber zkind zevery zbudget zshareTold zfirstOp zopMany zisCores zisLocks zisBells ztName zall zrows zpicked zpileTask zpileLock zwas zbehind zriskRow zriskBest zcTick zcProcessor zcTask zgTick zgTask zgTold zgUntold zgRan zboxAll zboxRows zisBoxed ktp ksz nfaultKind nfaultPlace kat ken ntoken nnumber nname kb kr kp nriskMany kto ksi ntime f_locks f_tasks f_opSort f_opNumber f_firstOp f_opMany f_behind f_riskRow f_riskBest kl kn ml fs hlo htk hkb hkn hP1) (cwV 0 hts gX11_risk_X11_layRisk rfl rfl rfl (by decide +kernel) ⟨(Nat.le_of_ble_eq_true rfl), (Nat.le_of_ble_eq_true rfl)⟩) (PC.preV (ci := 11) hC hP hD [0, 1, 2, 3, 4, 5, 6, 7, 8, 9] rfl (by decide +kernel) rfl rfl) rfl rfl hl.1 rfl (lv_room (Nat.le_of_ble_eq_true rfl)) dX11_risk_8 ⟨(Nat.le_of_ble_eq_true rfl), (Nat.le_of_ble_eq_true rfl)⟩) hP hD hS hA [0, 1, 2, 3, 4, 5, 6, 7, 8, 9] [] rfl rfl (by decide +kernel) (by decide +kernel) (fun u_3 H locs hw_2 hP hD hS => ?_)
    obtain ⟨k_4, f_5, f_6, f_7⟩ := u_3
    have hu_8 := hw_2
    have hP : va_P D vwCl [(h0, .inr (11, [.ref ztape, .ref ztext, .int (nI ktp), .int (nI ksz), .int nfaultKind, .int nfaultPlace, .int (nI kat), .int (nI ken), .int ntoken, .int nnumber, .long nname, .ref zcores, .ref zlocks, .ref zbells, .ref ztasks, .ref zops, .ref zopSort, .ref zopNumber, .ref zkind, .ref zevery, .ref zbudget, .ref zshareTold, .ref zfirstOp, .ref zopMany, .ref zisCores, .ref zisLocks, .ref zisBells, .ref ztName, .int (nI kb), .int (nI kr), .ref zall, .ref zrows, .ref zpicked, .ref zpileTask, .ref zpileLock, .int (nI kp), .ref zwas, .ref zbehind, .ref zriskRow, .ref zriskBest, .int (nI k_4), .ref zcTick, .ref zcProcessor, .ref zcTask, .int (nI kto), .ref zgTick, .ref zgTask, .ref zgTold, .ref zgUntold, .ref zgRan, .int (nI ksi), .int ntime, .ref zboxAll, .ref zboxRows, .ref zisBoxed])), (zlocks, .inl (ca 1, 2, .inl f_locks)), (ztasks, .inl (ca 1, 2, .inl f_tasks)), (zopSort, .inl (ca 1, 180, .inl f_opSort)), (zopNumber, .inl (ca 1, 180, .inl f_opNumber)), (zfirstOp, .inl (ca 1, 20, .inl f_firstOp)), (zopMany, .inl (ca 1, 20, .inl f_opMany)), (zbehind, .inl (ca 1, 6, .inl f_5)), (zriskRow, .inl (ca 1, 8, .inl f_6)), (zriskBest, .inl (ca 1, 8, .inl f_7))] H := hP
    have hD : va_D A [(h0, .inr (11, [.ref ztape, .ref ztext, .int (nI ktp), .int (nI ksz), .int nfaultKind, .int nfaultPlace, .int (nI kat), .int (nI ken), .int ntoken, .int nnumber, .long nname, .ref zcores, .ref zlocks, .ref zbells, .ref ztasks, .ref zops, .ref zopSort, .ref zopNumber, .ref zkind, .ref zevery, .ref zbudget, .ref zshareTold, .ref zfirstOp, .ref zopMany, .ref zisCores, .ref zisLocks, .ref zisBells, .ref ztName, .int (nI kb), .int (nI kr), .ref zall, .ref zrows, .ref zpicked, .ref zpileTask, .ref zpileLock, .int (nI kp), .ref zwas, .ref zbehind, .ref zriskRow, .ref zriskBest, .int (nI k_4), .ref zcTick, .ref zcProcessor, .ref zcTask, .int (nI kto), .ref zgTick, .ref zgTask, .ref zgTold, .ref zgUntold, .ref zgRan, .int (nI ksi), .int ntime, .ref zboxAll, .ref zboxRows, .ref zisBoxed])), (zlocks, .inl (ca 1, 2, .inl f_locks)), (ztasks, .inl (ca 1, 2, .inl f_tasks)), (zopSort, .inl (ca 1, 180, .inl f_opSort)), (zopNumber, .inl (ca 1, 180, .inl f_opNumber)), (zfirstOp, .inl (ca 1, 20, .inl f_firstOp)), (zopMany, .inl (ca 1, 20, .inl f_opMany)), (zbehind, .inl (ca 1, 6, .inl f_5)), (zriskRow, .inl (ca 1, 8, .inl f_6)), (zriskBest, .inl (ca 1, 8, .inl f_7))] := hD
    refine lv_iload_n hx hb dX11_risk_11 rfl (lv_at hl 1 rfl) ?_
    refine lv_if_ne (tgt := 22) hx hb dX11_risk_12 (by decide +kernel) (fun c_9 => ?_) (fun c_9 => ?_)
    · refine lv_iload_n hx hb dX11_risk_22 rfl (lv_at hl 1 rfl) ?_
      refine lv_aload_n hx hb dX11_risk_23 rfl (lv_at hl 0 rfl) ?_
      refine va_get (D := D) (ci := 11) (v := .int (nI k_4)) (C := RX11) (T := TX11) (N := 55) hx hb hts iw_X11_risk_11 hown hC.1 hP 0 rfl rfl 40 (by decide +kernel) (hts (.fieldLink RX11 383 "FairWheelModel" "riskMany" "I") (by decide +kernel)) (fun _ h9 => h9) rfl dX11_risk_24 ?_
      refine lv_icmp_gt (tgt := 41) hx hb dX11_risk_27 (by decide +kernel) (fun c_10 => ?_) (fun c_10 => ?_)
      · refine lv_iconst (v := (-1)) hx hb dX11_risk_41 (by decide +kernel) ?_
        exact W.iret (v := (-1)) hx hb hr (fun t ht hW => ⟨⟨(-1), (nI k_4, f_5, f_6, f_7), rfl, trivial, by rw [ht]; exact hP.sub [0, 1, 2, 3, 4, 5, 6, 7, 8, 9] rfl, hDA (hD.sub [0, 1, 2, 3, 4, 5, 6, 7, 8, 9] (by decide +kernel) rfl)⟩, hS.F ht⟩) hS.2.2 dX11_risk_42
      · obtain ⟨k_11, hk_11, rfl⟩ := nI_of (Int32.not_lt.mpr c_1)
        have nc_9 : ¬ (k_11 = 0) := fun h => c_9 ((nI_eq (a := k_11) (b := 0) (by omega) (by omega)).mpr h)
        have nc_10 : ¬ (k_4 < k_11) := fun h => c_10 ((nI_ltI (a := k_4) (b := k_11) (by omega) (by omega)).mpr h)
        refine lv_aload_n hx hb dX11_risk_30 rfl (lv_at hl 0 rfl) ?_
        refine va_get (D := D) (ci := 11) (v := .ref zriskBest) (C := RX11) (T := TX11) (N := 55) hx hb hts iw_X11_risk_11 hown hC.1 hP 0 rfl rfl 39 (by decide +kernel) (hts (.fieldLink RX11 98 "FairWheelModel" "riskBest" "[I") (by decide +kernel)) (fun _ h9 => h9) rfl dX11_risk_31 ?_
        refine lv_iload_n hx hb dX11_risk_34 rfl (lv_at hl 1 rfl) ?_
        refine lv_iconst (v := 1) hx hb dX11_risk_35 (by decide +kernel) ?_
        refine lv_isub hx hb dX11_risk_36 ?_
        refine nt_i (nI (k_11 - 1)) (nI_subk (a := k_11) 1 (by omega) (by omega)) ?_
        refine ka_iald hx hb hC.1 hP 9 1 rfl rfl (k_11 - 1) rfl (by omega) (by decide +kernel) dX11_risk_37 ?_
        refine lv_goto (tgt := 42) hx hb dX11_risk_38 (by decide +kernel) ?_
        exact W.iret (v := f_7 (k_11 - 1)) hx hb hr (fun t ht hW => ⟨⟨f_7 (k_11 - 1), (nI k_4, f_5, f_6, f_7), rfl, trivial, by rw [ht]; exact hP.sub [0, 1, 2, 3, 4, 5, 6, 7, 8, 9] rfl, hDA (hD.sub [0, 1, 2, 3, 4, 5, 6, 7, 8, 9] (by decide +kernel) rfl)⟩, hS.F ht⟩) hS.2.2 dX11_risk_42
    · refine lv_aload_n hx hb dX11_risk_15 rfl (lv_at hl 0 rfl) ?_
      refine va_get (D := D) (ci := 11) (v := .int (nI k_4)) (C := RX11) (T := TX11) (N := 55) hx hb hts iw_X11_risk_11 hown hC.1 hP 0 rfl rfl 40 (by decide +kernel) (hts (.fieldLink RX11 383 "FairWheelModel" "riskMany" "I") (by decide +kernel)) (fun _ h9 => h9) rfl dX11_risk_16 ?_
      refine lv_goto (tgt := 42) hx hb dX11_risk_19 (by decide +kernel) ?_
      exact W.iret (v := nI k_4) hx hb hr (fun t ht hW => ⟨⟨nI k_4, (nI k_4, f_5, f_6, f_7), rfl, trivial, by rw [ht]; exact hP.sub [0, 1, 2, 3, 4, 5, 6, 7, 8, 9] rfl, hDA (hD.sub [0, 1, 2, 3, 4, 5, 6, 7, 8, 9] (by decide +kernel) rfl)⟩, hS.F ht⟩) hS.2.2 dX11_risk_42
  · refine lv_bipush (v := (-2)) hx hb dX11_risk_4 (by decide +kernel) ?_
    exact W.iret (v := (-2)) hx hb hr (fun t ht hW => ⟨⟨(-2), (nriskMany, f_behind, f_riskRow, f_riskBest), rfl, trivial, by rw [ht]; exact hP.sub [0, 1, 2, 3, 4, 5, 6, 7, 8, 9] rfl, hDA (hD.sub [0, 1, 2, 3, 4, 5, 6, 7, 8, 9] (by decide +kernel) rfl)⟩, hS.F ht⟩) hS.2.2 dX11_risk_6
