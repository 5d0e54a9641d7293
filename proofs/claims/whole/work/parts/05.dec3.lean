theorem dX7_init_0 : decode cX7_init 0 = .ok (.aload_n 0, 1) := by decide +kernel
theorem dX7_init_1 : decode cX7_init 1 = .ok (.invokespecial 1, 3) := by decide +kernel
theorem dX7_init_4 : decode cX7_init 4 = .ok (.aload_n 0, 1) := by decide +kernel
theorem dX7_init_5 : decode cX7_init 5 = .ok (.bipush 10, 2) := by decide +kernel
theorem dX7_init_7 : decode cX7_init 7 = .ok (.putfield 7, 3) := by decide +kernel
theorem dX7_init_10 : decode cX7_init 10 = .ok (.aload_n 0, 1) := by decide +kernel
theorem dX7_init_11 : decode cX7_init 11 = .ok (.iconst 5, 1) := by decide +kernel
theorem dX7_init_12 : decode cX7_init 12 = .ok (.newarray .int, 2) := by decide +kernel
theorem dX7_init_14 : decode cX7_init 14 = .ok (.putfield 13, 3) := by decide +kernel
theorem dX7_init_17 : decode cX7_init 17 = .ok (.aload_n 0, 1) := by decide +kernel
theorem dX7_init_18 : decode cX7_init 18 = .ok (.bipush 6, 2) := by decide +kernel
theorem dX7_init_20 : decode cX7_init 20 = .ok (.newarray .int, 2) := by decide +kernel
theorem dX7_init_22 : decode cX7_init 22 = .ok (.putfield 17, 3) := by decide +kernel
theorem dX7_init_25 : decode cX7_init 25 = .ok (.aload_n 0, 1) := by decide +kernel
theorem dX7_init_26 : decode cX7_init 26 = .ok (.bipush 6, 2) := by decide +kernel
theorem dX7_init_28 : decode cX7_init 28 = .ok (.newarray .int, 2) := by decide +kernel
theorem dX7_init_30 : decode cX7_init 30 = .ok (.putfield 20, 3) := by decide +kernel
theorem dX7_init_33 : decode cX7_init 33 = .ok (.aload_n 0, 1) := by decide +kernel
theorem dX7_init_34 : decode cX7_init 34 = .ok (.iconst 5, 1) := by decide +kernel
theorem dX7_init_35 : decode cX7_init 35 = .ok (.newarray .int, 2) := by decide +kernel
theorem dX7_init_37 : decode cX7_init 37 = .ok (.putfield 23, 3) := by decide +kernel
theorem dX7_init_40 : decode cX7_init 40 = .ok (.aload_n 0, 1) := by decide +kernel
theorem dX7_init_41 : decode cX7_init 41 = .ok (.iconst 5, 1) := by decide +kernel
theorem dX7_init_42 : decode cX7_init 42 = .ok (.newarray .int, 2) := by decide +kernel
theorem dX7_init_44 : decode cX7_init 44 = .ok (.putfield 26, 3) := by decide +kernel
theorem dX7_init_47 : decode cX7_init 47 = .ok (.aload_n 0, 1) := by decide +kernel
theorem dX7_init_48 : decode cX7_init 48 = .ok (.bipush 6, 2) := by decide +kernel
theorem dX7_init_50 : decode cX7_init 50 = .ok (.newarray .int, 2) := by decide +kernel
theorem dX7_init_52 : decode cX7_init 52 = .ok (.putfield 29, 3) := by decide +kernel
theorem dX7_init_55 : decode cX7_init 55 = .ok (.aload_n 0, 1) := by decide +kernel
theorem dX7_init_56 : decode cX7_init 56 = .ok (.iconst 5, 1) := by decide +kernel
theorem dX7_init_57 : decode cX7_init 57 = .ok (.newarray .int, 2) := by decide +kernel
theorem dX7_init_59 : decode cX7_init 59 = .ok (.putfield 32, 3) := by decide +kernel
theorem dX7_init_62 : decode cX7_init 62 = .ok (.aload_n 0, 1) := by decide +kernel
theorem dX7_init_63 : decode cX7_init 63 = .ok (.bipush 30, 2) := by decide +kernel
theorem dX7_init_65 : decode cX7_init 65 = .ok (.newarray .int, 2) := by decide +kernel
theorem dX7_init_67 : decode cX7_init 67 = .ok (.putfield 35, 3) := by decide +kernel
theorem dX7_init_70 : decode cX7_init 70 = .ok (.aload_n 0, 1) := by decide +kernel
theorem dX7_init_71 : decode cX7_init 71 = .ok (.bipush 30, 2) := by decide +kernel
theorem dX7_init_73 : decode cX7_init 73 = .ok (.newarray .int, 2) := by decide +kernel
theorem dX7_init_75 : decode cX7_init 75 = .ok (.putfield 38, 3) := by decide +kernel
theorem dX7_init_78 : decode cX7_init 78 = .ok (.aload_n 0, 1) := by decide +kernel
theorem dX7_init_79 : decode cX7_init 79 = .ok (.bipush 30, 2) := by decide +kernel
theorem dX7_init_81 : decode cX7_init 81 = .ok (.newarray .int, 2) := by decide +kernel
theorem dX7_init_83 : decode cX7_init 83 = .ok (.putfield 41, 3) := by decide +kernel
theorem dX7_init_86 : decode cX7_init 86 = .ok (.aload_n 0, 1) := by decide +kernel
theorem dX7_init_87 : decode cX7_init 87 = .ok (.sipush 500, 3) := by decide +kernel
theorem dX7_init_90 : decode cX7_init 90 = .ok (.newarray .int, 2) := by decide +kernel
theorem dX7_init_92 : decode cX7_init 92 = .ok (.putfield 44, 3) := by decide +kernel
theorem dX7_init_95 : decode cX7_init 95 = .ok (.aload_n 0, 1) := by decide +kernel
theorem dX7_init_96 : decode cX7_init 96 = .ok (.iconst (-1), 1) := by decide +kernel
theorem dX7_init_97 : decode cX7_init 97 = .ok (.putfield 47, 3) := by decide +kernel
theorem dX7_init_100 : decode cX7_init 100 = .ok (.aload_n 0, 1) := by decide +kernel
theorem dX7_init_101 : decode cX7_init 101 = .ok (.iconst 5, 1) := by decide +kernel
theorem dX7_init_102 : decode cX7_init 102 = .ok (.newarray .int, 2) := by decide +kernel
theorem dX7_init_104 : decode cX7_init 104 = .ok (.putfield 50, 3) := by decide +kernel
theorem dX7_init_107 : decode cX7_init 107 = .ok (.aload_n 0, 1) := by decide +kernel
theorem dX7_init_108 : decode cX7_init 108 = .ok (.bipush 6, 2) := by decide +kernel
theorem dX7_init_110 : decode cX7_init 110 = .ok (.newarray .int, 2) := by decide +kernel
theorem dX7_init_112 : decode cX7_init 112 = .ok (.putfield 53, 3) := by decide +kernel
theorem dX7_init_115 : decode cX7_init 115 = .ok (.aload_n 0, 1) := by decide +kernel
theorem dX7_init_116 : decode cX7_init 116 = .ok (.bipush 6, 2) := by decide +kernel
theorem dX7_init_118 : decode cX7_init 118 = .ok (.newarray .int, 2) := by decide +kernel
theorem dX7_init_120 : decode cX7_init 120 = .ok (.putfield 56, 3) := by decide +kernel
theorem dX7_init_123 : decode cX7_init 123 = .ok (.aload_n 0, 1) := by decide +kernel
theorem dX7_init_124 : decode cX7_init 124 = .ok (.bipush 6, 2) := by decide +kernel
theorem dX7_init_126 : decode cX7_init 126 = .ok (.newarray .int, 2) := by decide +kernel
theorem dX7_init_128 : decode cX7_init 128 = .ok (.putfield 59, 3) := by decide +kernel
theorem dX7_init_131 : decode cX7_init 131 = .ok (.aload_n 0, 1) := by decide +kernel
theorem dX7_init_132 : decode cX7_init 132 = .ok (.iconst 5, 1) := by decide +kernel
theorem dX7_init_133 : decode cX7_init 133 = .ok (.newarray .int, 2) := by decide +kernel
theorem dX7_init_135 : decode cX7_init 135 = .ok (.putfield 62, 3) := by decide +kernel
theorem dX7_init_138 : decode cX7_init 138 = .ok (.aload_n 0, 1) := by decide +kernel
theorem dX7_init_139 : decode cX7_init 139 = .ok (.iconst 5, 1) := by decide +kernel
theorem dX7_init_140 : decode cX7_init 140 = .ok (.newarray .int, 2) := by decide +kernel
theorem dX7_init_142 : decode cX7_init 142 = .ok (.putfield 65, 3) := by decide +kernel
theorem dX7_init_145 : decode cX7_init 145 = .ok (.aload_n 0, 1) := by decide +kernel
theorem dX7_init_146 : decode cX7_init 146 = .ok (.bipush 6, 2) := by decide +kernel
theorem dX7_init_148 : decode cX7_init 148 = .ok (.newarray .int, 2) := by decide +kernel
theorem dX7_init_150 : decode cX7_init 150 = .ok (.putfield 68, 3) := by decide +kernel
theorem dX7_init_153 : decode cX7_init 153 = .ok (.aload_n 0, 1) := by decide +kernel
theorem dX7_init_154 : decode cX7_init 154 = .ok (.bipush 6, 2) := by decide +kernel
theorem dX7_init_156 : decode cX7_init 156 = .ok (.newarray .int, 2) := by decide +kernel
theorem dX7_init_158 : decode cX7_init 158 = .ok (.putfield 71, 3) := by decide +kernel
theorem dX7_init_161 : decode cX7_init 161 = .ok (.aload_n 0, 1) := by decide +kernel
theorem dX7_init_162 : decode cX7_init 162 = .ok (.bipush 20, 2) := by decide +kernel
theorem dX7_init_164 : decode cX7_init 164 = .ok (.newarray .int, 2) := by decide +kernel
theorem dX7_init_166 : decode cX7_init 166 = .ok (.putfield 74, 3) := by decide +kernel
theorem dX7_init_169 : decode cX7_init 169 = .ok (.aload_n 0, 1) := by decide +kernel
theorem dX7_init_170 : decode cX7_init 170 = .ok (.bipush 20, 2) := by decide +kernel
theorem dX7_init_172 : decode cX7_init 172 = .ok (.newarray .int, 2) := by decide +kernel
theorem dX7_init_174 : decode cX7_init 174 = .ok (.putfield 77, 3) := by decide +kernel
theorem dX7_init_177 : decode cX7_init 177 = .ok (.aload_n 0, 1) := by decide +kernel
theorem dX7_init_178 : decode cX7_init 178 = .ok (.bipush 20, 2) := by decide +kernel
theorem dX7_init_180 : decode cX7_init 180 = .ok (.newarray .boolean, 2) := by decide +kernel
theorem dX7_init_182 : decode cX7_init 182 = .ok (.putfield 80, 3) := by decide +kernel
theorem dX7_init_185 : decode cX7_init 185 = .ok (.aload_n 0, 1) := by decide +kernel
theorem dX7_init_186 : decode cX7_init 186 = .ok (.bipush 6, 2) := by decide +kernel
theorem dX7_init_188 : decode cX7_init 188 = .ok (.newarray .int, 2) := by decide +kernel
theorem dX7_init_190 : decode cX7_init 190 = .ok (.putfield 84, 3) := by decide +kernel
theorem dX7_init_193 : decode cX7_init 193 = .ok (.aload_n 0, 1) := by decide +kernel
theorem dX7_init_194 : decode cX7_init 194 = .ok (.bipush 6, 2) := by decide +kernel
theorem dX7_init_196 : decode cX7_init 196 = .ok (.newarray .int, 2) := by decide +kernel
theorem dX7_init_198 : decode cX7_init 198 = .ok (.putfield 87, 3) := by decide +kernel
theorem dX7_init_201 : decode cX7_init 201 = .ok (.aload_n 0, 1) := by decide +kernel
theorem dX7_init_202 : decode cX7_init 202 = .ok (.bipush 6, 2) := by decide +kernel
theorem dX7_init_204 : decode cX7_init 204 = .ok (.newarray .int, 2) := by decide +kernel
theorem dX7_init_206 : decode cX7_init 206 = .ok (.putfield 90, 3) := by decide +kernel
theorem dX7_init_209 : decode cX7_init 209 = .ok (.aload_n 0, 1) := by decide +kernel
theorem dX7_init_210 : decode cX7_init 210 = .ok (.bipush 6, 2) := by decide +kernel
theorem dX7_init_212 : decode cX7_init 212 = .ok (.newarray .int, 2) := by decide +kernel
theorem dX7_init_214 : decode cX7_init 214 = .ok (.putfield 93, 3) := by decide +kernel
theorem dX7_init_217 : decode cX7_init 217 = .ok (.aload_n 0, 1) := by decide +kernel
theorem dX7_init_218 : decode cX7_init 218 = .ok (.sipush 220, 3) := by decide +kernel
theorem dX7_init_221 : decode cX7_init 221 = .ok (.newarray .int, 2) := by decide +kernel
theorem dX7_init_223 : decode cX7_init 223 = .ok (.putfield 96, 3) := by decide +kernel
theorem dX7_init_226 : decode cX7_init 226 = .ok (.aload_n 0, 1) := by decide +kernel
theorem dX7_init_227 : decode cX7_init 227 = .ok (.iconst 2, 1) := by decide +kernel
theorem dX7_init_228 : decode cX7_init 228 = .ok (.newarray .boolean, 2) := by decide +kernel
theorem dX7_init_230 : decode cX7_init 230 = .ok (.putfield 99, 3) := by decide +kernel
theorem dX7_init_233 : decode cX7_init 233 = .ok (.aload_n 0, 1) := by decide +kernel
theorem dX7_init_234 : decode cX7_init 234 = .ok (.iconst 0, 1) := by decide +kernel
theorem dX7_init_235 : decode cX7_init 235 = .ok (.putfield 102, 3) := by decide +kernel
theorem dX7_init_238 : decode cX7_init 238 = .ok (.return_, 1) := by decide +kernel
theorem dX7_in_0 : decode cX7_in 0 = .ok (.lload_n 0, 1) := by decide +kernel
theorem dX7_in_1 : decode cX7_in 1 = .ok (.lload_n 2, 1) := by decide +kernel
theorem dX7_in_2 : decode cX7_in 2 = .ok (.lcmp, 1) := by decide +kernel
theorem dX7_in_3 : decode cX7_in 3 = .ok (.ifCond .lt 14, 3) := by decide +kernel
theorem dX7_in_6 : decode cX7_in 6 = .ok (.lload_n 0, 1) := by decide +kernel
theorem dX7_in_7 : decode cX7_in 7 = .ok (.lload 4, 2) := by decide +kernel
theorem dX7_in_9 : decode cX7_in 9 = .ok (.lcmp, 1) := by decide +kernel
theorem dX7_in_10 : decode cX7_in 10 = .ok (.ifCond .gt 7, 3) := by decide +kernel
theorem dX7_in_13 : decode cX7_in 13 = .ok (.iconst 1, 1) := by decide +kernel
theorem dX7_in_14 : decode cX7_in 14 = .ok (.goto 4, 3) := by decide +kernel
theorem dX7_in_17 : decode cX7_in 17 = .ok (.iconst 0, 1) := by decide +kernel
theorem dX7_in_18 : decode cX7_in 18 = .ok (.ireturn, 1) := by decide +kernel
theorem dX7_has_0 : decode cX7_has 0 = .ok (.iload_n 0, 1) := by decide +kernel
theorem dX7_has_1 : decode cX7_has 1 = .ok (.iload_n 1, 1) := by decide +kernel
theorem dX7_has_2 : decode cX7_has 2 = .ok (.ishr, 1) := by decide +kernel
theorem dX7_has_3 : decode cX7_has 3 = .ok (.iconst 1, 1) := by decide +kernel
theorem dX7_has_4 : decode cX7_has 4 = .ok (.iand, 1) := by decide +kernel
theorem dX7_has_5 : decode cX7_has 5 = .ok (.iconst 1, 1) := by decide +kernel
theorem dX7_has_6 : decode cX7_has 6 = .ok (.if_icmp .ne 7, 3) := by decide +kernel
theorem dX7_has_9 : decode cX7_has 9 = .ok (.iconst 1, 1) := by decide +kernel
theorem dX7_has_10 : decode cX7_has 10 = .ok (.goto 4, 3) := by decide +kernel
theorem dX7_has_13 : decode cX7_has 13 = .ok (.iconst 0, 1) := by decide +kernel
theorem dX7_has_14 : decode cX7_has 14 = .ok (.ireturn, 1) := by decide +kernel
theorem dX7_isBridge_0 : decode cX7_isBridge 0 = .ok (.iload_n 1, 1) := by decide +kernel
theorem dX7_isBridge_1 : decode cX7_isBridge 1 = .ok (.i2l, 1) := by decide +kernel
theorem dX7_isBridge_2 : decode cX7_isBridge 2 = .ok (.lconst 0, 1) := by decide +kernel
theorem dX7_isBridge_3 : decode cX7_isBridge 3 = .ok (.aload_n 0, 1) := by decide +kernel
theorem dX7_isBridge_4 : decode cX7_isBridge 4 = .ok (.getfield 105, 3) := by decide +kernel
theorem dX7_isBridge_7 : decode cX7_isBridge 7 = .ok (.iconst 1, 1) := by decide +kernel
theorem dX7_isBridge_8 : decode cX7_isBridge 8 = .ok (.isub, 1) := by decide +kernel
theorem dX7_isBridge_9 : decode cX7_isBridge 9 = .ok (.i2l, 1) := by decide +kernel
theorem dX7_isBridge_10 : decode cX7_isBridge 10 = .ok (.invokestatic 108, 3) := by decide +kernel
theorem dX7_isBridge_13 : decode cX7_isBridge 13 = .ok (.ireturn, 1) := by decide +kernel
theorem dX7_isMan_0 : decode cX7_isMan 0 = .ok (.iload_n 1, 1) := by decide +kernel
theorem dX7_isMan_1 : decode cX7_isMan 1 = .ok (.i2l, 1) := by decide +kernel
theorem dX7_isMan_2 : decode cX7_isMan 2 = .ok (.lconst 0, 1) := by decide +kernel
theorem dX7_isMan_3 : decode cX7_isMan 3 = .ok (.aload_n 0, 1) := by decide +kernel
theorem dX7_isMan_4 : decode cX7_isMan 4 = .ok (.getfield 102, 3) := by decide +kernel
theorem dX7_isMan_7 : decode cX7_isMan 7 = .ok (.iconst 1, 1) := by decide +kernel
theorem dX7_isMan_8 : decode cX7_isMan 8 = .ok (.isub, 1) := by decide +kernel
theorem dX7_isMan_9 : decode cX7_isMan 9 = .ok (.i2l, 1) := by decide +kernel
theorem dX7_isMan_10 : decode cX7_isMan 10 = .ok (.invokestatic 108, 3) := by decide +kernel
theorem dX7_isMan_13 : decode cX7_isMan 13 = .ok (.ireturn, 1) := by decide +kernel
theorem dX7_isManOrNone_0 : decode cX7_isManOrNone 0 = .ok (.iload_n 1, 1) := by decide +kernel
theorem dX7_isManOrNone_1 : decode cX7_isManOrNone 1 = .ok (.iconst (-1), 1) := by decide +kernel
theorem dX7_isManOrNone_2 : decode cX7_isManOrNone 2 = .ok (.if_icmp .eq 11, 3) := by decide +kernel
theorem dX7_isManOrNone_5 : decode cX7_isManOrNone 5 = .ok (.aload_n 0, 1) := by decide +kernel
theorem dX7_isManOrNone_6 : decode cX7_isManOrNone 6 = .ok (.iload_n 1, 1) := by decide +kernel
theorem dX7_isManOrNone_7 : decode cX7_isManOrNone 7 = .ok (.invokevirtual 112, 3) := by decide +kernel
theorem dX7_isManOrNone_10 : decode cX7_isManOrNone 10 = .ok (.ifCond .eq 7, 3) := by decide +kernel
theorem dX7_isManOrNone_13 : decode cX7_isManOrNone 13 = .ok (.iconst 1, 1) := by decide +kernel
theorem dX7_isManOrNone_14 : decode cX7_isManOrNone 14 = .ok (.goto 4, 3) := by decide +kernel
theorem dX7_isManOrNone_17 : decode cX7_isManOrNone 17 = .ok (.iconst 0, 1) := by decide +kernel
theorem dX7_isManOrNone_18 : decode cX7_isManOrNone 18 = .ok (.ireturn, 1) := by decide +kernel
theorem dX7_feed_0 : decode cX7_feed 0 = .ok (.iload_n 1, 1) := by decide +kernel
theorem dX7_feed_1 : decode cX7_feed 1 = .ok (.i2l, 1) := by decide +kernel
theorem dX7_feed_2 : decode cX7_feed 2 = .ok (.lconst 1, 1) := by decide +kernel
theorem dX7_feed_3 : decode cX7_feed 3 = .ok (.ldc2_w 116, 3) := by decide +kernel
theorem dX7_feed_6 : decode cX7_feed 6 = .ok (.invokestatic 108, 3) := by decide +kernel
theorem dX7_feed_9 : decode cX7_feed 9 = .ok (.ifCond .ne 6, 3) := by decide +kernel
theorem dX7_feed_12 : decode cX7_feed 12 = .ok (.ldc 118, 2) := by decide +kernel
theorem dX7_feed_14 : decode cX7_feed 14 = .ok (.ireturn, 1) := by decide +kernel
theorem dX7_feed_15 : decode cX7_feed 15 = .ok (.aload_n 0, 1) := by decide +kernel
theorem dX7_feed_16 : decode cX7_feed 16 = .ok (.getfield 119, 3) := by decide +kernel
theorem dX7_feed_19 : decode cX7_feed 19 = .ok (.iload_n 1, 1) := by decide +kernel
theorem dX7_feed_20 : decode cX7_feed 20 = .ok (.iadd, 1) := by decide +kernel
theorem dX7_feed_21 : decode cX7_feed 21 = .ok (.sipush 500, 3) := by decide +kernel
theorem dX7_feed_24 : decode cX7_feed 24 = .ok (.if_icmp .le 6, 3) := by decide +kernel
theorem dX7_feed_27 : decode cX7_feed 27 = .ok (.ldc 122, 2) := by decide +kernel
theorem dX7_feed_29 : decode cX7_feed 29 = .ok (.ireturn, 1) := by decide +kernel
theorem dX7_feed_30 : decode cX7_feed 30 = .ok (.iload_n 1, 1) := by decide +kernel
theorem dX7_feed_31 : decode cX7_feed 31 = .ok (.iconst 1, 1) := by decide +kernel
theorem dX7_feed_32 : decode cX7_feed 32 = .ok (.isub, 1) := by decide +kernel
theorem dX7_feed_33 : decode cX7_feed 33 = .ok (.istore 4, 2) := by decide +kernel
theorem dX7_feed_35 : decode cX7_feed 35 = .ok (.iload 4, 2) := by decide +kernel
theorem dX7_feed_37 : decode cX7_feed 37 = .ok (.ifCond .lt 40, 3) := by decide +kernel
theorem dX7_feed_40 : decode cX7_feed 40 = .ok (.aload_n 0, 1) := by decide +kernel
theorem dX7_feed_41 : decode cX7_feed 41 = .ok (.getfield 44, 3) := by decide +kernel
theorem dX7_feed_44 : decode cX7_feed 44 = .ok (.aload_n 0, 1) := by decide +kernel
theorem dX7_feed_45 : decode cX7_feed 45 = .ok (.getfield 119, 3) := by decide +kernel
theorem dX7_feed_48 : decode cX7_feed 48 = .ok (.lload_n 2, 1) := by decide +kernel
theorem dX7_feed_49 : decode cX7_feed 49 = .ok (.bipush 8, 2) := by decide +kernel
theorem dX7_feed_51 : decode cX7_feed 51 = .ok (.iload 4, 2) := by decide +kernel
theorem dX7_feed_53 : decode cX7_feed 53 = .ok (.imul, 1) := by decide +kernel
theorem dX7_feed_54 : decode cX7_feed 54 = .ok (.lshr, 1) := by decide +kernel
theorem dX7_feed_55 : decode cX7_feed 55 = .ok (.ldc2_w 123, 3) := by decide +kernel
theorem dX7_feed_58 : decode cX7_feed 58 = .ok (.land, 1) := by decide +kernel
theorem dX7_feed_59 : decode cX7_feed 59 = .ok (.l2i, 1) := by decide +kernel
theorem dX7_feed_60 : decode cX7_feed 60 = .ok (.iastore, 1) := by decide +kernel
theorem dX7_feed_61 : decode cX7_feed 61 = .ok (.aload_n 0, 1) := by decide +kernel
theorem dX7_feed_62 : decode cX7_feed 62 = .ok (.dup, 1) := by decide +kernel
theorem dX7_feed_63 : decode cX7_feed 63 = .ok (.getfield 119, 3) := by decide +kernel
theorem dX7_feed_66 : decode cX7_feed 66 = .ok (.iconst 1, 1) := by decide +kernel
theorem dX7_feed_67 : decode cX7_feed 67 = .ok (.iadd, 1) := by decide +kernel
theorem dX7_feed_68 : decode cX7_feed 68 = .ok (.putfield 119, 3) := by decide +kernel
theorem dX7_feed_71 : decode cX7_feed 71 = .ok (.iinc 4 (-1), 3) := by decide +kernel
theorem dX7_feed_74 : decode cX7_feed 74 = .ok (.goto (-39), 3) := by decide +kernel
theorem dX7_feed_77 : decode cX7_feed 77 = .ok (.aload_n 0, 1) := by decide +kernel
theorem dX7_feed_78 : decode cX7_feed 78 = .ok (.getfield 119, 3) := by decide +kernel
theorem dX7_feed_81 : decode cX7_feed 81 = .ok (.ireturn, 1) := by decide +kernel
theorem dX7_here_0 : decode cX7_here 0 = .ok (.aload_n 0, 1) := by decide +kernel
theorem dX7_here_1 : decode cX7_here 1 = .ok (.getfield 125, 3) := by decide +kernel
theorem dX7_here_4 : decode cX7_here 4 = .ok (.aload_n 0, 1) := by decide +kernel
theorem dX7_here_5 : decode cX7_here 5 = .ok (.getfield 119, 3) := by decide +kernel
theorem dX7_here_8 : decode cX7_here 8 = .ok (.if_icmp .ge 30, 3) := by decide +kernel
theorem dX7_here_11 : decode cX7_here 11 = .ok (.aload_n 0, 1) := by decide +kernel
theorem dX7_here_12 : decode cX7_here 12 = .ok (.getfield 44, 3) := by decide +kernel
theorem dX7_here_15 : decode cX7_here 15 = .ok (.aload_n 0, 1) := by decide +kernel
theorem dX7_here_16 : decode cX7_here 16 = .ok (.getfield 125, 3) := by decide +kernel
theorem dX7_here_19 : decode cX7_here 19 = .ok (.iaload, 1) := by decide +kernel
theorem dX7_here_20 : decode cX7_here 20 = .ok (.bipush 32, 2) := by decide +kernel
theorem dX7_here_22 : decode cX7_here 22 = .ok (.if_icmp .ne 16, 3) := by decide +kernel
theorem dX7_here_25 : decode cX7_here 25 = .ok (.aload_n 0, 1) := by decide +kernel
theorem dX7_here_26 : decode cX7_here 26 = .ok (.dup, 1) := by decide +kernel
theorem dX7_here_27 : decode cX7_here 27 = .ok (.getfield 125, 3) := by decide +kernel
theorem dX7_here_30 : decode cX7_here 30 = .ok (.iconst 1, 1) := by decide +kernel
theorem dX7_here_31 : decode cX7_here 31 = .ok (.iadd, 1) := by decide +kernel
theorem dX7_here_32 : decode cX7_here 32 = .ok (.putfield 125, 3) := by decide +kernel
theorem dX7_here_35 : decode cX7_here 35 = .ok (.goto (-35), 3) := by decide +kernel
theorem dX7_here_38 : decode cX7_here 38 = .ok (.aload_n 0, 1) := by decide +kernel
theorem dX7_here_39 : decode cX7_here 39 = .ok (.getfield 125, 3) := by decide +kernel
theorem dX7_here_42 : decode cX7_here 42 = .ok (.aload_n 0, 1) := by decide +kernel
theorem dX7_here_43 : decode cX7_here 43 = .ok (.getfield 119, 3) := by decide +kernel
theorem dX7_here_46 : decode cX7_here 46 = .ok (.if_icmp .ge 15, 3) := by decide +kernel
theorem dX7_here_49 : decode cX7_here 49 = .ok (.aload_n 0, 1) := by decide +kernel
theorem dX7_here_50 : decode cX7_here 50 = .ok (.getfield 44, 3) := by decide +kernel
theorem dX7_here_53 : decode cX7_here 53 = .ok (.aload_n 0, 1) := by decide +kernel
theorem dX7_here_54 : decode cX7_here 54 = .ok (.getfield 125, 3) := by decide +kernel
theorem dX7_here_57 : decode cX7_here 57 = .ok (.iaload, 1) := by decide +kernel
theorem dX7_here_58 : decode cX7_here 58 = .ok (.goto 4, 3) := by decide +kernel
theorem dX7_here_61 : decode cX7_here 61 = .ok (.iconst (-1), 1) := by decide +kernel
theorem dX7_here_62 : decode cX7_here 62 = .ok (.ireturn, 1) := by decide +kernel
theorem dX7_fails_0 : decode cX7_fails 0 = .ok (.aload_n 0, 1) := by decide +kernel
theorem dX7_fails_1 : decode cX7_fails 1 = .ok (.iload_n 2, 1) := by decide +kernel
theorem dX7_fails_2 : decode cX7_fails 2 = .ok (.putfield 47, 3) := by decide +kernel
theorem dX7_fails_5 : decode cX7_fails 5 = .ok (.iload_n 1, 1) := by decide +kernel
theorem dX7_fails_6 : decode cX7_fails 6 = .ok (.ireturn, 1) := by decide +kernel
theorem dX7_readWord_0 : decode cX7_readWord 0 = .ok (.aload_n 0, 1) := by decide +kernel
theorem dX7_readWord_1 : decode cX7_readWord 1 = .ok (.invokevirtual 128, 3) := by decide +kernel
theorem dX7_readWord_4 : decode cX7_readWord 4 = .ok (.istore_n 1, 1) := by decide +kernel
theorem dX7_readWord_5 : decode cX7_readWord 5 = .ok (.aload_n 0, 1) := by decide +kernel
theorem dX7_readWord_6 : decode cX7_readWord 6 = .ok (.lconst 0, 1) := by decide +kernel
theorem dX7_readWord_7 : decode cX7_readWord 7 = .ok (.putfield 132, 3) := by decide +kernel
theorem dX7_readWord_10 : decode cX7_readWord 10 = .ok (.aload_n 0, 1) := by decide +kernel
theorem dX7_readWord_11 : decode cX7_readWord 11 = .ok (.aload_n 0, 1) := by decide +kernel
theorem dX7_readWord_12 : decode cX7_readWord 12 = .ok (.getfield 125, 3) := by decide +kernel
theorem dX7_readWord_15 : decode cX7_readWord 15 = .ok (.putfield 136, 3) := by decide +kernel
theorem dX7_readWord_18 : decode cX7_readWord 18 = .ok (.aload_n 0, 1) := by decide +kernel
theorem dX7_readWord_19 : decode cX7_readWord 19 = .ok (.getfield 136, 3) := by decide +kernel
theorem dX7_readWord_22 : decode cX7_readWord 22 = .ok (.aload_n 0, 1) := by decide +kernel
theorem dX7_readWord_23 : decode cX7_readWord 23 = .ok (.getfield 119, 3) := by decide +kernel
theorem dX7_readWord_26 : decode cX7_readWord 26 = .ok (.if_icmp .ge 82, 3) := by decide +kernel
theorem dX7_readWord_29 : decode cX7_readWord 29 = .ok (.aload_n 0, 1) := by decide +kernel
theorem dX7_readWord_30 : decode cX7_readWord 30 = .ok (.getfield 44, 3) := by decide +kernel
theorem dX7_readWord_33 : decode cX7_readWord 33 = .ok (.aload_n 0, 1) := by decide +kernel
theorem dX7_readWord_34 : decode cX7_readWord 34 = .ok (.getfield 136, 3) := by decide +kernel
theorem dX7_readWord_37 : decode cX7_readWord 37 = .ok (.iaload, 1) := by decide +kernel
theorem dX7_readWord_38 : decode cX7_readWord 38 = .ok (.i2l, 1) := by decide +kernel
theorem dX7_readWord_39 : decode cX7_readWord 39 = .ok (.ldc2_w 139, 3) := by decide +kernel
theorem dX7_readWord_42 : decode cX7_readWord 42 = .ok (.ldc2_w 141, 3) := by decide +kernel
theorem dX7_readWord_45 : decode cX7_readWord 45 = .ok (.invokestatic 108, 3) := by decide +kernel
theorem dX7_readWord_48 : decode cX7_readWord 48 = .ok (.ifCond .eq 60, 3) := by decide +kernel
theorem dX7_readWord_51 : decode cX7_readWord 51 = .ok (.aload_n 0, 1) := by decide +kernel
theorem dX7_readWord_52 : decode cX7_readWord 52 = .ok (.aload_n 0, 1) := by decide +kernel
theorem dX7_readWord_53 : decode cX7_readWord 53 = .ok (.getfield 132, 3) := by decide +kernel
theorem dX7_readWord_56 : decode cX7_readWord 56 = .ok (.ldc2_w 143, 3) := by decide +kernel
theorem dX7_readWord_59 : decode cX7_readWord 59 = .ok (.lcmp, 1) := by decide +kernel
theorem dX7_readWord_60 : decode cX7_readWord 60 = .ok (.ifCond .le 9, 3) := by decide +kernel
theorem dX7_readWord_63 : decode cX7_readWord 63 = .ok (.ldc2_w 145, 3) := by decide +kernel
theorem dX7_readWord_66 : decode cX7_readWord 66 = .ok (.goto 26, 3) := by decide +kernel
theorem dX7_readWord_69 : decode cX7_readWord 69 = .ok (.ldc2_w 147, 3) := by decide +kernel
theorem dX7_readWord_72 : decode cX7_readWord 72 = .ok (.aload_n 0, 1) := by decide +kernel
theorem dX7_readWord_73 : decode cX7_readWord 73 = .ok (.getfield 132, 3) := by decide +kernel
theorem dX7_readWord_76 : decode cX7_readWord 76 = .ok (.lmul, 1) := by decide +kernel
theorem dX7_readWord_77 : decode cX7_readWord 77 = .ok (.aload_n 0, 1) := by decide +kernel
theorem dX7_readWord_78 : decode cX7_readWord 78 = .ok (.getfield 44, 3) := by decide +kernel
theorem dX7_readWord_81 : decode cX7_readWord 81 = .ok (.aload_n 0, 1) := by decide +kernel
theorem dX7_readWord_82 : decode cX7_readWord 82 = .ok (.getfield 136, 3) := by decide +kernel
theorem dX7_readWord_85 : decode cX7_readWord 85 = .ok (.iaload, 1) := by decide +kernel
theorem dX7_readWord_86 : decode cX7_readWord 86 = .ok (.i2l, 1) := by decide +kernel
theorem dX7_readWord_87 : decode cX7_readWord 87 = .ok (.ladd, 1) := by decide +kernel
theorem dX7_readWord_88 : decode cX7_readWord 88 = .ok (.ldc2_w 149, 3) := by decide +kernel
theorem dX7_readWord_91 : decode cX7_readWord 91 = .ok (.lsub, 1) := by decide +kernel
theorem dX7_readWord_92 : decode cX7_readWord 92 = .ok (.putfield 132, 3) := by decide +kernel
theorem dX7_readWord_95 : decode cX7_readWord 95 = .ok (.aload_n 0, 1) := by decide +kernel
theorem dX7_readWord_96 : decode cX7_readWord 96 = .ok (.dup, 1) := by decide +kernel
theorem dX7_readWord_97 : decode cX7_readWord 97 = .ok (.getfield 136, 3) := by decide +kernel
theorem dX7_readWord_100 : decode cX7_readWord 100 = .ok (.iconst 1, 1) := by decide +kernel
theorem dX7_readWord_101 : decode cX7_readWord 101 = .ok (.iadd, 1) := by decide +kernel
theorem dX7_readWord_102 : decode cX7_readWord 102 = .ok (.putfield 136, 3) := by decide +kernel
theorem dX7_readWord_105 : decode cX7_readWord 105 = .ok (.goto (-87), 3) := by decide +kernel
theorem dX7_readWord_108 : decode cX7_readWord 108 = .ok (.return_, 1) := by decide +kernel
theorem dX7_code_0 : decode cX7_code 0 = .ok (.ldc2_w 147, 3) := by decide +kernel
theorem dX7_code_3 : decode cX7_code 3 = .ok (.ldc2_w 147, 3) := by decide +kernel
theorem dX7_code_6 : decode cX7_code 6 = .ok (.iload_n 0, 1) := by decide +kernel
theorem dX7_code_7 : decode cX7_code 7 = .ok (.i2l, 1) := by decide +kernel
theorem dX7_code_8 : decode cX7_code 8 = .ok (.ldc2_w 149, 3) := by decide +kernel
theorem dX7_code_11 : decode cX7_code 11 = .ok (.lsub, 1) := by decide +kernel
theorem dX7_code_12 : decode cX7_code 12 = .ok (.lmul, 1) := by decide +kernel
theorem dX7_code_13 : decode cX7_code 13 = .ok (.iload_n 1, 1) := by decide +kernel
theorem dX7_code_14 : decode cX7_code 14 = .ok (.i2l, 1) := by decide +kernel
theorem dX7_code_15 : decode cX7_code 15 = .ok (.ladd, 1) := by decide +kernel
theorem dX7_code_16 : decode cX7_code 16 = .ok (.ldc2_w 149, 3) := by decide +kernel
theorem dX7_code_19 : decode cX7_code 19 = .ok (.lsub, 1) := by decide +kernel
theorem dX7_code_20 : decode cX7_code 20 = .ok (.lmul, 1) := by decide +kernel
theorem dX7_code_21 : decode cX7_code 21 = .ok (.iload_n 2, 1) := by decide +kernel
theorem dX7_code_22 : decode cX7_code 22 = .ok (.i2l, 1) := by decide +kernel
theorem dX7_code_23 : decode cX7_code 23 = .ok (.ladd, 1) := by decide +kernel
theorem dX7_code_24 : decode cX7_code 24 = .ok (.ldc2_w 149, 3) := by decide +kernel
theorem dX7_code_27 : decode cX7_code 27 = .ok (.lsub, 1) := by decide +kernel
theorem dX7_code_28 : decode cX7_code 28 = .ok (.lreturn, 1) := by decide +kernel
theorem dX7_more_0 : decode cX7_more 0 = .ok (.ldc2_w 147, 3) := by decide +kernel
theorem dX7_more_3 : decode cX7_more 3 = .ok (.lload_n 0, 1) := by decide +kernel
theorem dX7_more_4 : decode cX7_more 4 = .ok (.lmul, 1) := by decide +kernel
theorem dX7_more_5 : decode cX7_more 5 = .ok (.iload_n 2, 1) := by decide +kernel
theorem dX7_more_6 : decode cX7_more 6 = .ok (.i2l, 1) := by decide +kernel
theorem dX7_more_7 : decode cX7_more 7 = .ok (.ladd, 1) := by decide +kernel
theorem dX7_more_8 : decode cX7_more 8 = .ok (.ldc2_w 149, 3) := by decide +kernel
theorem dX7_more_11 : decode cX7_more 11 = .ok (.lsub, 1) := by decide +kernel
theorem dX7_more_12 : decode cX7_more 12 = .ok (.lreturn, 1) := by decide +kernel
theorem dX7_takeNumber_0 : decode cX7_takeNumber 0 = .ok (.aload_n 0, 1) := by decide +kernel
theorem dX7_takeNumber_1 : decode cX7_takeNumber 1 = .ok (.invokevirtual 128, 3) := by decide +kernel
theorem dX7_takeNumber_4 : decode cX7_takeNumber 4 = .ok (.istore_n 3, 1) := by decide +kernel
theorem dX7_takeNumber_5 : decode cX7_takeNumber 5 = .ok (.iload_n 3, 1) := by decide +kernel
theorem dX7_takeNumber_6 : decode cX7_takeNumber 6 = .ok (.i2l, 1) := by decide +kernel
theorem dX7_takeNumber_7 : decode cX7_takeNumber 7 = .ok (.ldc2_w 151, 3) := by decide +kernel
theorem dX7_takeNumber_10 : decode cX7_takeNumber 10 = .ok (.ldc2_w 153, 3) := by decide +kernel
theorem dX7_takeNumber_13 : decode cX7_takeNumber 13 = .ok (.invokestatic 108, 3) := by decide +kernel
theorem dX7_takeNumber_16 : decode cX7_takeNumber 16 = .ok (.ifCond .ne 13, 3) := by decide +kernel
theorem dX7_takeNumber_19 : decode cX7_takeNumber 19 = .ok (.aload_n 0, 1) := by decide +kernel
theorem dX7_takeNumber_20 : decode cX7_takeNumber 20 = .ok (.iconst 1, 1) := by decide +kernel
theorem dX7_takeNumber_21 : decode cX7_takeNumber 21 = .ok (.aload_n 0, 1) := by decide +kernel
theorem dX7_takeNumber_22 : decode cX7_takeNumber 22 = .ok (.getfield 125, 3) := by decide +kernel
theorem dX7_takeNumber_25 : decode cX7_takeNumber 25 = .ok (.invokevirtual 155, 3) := by decide +kernel
theorem dX7_takeNumber_28 : decode cX7_takeNumber 28 = .ok (.ireturn, 1) := by decide +kernel
theorem dX7_takeNumber_29 : decode cX7_takeNumber 29 = .ok (.aload_n 0, 1) := by decide +kernel
theorem dX7_takeNumber_30 : decode cX7_takeNumber 30 = .ok (.aload_n 0, 1) := by decide +kernel
theorem dX7_takeNumber_31 : decode cX7_takeNumber 31 = .ok (.getfield 125, 3) := by decide +kernel
theorem dX7_takeNumber_34 : decode cX7_takeNumber 34 = .ok (.putfield 159, 3) := by decide +kernel
theorem dX7_takeNumber_37 : decode cX7_takeNumber 37 = .ok (.aload_n 0, 1) := by decide +kernel
theorem dX7_takeNumber_38 : decode cX7_takeNumber 38 = .ok (.iconst 0, 1) := by decide +kernel
theorem dX7_takeNumber_39 : decode cX7_takeNumber 39 = .ok (.putfield 162, 3) := by decide +kernel
theorem dX7_takeNumber_42 : decode cX7_takeNumber 42 = .ok (.aload_n 0, 1) := by decide +kernel
theorem dX7_takeNumber_43 : decode cX7_takeNumber 43 = .ok (.getfield 125, 3) := by decide +kernel
theorem dX7_takeNumber_46 : decode cX7_takeNumber 46 = .ok (.aload_n 0, 1) := by decide +kernel
theorem dX7_takeNumber_47 : decode cX7_takeNumber 47 = .ok (.getfield 119, 3) := by decide +kernel
theorem dX7_takeNumber_50 : decode cX7_takeNumber 50 = .ok (.if_icmp .ge 79, 3) := by decide +kernel
theorem dX7_takeNumber_53 : decode cX7_takeNumber 53 = .ok (.aload_n 0, 1) := by decide +kernel
theorem dX7_takeNumber_54 : decode cX7_takeNumber 54 = .ok (.getfield 44, 3) := by decide +kernel
theorem dX7_takeNumber_57 : decode cX7_takeNumber 57 = .ok (.aload_n 0, 1) := by decide +kernel
theorem dX7_takeNumber_58 : decode cX7_takeNumber 58 = .ok (.getfield 125, 3) := by decide +kernel
theorem dX7_takeNumber_61 : decode cX7_takeNumber 61 = .ok (.iaload, 1) := by decide +kernel
theorem dX7_takeNumber_62 : decode cX7_takeNumber 62 = .ok (.i2l, 1) := by decide +kernel
theorem dX7_takeNumber_63 : decode cX7_takeNumber 63 = .ok (.ldc2_w 151, 3) := by decide +kernel
theorem dX7_takeNumber_66 : decode cX7_takeNumber 66 = .ok (.ldc2_w 153, 3) := by decide +kernel
theorem dX7_takeNumber_69 : decode cX7_takeNumber 69 = .ok (.invokestatic 108, 3) := by decide +kernel
theorem dX7_takeNumber_72 : decode cX7_takeNumber 72 = .ok (.ifCond .eq 57, 3) := by decide +kernel
theorem dX7_takeNumber_75 : decode cX7_takeNumber 75 = .ok (.aload_n 0, 1) := by decide +kernel
theorem dX7_takeNumber_76 : decode cX7_takeNumber 76 = .ok (.aload_n 0, 1) := by decide +kernel
theorem dX7_takeNumber_77 : decode cX7_takeNumber 77 = .ok (.getfield 162, 3) := by decide +kernel
theorem dX7_takeNumber_80 : decode cX7_takeNumber 80 = .ok (.sipush 10000, 3) := by decide +kernel
theorem dX7_takeNumber_83 : decode cX7_takeNumber 83 = .ok (.if_icmp .le 10, 3) := by decide +kernel
theorem dX7_takeNumber_86 : decode cX7_takeNumber 86 = .ok (.aload_n 0, 1) := by decide +kernel
theorem dX7_takeNumber_87 : decode cX7_takeNumber 87 = .ok (.getfield 162, 3) := by decide +kernel
theorem dX7_takeNumber_90 : decode cX7_takeNumber 90 = .ok (.goto 23, 3) := by decide +kernel
theorem dX7_takeNumber_93 : decode cX7_takeNumber 93 = .ok (.bipush 10, 2) := by decide +kernel
theorem dX7_takeNumber_95 : decode cX7_takeNumber 95 = .ok (.aload_n 0, 1) := by decide +kernel
theorem dX7_takeNumber_96 : decode cX7_takeNumber 96 = .ok (.getfield 162, 3) := by decide +kernel
theorem dX7_takeNumber_99 : decode cX7_takeNumber 99 = .ok (.imul, 1) := by decide +kernel
theorem dX7_takeNumber_100 : decode cX7_takeNumber 100 = .ok (.aload_n 0, 1) := by decide +kernel
theorem dX7_takeNumber_101 : decode cX7_takeNumber 101 = .ok (.getfield 44, 3) := by decide +kernel
theorem dX7_takeNumber_104 : decode cX7_takeNumber 104 = .ok (.aload_n 0, 1) := by decide +kernel
theorem dX7_takeNumber_105 : decode cX7_takeNumber 105 = .ok (.getfield 125, 3) := by decide +kernel
theorem dX7_takeNumber_108 : decode cX7_takeNumber 108 = .ok (.iaload, 1) := by decide +kernel
theorem dX7_takeNumber_109 : decode cX7_takeNumber 109 = .ok (.iadd, 1) := by decide +kernel
theorem dX7_takeNumber_110 : decode cX7_takeNumber 110 = .ok (.bipush 48, 2) := by decide +kernel
theorem dX7_takeNumber_112 : decode cX7_takeNumber 112 = .ok (.isub, 1) := by decide +kernel
theorem dX7_takeNumber_113 : decode cX7_takeNumber 113 = .ok (.putfield 162, 3) := by decide +kernel
theorem dX7_takeNumber_116 : decode cX7_takeNumber 116 = .ok (.aload_n 0, 1) := by decide +kernel
theorem dX7_takeNumber_117 : decode cX7_takeNumber 117 = .ok (.dup, 1) := by decide +kernel
theorem dX7_takeNumber_118 : decode cX7_takeNumber 118 = .ok (.getfield 125, 3) := by decide +kernel
theorem dX7_takeNumber_121 : decode cX7_takeNumber 121 = .ok (.iconst 1, 1) := by decide +kernel
theorem dX7_takeNumber_122 : decode cX7_takeNumber 122 = .ok (.iadd, 1) := by decide +kernel
theorem dX7_takeNumber_123 : decode cX7_takeNumber 123 = .ok (.putfield 125, 3) := by decide +kernel
theorem dX7_takeNumber_126 : decode cX7_takeNumber 126 = .ok (.goto (-84), 3) := by decide +kernel
theorem dX7_takeNumber_129 : decode cX7_takeNumber 129 = .ok (.aload_n 0, 1) := by decide +kernel
theorem dX7_takeNumber_130 : decode cX7_takeNumber 130 = .ok (.getfield 125, 3) := by decide +kernel
theorem dX7_takeNumber_133 : decode cX7_takeNumber 133 = .ok (.aload_n 0, 1) := by decide +kernel
theorem dX7_takeNumber_134 : decode cX7_takeNumber 134 = .ok (.getfield 159, 3) := by decide +kernel
theorem dX7_takeNumber_137 : decode cX7_takeNumber 137 = .ok (.isub, 1) := by decide +kernel
theorem dX7_takeNumber_138 : decode cX7_takeNumber 138 = .ok (.iconst 3, 1) := by decide +kernel
theorem dX7_takeNumber_139 : decode cX7_takeNumber 139 = .ok (.if_icmp .gt 18, 3) := by decide +kernel
theorem dX7_takeNumber_142 : decode cX7_takeNumber 142 = .ok (.aload_n 0, 1) := by decide +kernel
theorem dX7_takeNumber_143 : decode cX7_takeNumber 143 = .ok (.getfield 162, 3) := by decide +kernel
theorem dX7_takeNumber_146 : decode cX7_takeNumber 146 = .ok (.i2l, 1) := by decide +kernel
theorem dX7_takeNumber_147 : decode cX7_takeNumber 147 = .ok (.iload_n 1, 1) := by decide +kernel
theorem dX7_takeNumber_148 : decode cX7_takeNumber 148 = .ok (.i2l, 1) := by decide +kernel
theorem dX7_takeNumber_149 : decode cX7_takeNumber 149 = .ok (.iload_n 2, 1) := by decide +kernel
theorem dX7_takeNumber_150 : decode cX7_takeNumber 150 = .ok (.i2l, 1) := by decide +kernel
theorem dX7_takeNumber_151 : decode cX7_takeNumber 151 = .ok (.invokestatic 108, 3) := by decide +kernel
theorem dX7_takeNumber_154 : decode cX7_takeNumber 154 = .ok (.ifCond .ne 15, 3) := by decide +kernel
theorem dX7_takeNumber_157 : decode cX7_takeNumber 157 = .ok (.aload_n 0, 1) := by decide +kernel
theorem dX7_takeNumber_158 : decode cX7_takeNumber 158 = .ok (.iconst 2, 1) := by decide +kernel
theorem dX7_takeNumber_159 : decode cX7_takeNumber 159 = .ok (.aload_n 0, 1) := by decide +kernel
theorem dX7_takeNumber_160 : decode cX7_takeNumber 160 = .ok (.getfield 159, 3) := by decide +kernel
theorem dX7_takeNumber_163 : decode cX7_takeNumber 163 = .ok (.invokevirtual 155, 3) := by decide +kernel
theorem dX7_takeNumber_166 : decode cX7_takeNumber 166 = .ok (.goto 4, 3) := by decide +kernel
theorem dX7_takeNumber_169 : decode cX7_takeNumber 169 = .ok (.iconst 0, 1) := by decide +kernel
theorem dX7_takeNumber_170 : decode cX7_takeNumber 170 = .ok (.ireturn, 1) := by decide +kernel
theorem dX7_into_0 : decode cX7_into 0 = .ok (.aload_n 0, 1) := by decide +kernel
theorem dX7_into_1 : decode cX7_into 1 = .ok (.iload_n 3, 1) := by decide +kernel
theorem dX7_into_2 : decode cX7_into 2 = .ok (.iload 4, 2) := by decide +kernel
theorem dX7_into_4 : decode cX7_into 4 = .ok (.invokevirtual 165, 3) := by decide +kernel
theorem dX7_into_7 : decode cX7_into 7 = .ok (.istore 5, 2) := by decide +kernel
theorem dX7_into_9 : decode cX7_into 9 = .ok (.aload_n 1, 1) := by decide +kernel
theorem dX7_into_10 : decode cX7_into 10 = .ok (.iload_n 2, 1) := by decide +kernel
theorem dX7_into_11 : decode cX7_into 11 = .ok (.aload_n 0, 1) := by decide +kernel
theorem dX7_into_12 : decode cX7_into 12 = .ok (.getfield 162, 3) := by decide +kernel
theorem dX7_into_15 : decode cX7_into 15 = .ok (.iastore, 1) := by decide +kernel
theorem dX7_into_16 : decode cX7_into 16 = .ok (.iload 5, 2) := by decide +kernel
theorem dX7_into_18 : decode cX7_into 18 = .ok (.ireturn, 1) := by decide +kernel
theorem dX7_takeYear_0 : decode cX7_takeYear 0 = .ok (.aload_n 0, 1) := by decide +kernel
theorem dX7_takeYear_1 : decode cX7_takeYear 1 = .ok (.iconst 1, 1) := by decide +kernel
theorem dX7_takeYear_2 : decode cX7_takeYear 2 = .ok (.bipush 99, 2) := by decide +kernel
theorem dX7_takeYear_4 : decode cX7_takeYear 4 = .ok (.invokevirtual 165, 3) := by decide +kernel
theorem dX7_takeYear_7 : decode cX7_takeYear 7 = .ok (.istore_n 1, 1) := by decide +kernel
theorem dX7_takeYear_8 : decode cX7_takeYear 8 = .ok (.aload_n 0, 1) := by decide +kernel
theorem dX7_takeYear_9 : decode cX7_takeYear 9 = .ok (.aload_n 0, 1) := by decide +kernel
theorem dX7_takeYear_10 : decode cX7_takeYear 10 = .ok (.getfield 162, 3) := by decide +kernel
theorem dX7_takeYear_13 : decode cX7_takeYear 13 = .ok (.putfield 168, 3) := by decide +kernel
theorem dX7_takeYear_16 : decode cX7_takeYear 16 = .ok (.iload_n 1, 1) := by decide +kernel
theorem dX7_takeYear_17 : decode cX7_takeYear 17 = .ok (.ireturn, 1) := by decide +kernel
theorem dX7_takeBridge_0 : decode cX7_takeBridge 0 = .ok (.aload_n 0, 1) := by decide +kernel
theorem dX7_takeBridge_1 : decode cX7_takeBridge 1 = .ok (.dup, 1) := by decide +kernel
theorem dX7_takeBridge_2 : decode cX7_takeBridge 2 = .ok (.getfield 171, 3) := by decide +kernel
theorem dX7_takeBridge_5 : decode cX7_takeBridge 5 = .ok (.iconst 1, 1) := by decide +kernel
theorem dX7_takeBridge_6 : decode cX7_takeBridge 6 = .ok (.iadd, 1) := by decide +kernel
theorem dX7_takeBridge_7 : decode cX7_takeBridge 7 = .ok (.putfield 171, 3) := by decide +kernel
theorem dX7_takeBridge_10 : decode cX7_takeBridge 10 = .ok (.aload_n 0, 1) := by decide +kernel
theorem dX7_takeBridge_11 : decode cX7_takeBridge 11 = .ok (.aload_n 0, 1) := by decide +kernel
theorem dX7_takeBridge_12 : decode cX7_takeBridge 12 = .ok (.getfield 50, 3) := by decide +kernel
theorem dX7_takeBridge_15 : decode cX7_takeBridge 15 = .ok (.aload_n 0, 1) := by decide +kernel
theorem dX7_takeBridge_16 : decode cX7_takeBridge 16 = .ok (.getfield 171, 3) := by decide +kernel
theorem dX7_takeBridge_19 : decode cX7_takeBridge 19 = .ok (.iconst 1, 1) := by decide +kernel
theorem dX7_takeBridge_20 : decode cX7_takeBridge 20 = .ok (.isub, 1) := by decide +kernel
theorem dX7_takeBridge_21 : decode cX7_takeBridge 21 = .ok (.iconst 0, 1) := by decide +kernel
theorem dX7_takeBridge_22 : decode cX7_takeBridge 22 = .ok (.bipush 9, 2) := by decide +kernel
theorem dX7_takeBridge_24 : decode cX7_takeBridge 24 = .ok (.invokevirtual 174, 3) := by decide +kernel
theorem dX7_takeBridge_27 : decode cX7_takeBridge 27 = .ok (.ireturn, 1) := by decide +kernel
theorem dX7_takeMan_0 : decode cX7_takeMan 0 = .ok (.aload_n 0, 1) := by decide +kernel
theorem dX7_takeMan_1 : decode cX7_takeMan 1 = .ok (.getfield 178, 3) := by decide +kernel
theorem dX7_takeMan_4 : decode cX7_takeMan 4 = .ok (.istore_n 1, 1) := by decide +kernel
theorem dX7_takeMan_5 : decode cX7_takeMan 5 = .ok (.aload_n 0, 1) := by decide +kernel
theorem dX7_takeMan_6 : decode cX7_takeMan 6 = .ok (.dup, 1) := by decide +kernel
theorem dX7_takeMan_7 : decode cX7_takeMan 7 = .ok (.getfield 178, 3) := by decide +kernel
theorem dX7_takeMan_10 : decode cX7_takeMan 10 = .ok (.iconst 1, 1) := by decide +kernel
theorem dX7_takeMan_11 : decode cX7_takeMan 11 = .ok (.iadd, 1) := by decide +kernel
theorem dX7_takeMan_12 : decode cX7_takeMan 12 = .ok (.putfield 178, 3) := by decide +kernel
theorem dX7_takeMan_15 : decode cX7_takeMan 15 = .ok (.aload_n 0, 1) := by decide +kernel
theorem dX7_takeMan_16 : decode cX7_takeMan 16 = .ok (.getfield 59, 3) := by decide +kernel
theorem dX7_takeMan_19 : decode cX7_takeMan 19 = .ok (.iload_n 1, 1) := by decide +kernel
theorem dX7_takeMan_20 : decode cX7_takeMan 20 = .ok (.iconst 0, 1) := by decide +kernel
theorem dX7_takeMan_21 : decode cX7_takeMan 21 = .ok (.iastore, 1) := by decide +kernel
theorem dX7_takeMan_22 : decode cX7_takeMan 22 = .ok (.aload_n 0, 1) := by decide +kernel
theorem dX7_takeMan_23 : decode cX7_takeMan 23 = .ok (.aload_n 0, 1) := by decide +kernel
theorem dX7_takeMan_24 : decode cX7_takeMan 24 = .ok (.getfield 53, 3) := by decide +kernel
theorem dX7_takeMan_27 : decode cX7_takeMan 27 = .ok (.iload_n 1, 1) := by decide +kernel
theorem dX7_takeMan_28 : decode cX7_takeMan 28 = .ok (.iconst 1, 1) := by decide +kernel
theorem dX7_takeMan_29 : decode cX7_takeMan 29 = .ok (.sipush 999, 3) := by decide +kernel
theorem dX7_takeMan_32 : decode cX7_takeMan 32 = .ok (.invokevirtual 174, 3) := by decide +kernel
theorem dX7_takeMan_35 : decode cX7_takeMan 35 = .ok (.istore_n 2, 1) := by decide +kernel
theorem dX7_takeMan_36 : decode cX7_takeMan 36 = .ok (.iload_n 2, 1) := by decide +kernel
theorem dX7_takeMan_37 : decode cX7_takeMan 37 = .ok (.ifCond .le 7, 3) := by decide +kernel
theorem dX7_takeMan_40 : decode cX7_takeMan 40 = .ok (.iload_n 2, 1) := by decide +kernel
theorem dX7_takeMan_41 : decode cX7_takeMan 41 = .ok (.goto 15, 3) := by decide +kernel
theorem dX7_takeMan_44 : decode cX7_takeMan 44 = .ok (.aload_n 0, 1) := by decide +kernel
theorem dX7_takeMan_45 : decode cX7_takeMan 45 = .ok (.aload_n 0, 1) := by decide +kernel
theorem dX7_takeMan_46 : decode cX7_takeMan 46 = .ok (.getfield 56, 3) := by decide +kernel
theorem dX7_takeMan_49 : decode cX7_takeMan 49 = .ok (.iload_n 1, 1) := by decide +kernel
theorem dX7_takeMan_50 : decode cX7_takeMan 50 = .ok (.iconst 0, 1) := by decide +kernel
theorem dX7_takeMan_51 : decode cX7_takeMan 51 = .ok (.bipush 100, 2) := by decide +kernel
theorem dX7_takeMan_53 : decode cX7_takeMan 53 = .ok (.invokevirtual 174, 3) := by decide +kernel
theorem dX7_takeMan_56 : decode cX7_takeMan 56 = .ok (.ireturn, 1) := by decide +kernel
theorem dX7_takeKnows_0 : decode cX7_takeKnows 0 = .ok (.aload_n 0, 1) := by decide +kernel
theorem dX7_takeKnows_1 : decode cX7_takeKnows 1 = .ok (.dup, 1) := by decide +kernel
theorem dX7_takeKnows_2 : decode cX7_takeKnows 2 = .ok (.getfield 181, 3) := by decide +kernel
theorem dX7_takeKnows_5 : decode cX7_takeKnows 5 = .ok (.iconst 1, 1) := by decide +kernel
theorem dX7_takeKnows_6 : decode cX7_takeKnows 6 = .ok (.iadd, 1) := by decide +kernel
theorem dX7_takeKnows_7 : decode cX7_takeKnows 7 = .ok (.putfield 181, 3) := by decide +kernel
theorem dX7_takeKnows_10 : decode cX7_takeKnows 10 = .ok (.aload_n 0, 1) := by decide +kernel
theorem dX7_takeKnows_11 : decode cX7_takeKnows 11 = .ok (.iconst 0, 1) := by decide +kernel
theorem dX7_takeKnows_12 : decode cX7_takeKnows 12 = .ok (.aload_n 0, 1) := by decide +kernel
theorem dX7_takeKnows_13 : decode cX7_takeKnows 13 = .ok (.getfield 178, 3) := by decide +kernel
theorem dX7_takeKnows_16 : decode cX7_takeKnows 16 = .ok (.iconst 1, 1) := by decide +kernel
theorem dX7_takeKnows_17 : decode cX7_takeKnows 17 = .ok (.isub, 1) := by decide +kernel
theorem dX7_takeKnows_18 : decode cX7_takeKnows 18 = .ok (.invokevirtual 165, 3) := by decide +kernel
theorem dX7_takeKnows_21 : decode cX7_takeKnows 21 = .ok (.istore_n 1, 1) := by decide +kernel
theorem dX7_takeKnows_22 : decode cX7_takeKnows 22 = .ok (.aload_n 0, 1) := by decide +kernel
theorem dX7_takeKnows_23 : decode cX7_takeKnows 23 = .ok (.getfield 162, 3) := by decide +kernel
theorem dX7_takeKnows_26 : decode cX7_takeKnows 26 = .ok (.istore_n 2, 1) := by decide +kernel
theorem dX7_takeKnows_27 : decode cX7_takeKnows 27 = .ok (.iload_n 1, 1) := by decide +kernel
theorem dX7_takeKnows_28 : decode cX7_takeKnows 28 = .ok (.ifCond .ne 7, 3) := by decide +kernel
theorem dX7_takeKnows_31 : decode cX7_takeKnows 31 = .ok (.iconst 1, 1) := by decide +kernel
theorem dX7_takeKnows_32 : decode cX7_takeKnows 32 = .ok (.goto 4, 3) := by decide +kernel
theorem dX7_takeKnows_35 : decode cX7_takeKnows 35 = .ok (.iconst 0, 1) := by decide +kernel
theorem dX7_takeKnows_36 : decode cX7_takeKnows 36 = .ok (.istore_n 3, 1) := by decide +kernel
theorem dX7_takeKnows_37 : decode cX7_takeKnows 37 = .ok (.iload_n 3, 1) := by decide +kernel
theorem dX7_takeKnows_38 : decode cX7_takeKnows 38 = .ok (.ifCond .eq 106, 3) := by decide +kernel
theorem dX7_takeKnows_41 : decode cX7_takeKnows 41 = .ok (.aload_n 0, 1) := by decide +kernel
theorem dX7_takeKnows_42 : decode cX7_takeKnows 42 = .ok (.iconst 0, 1) := by decide +kernel
theorem dX7_takeKnows_43 : decode cX7_takeKnows 43 = .ok (.aload_n 0, 1) := by decide +kernel
theorem dX7_takeKnows_44 : decode cX7_takeKnows 44 = .ok (.getfield 178, 3) := by decide +kernel
theorem dX7_takeKnows_47 : decode cX7_takeKnows 47 = .ok (.iconst 1, 1) := by decide +kernel
theorem dX7_takeKnows_48 : decode cX7_takeKnows 48 = .ok (.isub, 1) := by decide +kernel
theorem dX7_takeKnows_49 : decode cX7_takeKnows 49 = .ok (.invokevirtual 165, 3) := by decide +kernel
theorem dX7_takeKnows_52 : decode cX7_takeKnows 52 = .ok (.istore_n 1, 1) := by decide +kernel
theorem dX7_takeKnows_53 : decode cX7_takeKnows 53 = .ok (.iload_n 1, 1) := by decide +kernel
theorem dX7_takeKnows_54 : decode cX7_takeKnows 54 = .ok (.ifCond .le 5, 3) := by decide +kernel
theorem dX7_takeKnows_57 : decode cX7_takeKnows 57 = .ok (.iload_n 1, 1) := by decide +kernel
theorem dX7_takeKnows_58 : decode cX7_takeKnows 58 = .ok (.ireturn, 1) := by decide +kernel
theorem dX7_takeKnows_59 : decode cX7_takeKnows 59 = .ok (.aload_n 0, 1) := by decide +kernel
theorem dX7_takeKnows_60 : decode cX7_takeKnows 60 = .ok (.getfield 162, 3) := by decide +kernel
theorem dX7_takeKnows_63 : decode cX7_takeKnows 63 = .ok (.iload_n 2, 1) := by decide +kernel
theorem dX7_takeKnows_64 : decode cX7_takeKnows 64 = .ok (.if_icmp .eq 19, 3) := by decide +kernel
theorem dX7_takeKnows_67 : decode cX7_takeKnows 67 = .ok (.aload_n 0, 1) := by decide +kernel
theorem dX7_takeKnows_68 : decode cX7_takeKnows 68 = .ok (.getfield 59, 3) := by decide +kernel
theorem dX7_takeKnows_71 : decode cX7_takeKnows 71 = .ok (.iload_n 2, 1) := by decide +kernel
theorem dX7_takeKnows_72 : decode cX7_takeKnows 72 = .ok (.iaload, 1) := by decide +kernel
theorem dX7_takeKnows_73 : decode cX7_takeKnows 73 = .ok (.aload_n 0, 1) := by decide +kernel
theorem dX7_takeKnows_74 : decode cX7_takeKnows 74 = .ok (.getfield 162, 3) := by decide +kernel
theorem dX7_takeKnows_77 : decode cX7_takeKnows 77 = .ok (.invokestatic 184, 3) := by decide +kernel
theorem dX7_takeKnows_80 : decode cX7_takeKnows 80 = .ok (.ifCond .eq 13, 3) := by decide +kernel
theorem dX7_takeKnows_83 : decode cX7_takeKnows 83 = .ok (.aload_n 0, 1) := by decide +kernel
theorem dX7_takeKnows_84 : decode cX7_takeKnows 84 = .ok (.iconst 4, 1) := by decide +kernel
theorem dX7_takeKnows_85 : decode cX7_takeKnows 85 = .ok (.aload_n 0, 1) := by decide +kernel
theorem dX7_takeKnows_86 : decode cX7_takeKnows 86 = .ok (.getfield 159, 3) := by decide +kernel
theorem dX7_takeKnows_89 : decode cX7_takeKnows 89 = .ok (.invokevirtual 155, 3) := by decide +kernel
theorem dX7_takeKnows_92 : decode cX7_takeKnows 92 = .ok (.ireturn, 1) := by decide +kernel
theorem dX7_takeKnows_93 : decode cX7_takeKnows 93 = .ok (.aload_n 0, 1) := by decide +kernel
theorem dX7_takeKnows_94 : decode cX7_takeKnows 94 = .ok (.getfield 59, 3) := by decide +kernel
theorem dX7_takeKnows_97 : decode cX7_takeKnows 97 = .ok (.iload_n 2, 1) := by decide +kernel
theorem dX7_takeKnows_98 : decode cX7_takeKnows 98 = .ok (.dup2, 1) := by decide +kernel
theorem dX7_takeKnows_99 : decode cX7_takeKnows 99 = .ok (.iaload, 1) := by decide +kernel
theorem dX7_takeKnows_100 : decode cX7_takeKnows 100 = .ok (.iconst 1, 1) := by decide +kernel
theorem dX7_takeKnows_101 : decode cX7_takeKnows 101 = .ok (.aload_n 0, 1) := by decide +kernel
theorem dX7_takeKnows_102 : decode cX7_takeKnows 102 = .ok (.getfield 162, 3) := by decide +kernel
theorem dX7_takeKnows_105 : decode cX7_takeKnows 105 = .ok (.ishl, 1) := by decide +kernel
theorem dX7_takeKnows_106 : decode cX7_takeKnows 106 = .ok (.ior, 1) := by decide +kernel
theorem dX7_takeKnows_107 : decode cX7_takeKnows 107 = .ok (.iastore, 1) := by decide +kernel
theorem dX7_takeKnows_108 : decode cX7_takeKnows 108 = .ok (.aload_n 0, 1) := by decide +kernel
theorem dX7_takeKnows_109 : decode cX7_takeKnows 109 = .ok (.invokevirtual 128, 3) := by decide +kernel
theorem dX7_takeKnows_112 : decode cX7_takeKnows 112 = .ok (.bipush 44, 2) := by decide +kernel
theorem dX7_takeKnows_114 : decode cX7_takeKnows 114 = .ok (.if_icmp .ne 7, 3) := by decide +kernel
theorem dX7_takeKnows_117 : decode cX7_takeKnows 117 = .ok (.iconst 1, 1) := by decide +kernel
theorem dX7_takeKnows_118 : decode cX7_takeKnows 118 = .ok (.goto 4, 3) := by decide +kernel
theorem dX7_takeKnows_121 : decode cX7_takeKnows 121 = .ok (.iconst 0, 1) := by decide +kernel
theorem dX7_takeKnows_122 : decode cX7_takeKnows 122 = .ok (.istore_n 3, 1) := by decide +kernel
theorem dX7_takeKnows_123 : decode cX7_takeKnows 123 = .ok (.aload_n 0, 1) := by decide +kernel
theorem dX7_takeKnows_124 : decode cX7_takeKnows 124 = .ok (.dup, 1) := by decide +kernel
theorem dX7_takeKnows_125 : decode cX7_takeKnows 125 = .ok (.getfield 125, 3) := by decide +kernel
theorem dX7_takeKnows_128 : decode cX7_takeKnows 128 = .ok (.iload_n 3, 1) := by decide +kernel
theorem dX7_takeKnows_129 : decode cX7_takeKnows 129 = .ok (.ifCond .eq 7, 3) := by decide +kernel
theorem dX7_takeKnows_132 : decode cX7_takeKnows 132 = .ok (.iconst 1, 1) := by decide +kernel
theorem dX7_takeKnows_133 : decode cX7_takeKnows 133 = .ok (.goto 4, 3) := by decide +kernel
theorem dX7_takeKnows_136 : decode cX7_takeKnows 136 = .ok (.iconst 0, 1) := by decide +kernel
theorem dX7_takeKnows_137 : decode cX7_takeKnows 137 = .ok (.iadd, 1) := by decide +kernel
theorem dX7_takeKnows_138 : decode cX7_takeKnows 138 = .ok (.putfield 125, 3) := by decide +kernel
theorem dX7_takeKnows_141 : decode cX7_takeKnows 141 = .ok (.goto (-104), 3) := by decide +kernel
theorem dX7_takeKnows_144 : decode cX7_takeKnows 144 = .ok (.iload_n 1, 1) := by decide +kernel
theorem dX7_takeKnows_145 : decode cX7_takeKnows 145 = .ok (.ireturn, 1) := by decide +kernel
theorem dX7_takeOx_0 : decode cX7_takeOx 0 = .ok (.aload_n 0, 1) := by decide +kernel
theorem dX7_takeOx_1 : decode cX7_takeOx 1 = .ok (.getfield 188, 3) := by decide +kernel
theorem dX7_takeOx_4 : decode cX7_takeOx 4 = .ok (.istore_n 1, 1) := by decide +kernel
theorem dX7_takeOx_5 : decode cX7_takeOx 5 = .ok (.aload_n 0, 1) := by decide +kernel
theorem dX7_takeOx_6 : decode cX7_takeOx 6 = .ok (.dup, 1) := by decide +kernel
theorem dX7_takeOx_7 : decode cX7_takeOx 7 = .ok (.getfield 188, 3) := by decide +kernel
theorem dX7_takeOx_10 : decode cX7_takeOx 10 = .ok (.iconst 1, 1) := by decide +kernel
theorem dX7_takeOx_11 : decode cX7_takeOx 11 = .ok (.iadd, 1) := by decide +kernel
theorem dX7_takeOx_12 : decode cX7_takeOx 12 = .ok (.putfield 188, 3) := by decide +kernel
theorem dX7_takeOx_15 : decode cX7_takeOx 15 = .ok (.aload_n 0, 1) := by decide +kernel
theorem dX7_takeOx_16 : decode cX7_takeOx 16 = .ok (.aload_n 0, 1) := by decide +kernel
theorem dX7_takeOx_17 : decode cX7_takeOx 17 = .ok (.getfield 62, 3) := by decide +kernel
theorem dX7_takeOx_20 : decode cX7_takeOx 20 = .ok (.iload_n 1, 1) := by decide +kernel
theorem dX7_takeOx_21 : decode cX7_takeOx 21 = .ok (.iconst 1, 1) := by decide +kernel
theorem dX7_takeOx_22 : decode cX7_takeOx 22 = .ok (.sipush 999, 3) := by decide +kernel
theorem dX7_takeOx_25 : decode cX7_takeOx 25 = .ok (.invokevirtual 174, 3) := by decide +kernel
theorem dX7_takeOx_28 : decode cX7_takeOx 28 = .ok (.istore_n 2, 1) := by decide +kernel
theorem dX7_takeOx_29 : decode cX7_takeOx 29 = .ok (.iload_n 2, 1) := by decide +kernel
theorem dX7_takeOx_30 : decode cX7_takeOx 30 = .ok (.ifCond .le 7, 3) := by decide +kernel
theorem dX7_takeOx_33 : decode cX7_takeOx 33 = .ok (.iload_n 2, 1) := by decide +kernel
theorem dX7_takeOx_34 : decode cX7_takeOx 34 = .ok (.goto 16, 3) := by decide +kernel
theorem dX7_takeOx_37 : decode cX7_takeOx 37 = .ok (.aload_n 0, 1) := by decide +kernel
theorem dX7_takeOx_38 : decode cX7_takeOx 38 = .ok (.aload_n 0, 1) := by decide +kernel
theorem dX7_takeOx_39 : decode cX7_takeOx 39 = .ok (.getfield 65, 3) := by decide +kernel
theorem dX7_takeOx_42 : decode cX7_takeOx 42 = .ok (.iload_n 1, 1) := by decide +kernel
theorem dX7_takeOx_43 : decode cX7_takeOx 43 = .ok (.iconst 0, 1) := by decide +kernel
theorem dX7_takeOx_44 : decode cX7_takeOx 44 = .ok (.sipush 999, 3) := by decide +kernel
theorem dX7_takeOx_47 : decode cX7_takeOx 47 = .ok (.invokevirtual 174, 3) := by decide +kernel
theorem dX7_takeOx_50 : decode cX7_takeOx 50 = .ok (.ireturn, 1) := by decide +kernel
theorem dX7_takeClause_0 : decode cX7_takeClause 0 = .ok (.aload_n 0, 1) := by decide +kernel
theorem dX7_takeClause_1 : decode cX7_takeClause 1 = .ok (.invokevirtual 191, 3) := by decide +kernel
theorem dX7_takeClause_4 : decode cX7_takeClause 4 = .ok (.aload_n 0, 1) := by decide +kernel
theorem dX7_takeClause_5 : decode cX7_takeClause 5 = .ok (.getfield 132, 3) := by decide +kernel
theorem dX7_takeClause_8 : decode cX7_takeClause 8 = .ok (.bipush 121, 2) := by decide +kernel
theorem dX7_takeClause_10 : decode cX7_takeClause 10 = .ok (.bipush 101, 2) := by decide +kernel
theorem dX7_takeClause_12 : decode cX7_takeClause 12 = .ok (.bipush 97, 2) := by decide +kernel
theorem dX7_takeClause_14 : decode cX7_takeClause 14 = .ok (.invokestatic 194, 3) := by decide +kernel
theorem dX7_takeClause_17 : decode cX7_takeClause 17 = .ok (.bipush 114, 2) := by decide +kernel
theorem dX7_takeClause_19 : decode cX7_takeClause 19 = .ok (.invokestatic 198, 3) := by decide +kernel
theorem dX7_takeClause_22 : decode cX7_takeClause 22 = .ok (.lcmp, 1) := by decide +kernel
theorem dX7_takeClause_23 : decode cX7_takeClause 23 = .ok (.ifCond .ne 7, 3) := by decide +kernel
theorem dX7_takeClause_26 : decode cX7_takeClause 26 = .ok (.iconst 0, 1) := by decide +kernel
theorem dX7_takeClause_27 : decode cX7_takeClause 27 = .ok (.goto 61, 3) := by decide +kernel
theorem dX7_takeClause_30 : decode cX7_takeClause 30 = .ok (.aload_n 0, 1) := by decide +kernel
theorem dX7_takeClause_31 : decode cX7_takeClause 31 = .ok (.getfield 132, 3) := by decide +kernel
theorem dX7_takeClause_34 : decode cX7_takeClause 34 = .ok (.bipush 98, 2) := by decide +kernel
theorem dX7_takeClause_36 : decode cX7_takeClause 36 = .ok (.bipush 114, 2) := by decide +kernel
theorem dX7_takeClause_38 : decode cX7_takeClause 38 = .ok (.bipush 105, 2) := by decide +kernel
theorem dX7_takeClause_40 : decode cX7_takeClause 40 = .ok (.invokestatic 194, 3) := by decide +kernel
theorem dX7_takeClause_43 : decode cX7_takeClause 43 = .ok (.bipush 100, 2) := by decide +kernel
theorem dX7_takeClause_45 : decode cX7_takeClause 45 = .ok (.invokestatic 198, 3) := by decide +kernel
theorem dX7_takeClause_48 : decode cX7_takeClause 48 = .ok (.bipush 103, 2) := by decide +kernel
theorem dX7_takeClause_50 : decode cX7_takeClause 50 = .ok (.invokestatic 198, 3) := by decide +kernel
theorem dX7_takeClause_53 : decode cX7_takeClause 53 = .ok (.bipush 101, 2) := by decide +kernel
theorem dX7_takeClause_55 : decode cX7_takeClause 55 = .ok (.invokestatic 198, 3) := by decide +kernel
theorem dX7_takeClause_58 : decode cX7_takeClause 58 = .ok (.lcmp, 1) := by decide +kernel
theorem dX7_takeClause_59 : decode cX7_takeClause 59 = .ok (.ifCond .ne 7, 3) := by decide +kernel
theorem dX7_takeClause_62 : decode cX7_takeClause 62 = .ok (.iconst 1, 1) := by decide +kernel
theorem dX7_takeClause_63 : decode cX7_takeClause 63 = .ok (.goto 25, 3) := by decide +kernel
theorem dX7_takeClause_66 : decode cX7_takeClause 66 = .ok (.aload_n 0, 1) := by decide +kernel
theorem dX7_takeClause_67 : decode cX7_takeClause 67 = .ok (.getfield 132, 3) := by decide +kernel
theorem dX7_takeClause_70 : decode cX7_takeClause 70 = .ok (.bipush 109, 2) := by decide +kernel
theorem dX7_takeClause_72 : decode cX7_takeClause 72 = .ok (.bipush 97, 2) := by decide +kernel
theorem dX7_takeClause_74 : decode cX7_takeClause 74 = .ok (.bipush 110, 2) := by decide +kernel
theorem dX7_takeClause_76 : decode cX7_takeClause 76 = .ok (.invokestatic 194, 3) := by decide +kernel
theorem dX7_takeClause_79 : decode cX7_takeClause 79 = .ok (.lcmp, 1) := by decide +kernel
theorem dX7_takeClause_80 : decode cX7_takeClause 80 = .ok (.ifCond .ne 7, 3) := by decide +kernel
theorem dX7_takeClause_83 : decode cX7_takeClause 83 = .ok (.iconst 2, 1) := by decide +kernel
theorem dX7_takeClause_84 : decode cX7_takeClause 84 = .ok (.goto 4, 3) := by decide +kernel
theorem dX7_takeClause_87 : decode cX7_takeClause 87 = .ok (.iconst (-1), 1) := by decide +kernel
theorem dX7_takeClause_88 : decode cX7_takeClause 88 = .ok (.istore_n 1, 1) := by decide +kernel
theorem dX7_takeClause_89 : decode cX7_takeClause 89 = .ok (.iload_n 1, 1) := by decide +kernel
theorem dX7_takeClause_90 : decode cX7_takeClause 90 = .ok (.ifCond .lt 7, 3) := by decide +kernel
theorem dX7_takeClause_93 : decode cX7_takeClause 93 = .ok (.iload_n 1, 1) := by decide +kernel
theorem dX7_takeClause_94 : decode cX7_takeClause 94 = .ok (.goto 56, 3) := by decide +kernel
theorem dX7_takeClause_97 : decode cX7_takeClause 97 = .ok (.aload_n 0, 1) := by decide +kernel
theorem dX7_takeClause_98 : decode cX7_takeClause 98 = .ok (.getfield 132, 3) := by decide +kernel
theorem dX7_takeClause_101 : decode cX7_takeClause 101 = .ok (.bipush 107, 2) := by decide +kernel
theorem dX7_takeClause_103 : decode cX7_takeClause 103 = .ok (.bipush 110, 2) := by decide +kernel
theorem dX7_takeClause_105 : decode cX7_takeClause 105 = .ok (.bipush 111, 2) := by decide +kernel
theorem dX7_takeClause_107 : decode cX7_takeClause 107 = .ok (.invokestatic 194, 3) := by decide +kernel
theorem dX7_takeClause_110 : decode cX7_takeClause 110 = .ok (.bipush 119, 2) := by decide +kernel
theorem dX7_takeClause_112 : decode cX7_takeClause 112 = .ok (.invokestatic 198, 3) := by decide +kernel
theorem dX7_takeClause_115 : decode cX7_takeClause 115 = .ok (.bipush 115, 2) := by decide +kernel
theorem dX7_takeClause_117 : decode cX7_takeClause 117 = .ok (.invokestatic 198, 3) := by decide +kernel
theorem dX7_takeClause_120 : decode cX7_takeClause 120 = .ok (.lcmp, 1) := by decide +kernel
theorem dX7_takeClause_121 : decode cX7_takeClause 121 = .ok (.ifCond .ne 7, 3) := by decide +kernel
theorem dX7_takeClause_124 : decode cX7_takeClause 124 = .ok (.iconst 3, 1) := by decide +kernel
theorem dX7_takeClause_125 : decode cX7_takeClause 125 = .ok (.goto 25, 3) := by decide +kernel
theorem dX7_takeClause_128 : decode cX7_takeClause 128 = .ok (.aload_n 0, 1) := by decide +kernel
theorem dX7_takeClause_129 : decode cX7_takeClause 129 = .ok (.getfield 132, 3) := by decide +kernel
theorem dX7_takeClause_132 : decode cX7_takeClause 132 = .ok (.bipush 96, 2) := by decide +kernel
theorem dX7_takeClause_134 : decode cX7_takeClause 134 = .ok (.bipush 111, 2) := by decide +kernel
theorem dX7_takeClause_136 : decode cX7_takeClause 136 = .ok (.bipush 120, 2) := by decide +kernel
theorem dX7_takeClause_138 : decode cX7_takeClause 138 = .ok (.invokestatic 194, 3) := by decide +kernel
theorem dX7_takeClause_141 : decode cX7_takeClause 141 = .ok (.lcmp, 1) := by decide +kernel
theorem dX7_takeClause_142 : decode cX7_takeClause 142 = .ok (.ifCond .ne 7, 3) := by decide +kernel
theorem dX7_takeClause_145 : decode cX7_takeClause 145 = .ok (.iconst 4, 1) := by decide +kernel
theorem dX7_takeClause_146 : decode cX7_takeClause 146 = .ok (.goto 4, 3) := by decide +kernel
theorem dX7_takeClause_149 : decode cX7_takeClause 149 = .ok (.iconst (-1), 1) := by decide +kernel
theorem dX7_takeClause_150 : decode cX7_takeClause 150 = .ok (.istore_n 2, 1) := by decide +kernel
theorem dX7_takeClause_151 : decode cX7_takeClause 151 = .ok (.iload_n 2, 1) := by decide +kernel
theorem dX7_takeClause_152 : decode cX7_takeClause 152 = .ok (.ifCond .lt 14, 3) := by decide +kernel
theorem dX7_takeClause_155 : decode cX7_takeClause 155 = .ok (.iload_n 2, 1) := by decide +kernel
theorem dX7_takeClause_156 : decode cX7_takeClause 156 = .ok (.ifCond .ne 20, 3) := by decide +kernel
theorem dX7_takeClause_159 : decode cX7_takeClause 159 = .ok (.aload_n 0, 1) := by decide +kernel
theorem dX7_takeClause_160 : decode cX7_takeClause 160 = .ok (.getfield 202, 3) := by decide +kernel
theorem dX7_takeClause_163 : decode cX7_takeClause 163 = .ok (.ifCond .le 13, 3) := by decide +kernel
theorem dX7_takeClause_166 : decode cX7_takeClause 166 = .ok (.aload_n 0, 1) := by decide +kernel
theorem dX7_takeClause_167 : decode cX7_takeClause 167 = .ok (.iconst 1, 1) := by decide +kernel
theorem dX7_takeClause_168 : decode cX7_takeClause 168 = .ok (.aload_n 0, 1) := by decide +kernel
theorem dX7_takeClause_169 : decode cX7_takeClause 169 = .ok (.getfield 125, 3) := by decide +kernel
theorem dX7_takeClause_172 : decode cX7_takeClause 172 = .ok (.invokevirtual 155, 3) := by decide +kernel
theorem dX7_takeClause_175 : decode cX7_takeClause 175 = .ok (.ireturn, 1) := by decide +kernel
theorem dX7_takeClause_176 : decode cX7_takeClause 176 = .ok (.iload_n 2, 1) := by decide +kernel
theorem dX7_takeClause_177 : decode cX7_takeClause 177 = .ok (.ifCond .ne 18, 3) := by decide +kernel
theorem dX7_takeClause_180 : decode cX7_takeClause 180 = .ok (.aload_n 0, 1) := by decide +kernel
theorem dX7_takeClause_181 : decode cX7_takeClause 181 = .ok (.getfield 168, 3) := by decide +kernel
theorem dX7_takeClause_184 : decode cX7_takeClause 184 = .ok (.ifCond .le 7, 3) := by decide +kernel
theorem dX7_takeClause_187 : decode cX7_takeClause 187 = .ok (.iconst 1, 1) := by decide +kernel
theorem dX7_takeClause_188 : decode cX7_takeClause 188 = .ok (.goto 85, 3) := by decide +kernel
theorem dX7_takeClause_191 : decode cX7_takeClause 191 = .ok (.iconst 0, 1) := by decide +kernel
theorem dX7_takeClause_192 : decode cX7_takeClause 192 = .ok (.goto 81, 3) := by decide +kernel
theorem dX7_takeClause_195 : decode cX7_takeClause 195 = .ok (.iload_n 2, 1) := by decide +kernel
theorem dX7_takeClause_196 : decode cX7_takeClause 196 = .ok (.iconst 1, 1) := by decide +kernel
theorem dX7_takeClause_197 : decode cX7_takeClause 197 = .ok (.if_icmp .ne 19, 3) := by decide +kernel
theorem dX7_takeClause_200 : decode cX7_takeClause 200 = .ok (.aload_n 0, 1) := by decide +kernel
theorem dX7_takeClause_201 : decode cX7_takeClause 201 = .ok (.getfield 171, 3) := by decide +kernel
theorem dX7_takeClause_204 : decode cX7_takeClause 204 = .ok (.iconst 5, 1) := by decide +kernel
theorem dX7_takeClause_205 : decode cX7_takeClause 205 = .ok (.if_icmp .ne 7, 3) := by decide +kernel
theorem dX7_takeClause_208 : decode cX7_takeClause 208 = .ok (.iconst 1, 1) := by decide +kernel
theorem dX7_takeClause_209 : decode cX7_takeClause 209 = .ok (.goto 64, 3) := by decide +kernel
theorem dX7_takeClause_212 : decode cX7_takeClause 212 = .ok (.iconst 0, 1) := by decide +kernel
theorem dX7_takeClause_213 : decode cX7_takeClause 213 = .ok (.goto 60, 3) := by decide +kernel
theorem dX7_takeClause_216 : decode cX7_takeClause 216 = .ok (.iload_n 2, 1) := by decide +kernel
theorem dX7_takeClause_217 : decode cX7_takeClause 217 = .ok (.iconst 2, 1) := by decide +kernel
theorem dX7_takeClause_218 : decode cX7_takeClause 218 = .ok (.if_icmp .ne 20, 3) := by decide +kernel
theorem dX7_takeClause_221 : decode cX7_takeClause 221 = .ok (.aload_n 0, 1) := by decide +kernel
theorem dX7_takeClause_222 : decode cX7_takeClause 222 = .ok (.getfield 178, 3) := by decide +kernel
theorem dX7_takeClause_225 : decode cX7_takeClause 225 = .ok (.bipush 6, 2) := by decide +kernel
theorem dX7_takeClause_227 : decode cX7_takeClause 227 = .ok (.if_icmp .ne 7, 3) := by decide +kernel
theorem dX7_takeClause_230 : decode cX7_takeClause 230 = .ok (.iconst 1, 1) := by decide +kernel
theorem dX7_takeClause_231 : decode cX7_takeClause 231 = .ok (.goto 42, 3) := by decide +kernel
theorem dX7_takeClause_234 : decode cX7_takeClause 234 = .ok (.iconst 0, 1) := by decide +kernel
theorem dX7_takeClause_235 : decode cX7_takeClause 235 = .ok (.goto 38, 3) := by decide +kernel
theorem dX7_takeClause_238 : decode cX7_takeClause 238 = .ok (.iload_n 2, 1) := by decide +kernel
theorem dX7_takeClause_239 : decode cX7_takeClause 239 = .ok (.iconst 3, 1) := by decide +kernel
theorem dX7_takeClause_240 : decode cX7_takeClause 240 = .ok (.if_icmp .ne 20, 3) := by decide +kernel
theorem dX7_takeClause_243 : decode cX7_takeClause 243 = .ok (.aload_n 0, 1) := by decide +kernel
theorem dX7_takeClause_244 : decode cX7_takeClause 244 = .ok (.getfield 181, 3) := by decide +kernel
theorem dX7_takeClause_247 : decode cX7_takeClause 247 = .ok (.bipush 12, 2) := by decide +kernel
theorem dX7_takeClause_249 : decode cX7_takeClause 249 = .ok (.if_icmp .ne 7, 3) := by decide +kernel
theorem dX7_takeClause_252 : decode cX7_takeClause 252 = .ok (.iconst 1, 1) := by decide +kernel
theorem dX7_takeClause_253 : decode cX7_takeClause 253 = .ok (.goto 20, 3) := by decide +kernel
theorem dX7_takeClause_256 : decode cX7_takeClause 256 = .ok (.iconst 0, 1) := by decide +kernel
theorem dX7_takeClause_257 : decode cX7_takeClause 257 = .ok (.goto 16, 3) := by decide +kernel
theorem dX7_takeClause_260 : decode cX7_takeClause 260 = .ok (.aload_n 0, 1) := by decide +kernel
theorem dX7_takeClause_261 : decode cX7_takeClause 261 = .ok (.getfield 188, 3) := by decide +kernel
theorem dX7_takeClause_264 : decode cX7_takeClause 264 = .ok (.iconst 5, 1) := by decide +kernel
theorem dX7_takeClause_265 : decode cX7_takeClause 265 = .ok (.if_icmp .ne 7, 3) := by decide +kernel
theorem dX7_takeClause_268 : decode cX7_takeClause 268 = .ok (.iconst 1, 1) := by decide +kernel
theorem dX7_takeClause_269 : decode cX7_takeClause 269 = .ok (.goto 4, 3) := by decide +kernel
theorem dX7_takeClause_272 : decode cX7_takeClause 272 = .ok (.iconst 0, 1) := by decide +kernel
theorem dX7_takeClause_273 : decode cX7_takeClause 273 = .ok (.istore_n 3, 1) := by decide +kernel
theorem dX7_takeClause_274 : decode cX7_takeClause 274 = .ok (.iload_n 3, 1) := by decide +kernel
theorem dX7_takeClause_275 : decode cX7_takeClause 275 = .ok (.ifCond .eq 13, 3) := by decide +kernel
theorem dX7_takeClause_278 : decode cX7_takeClause 278 = .ok (.aload_n 0, 1) := by decide +kernel
theorem dX7_takeClause_279 : decode cX7_takeClause 279 = .ok (.iconst 3, 1) := by decide +kernel
theorem dX7_takeClause_280 : decode cX7_takeClause 280 = .ok (.aload_n 0, 1) := by decide +kernel
theorem dX7_takeClause_281 : decode cX7_takeClause 281 = .ok (.getfield 125, 3) := by decide +kernel
theorem dX7_takeClause_284 : decode cX7_takeClause 284 = .ok (.invokevirtual 155, 3) := by decide +kernel
theorem dX7_takeClause_287 : decode cX7_takeClause 287 = .ok (.ireturn, 1) := by decide +kernel
theorem dX7_takeClause_288 : decode cX7_takeClause 288 = .ok (.aload_n 0, 1) := by decide +kernel
theorem dX7_takeClause_289 : decode cX7_takeClause 289 = .ok (.aload_n 0, 1) := by decide +kernel
theorem dX7_takeClause_290 : decode cX7_takeClause 290 = .ok (.getfield 136, 3) := by decide +kernel
theorem dX7_takeClause_293 : decode cX7_takeClause 293 = .ok (.putfield 125, 3) := by decide +kernel
theorem dX7_takeClause_296 : decode cX7_takeClause 296 = .ok (.aload_n 0, 1) := by decide +kernel
theorem dX7_takeClause_297 : decode cX7_takeClause 297 = .ok (.dup, 1) := by decide +kernel
theorem dX7_takeClause_298 : decode cX7_takeClause 298 = .ok (.getfield 202, 3) := by decide +kernel
theorem dX7_takeClause_301 : decode cX7_takeClause 301 = .ok (.iload_n 2, 1) := by decide +kernel
theorem dX7_takeClause_302 : decode cX7_takeClause 302 = .ok (.ifCond .ne 7, 3) := by decide +kernel
theorem dX7_takeClause_305 : decode cX7_takeClause 305 = .ok (.iconst 0, 1) := by decide +kernel
theorem dX7_takeClause_306 : decode cX7_takeClause 306 = .ok (.goto 4, 3) := by decide +kernel
theorem dX7_takeClause_309 : decode cX7_takeClause 309 = .ok (.iconst 1, 1) := by decide +kernel
theorem dX7_takeClause_310 : decode cX7_takeClause 310 = .ok (.iadd, 1) := by decide +kernel
theorem dX7_takeClause_311 : decode cX7_takeClause 311 = .ok (.putfield 202, 3) := by decide +kernel
theorem dX7_takeClause_314 : decode cX7_takeClause 314 = .ok (.iload_n 2, 1) := by decide +kernel
theorem dX7_takeClause_315 : decode cX7_takeClause 315 = .ok (.ifCond .ne 10, 3) := by decide +kernel
theorem dX7_takeClause_318 : decode cX7_takeClause 318 = .ok (.aload_n 0, 1) := by decide +kernel
theorem dX7_takeClause_319 : decode cX7_takeClause 319 = .ok (.invokevirtual 205, 3) := by decide +kernel
theorem dX7_takeClause_322 : decode cX7_takeClause 322 = .ok (.goto 43, 3) := by decide +kernel
theorem dX7_takeClause_325 : decode cX7_takeClause 325 = .ok (.iload_n 2, 1) := by decide +kernel
theorem dX7_takeClause_326 : decode cX7_takeClause 326 = .ok (.iconst 1, 1) := by decide +kernel
theorem dX7_takeClause_327 : decode cX7_takeClause 327 = .ok (.if_icmp .ne 10, 3) := by decide +kernel
theorem dX7_takeClause_330 : decode cX7_takeClause 330 = .ok (.aload_n 0, 1) := by decide +kernel
theorem dX7_takeClause_331 : decode cX7_takeClause 331 = .ok (.invokevirtual 208, 3) := by decide +kernel
theorem dX7_takeClause_334 : decode cX7_takeClause 334 = .ok (.goto 31, 3) := by decide +kernel
theorem dX7_takeClause_337 : decode cX7_takeClause 337 = .ok (.iload_n 2, 1) := by decide +kernel
theorem dX7_takeClause_338 : decode cX7_takeClause 338 = .ok (.iconst 2, 1) := by decide +kernel
theorem dX7_takeClause_339 : decode cX7_takeClause 339 = .ok (.if_icmp .ne 10, 3) := by decide +kernel
theorem dX7_takeClause_342 : decode cX7_takeClause 342 = .ok (.aload_n 0, 1) := by decide +kernel
theorem dX7_takeClause_343 : decode cX7_takeClause 343 = .ok (.invokevirtual 211, 3) := by decide +kernel
theorem dX7_takeClause_346 : decode cX7_takeClause 346 = .ok (.goto 19, 3) := by decide +kernel
theorem dX7_takeClause_349 : decode cX7_takeClause 349 = .ok (.iload_n 2, 1) := by decide +kernel
theorem dX7_takeClause_350 : decode cX7_takeClause 350 = .ok (.iconst 3, 1) := by decide +kernel
theorem dX7_takeClause_351 : decode cX7_takeClause 351 = .ok (.if_icmp .ne 10, 3) := by decide +kernel
theorem dX7_takeClause_354 : decode cX7_takeClause 354 = .ok (.aload_n 0, 1) := by decide +kernel
theorem dX7_takeClause_355 : decode cX7_takeClause 355 = .ok (.invokevirtual 214, 3) := by decide +kernel
theorem dX7_takeClause_358 : decode cX7_takeClause 358 = .ok (.goto 7, 3) := by decide +kernel
theorem dX7_takeClause_361 : decode cX7_takeClause 361 = .ok (.aload_n 0, 1) := by decide +kernel
theorem dX7_takeClause_362 : decode cX7_takeClause 362 = .ok (.invokevirtual 217, 3) := by decide +kernel
theorem dX7_takeClause_365 : decode cX7_takeClause 365 = .ok (.istore 4, 2) := by decide +kernel
theorem dX7_takeClause_367 : decode cX7_takeClause 367 = .ok (.iload 4, 2) := by decide +kernel
theorem dX7_takeClause_369 : decode cX7_takeClause 369 = .ok (.ifCond .ne 22, 3) := by decide +kernel
theorem dX7_takeClause_372 : decode cX7_takeClause 372 = .ok (.aload_n 0, 1) := by decide +kernel
theorem dX7_takeClause_373 : decode cX7_takeClause 373 = .ok (.invokevirtual 128, 3) := by decide +kernel
theorem dX7_takeClause_376 : decode cX7_takeClause 376 = .ok (.bipush 59, 2) := by decide +kernel
theorem dX7_takeClause_378 : decode cX7_takeClause 378 = .ok (.if_icmp .eq 13, 3) := by decide +kernel
theorem dX7_takeClause_381 : decode cX7_takeClause 381 = .ok (.aload_n 0, 1) := by decide +kernel
theorem dX7_takeClause_382 : decode cX7_takeClause 382 = .ok (.iconst 1, 1) := by decide +kernel
theorem dX7_takeClause_383 : decode cX7_takeClause 383 = .ok (.aload_n 0, 1) := by decide +kernel
theorem dX7_takeClause_384 : decode cX7_takeClause 384 = .ok (.getfield 125, 3) := by decide +kernel
theorem dX7_takeClause_387 : decode cX7_takeClause 387 = .ok (.invokevirtual 155, 3) := by decide +kernel
theorem dX7_takeClause_390 : decode cX7_takeClause 390 = .ok (.ireturn, 1) := by decide +kernel
theorem dX7_takeClause_391 : decode cX7_takeClause 391 = .ok (.aload_n 0, 1) := by decide +kernel
theorem dX7_takeClause_392 : decode cX7_takeClause 392 = .ok (.dup, 1) := by decide +kernel
theorem dX7_takeClause_393 : decode cX7_takeClause 393 = .ok (.getfield 125, 3) := by decide +kernel
theorem dX7_takeClause_396 : decode cX7_takeClause 396 = .ok (.iconst 1, 1) := by decide +kernel
theorem dX7_takeClause_397 : decode cX7_takeClause 397 = .ok (.iadd, 1) := by decide +kernel
theorem dX7_takeClause_398 : decode cX7_takeClause 398 = .ok (.putfield 125, 3) := by decide +kernel
theorem dX7_takeClause_401 : decode cX7_takeClause 401 = .ok (.iload 4, 2) := by decide +kernel
theorem dX7_takeClause_403 : decode cX7_takeClause 403 = .ok (.ireturn, 1) := by decide +kernel
theorem dX7_hills_0 : decode cX7_hills 0 = .ok (.aload_n 0, 1) := by decide +kernel
theorem dX7_hills_1 : decode cX7_hills 1 = .ok (.iconst (-1), 1) := by decide +kernel
theorem dX7_hills_2 : decode cX7_hills 2 = .ok (.putfield 47, 3) := by decide +kernel
theorem dX7_hills_5 : decode cX7_hills 5 = .ok (.aload_n 0, 1) := by decide +kernel
theorem dX7_hills_6 : decode cX7_hills 6 = .ok (.iconst 0, 1) := by decide +kernel
theorem dX7_hills_7 : decode cX7_hills 7 = .ok (.putfield 125, 3) := by decide +kernel
theorem dX7_hills_10 : decode cX7_hills 10 = .ok (.aload_n 0, 1) := by decide +kernel
theorem dX7_hills_11 : decode cX7_hills 11 = .ok (.iconst 0, 1) := by decide +kernel
theorem dX7_hills_12 : decode cX7_hills 12 = .ok (.putfield 168, 3) := by decide +kernel
theorem dX7_hills_15 : decode cX7_hills 15 = .ok (.aload_n 0, 1) := by decide +kernel
theorem dX7_hills_16 : decode cX7_hills 16 = .ok (.iconst 0, 1) := by decide +kernel
theorem dX7_hills_17 : decode cX7_hills 17 = .ok (.putfield 202, 3) := by decide +kernel
theorem dX7_hills_20 : decode cX7_hills 20 = .ok (.aload_n 0, 1) := by decide +kernel
theorem dX7_hills_21 : decode cX7_hills 21 = .ok (.iconst 0, 1) := by decide +kernel
theorem dX7_hills_22 : decode cX7_hills 22 = .ok (.putfield 171, 3) := by decide +kernel
theorem dX7_hills_25 : decode cX7_hills 25 = .ok (.aload_n 0, 1) := by decide +kernel
theorem dX7_hills_26 : decode cX7_hills 26 = .ok (.iconst 0, 1) := by decide +kernel
theorem dX7_hills_27 : decode cX7_hills 27 = .ok (.putfield 178, 3) := by decide +kernel
theorem dX7_hills_30 : decode cX7_hills 30 = .ok (.aload_n 0, 1) := by decide +kernel
theorem dX7_hills_31 : decode cX7_hills 31 = .ok (.iconst 0, 1) := by decide +kernel
theorem dX7_hills_32 : decode cX7_hills 32 = .ok (.putfield 181, 3) := by decide +kernel
theorem dX7_hills_35 : decode cX7_hills 35 = .ok (.aload_n 0, 1) := by decide +kernel
theorem dX7_hills_36 : decode cX7_hills 36 = .ok (.iconst 0, 1) := by decide +kernel
theorem dX7_hills_37 : decode cX7_hills 37 = .ok (.putfield 188, 3) := by decide +kernel
theorem dX7_hills_40 : decode cX7_hills 40 = .ok (.iconst 0, 1) := by decide +kernel
theorem dX7_hills_41 : decode cX7_hills 41 = .ok (.istore_n 1, 1) := by decide +kernel
theorem dX7_hills_42 : decode cX7_hills 42 = .ok (.iload_n 1, 1) := by decide +kernel
theorem dX7_hills_43 : decode cX7_hills 43 = .ok (.ifCond .ne 18, 3) := by decide +kernel
theorem dX7_hills_46 : decode cX7_hills 46 = .ok (.aload_n 0, 1) := by decide +kernel
theorem dX7_hills_47 : decode cX7_hills 47 = .ok (.invokevirtual 128, 3) := by decide +kernel
theorem dX7_hills_50 : decode cX7_hills 50 = .ok (.ifCond .lt 11, 3) := by decide +kernel
theorem dX7_hills_53 : decode cX7_hills 53 = .ok (.aload_n 0, 1) := by decide +kernel
theorem dX7_hills_54 : decode cX7_hills 54 = .ok (.invokevirtual 220, 3) := by decide +kernel
theorem dX7_hills_57 : decode cX7_hills 57 = .ok (.istore_n 1, 1) := by decide +kernel
theorem dX7_hills_58 : decode cX7_hills 58 = .ok (.goto (-16), 3) := by decide +kernel
theorem dX7_hills_61 : decode cX7_hills 61 = .ok (.aload_n 0, 1) := by decide +kernel
theorem dX7_hills_62 : decode cX7_hills 62 = .ok (.iconst 0, 1) := by decide +kernel
theorem dX7_hills_63 : decode cX7_hills 63 = .ok (.putfield 119, 3) := by decide +kernel
theorem dX7_hills_66 : decode cX7_hills 66 = .ok (.iload_n 1, 1) := by decide +kernel
theorem dX7_hills_67 : decode cX7_hills 67 = .ok (.ifCond .le 8, 3) := by decide +kernel
theorem dX7_hills_70 : decode cX7_hills 70 = .ok (.bipush (-10), 2) := by decide +kernel
theorem dX7_hills_72 : decode cX7_hills 72 = .ok (.iload_n 1, 1) := by decide +kernel
theorem dX7_hills_73 : decode cX7_hills 73 = .ok (.isub, 1) := by decide +kernel
theorem dX7_hills_74 : decode cX7_hills 74 = .ok (.ireturn, 1) := by decide +kernel
theorem dX7_hills_75 : decode cX7_hills 75 = .ok (.aload_n 0, 1) := by decide +kernel
theorem dX7_hills_76 : decode cX7_hills 76 = .ok (.aload_n 0, 1) := by decide +kernel
theorem dX7_hills_77 : decode cX7_hills 77 = .ok (.getfield 168, 3) := by decide +kernel
theorem dX7_hills_80 : decode cX7_hills 80 = .ok (.ifCond .le 10, 3) := by decide +kernel
theorem dX7_hills_83 : decode cX7_hills 83 = .ok (.aload_n 0, 1) := by decide +kernel
theorem dX7_hills_84 : decode cX7_hills 84 = .ok (.getfield 168, 3) := by decide +kernel
theorem dX7_hills_87 : decode cX7_hills 87 = .ok (.goto 5, 3) := by decide +kernel
theorem dX7_hills_90 : decode cX7_hills 90 = .ok (.bipush 10, 2) := by decide +kernel
theorem dX7_hills_92 : decode cX7_hills 92 = .ok (.putfield 7, 3) := by decide +kernel
theorem dX7_hills_95 : decode cX7_hills 95 = .ok (.aload_n 0, 1) := by decide +kernel
theorem dX7_hills_96 : decode cX7_hills 96 = .ok (.aload_n 0, 1) := by decide +kernel
theorem dX7_hills_97 : decode cX7_hills 97 = .ok (.getfield 171, 3) := by decide +kernel
theorem dX7_hills_100 : decode cX7_hills 100 = .ok (.putfield 105, 3) := by decide +kernel
theorem dX7_hills_103 : decode cX7_hills 103 = .ok (.aload_n 0, 1) := by decide +kernel
theorem dX7_hills_104 : decode cX7_hills 104 = .ok (.aload_n 0, 1) := by decide +kernel
theorem dX7_hills_105 : decode cX7_hills 105 = .ok (.getfield 178, 3) := by decide +kernel
theorem dX7_hills_108 : decode cX7_hills 108 = .ok (.putfield 102, 3) := by decide +kernel
theorem dX7_hills_111 : decode cX7_hills 111 = .ok (.aload_n 0, 1) := by decide +kernel
theorem dX7_hills_112 : decode cX7_hills 112 = .ok (.aload_n 0, 1) := by decide +kernel
theorem dX7_hills_113 : decode cX7_hills 113 = .ok (.getfield 188, 3) := by decide +kernel
theorem dX7_hills_116 : decode cX7_hills 116 = .ok (.putfield 223, 3) := by decide +kernel
theorem dX7_hills_119 : decode cX7_hills 119 = .ok (.iconst 0, 1) := by decide +kernel
theorem dX7_hills_120 : decode cX7_hills 120 = .ok (.istore_n 2, 1) := by decide +kernel
theorem dX7_hills_121 : decode cX7_hills 121 = .ok (.iload_n 2, 1) := by decide +kernel
theorem dX7_hills_122 : decode cX7_hills 122 = .ok (.iconst 5, 1) := by decide +kernel
theorem dX7_hills_123 : decode cX7_hills 123 = .ok (.if_icmp .ge 52, 3) := by decide +kernel
theorem dX7_hills_126 : decode cX7_hills 126 = .ok (.aload_n 0, 1) := by decide +kernel
theorem dX7_hills_127 : decode cX7_hills 127 = .ok (.getfield 13, 3) := by decide +kernel
theorem dX7_hills_130 : decode cX7_hills 130 = .ok (.iload_n 2, 1) := by decide +kernel
theorem dX7_hills_131 : decode cX7_hills 131 = .ok (.aload_n 0, 1) := by decide +kernel
theorem dX7_hills_132 : decode cX7_hills 132 = .ok (.getfield 50, 3) := by decide +kernel
theorem dX7_hills_135 : decode cX7_hills 135 = .ok (.iload_n 2, 1) := by decide +kernel
theorem dX7_hills_136 : decode cX7_hills 136 = .ok (.iaload, 1) := by decide +kernel
theorem dX7_hills_137 : decode cX7_hills 137 = .ok (.iastore, 1) := by decide +kernel
theorem dX7_hills_138 : decode cX7_hills 138 = .ok (.aload_n 0, 1) := by decide +kernel
theorem dX7_hills_139 : decode cX7_hills 139 = .ok (.getfield 23, 3) := by decide +kernel
theorem dX7_hills_142 : decode cX7_hills 142 = .ok (.iload_n 2, 1) := by decide +kernel
theorem dX7_hills_143 : decode cX7_hills 143 = .ok (.aload_n 0, 1) := by decide +kernel
theorem dX7_hills_144 : decode cX7_hills 144 = .ok (.getfield 62, 3) := by decide +kernel
theorem dX7_hills_147 : decode cX7_hills 147 = .ok (.iload_n 2, 1) := by decide +kernel
theorem dX7_hills_148 : decode cX7_hills 148 = .ok (.iaload, 1) := by decide +kernel
theorem dX7_hills_149 : decode cX7_hills 149 = .ok (.iastore, 1) := by decide +kernel
theorem dX7_hills_150 : decode cX7_hills 150 = .ok (.aload_n 0, 1) := by decide +kernel
theorem dX7_hills_151 : decode cX7_hills 151 = .ok (.getfield 26, 3) := by decide +kernel
theorem dX7_hills_154 : decode cX7_hills 154 = .ok (.iload_n 2, 1) := by decide +kernel
theorem dX7_hills_155 : decode cX7_hills 155 = .ok (.aload_n 0, 1) := by decide +kernel
theorem dX7_hills_156 : decode cX7_hills 156 = .ok (.getfield 65, 3) := by decide +kernel
theorem dX7_hills_159 : decode cX7_hills 159 = .ok (.iload_n 2, 1) := by decide +kernel
theorem dX7_hills_160 : decode cX7_hills 160 = .ok (.iaload, 1) := by decide +kernel
theorem dX7_hills_161 : decode cX7_hills 161 = .ok (.iastore, 1) := by decide +kernel
theorem dX7_hills_162 : decode cX7_hills 162 = .ok (.aload_n 0, 1) := by decide +kernel
theorem dX7_hills_163 : decode cX7_hills 163 = .ok (.getfield 32, 3) := by decide +kernel
theorem dX7_hills_166 : decode cX7_hills 166 = .ok (.iload_n 2, 1) := by decide +kernel
theorem dX7_hills_167 : decode cX7_hills 167 = .ok (.iconst 0, 1) := by decide +kernel
theorem dX7_hills_168 : decode cX7_hills 168 = .ok (.iastore, 1) := by decide +kernel
theorem dX7_hills_169 : decode cX7_hills 169 = .ok (.iinc 2 1, 3) := by decide +kernel
theorem dX7_hills_172 : decode cX7_hills 172 = .ok (.goto (-51), 3) := by decide +kernel
theorem dX7_hills_175 : decode cX7_hills 175 = .ok (.iconst 0, 1) := by decide +kernel
theorem dX7_hills_176 : decode cX7_hills 176 = .ok (.istore_n 2, 1) := by decide +kernel
theorem dX7_hills_177 : decode cX7_hills 177 = .ok (.iload_n 2, 1) := by decide +kernel
theorem dX7_hills_178 : decode cX7_hills 178 = .ok (.bipush 6, 2) := by decide +kernel
theorem dX7_hills_180 : decode cX7_hills 180 = .ok (.if_icmp .ge 57, 3) := by decide +kernel
theorem dX7_hills_183 : decode cX7_hills 183 = .ok (.aload_n 0, 1) := by decide +kernel
theorem dX7_hills_184 : decode cX7_hills 184 = .ok (.getfield 17, 3) := by decide +kernel
theorem dX7_hills_187 : decode cX7_hills 187 = .ok (.iload_n 2, 1) := by decide +kernel
theorem dX7_hills_188 : decode cX7_hills 188 = .ok (.aload_n 0, 1) := by decide +kernel
theorem dX7_hills_189 : decode cX7_hills 189 = .ok (.getfield 53, 3) := by decide +kernel
theorem dX7_hills_192 : decode cX7_hills 192 = .ok (.iload_n 2, 1) := by decide +kernel
theorem dX7_hills_193 : decode cX7_hills 193 = .ok (.iaload, 1) := by decide +kernel
theorem dX7_hills_194 : decode cX7_hills 194 = .ok (.iastore, 1) := by decide +kernel
theorem dX7_hills_195 : decode cX7_hills 195 = .ok (.aload_n 0, 1) := by decide +kernel
theorem dX7_hills_196 : decode cX7_hills 196 = .ok (.getfield 20, 3) := by decide +kernel
theorem dX7_hills_199 : decode cX7_hills 199 = .ok (.iload_n 2, 1) := by decide +kernel
theorem dX7_hills_200 : decode cX7_hills 200 = .ok (.aload_n 0, 1) := by decide +kernel
theorem dX7_hills_201 : decode cX7_hills 201 = .ok (.getfield 56, 3) := by decide +kernel
theorem dX7_hills_204 : decode cX7_hills 204 = .ok (.iload_n 2, 1) := by decide +kernel
theorem dX7_hills_205 : decode cX7_hills 205 = .ok (.iaload, 1) := by decide +kernel
theorem dX7_hills_206 : decode cX7_hills 206 = .ok (.iastore, 1) := by decide +kernel
theorem dX7_hills_207 : decode cX7_hills 207 = .ok (.aload_n 0, 1) := by decide +kernel
theorem dX7_hills_208 : decode cX7_hills 208 = .ok (.getfield 29, 3) := by decide +kernel
theorem dX7_hills_211 : decode cX7_hills 211 = .ok (.iload_n 2, 1) := by decide +kernel
theorem dX7_hills_212 : decode cX7_hills 212 = .ok (.iload_n 2, 1) := by decide +kernel
theorem dX7_hills_213 : decode cX7_hills 213 = .ok (.aload_n 0, 1) := by decide +kernel
theorem dX7_hills_214 : decode cX7_hills 214 = .ok (.getfield 102, 3) := by decide +kernel
theorem dX7_hills_217 : decode cX7_hills 217 = .ok (.if_icmp .ge 12, 3) := by decide +kernel
theorem dX7_hills_220 : decode cX7_hills 220 = .ok (.aload_n 0, 1) := by decide +kernel
theorem dX7_hills_221 : decode cX7_hills 221 = .ok (.getfield 59, 3) := by decide +kernel
theorem dX7_hills_224 : decode cX7_hills 224 = .ok (.iload_n 2, 1) := by decide +kernel
theorem dX7_hills_225 : decode cX7_hills 225 = .ok (.iaload, 1) := by decide +kernel
theorem dX7_hills_226 : decode cX7_hills 226 = .ok (.goto 4, 3) := by decide +kernel
theorem dX7_hills_229 : decode cX7_hills 229 = .ok (.iconst 0, 1) := by decide +kernel
theorem dX7_hills_230 : decode cX7_hills 230 = .ok (.iastore, 1) := by decide +kernel
theorem dX7_hills_231 : decode cX7_hills 231 = .ok (.iinc 2 1, 3) := by decide +kernel
theorem dX7_hills_234 : decode cX7_hills 234 = .ok (.goto (-57), 3) := by decide +kernel
theorem dX7_hills_237 : decode cX7_hills 237 = .ok (.iconst 0, 1) := by decide +kernel
theorem dX7_hills_238 : decode cX7_hills 238 = .ok (.istore_n 2, 1) := by decide +kernel
theorem dX7_hills_239 : decode cX7_hills 239 = .ok (.iload_n 2, 1) := by decide +kernel
theorem dX7_hills_240 : decode cX7_hills 240 = .ok (.bipush 30, 2) := by decide +kernel
theorem dX7_hills_242 : decode cX7_hills 242 = .ok (.if_icmp .ge 30, 3) := by decide +kernel
theorem dX7_hills_245 : decode cX7_hills 245 = .ok (.aload_n 0, 1) := by decide +kernel
theorem dX7_hills_246 : decode cX7_hills 246 = .ok (.getfield 35, 3) := by decide +kernel
theorem dX7_hills_249 : decode cX7_hills 249 = .ok (.iload_n 2, 1) := by decide +kernel
theorem dX7_hills_250 : decode cX7_hills 250 = .ok (.iconst (-1), 1) := by decide +kernel
theorem dX7_hills_251 : decode cX7_hills 251 = .ok (.iastore, 1) := by decide +kernel
theorem dX7_hills_252 : decode cX7_hills 252 = .ok (.aload_n 0, 1) := by decide +kernel
theorem dX7_hills_253 : decode cX7_hills 253 = .ok (.getfield 38, 3) := by decide +kernel
theorem dX7_hills_256 : decode cX7_hills 256 = .ok (.iload_n 2, 1) := by decide +kernel
theorem dX7_hills_257 : decode cX7_hills 257 = .ok (.iconst (-1), 1) := by decide +kernel
theorem dX7_hills_258 : decode cX7_hills 258 = .ok (.iastore, 1) := by decide +kernel
theorem dX7_hills_259 : decode cX7_hills 259 = .ok (.aload_n 0, 1) := by decide +kernel
theorem dX7_hills_260 : decode cX7_hills 260 = .ok (.getfield 41, 3) := by decide +kernel
theorem dX7_hills_263 : decode cX7_hills 263 = .ok (.iload_n 2, 1) := by decide +kernel
theorem dX7_hills_264 : decode cX7_hills 264 = .ok (.iconst (-1), 1) := by decide +kernel
theorem dX7_hills_265 : decode cX7_hills 265 = .ok (.iastore, 1) := by decide +kernel
theorem dX7_hills_266 : decode cX7_hills 266 = .ok (.iinc 2 1, 3) := by decide +kernel
theorem dX7_hills_269 : decode cX7_hills 269 = .ok (.goto (-30), 3) := by decide +kernel
theorem dX7_hills_272 : decode cX7_hills 272 = .ok (.aload_n 0, 1) := by decide +kernel
theorem dX7_hills_273 : decode cX7_hills 273 = .ok (.iconst 1, 1) := by decide +kernel
theorem dX7_hills_274 : decode cX7_hills 274 = .ok (.aload_n 0, 1) := by decide +kernel
theorem dX7_hills_275 : decode cX7_hills 275 = .ok (.getfield 102, 3) := by decide +kernel
theorem dX7_hills_278 : decode cX7_hills 278 = .ok (.ishl, 1) := by decide +kernel
theorem dX7_hills_279 : decode cX7_hills 279 = .ok (.iconst 1, 1) := by decide +kernel
theorem dX7_hills_280 : decode cX7_hills 280 = .ok (.isub, 1) := by decide +kernel
theorem dX7_hills_281 : decode cX7_hills 281 = .ok (.putfield 226, 3) := by decide +kernel
theorem dX7_hills_284 : decode cX7_hills 284 = .ok (.aload_n 0, 1) := by decide +kernel
theorem dX7_hills_285 : decode cX7_hills 285 = .ok (.iconst 0, 1) := by decide +kernel
theorem dX7_hills_286 : decode cX7_hills 286 = .ok (.putfield 229, 3) := by decide +kernel
theorem dX7_hills_289 : decode cX7_hills 289 = .ok (.aload_n 0, 1) := by decide +kernel
theorem dX7_hills_290 : decode cX7_hills 290 = .ok (.iconst 0, 1) := by decide +kernel
theorem dX7_hills_291 : decode cX7_hills 291 = .ok (.putfield 232, 3) := by decide +kernel
theorem dX7_hills_294 : decode cX7_hills 294 = .ok (.aload_n 0, 1) := by decide +kernel
theorem dX7_hills_295 : decode cX7_hills 295 = .ok (.iconst 0, 1) := by decide +kernel
theorem dX7_hills_296 : decode cX7_hills 296 = .ok (.putfield 235, 3) := by decide +kernel
theorem dX7_hills_299 : decode cX7_hills 299 = .ok (.aload_n 0, 1) := by decide +kernel
theorem dX7_hills_300 : decode cX7_hills 300 = .ok (.getfield 99, 3) := by decide +kernel
theorem dX7_hills_303 : decode cX7_hills 303 = .ok (.iconst 0, 1) := by decide +kernel
theorem dX7_hills_304 : decode cX7_hills 304 = .ok (.iconst 0, 1) := by decide +kernel
theorem dX7_hills_305 : decode cX7_hills 305 = .ok (.bastore, 1) := by decide +kernel
theorem dX7_hills_306 : decode cX7_hills 306 = .ok (.aload_n 0, 1) := by decide +kernel
theorem dX7_hills_307 : decode cX7_hills 307 = .ok (.getfield 99, 3) := by decide +kernel
theorem dX7_hills_310 : decode cX7_hills 310 = .ok (.iconst 1, 1) := by decide +kernel
theorem dX7_hills_311 : decode cX7_hills 311 = .ok (.iconst 0, 1) := by decide +kernel
theorem dX7_hills_312 : decode cX7_hills 312 = .ok (.bastore, 1) := by decide +kernel
theorem dX7_hills_313 : decode cX7_hills 313 = .ok (.aload_n 0, 1) := by decide +kernel
theorem dX7_hills_314 : decode cX7_hills 314 = .ok (.getfield 102, 3) := by decide +kernel
theorem dX7_hills_317 : decode cX7_hills 317 = .ok (.ireturn, 1) := by decide +kernel
