theorem dX7_areOver_0 : decode cX7_areOver 0 = .ok (.aload_n 0, 1) := by decide +kernel
theorem dX7_areOver_1 : decode cX7_areOver 1 = .ok (.iload_n 1, 1) := by decide +kernel
theorem dX7_areOver_2 : decode cX7_areOver 2 = .ok (.invokevirtual 297, 3) := by decide +kernel
theorem dX7_areOver_5 : decode cX7_areOver 5 = .ok (.istore_n 3, 1) := by decide +kernel
theorem dX7_areOver_6 : decode cX7_areOver 6 = .ok (.iconst 0, 1) := by decide +kernel
theorem dX7_areOver_7 : decode cX7_areOver 7 = .ok (.istore 4, 2) := by decide +kernel
theorem dX7_areOver_9 : decode cX7_areOver 9 = .ok (.iconst 0, 1) := by decide +kernel
theorem dX7_areOver_10 : decode cX7_areOver 10 = .ok (.istore 5, 2) := by decide +kernel
theorem dX7_areOver_12 : decode cX7_areOver 12 = .ok (.iload 5, 2) := by decide +kernel
theorem dX7_areOver_14 : decode cX7_areOver 14 = .ok (.aload_n 0, 1) := by decide +kernel
theorem dX7_areOver_15 : decode cX7_areOver 15 = .ok (.getfield 223, 3) := by decide +kernel
theorem dX7_areOver_18 : decode cX7_areOver 18 = .ok (.if_icmp .ge 44, 3) := by decide +kernel
theorem dX7_areOver_21 : decode cX7_areOver 21 = .ok (.iload_n 2, 1) := by decide +kernel
theorem dX7_areOver_22 : decode cX7_areOver 22 = .ok (.iload 5, 2) := by decide +kernel
theorem dX7_areOver_24 : decode cX7_areOver 24 = .ok (.invokestatic 184, 3) := by decide +kernel
theorem dX7_areOver_27 : decode cX7_areOver 27 = .ok (.ifCond .eq 25, 3) := by decide +kernel
theorem dX7_areOver_30 : decode cX7_areOver 30 = .ok (.aload_n 0, 1) := by decide +kernel
theorem dX7_areOver_31 : decode cX7_areOver 31 = .ok (.getfield 23, 3) := by decide +kernel
theorem dX7_areOver_34 : decode cX7_areOver 34 = .ok (.iload 5, 2) := by decide +kernel
theorem dX7_areOver_36 : decode cX7_areOver 36 = .ok (.iaload, 1) := by decide +kernel
theorem dX7_areOver_37 : decode cX7_areOver 37 = .ok (.iload 4, 2) := by decide +kernel
theorem dX7_areOver_39 : decode cX7_areOver 39 = .ok (.if_icmp .le 13, 3) := by decide +kernel
theorem dX7_areOver_42 : decode cX7_areOver 42 = .ok (.aload_n 0, 1) := by decide +kernel
theorem dX7_areOver_43 : decode cX7_areOver 43 = .ok (.getfield 23, 3) := by decide +kernel
theorem dX7_areOver_46 : decode cX7_areOver 46 = .ok (.iload 5, 2) := by decide +kernel
theorem dX7_areOver_48 : decode cX7_areOver 48 = .ok (.iaload, 1) := by decide +kernel
theorem dX7_areOver_49 : decode cX7_areOver 49 = .ok (.goto 5, 3) := by decide +kernel
theorem dX7_areOver_52 : decode cX7_areOver 52 = .ok (.iload 4, 2) := by decide +kernel
theorem dX7_areOver_54 : decode cX7_areOver 54 = .ok (.istore 4, 2) := by decide +kernel
theorem dX7_areOver_56 : decode cX7_areOver 56 = .ok (.iinc 5 1, 3) := by decide +kernel
theorem dX7_areOver_59 : decode cX7_areOver 59 = .ok (.goto (-47), 3) := by decide +kernel
theorem dX7_areOver_62 : decode cX7_areOver 62 = .ok (.iconst 1, 1) := by decide +kernel
theorem dX7_areOver_63 : decode cX7_areOver 63 = .ok (.istore 5, 2) := by decide +kernel
theorem dX7_areOver_65 : decode cX7_areOver 65 = .ok (.iconst 0, 1) := by decide +kernel
theorem dX7_areOver_66 : decode cX7_areOver 66 = .ok (.istore 6, 2) := by decide +kernel
theorem dX7_areOver_68 : decode cX7_areOver 68 = .ok (.iload 6, 2) := by decide +kernel
theorem dX7_areOver_70 : decode cX7_areOver 70 = .ok (.aload_n 0, 1) := by decide +kernel
theorem dX7_areOver_71 : decode cX7_areOver 71 = .ok (.getfield 102, 3) := by decide +kernel
theorem dX7_areOver_74 : decode cX7_areOver 74 = .ok (.if_icmp .ge 75, 3) := by decide +kernel
theorem dX7_areOver_77 : decode cX7_areOver 77 = .ok (.iload 4, 2) := by decide +kernel
theorem dX7_areOver_79 : decode cX7_areOver 79 = .ok (.aload_n 0, 1) := by decide +kernel
theorem dX7_areOver_80 : decode cX7_areOver 80 = .ok (.getfield 17, 3) := by decide +kernel
theorem dX7_areOver_83 : decode cX7_areOver 83 = .ok (.iload 6, 2) := by decide +kernel
theorem dX7_areOver_85 : decode cX7_areOver 85 = .ok (.iaload, 1) := by decide +kernel
theorem dX7_areOver_86 : decode cX7_areOver 86 = .ok (.if_icmp .le 17, 3) := by decide +kernel
theorem dX7_areOver_89 : decode cX7_areOver 89 = .ok (.aload_n 0, 1) := by decide +kernel
theorem dX7_areOver_90 : decode cX7_areOver 90 = .ok (.iload_n 1, 1) := by decide +kernel
theorem dX7_areOver_91 : decode cX7_areOver 91 = .ok (.iload 6, 2) := by decide +kernel
theorem dX7_areOver_93 : decode cX7_areOver 93 = .ok (.invokevirtual 238, 3) := by decide +kernel
theorem dX7_areOver_96 : decode cX7_areOver 96 = .ok (.ifCond .ne 7, 3) := by decide +kernel
theorem dX7_areOver_99 : decode cX7_areOver 99 = .ok (.iconst 1, 1) := by decide +kernel
theorem dX7_areOver_100 : decode cX7_areOver 100 = .ok (.goto 4, 3) := by decide +kernel
theorem dX7_areOver_103 : decode cX7_areOver 103 = .ok (.iconst 0, 1) := by decide +kernel
theorem dX7_areOver_104 : decode cX7_areOver 104 = .ok (.istore 7, 2) := by decide +kernel
theorem dX7_areOver_106 : decode cX7_areOver 106 = .ok (.iload 5, 2) := by decide +kernel
theorem dX7_areOver_108 : decode cX7_areOver 108 = .ok (.ifCond .eq 32, 3) := by decide +kernel
theorem dX7_areOver_111 : decode cX7_areOver 111 = .ok (.iload_n 3, 1) := by decide +kernel
theorem dX7_areOver_112 : decode cX7_areOver 112 = .ok (.iload 6, 2) := by decide +kernel
theorem dX7_areOver_114 : decode cX7_areOver 114 = .ok (.invokestatic 184, 3) := by decide +kernel
theorem dX7_areOver_117 : decode cX7_areOver 117 = .ok (.ifCond .eq 19, 3) := by decide +kernel
theorem dX7_areOver_120 : decode cX7_areOver 120 = .ok (.iload 7, 2) := by decide +kernel
theorem dX7_areOver_122 : decode cX7_areOver 122 = .ok (.ifCond .ne 14, 3) := by decide +kernel
theorem dX7_areOver_125 : decode cX7_areOver 125 = .ok (.aload_n 0, 1) := by decide +kernel
theorem dX7_areOver_126 : decode cX7_areOver 126 = .ok (.iload_n 1, 1) := by decide +kernel
theorem dX7_areOver_127 : decode cX7_areOver 127 = .ok (.iload 6, 2) := by decide +kernel
theorem dX7_areOver_129 : decode cX7_areOver 129 = .ok (.iload_n 3, 1) := by decide +kernel
theorem dX7_areOver_130 : decode cX7_areOver 130 = .ok (.invokevirtual 294, 3) := by decide +kernel
theorem dX7_areOver_133 : decode cX7_areOver 133 = .ok (.ifCond .eq 7, 3) := by decide +kernel
theorem dX7_areOver_136 : decode cX7_areOver 136 = .ok (.iconst 1, 1) := by decide +kernel
theorem dX7_areOver_137 : decode cX7_areOver 137 = .ok (.goto 4, 3) := by decide +kernel
theorem dX7_areOver_140 : decode cX7_areOver 140 = .ok (.iconst 0, 1) := by decide +kernel
theorem dX7_areOver_141 : decode cX7_areOver 141 = .ok (.istore 5, 2) := by decide +kernel
theorem dX7_areOver_143 : decode cX7_areOver 143 = .ok (.iinc 6 1, 3) := by decide +kernel
theorem dX7_areOver_146 : decode cX7_areOver 146 = .ok (.goto (-78), 3) := by decide +kernel
theorem dX7_areOver_149 : decode cX7_areOver 149 = .ok (.iload 5, 2) := by decide +kernel
theorem dX7_areOver_151 : decode cX7_areOver 151 = .ok (.ireturn, 1) := by decide +kernel
theorem dX7_hired_0 : decode cX7_hired 0 = .ok (.aload_n 0, 1) := by decide +kernel
theorem dX7_hired_1 : decode cX7_hired 1 = .ok (.iload_n 1, 1) := by decide +kernel
theorem dX7_hired_2 : decode cX7_hired 2 = .ok (.invokevirtual 241, 3) := by decide +kernel
theorem dX7_hired_5 : decode cX7_hired 5 = .ok (.ifCond .ne 6, 3) := by decide +kernel
theorem dX7_hired_8 : decode cX7_hired 8 = .ok (.ldc 244, 2) := by decide +kernel
theorem dX7_hired_10 : decode cX7_hired 10 = .ok (.ireturn, 1) := by decide +kernel
theorem dX7_hired_11 : decode cX7_hired 11 = .ok (.iload_n 2, 1) := by decide +kernel
theorem dX7_hired_12 : decode cX7_hired 12 = .ok (.i2l, 1) := by decide +kernel
theorem dX7_hired_13 : decode cX7_hired 13 = .ok (.lconst 0, 1) := by decide +kernel
theorem dX7_hired_14 : decode cX7_hired 14 = .ok (.lconst 1, 1) := by decide +kernel
theorem dX7_hired_15 : decode cX7_hired 15 = .ok (.invokestatic 108, 3) := by decide +kernel
theorem dX7_hired_18 : decode cX7_hired 18 = .ok (.ifCond .ne 6, 3) := by decide +kernel
theorem dX7_hired_21 : decode cX7_hired 21 = .ok (.ldc 118, 2) := by decide +kernel
theorem dX7_hired_23 : decode cX7_hired 23 = .ok (.ireturn, 1) := by decide +kernel
theorem dX7_hired_24 : decode cX7_hired 24 = .ok (.iconst (-1), 1) := by decide +kernel
theorem dX7_hired_25 : decode cX7_hired 25 = .ok (.istore_n 3, 1) := by decide +kernel
theorem dX7_hired_26 : decode cX7_hired 26 = .ok (.ldc_w 312, 3) := by decide +kernel
theorem dX7_hired_29 : decode cX7_hired 29 = .ok (.istore 4, 2) := by decide +kernel
theorem dX7_hired_31 : decode cX7_hired 31 = .ok (.iconst 0, 1) := by decide +kernel
theorem dX7_hired_32 : decode cX7_hired 32 = .ok (.istore 5, 2) := by decide +kernel
theorem dX7_hired_34 : decode cX7_hired 34 = .ok (.iload 5, 2) := by decide +kernel
theorem dX7_hired_36 : decode cX7_hired 36 = .ok (.iconst 1, 1) := by decide +kernel
theorem dX7_hired_37 : decode cX7_hired 37 = .ok (.aload_n 0, 1) := by decide +kernel
theorem dX7_hired_38 : decode cX7_hired 38 = .ok (.getfield 223, 3) := by decide +kernel
theorem dX7_hired_41 : decode cX7_hired 41 = .ok (.ishl, 1) := by decide +kernel
theorem dX7_hired_42 : decode cX7_hired 42 = .ok (.if_icmp .ge 80, 3) := by decide +kernel
theorem dX7_hired_45 : decode cX7_hired 45 = .ok (.iconst 0, 1) := by decide +kernel
theorem dX7_hired_46 : decode cX7_hired 46 = .ok (.istore 6, 2) := by decide +kernel
theorem dX7_hired_48 : decode cX7_hired 48 = .ok (.iconst 0, 1) := by decide +kernel
theorem dX7_hired_49 : decode cX7_hired 49 = .ok (.istore 7, 2) := by decide +kernel
theorem dX7_hired_51 : decode cX7_hired 51 = .ok (.iload 7, 2) := by decide +kernel
theorem dX7_hired_53 : decode cX7_hired 53 = .ok (.aload_n 0, 1) := by decide +kernel
theorem dX7_hired_54 : decode cX7_hired 54 = .ok (.getfield 223, 3) := by decide +kernel
theorem dX7_hired_57 : decode cX7_hired 57 = .ok (.if_icmp .ge 35, 3) := by decide +kernel
theorem dX7_hired_60 : decode cX7_hired 60 = .ok (.iload 6, 2) := by decide +kernel
theorem dX7_hired_62 : decode cX7_hired 62 = .ok (.iload 5, 2) := by decide +kernel
theorem dX7_hired_64 : decode cX7_hired 64 = .ok (.iload 7, 2) := by decide +kernel
theorem dX7_hired_66 : decode cX7_hired 66 = .ok (.invokestatic 184, 3) := by decide +kernel
theorem dX7_hired_69 : decode cX7_hired 69 = .ok (.ifCond .eq 13, 3) := by decide +kernel
theorem dX7_hired_72 : decode cX7_hired 72 = .ok (.aload_n 0, 1) := by decide +kernel
theorem dX7_hired_73 : decode cX7_hired 73 = .ok (.getfield 26, 3) := by decide +kernel
theorem dX7_hired_76 : decode cX7_hired 76 = .ok (.iload 7, 2) := by decide +kernel
theorem dX7_hired_78 : decode cX7_hired 78 = .ok (.iaload, 1) := by decide +kernel
theorem dX7_hired_79 : decode cX7_hired 79 = .ok (.goto 4, 3) := by decide +kernel
theorem dX7_hired_82 : decode cX7_hired 82 = .ok (.iconst 0, 1) := by decide +kernel
theorem dX7_hired_83 : decode cX7_hired 83 = .ok (.iadd, 1) := by decide +kernel
theorem dX7_hired_84 : decode cX7_hired 84 = .ok (.istore 6, 2) := by decide +kernel
theorem dX7_hired_86 : decode cX7_hired 86 = .ok (.iinc 7 1, 3) := by decide +kernel
theorem dX7_hired_89 : decode cX7_hired 89 = .ok (.goto (-38), 3) := by decide +kernel
theorem dX7_hired_92 : decode cX7_hired 92 = .ok (.iload 6, 2) := by decide +kernel
theorem dX7_hired_94 : decode cX7_hired 94 = .ok (.iload 4, 2) := by decide +kernel
theorem dX7_hired_96 : decode cX7_hired 96 = .ok (.if_icmp .ge 20, 3) := by decide +kernel
theorem dX7_hired_99 : decode cX7_hired 99 = .ok (.aload_n 0, 1) := by decide +kernel
theorem dX7_hired_100 : decode cX7_hired 100 = .ok (.iload_n 1, 1) := by decide +kernel
theorem dX7_hired_101 : decode cX7_hired 101 = .ok (.iload 5, 2) := by decide +kernel
theorem dX7_hired_103 : decode cX7_hired 103 = .ok (.invokevirtual 313, 3) := by decide +kernel
theorem dX7_hired_106 : decode cX7_hired 106 = .ok (.ifCond .eq 10, 3) := by decide +kernel
theorem dX7_hired_109 : decode cX7_hired 109 = .ok (.iload 5, 2) := by decide +kernel
theorem dX7_hired_111 : decode cX7_hired 111 = .ok (.istore_n 3, 1) := by decide +kernel
theorem dX7_hired_112 : decode cX7_hired 112 = .ok (.iload 6, 2) := by decide +kernel
theorem dX7_hired_114 : decode cX7_hired 114 = .ok (.istore 4, 2) := by decide +kernel
theorem dX7_hired_116 : decode cX7_hired 116 = .ok (.iinc 5 1, 3) := by decide +kernel
theorem dX7_hired_119 : decode cX7_hired 119 = .ok (.goto (-85), 3) := by decide +kernel
theorem dX7_hired_122 : decode cX7_hired 122 = .ok (.iload_n 3, 1) := by decide +kernel
theorem dX7_hired_123 : decode cX7_hired 123 = .ok (.ifCond .lt 8, 3) := by decide +kernel
theorem dX7_hired_126 : decode cX7_hired 126 = .ok (.iload_n 2, 1) := by decide +kernel
theorem dX7_hired_127 : decode cX7_hired 127 = .ok (.iconst 1, 1) := by decide +kernel
theorem dX7_hired_128 : decode cX7_hired 128 = .ok (.if_icmp .ne 7, 3) := by decide +kernel
theorem dX7_hired_131 : decode cX7_hired 131 = .ok (.iload_n 3, 1) := by decide +kernel
theorem dX7_hired_132 : decode cX7_hired 132 = .ok (.goto 5, 3) := by decide +kernel
theorem dX7_hired_135 : decode cX7_hired 135 = .ok (.iload 4, 2) := by decide +kernel
theorem dX7_hired_137 : decode cX7_hired 137 = .ok (.ireturn, 1) := by decide +kernel
theorem dX7_found_0 : decode cX7_found 0 = .ok (.iload_n 1, 1) := by decide +kernel
theorem dX7_found_1 : decode cX7_found 1 = .ok (.i2l, 1) := by decide +kernel
theorem dX7_found_2 : decode cX7_found 2 = .ok (.lconst 0, 1) := by decide +kernel
theorem dX7_found_3 : decode cX7_found 3 = .ok (.lconst 1, 1) := by decide +kernel
theorem dX7_found_4 : decode cX7_found 4 = .ok (.invokestatic 108, 3) := by decide +kernel
theorem dX7_found_7 : decode cX7_found 7 = .ok (.ifCond .ne 6, 3) := by decide +kernel
theorem dX7_found_10 : decode cX7_found 10 = .ok (.ldc 118, 2) := by decide +kernel
theorem dX7_found_12 : decode cX7_found 12 = .ok (.ireturn, 1) := by decide +kernel
theorem dX7_found_13 : decode cX7_found 13 = .ok (.iconst 0, 1) := by decide +kernel
theorem dX7_found_14 : decode cX7_found 14 = .ok (.istore_n 2, 1) := by decide +kernel
theorem dX7_found_15 : decode cX7_found 15 = .ok (.iconst 0, 1) := by decide +kernel
theorem dX7_found_16 : decode cX7_found 16 = .ok (.istore_n 3, 1) := by decide +kernel
theorem dX7_found_17 : decode cX7_found 17 = .ok (.iconst 0, 1) := by decide +kernel
theorem dX7_found_18 : decode cX7_found 18 = .ok (.istore 4, 2) := by decide +kernel
theorem dX7_found_20 : decode cX7_found 20 = .ok (.iload 4, 2) := by decide +kernel
theorem dX7_found_22 : decode cX7_found 22 = .ok (.aload_n 0, 1) := by decide +kernel
theorem dX7_found_23 : decode cX7_found 23 = .ok (.getfield 102, 3) := by decide +kernel
theorem dX7_found_26 : decode cX7_found 26 = .ok (.if_icmp .ge 119, 3) := by decide +kernel
theorem dX7_found_29 : decode cX7_found 29 = .ok (.bipush (-2), 2) := by decide +kernel
theorem dX7_found_31 : decode cX7_found 31 = .ok (.istore 5, 2) := by decide +kernel
theorem dX7_found_33 : decode cX7_found 33 = .ok (.iconst 0, 1) := by decide +kernel
theorem dX7_found_34 : decode cX7_found 34 = .ok (.istore 6, 2) := by decide +kernel
theorem dX7_found_36 : decode cX7_found 36 = .ok (.iload 6, 2) := by decide +kernel
theorem dX7_found_38 : decode cX7_found 38 = .ok (.aload_n 0, 1) := by decide +kernel
theorem dX7_found_39 : decode cX7_found 39 = .ok (.getfield 105, 3) := by decide +kernel
theorem dX7_found_42 : decode cX7_found 42 = .ok (.if_icmp .ge 97, 3) := by decide +kernel
theorem dX7_found_45 : decode cX7_found 45 = .ok (.aload_n 0, 1) := by decide +kernel
theorem dX7_found_46 : decode cX7_found 46 = .ok (.getfield 35, 3) := by decide +kernel
theorem dX7_found_49 : decode cX7_found 49 = .ok (.bipush 6, 2) := by decide +kernel
theorem dX7_found_51 : decode cX7_found 51 = .ok (.iload 6, 2) := by decide +kernel
theorem dX7_found_53 : decode cX7_found 53 = .ok (.imul, 1) := by decide +kernel
theorem dX7_found_54 : decode cX7_found 54 = .ok (.iload 4, 2) := by decide +kernel
theorem dX7_found_56 : decode cX7_found 56 = .ok (.iadd, 1) := by decide +kernel
theorem dX7_found_57 : decode cX7_found 57 = .ok (.iaload, 1) := by decide +kernel
theorem dX7_found_58 : decode cX7_found 58 = .ok (.istore 7, 2) := by decide +kernel
theorem dX7_found_60 : decode cX7_found 60 = .ok (.aload_n 0, 1) := by decide +kernel
theorem dX7_found_61 : decode cX7_found 61 = .ok (.getfield 32, 3) := by decide +kernel
theorem dX7_found_64 : decode cX7_found 64 = .ok (.iload 6, 2) := by decide +kernel
theorem dX7_found_66 : decode cX7_found 66 = .ok (.iaload, 1) := by decide +kernel
theorem dX7_found_67 : decode cX7_found 67 = .ok (.iload 4, 2) := by decide +kernel
theorem dX7_found_69 : decode cX7_found 69 = .ok (.invokestatic 184, 3) := by decide +kernel
theorem dX7_found_72 : decode cX7_found 72 = .ok (.ifCond .eq 61, 3) := by decide +kernel
theorem dX7_found_75 : decode cX7_found 75 = .ok (.iload_n 2, 1) := by decide +kernel
theorem dX7_found_76 : decode cX7_found 76 = .ok (.iload 5, 2) := by decide +kernel
theorem dX7_found_78 : decode cX7_found 78 = .ok (.bipush (-2), 2) := by decide +kernel
theorem dX7_found_80 : decode cX7_found 80 = .ok (.if_icmp .eq 17, 3) := by decide +kernel
theorem dX7_found_83 : decode cX7_found 83 = .ok (.iload 5, 2) := by decide +kernel
theorem dX7_found_85 : decode cX7_found 85 = .ok (.iload 7, 2) := by decide +kernel
theorem dX7_found_87 : decode cX7_found 87 = .ok (.if_icmp .eq 10, 3) := by decide +kernel
theorem dX7_found_90 : decode cX7_found 90 = .ok (.iconst 1, 1) := by decide +kernel
theorem dX7_found_91 : decode cX7_found 91 = .ok (.iload 4, 2) := by decide +kernel
theorem dX7_found_93 : decode cX7_found 93 = .ok (.ishl, 1) := by decide +kernel
theorem dX7_found_94 : decode cX7_found 94 = .ok (.goto 4, 3) := by decide +kernel
theorem dX7_found_97 : decode cX7_found 97 = .ok (.iconst 0, 1) := by decide +kernel
theorem dX7_found_98 : decode cX7_found 98 = .ok (.ior, 1) := by decide +kernel
theorem dX7_found_99 : decode cX7_found 99 = .ok (.istore_n 2, 1) := by decide +kernel
theorem dX7_found_100 : decode cX7_found 100 = .ok (.iload 7, 2) := by decide +kernel
theorem dX7_found_102 : decode cX7_found 102 = .ok (.istore 5, 2) := by decide +kernel
theorem dX7_found_104 : decode cX7_found 104 = .ok (.iload_n 3, 1) := by decide +kernel
theorem dX7_found_105 : decode cX7_found 105 = .ok (.iload 7, 2) := by decide +kernel
theorem dX7_found_107 : decode cX7_found 107 = .ok (.iconst (-1), 1) := by decide +kernel
theorem dX7_found_108 : decode cX7_found 108 = .ok (.if_icmp .eq 22, 3) := by decide +kernel
theorem dX7_found_111 : decode cX7_found 111 = .ok (.aload_n 0, 1) := by decide +kernel
theorem dX7_found_112 : decode cX7_found 112 = .ok (.getfield 226, 3) := by decide +kernel
theorem dX7_found_115 : decode cX7_found 115 = .ok (.iload 7, 2) := by decide +kernel
theorem dX7_found_117 : decode cX7_found 117 = .ok (.invokestatic 184, 3) := by decide +kernel
theorem dX7_found_120 : decode cX7_found 120 = .ok (.ifCond .ne 10, 3) := by decide +kernel
theorem dX7_found_123 : decode cX7_found 123 = .ok (.iconst 1, 1) := by decide +kernel
theorem dX7_found_124 : decode cX7_found 124 = .ok (.iload 4, 2) := by decide +kernel
theorem dX7_found_126 : decode cX7_found 126 = .ok (.ishl, 1) := by decide +kernel
theorem dX7_found_127 : decode cX7_found 127 = .ok (.goto 4, 3) := by decide +kernel
theorem dX7_found_130 : decode cX7_found 130 = .ok (.iconst 0, 1) := by decide +kernel
theorem dX7_found_131 : decode cX7_found 131 = .ok (.ior, 1) := by decide +kernel
theorem dX7_found_132 : decode cX7_found 132 = .ok (.istore_n 3, 1) := by decide +kernel
theorem dX7_found_133 : decode cX7_found 133 = .ok (.iinc 6 1, 3) := by decide +kernel
theorem dX7_found_136 : decode cX7_found 136 = .ok (.goto (-100), 3) := by decide +kernel
theorem dX7_found_139 : decode cX7_found 139 = .ok (.iinc 4 1, 3) := by decide +kernel
theorem dX7_found_142 : decode cX7_found 142 = .ok (.goto (-122), 3) := by decide +kernel
theorem dX7_found_145 : decode cX7_found 145 = .ok (.iload_n 1, 1) := by decide +kernel
theorem dX7_found_146 : decode cX7_found 146 = .ok (.ifCond .ne 7, 3) := by decide +kernel
theorem dX7_found_149 : decode cX7_found 149 = .ok (.iload_n 2, 1) := by decide +kernel
theorem dX7_found_150 : decode cX7_found 150 = .ok (.goto 4, 3) := by decide +kernel
theorem dX7_found_153 : decode cX7_found 153 = .ok (.iload_n 3, 1) := by decide +kernel
theorem dX7_found_154 : decode cX7_found 154 = .ok (.ireturn, 1) := by decide +kernel
theorem dX7_whom_0 : decode cX7_whom 0 = .ok (.aload_n 0, 1) := by decide +kernel
theorem dX7_whom_1 : decode cX7_whom 1 = .ok (.iload_n 1, 1) := by decide +kernel
theorem dX7_whom_2 : decode cX7_whom 2 = .ok (.invokevirtual 241, 3) := by decide +kernel
theorem dX7_whom_5 : decode cX7_whom 5 = .ok (.ifCond .eq 11, 3) := by decide +kernel
theorem dX7_whom_8 : decode cX7_whom 8 = .ok (.aload_n 0, 1) := by decide +kernel
theorem dX7_whom_9 : decode cX7_whom 9 = .ok (.iload_n 2, 1) := by decide +kernel
theorem dX7_whom_10 : decode cX7_whom 10 = .ok (.invokevirtual 112, 3) := by decide +kernel
theorem dX7_whom_13 : decode cX7_whom 13 = .ok (.ifCond .ne 6, 3) := by decide +kernel
theorem dX7_whom_16 : decode cX7_whom 16 = .ok (.ldc 244, 2) := by decide +kernel
theorem dX7_whom_18 : decode cX7_whom 18 = .ok (.ireturn, 1) := by decide +kernel
theorem dX7_whom_19 : decode cX7_whom 19 = .ok (.aload_n 0, 1) := by decide +kernel
theorem dX7_whom_20 : decode cX7_whom 20 = .ok (.iload_n 1, 1) := by decide +kernel
theorem dX7_whom_21 : decode cX7_whom 21 = .ok (.invokevirtual 297, 3) := by decide +kernel
theorem dX7_whom_24 : decode cX7_whom 24 = .ok (.iload_n 2, 1) := by decide +kernel
theorem dX7_whom_25 : decode cX7_whom 25 = .ok (.invokestatic 184, 3) := by decide +kernel
theorem dX7_whom_28 : decode cX7_whom 28 = .ok (.ifCond .ne 6, 3) := by decide +kernel
theorem dX7_whom_31 : decode cX7_whom 31 = .ok (.ldc 249, 2) := by decide +kernel
theorem dX7_whom_33 : decode cX7_whom 33 = .ok (.ireturn, 1) := by decide +kernel
theorem dX7_whom_34 : decode cX7_whom 34 = .ok (.aload_n 0, 1) := by decide +kernel
theorem dX7_whom_35 : decode cX7_whom 35 = .ok (.iload_n 1, 1) := by decide +kernel
theorem dX7_whom_36 : decode cX7_whom 36 = .ok (.iload_n 2, 1) := by decide +kernel
theorem dX7_whom_37 : decode cX7_whom 37 = .ok (.aload_n 0, 1) := by decide +kernel
theorem dX7_whom_38 : decode cX7_whom 38 = .ok (.getfield 226, 3) := by decide +kernel
theorem dX7_whom_41 : decode cX7_whom 41 = .ok (.invokevirtual 291, 3) := by decide +kernel
theorem dX7_whom_44 : decode cX7_whom 44 = .ok (.istore_n 3, 1) := by decide +kernel
theorem dX7_whom_45 : decode cX7_whom 45 = .ok (.iconst (-1), 1) := by decide +kernel
theorem dX7_whom_46 : decode cX7_whom 46 = .ok (.istore 4, 2) := by decide +kernel
theorem dX7_whom_48 : decode cX7_whom 48 = .ok (.iconst 0, 1) := by decide +kernel
theorem dX7_whom_49 : decode cX7_whom 49 = .ok (.istore 5, 2) := by decide +kernel
theorem dX7_whom_51 : decode cX7_whom 51 = .ok (.iload 5, 2) := by decide +kernel
theorem dX7_whom_53 : decode cX7_whom 53 = .ok (.aload_n 0, 1) := by decide +kernel
theorem dX7_whom_54 : decode cX7_whom 54 = .ok (.getfield 102, 3) := by decide +kernel
theorem dX7_whom_57 : decode cX7_whom 57 = .ok (.if_icmp .ge 49, 3) := by decide +kernel
theorem dX7_whom_60 : decode cX7_whom 60 = .ok (.iload_n 3, 1) := by decide +kernel
theorem dX7_whom_61 : decode cX7_whom 61 = .ok (.iload 5, 2) := by decide +kernel
theorem dX7_whom_63 : decode cX7_whom 63 = .ok (.invokestatic 184, 3) := by decide +kernel
theorem dX7_whom_66 : decode cX7_whom 66 = .ok (.ifCond .eq 30, 3) := by decide +kernel
theorem dX7_whom_69 : decode cX7_whom 69 = .ok (.iload 4, 2) := by decide +kernel
theorem dX7_whom_71 : decode cX7_whom 71 = .ok (.ifCond .lt 20, 3) := by decide +kernel
theorem dX7_whom_74 : decode cX7_whom 74 = .ok (.aload_n 0, 1) := by decide +kernel
theorem dX7_whom_75 : decode cX7_whom 75 = .ok (.getfield 20, 3) := by decide +kernel
theorem dX7_whom_78 : decode cX7_whom 78 = .ok (.iload 5, 2) := by decide +kernel
theorem dX7_whom_80 : decode cX7_whom 80 = .ok (.iaload, 1) := by decide +kernel
theorem dX7_whom_81 : decode cX7_whom 81 = .ok (.aload_n 0, 1) := by decide +kernel
theorem dX7_whom_82 : decode cX7_whom 82 = .ok (.getfield 20, 3) := by decide +kernel
theorem dX7_whom_85 : decode cX7_whom 85 = .ok (.iload 4, 2) := by decide +kernel
theorem dX7_whom_87 : decode cX7_whom 87 = .ok (.iaload, 1) := by decide +kernel
theorem dX7_whom_88 : decode cX7_whom 88 = .ok (.if_icmp .le 8, 3) := by decide +kernel
theorem dX7_whom_91 : decode cX7_whom 91 = .ok (.iload 5, 2) := by decide +kernel
theorem dX7_whom_93 : decode cX7_whom 93 = .ok (.goto 5, 3) := by decide +kernel
theorem dX7_whom_96 : decode cX7_whom 96 = .ok (.iload 4, 2) := by decide +kernel
theorem dX7_whom_98 : decode cX7_whom 98 = .ok (.istore 4, 2) := by decide +kernel
theorem dX7_whom_100 : decode cX7_whom 100 = .ok (.iinc 5 1, 3) := by decide +kernel
theorem dX7_whom_103 : decode cX7_whom 103 = .ok (.goto (-52), 3) := by decide +kernel
theorem dX7_whom_106 : decode cX7_whom 106 = .ok (.iload 4, 2) := by decide +kernel
theorem dX7_whom_108 : decode cX7_whom 108 = .ok (.ireturn, 1) := by decide +kernel
theorem dX7_see_0 : decode cX7_see 0 = .ok (.aload_n 0, 1) := by decide +kernel
theorem dX7_see_1 : decode cX7_see 1 = .ok (.iload_n 1, 1) := by decide +kernel
theorem dX7_see_2 : decode cX7_see 2 = .ok (.invokevirtual 112, 3) := by decide +kernel
theorem dX7_see_5 : decode cX7_see 5 = .ok (.ifCond .eq 16, 3) := by decide +kernel
theorem dX7_see_8 : decode cX7_see 8 = .ok (.aload_n 0, 1) := by decide +kernel
theorem dX7_see_9 : decode cX7_see 9 = .ok (.iload_n 2, 1) := by decide +kernel
theorem dX7_see_10 : decode cX7_see 10 = .ok (.invokevirtual 112, 3) := by decide +kernel
theorem dX7_see_13 : decode cX7_see 13 = .ok (.ifCond .eq 8, 3) := by decide +kernel
theorem dX7_see_16 : decode cX7_see 16 = .ok (.iload_n 1, 1) := by decide +kernel
theorem dX7_see_17 : decode cX7_see 17 = .ok (.iload_n 2, 1) := by decide +kernel
theorem dX7_see_18 : decode cX7_see 18 = .ok (.if_icmp .ne 6, 3) := by decide +kernel
theorem dX7_see_21 : decode cX7_see 21 = .ok (.ldc 244, 2) := by decide +kernel
theorem dX7_see_23 : decode cX7_see 23 = .ok (.ireturn, 1) := by decide +kernel
theorem dX7_see_24 : decode cX7_see 24 = .ok (.aload_n 0, 1) := by decide +kernel
theorem dX7_see_25 : decode cX7_see 25 = .ok (.getfield 232, 3) := by decide +kernel
theorem dX7_see_28 : decode cX7_see 28 = .ok (.bipush 20, 2) := by decide +kernel
theorem dX7_see_30 : decode cX7_see 30 = .ok (.if_icmp .ne 6, 3) := by decide +kernel
theorem dX7_see_33 : decode cX7_see 33 = .ok (.ldc 122, 2) := by decide +kernel
theorem dX7_see_35 : decode cX7_see 35 = .ok (.ireturn, 1) := by decide +kernel
theorem dX7_see_36 : decode cX7_see 36 = .ok (.aload_n 0, 1) := by decide +kernel
theorem dX7_see_37 : decode cX7_see 37 = .ok (.getfield 74, 3) := by decide +kernel
theorem dX7_see_40 : decode cX7_see 40 = .ok (.aload_n 0, 1) := by decide +kernel
theorem dX7_see_41 : decode cX7_see 41 = .ok (.getfield 232, 3) := by decide +kernel
theorem dX7_see_44 : decode cX7_see 44 = .ok (.iload_n 1, 1) := by decide +kernel
theorem dX7_see_45 : decode cX7_see 45 = .ok (.iastore, 1) := by decide +kernel
theorem dX7_see_46 : decode cX7_see 46 = .ok (.aload_n 0, 1) := by decide +kernel
theorem dX7_see_47 : decode cX7_see 47 = .ok (.getfield 77, 3) := by decide +kernel
theorem dX7_see_50 : decode cX7_see 50 = .ok (.aload_n 0, 1) := by decide +kernel
theorem dX7_see_51 : decode cX7_see 51 = .ok (.getfield 232, 3) := by decide +kernel
theorem dX7_see_54 : decode cX7_see 54 = .ok (.iload_n 2, 1) := by decide +kernel
theorem dX7_see_55 : decode cX7_see 55 = .ok (.iastore, 1) := by decide +kernel
theorem dX7_see_56 : decode cX7_see 56 = .ok (.aload_n 0, 1) := by decide +kernel
theorem dX7_see_57 : decode cX7_see 57 = .ok (.getfield 80, 3) := by decide +kernel
theorem dX7_see_60 : decode cX7_see 60 = .ok (.aload_n 0, 1) := by decide +kernel
theorem dX7_see_61 : decode cX7_see 61 = .ok (.getfield 232, 3) := by decide +kernel
theorem dX7_see_64 : decode cX7_see 64 = .ok (.iload_n 3, 1) := by decide +kernel
theorem dX7_see_65 : decode cX7_see 65 = .ok (.bastore, 1) := by decide +kernel
theorem dX7_see_66 : decode cX7_see 66 = .ok (.aload_n 0, 1) := by decide +kernel
theorem dX7_see_67 : decode cX7_see 67 = .ok (.dup, 1) := by decide +kernel
theorem dX7_see_68 : decode cX7_see 68 = .ok (.getfield 232, 3) := by decide +kernel
theorem dX7_see_71 : decode cX7_see 71 = .ok (.iconst 1, 1) := by decide +kernel
theorem dX7_see_72 : decode cX7_see 72 = .ok (.iadd, 1) := by decide +kernel
theorem dX7_see_73 : decode cX7_see 73 = .ok (.putfield 232, 3) := by decide +kernel
theorem dX7_see_76 : decode cX7_see 76 = .ok (.aload_n 0, 1) := by decide +kernel
theorem dX7_see_77 : decode cX7_see 77 = .ok (.getfield 232, 3) := by decide +kernel
theorem dX7_see_80 : decode cX7_see 80 = .ok (.ireturn, 1) := by decide +kernel
theorem dX7_setPlaces_0 : decode cX7_setPlaces 0 = .ok (.iload_n 1, 1) := by decide +kernel
theorem dX7_setPlaces_1 : decode cX7_setPlaces 1 = .ok (.istore_n 2, 1) := by decide +kernel
theorem dX7_setPlaces_2 : decode cX7_setPlaces 2 = .ok (.iconst 0, 1) := by decide +kernel
theorem dX7_setPlaces_3 : decode cX7_setPlaces 3 = .ok (.istore_n 3, 1) := by decide +kernel
theorem dX7_setPlaces_4 : decode cX7_setPlaces 4 = .ok (.iconst 0, 1) := by decide +kernel
theorem dX7_setPlaces_5 : decode cX7_setPlaces 5 = .ok (.istore 4, 2) := by decide +kernel
theorem dX7_setPlaces_7 : decode cX7_setPlaces 7 = .ok (.iload 4, 2) := by decide +kernel
theorem dX7_setPlaces_9 : decode cX7_setPlaces 9 = .ok (.aload_n 0, 1) := by decide +kernel
theorem dX7_setPlaces_10 : decode cX7_setPlaces 10 = .ok (.getfield 102, 3) := by decide +kernel
theorem dX7_setPlaces_13 : decode cX7_setPlaces 13 = .ok (.if_icmp .ge 41, 3) := by decide +kernel
theorem dX7_setPlaces_16 : decode cX7_setPlaces 16 = .ok (.aload_n 0, 1) := by decide +kernel
theorem dX7_setPlaces_17 : decode cX7_setPlaces 17 = .ok (.getfield 84, 3) := by decide +kernel
theorem dX7_setPlaces_20 : decode cX7_setPlaces 20 = .ok (.iload 4, 2) := by decide +kernel
theorem dX7_setPlaces_22 : decode cX7_setPlaces 22 = .ok (.iload_n 2, 1) := by decide +kernel
theorem dX7_setPlaces_23 : decode cX7_setPlaces 23 = .ok (.aload_n 0, 1) := by decide +kernel
theorem dX7_setPlaces_24 : decode cX7_setPlaces 24 = .ok (.getfield 102, 3) := by decide +kernel
theorem dX7_setPlaces_27 : decode cX7_setPlaces 27 = .ok (.irem, 1) := by decide +kernel
theorem dX7_setPlaces_28 : decode cX7_setPlaces 28 = .ok (.iastore, 1) := by decide +kernel
theorem dX7_setPlaces_29 : decode cX7_setPlaces 29 = .ok (.iload_n 2, 1) := by decide +kernel
theorem dX7_setPlaces_30 : decode cX7_setPlaces 30 = .ok (.aload_n 0, 1) := by decide +kernel
theorem dX7_setPlaces_31 : decode cX7_setPlaces 31 = .ok (.getfield 102, 3) := by decide +kernel
theorem dX7_setPlaces_34 : decode cX7_setPlaces 34 = .ok (.idiv, 1) := by decide +kernel
theorem dX7_setPlaces_35 : decode cX7_setPlaces 35 = .ok (.istore_n 2, 1) := by decide +kernel
theorem dX7_setPlaces_36 : decode cX7_setPlaces 36 = .ok (.iload_n 3, 1) := by decide +kernel
theorem dX7_setPlaces_37 : decode cX7_setPlaces 37 = .ok (.iconst 1, 1) := by decide +kernel
theorem dX7_setPlaces_38 : decode cX7_setPlaces 38 = .ok (.aload_n 0, 1) := by decide +kernel
theorem dX7_setPlaces_39 : decode cX7_setPlaces 39 = .ok (.getfield 84, 3) := by decide +kernel
theorem dX7_setPlaces_42 : decode cX7_setPlaces 42 = .ok (.iload 4, 2) := by decide +kernel
theorem dX7_setPlaces_44 : decode cX7_setPlaces 44 = .ok (.iaload, 1) := by decide +kernel
theorem dX7_setPlaces_45 : decode cX7_setPlaces 45 = .ok (.ishl, 1) := by decide +kernel
theorem dX7_setPlaces_46 : decode cX7_setPlaces 46 = .ok (.ior, 1) := by decide +kernel
theorem dX7_setPlaces_47 : decode cX7_setPlaces 47 = .ok (.istore_n 3, 1) := by decide +kernel
theorem dX7_setPlaces_48 : decode cX7_setPlaces 48 = .ok (.iinc 4 1, 3) := by decide +kernel
theorem dX7_setPlaces_51 : decode cX7_setPlaces 51 = .ok (.goto (-44), 3) := by decide +kernel
theorem dX7_setPlaces_54 : decode cX7_setPlaces 54 = .ok (.iload_n 3, 1) := by decide +kernel
theorem dX7_setPlaces_55 : decode cX7_setPlaces 55 = .ok (.iconst 1, 1) := by decide +kernel
theorem dX7_setPlaces_56 : decode cX7_setPlaces 56 = .ok (.aload_n 0, 1) := by decide +kernel
theorem dX7_setPlaces_57 : decode cX7_setPlaces 57 = .ok (.getfield 102, 3) := by decide +kernel
theorem dX7_setPlaces_60 : decode cX7_setPlaces 60 = .ok (.ishl, 1) := by decide +kernel
theorem dX7_setPlaces_61 : decode cX7_setPlaces 61 = .ok (.iconst 1, 1) := by decide +kernel
theorem dX7_setPlaces_62 : decode cX7_setPlaces 62 = .ok (.isub, 1) := by decide +kernel
theorem dX7_setPlaces_63 : decode cX7_setPlaces 63 = .ok (.if_icmp .ne 7, 3) := by decide +kernel
theorem dX7_setPlaces_66 : decode cX7_setPlaces 66 = .ok (.iconst 1, 1) := by decide +kernel
theorem dX7_setPlaces_67 : decode cX7_setPlaces 67 = .ok (.goto 4, 3) := by decide +kernel
theorem dX7_setPlaces_70 : decode cX7_setPlaces 70 = .ok (.iconst 0, 1) := by decide +kernel
theorem dX7_setPlaces_71 : decode cX7_setPlaces 71 = .ok (.ireturn, 1) := by decide +kernel
theorem dX7_isAsSeen_0 : decode cX7_isAsSeen 0 = .ok (.iconst 1, 1) := by decide +kernel
theorem dX7_isAsSeen_1 : decode cX7_isAsSeen 1 = .ok (.istore_n 1, 1) := by decide +kernel
theorem dX7_isAsSeen_2 : decode cX7_isAsSeen 2 = .ok (.iconst 0, 1) := by decide +kernel
theorem dX7_isAsSeen_3 : decode cX7_isAsSeen 3 = .ok (.istore_n 2, 1) := by decide +kernel
theorem dX7_isAsSeen_4 : decode cX7_isAsSeen 4 = .ok (.iload_n 2, 1) := by decide +kernel
theorem dX7_isAsSeen_5 : decode cX7_isAsSeen 5 = .ok (.aload_n 0, 1) := by decide +kernel
theorem dX7_isAsSeen_6 : decode cX7_isAsSeen 6 = .ok (.getfield 232, 3) := by decide +kernel
theorem dX7_isAsSeen_9 : decode cX7_isAsSeen 9 = .ok (.if_icmp .ge 60, 3) := by decide +kernel
theorem dX7_isAsSeen_12 : decode cX7_isAsSeen 12 = .ok (.aload_n 0, 1) := by decide +kernel
theorem dX7_isAsSeen_13 : decode cX7_isAsSeen 13 = .ok (.getfield 84, 3) := by decide +kernel
theorem dX7_isAsSeen_16 : decode cX7_isAsSeen 16 = .ok (.aload_n 0, 1) := by decide +kernel
theorem dX7_isAsSeen_17 : decode cX7_isAsSeen 17 = .ok (.getfield 77, 3) := by decide +kernel
theorem dX7_isAsSeen_20 : decode cX7_isAsSeen 20 = .ok (.iload_n 2, 1) := by decide +kernel
theorem dX7_isAsSeen_21 : decode cX7_isAsSeen 21 = .ok (.iaload, 1) := by decide +kernel
theorem dX7_isAsSeen_22 : decode cX7_isAsSeen 22 = .ok (.iaload, 1) := by decide +kernel
theorem dX7_isAsSeen_23 : decode cX7_isAsSeen 23 = .ok (.aload_n 0, 1) := by decide +kernel
theorem dX7_isAsSeen_24 : decode cX7_isAsSeen 24 = .ok (.getfield 84, 3) := by decide +kernel
theorem dX7_isAsSeen_27 : decode cX7_isAsSeen 27 = .ok (.aload_n 0, 1) := by decide +kernel
theorem dX7_isAsSeen_28 : decode cX7_isAsSeen 28 = .ok (.getfield 74, 3) := by decide +kernel
theorem dX7_isAsSeen_31 : decode cX7_isAsSeen 31 = .ok (.iload_n 2, 1) := by decide +kernel
theorem dX7_isAsSeen_32 : decode cX7_isAsSeen 32 = .ok (.iaload, 1) := by decide +kernel
theorem dX7_isAsSeen_33 : decode cX7_isAsSeen 33 = .ok (.iaload, 1) := by decide +kernel
theorem dX7_isAsSeen_34 : decode cX7_isAsSeen 34 = .ok (.if_icmp .le 7, 3) := by decide +kernel
theorem dX7_isAsSeen_37 : decode cX7_isAsSeen 37 = .ok (.iconst 1, 1) := by decide +kernel
theorem dX7_isAsSeen_38 : decode cX7_isAsSeen 38 = .ok (.goto 4, 3) := by decide +kernel
theorem dX7_isAsSeen_41 : decode cX7_isAsSeen 41 = .ok (.iconst 0, 1) := by decide +kernel
theorem dX7_isAsSeen_42 : decode cX7_isAsSeen 42 = .ok (.istore_n 3, 1) := by decide +kernel
theorem dX7_isAsSeen_43 : decode cX7_isAsSeen 43 = .ok (.iload_n 1, 1) := by decide +kernel
theorem dX7_isAsSeen_44 : decode cX7_isAsSeen 44 = .ok (.ifCond .eq 17, 3) := by decide +kernel
theorem dX7_isAsSeen_47 : decode cX7_isAsSeen 47 = .ok (.iload_n 3, 1) := by decide +kernel
theorem dX7_isAsSeen_48 : decode cX7_isAsSeen 48 = .ok (.aload_n 0, 1) := by decide +kernel
theorem dX7_isAsSeen_49 : decode cX7_isAsSeen 49 = .ok (.getfield 80, 3) := by decide +kernel
theorem dX7_isAsSeen_52 : decode cX7_isAsSeen 52 = .ok (.iload_n 2, 1) := by decide +kernel
theorem dX7_isAsSeen_53 : decode cX7_isAsSeen 53 = .ok (.baload, 1) := by decide +kernel
theorem dX7_isAsSeen_54 : decode cX7_isAsSeen 54 = .ok (.if_icmp .ne 7, 3) := by decide +kernel
theorem dX7_isAsSeen_57 : decode cX7_isAsSeen 57 = .ok (.iconst 1, 1) := by decide +kernel
theorem dX7_isAsSeen_58 : decode cX7_isAsSeen 58 = .ok (.goto 4, 3) := by decide +kernel
theorem dX7_isAsSeen_61 : decode cX7_isAsSeen 61 = .ok (.iconst 0, 1) := by decide +kernel
theorem dX7_isAsSeen_62 : decode cX7_isAsSeen 62 = .ok (.istore_n 1, 1) := by decide +kernel
theorem dX7_isAsSeen_63 : decode cX7_isAsSeen 63 = .ok (.iinc 2 1, 3) := by decide +kernel
theorem dX7_isAsSeen_66 : decode cX7_isAsSeen 66 = .ok (.goto (-62), 3) := by decide +kernel
theorem dX7_isAsSeen_69 : decode cX7_isAsSeen 69 = .ok (.iload_n 1, 1) := by decide +kernel
theorem dX7_isAsSeen_70 : decode cX7_isAsSeen 70 = .ok (.ireturn, 1) := by decide +kernel
theorem dX7_findOrders_0 : decode cX7_findOrders 0 = .ok (.iconst 1, 1) := by decide +kernel
theorem dX7_findOrders_1 : decode cX7_findOrders 1 = .ok (.istore_n 1, 1) := by decide +kernel
theorem dX7_findOrders_2 : decode cX7_findOrders 2 = .ok (.iconst 0, 1) := by decide +kernel
theorem dX7_findOrders_3 : decode cX7_findOrders 3 = .ok (.istore_n 2, 1) := by decide +kernel
theorem dX7_findOrders_4 : decode cX7_findOrders 4 = .ok (.iload_n 2, 1) := by decide +kernel
theorem dX7_findOrders_5 : decode cX7_findOrders 5 = .ok (.aload_n 0, 1) := by decide +kernel
theorem dX7_findOrders_6 : decode cX7_findOrders 6 = .ok (.getfield 102, 3) := by decide +kernel
theorem dX7_findOrders_9 : decode cX7_findOrders 9 = .ok (.if_icmp .ge 30, 3) := by decide +kernel
theorem dX7_findOrders_12 : decode cX7_findOrders 12 = .ok (.iload_n 1, 1) := by decide +kernel
theorem dX7_findOrders_13 : decode cX7_findOrders 13 = .ok (.aload_n 0, 1) := by decide +kernel
theorem dX7_findOrders_14 : decode cX7_findOrders 14 = .ok (.getfield 102, 3) := by decide +kernel
theorem dX7_findOrders_17 : decode cX7_findOrders 17 = .ok (.imul, 1) := by decide +kernel
theorem dX7_findOrders_18 : decode cX7_findOrders 18 = .ok (.istore_n 1, 1) := by decide +kernel
theorem dX7_findOrders_19 : decode cX7_findOrders 19 = .ok (.aload_n 0, 1) := by decide +kernel
theorem dX7_findOrders_20 : decode cX7_findOrders 20 = .ok (.getfield 87, 3) := by decide +kernel
theorem dX7_findOrders_23 : decode cX7_findOrders 23 = .ok (.iload_n 2, 1) := by decide +kernel
theorem dX7_findOrders_24 : decode cX7_findOrders 24 = .ok (.iconst 1, 1) := by decide +kernel
theorem dX7_findOrders_25 : decode cX7_findOrders 25 = .ok (.aload_n 0, 1) := by decide +kernel
theorem dX7_findOrders_26 : decode cX7_findOrders 26 = .ok (.getfield 102, 3) := by decide +kernel
theorem dX7_findOrders_29 : decode cX7_findOrders 29 = .ok (.ishl, 1) := by decide +kernel
theorem dX7_findOrders_30 : decode cX7_findOrders 30 = .ok (.iconst 1, 1) := by decide +kernel
theorem dX7_findOrders_31 : decode cX7_findOrders 31 = .ok (.isub, 1) := by decide +kernel
theorem dX7_findOrders_32 : decode cX7_findOrders 32 = .ok (.iastore, 1) := by decide +kernel
theorem dX7_findOrders_33 : decode cX7_findOrders 33 = .ok (.iinc 2 1, 3) := by decide +kernel
theorem dX7_findOrders_36 : decode cX7_findOrders 36 = .ok (.goto (-32), 3) := by decide +kernel
theorem dX7_findOrders_39 : decode cX7_findOrders 39 = .ok (.iconst 0, 1) := by decide +kernel
theorem dX7_findOrders_40 : decode cX7_findOrders 40 = .ok (.istore_n 2, 1) := by decide +kernel
theorem dX7_findOrders_41 : decode cX7_findOrders 41 = .ok (.iconst 0, 1) := by decide +kernel
theorem dX7_findOrders_42 : decode cX7_findOrders 42 = .ok (.istore_n 3, 1) := by decide +kernel
theorem dX7_findOrders_43 : decode cX7_findOrders 43 = .ok (.iload_n 3, 1) := by decide +kernel
theorem dX7_findOrders_44 : decode cX7_findOrders 44 = .ok (.iload_n 1, 1) := by decide +kernel
theorem dX7_findOrders_45 : decode cX7_findOrders 45 = .ok (.if_icmp .ge 100, 3) := by decide +kernel
theorem dX7_findOrders_48 : decode cX7_findOrders 48 = .ok (.aload_n 0, 1) := by decide +kernel
theorem dX7_findOrders_49 : decode cX7_findOrders 49 = .ok (.iload_n 3, 1) := by decide +kernel
theorem dX7_findOrders_50 : decode cX7_findOrders 50 = .ok (.invokevirtual 316, 3) := by decide +kernel
theorem dX7_findOrders_53 : decode cX7_findOrders 53 = .ok (.ifCond .eq 86, 3) := by decide +kernel
theorem dX7_findOrders_56 : decode cX7_findOrders 56 = .ok (.aload_n 0, 1) := by decide +kernel
theorem dX7_findOrders_57 : decode cX7_findOrders 57 = .ok (.invokevirtual 319, 3) := by decide +kernel
theorem dX7_findOrders_60 : decode cX7_findOrders 60 = .ok (.ifCond .eq 79, 3) := by decide +kernel
theorem dX7_findOrders_63 : decode cX7_findOrders 63 = .ok (.iinc 2 1, 3) := by decide +kernel
theorem dX7_findOrders_66 : decode cX7_findOrders 66 = .ok (.iconst 0, 1) := by decide +kernel
theorem dX7_findOrders_67 : decode cX7_findOrders 67 = .ok (.istore 4, 2) := by decide +kernel
theorem dX7_findOrders_69 : decode cX7_findOrders 69 = .ok (.iload 4, 2) := by decide +kernel
theorem dX7_findOrders_71 : decode cX7_findOrders 71 = .ok (.aload_n 0, 1) := by decide +kernel
theorem dX7_findOrders_72 : decode cX7_findOrders 72 = .ok (.getfield 102, 3) := by decide +kernel
theorem dX7_findOrders_75 : decode cX7_findOrders 75 = .ok (.if_icmp .ge 64, 3) := by decide +kernel
theorem dX7_findOrders_78 : decode cX7_findOrders 78 = .ok (.iconst 0, 1) := by decide +kernel
theorem dX7_findOrders_79 : decode cX7_findOrders 79 = .ok (.istore 5, 2) := by decide +kernel
theorem dX7_findOrders_81 : decode cX7_findOrders 81 = .ok (.iload 5, 2) := by decide +kernel
theorem dX7_findOrders_83 : decode cX7_findOrders 83 = .ok (.aload_n 0, 1) := by decide +kernel
theorem dX7_findOrders_84 : decode cX7_findOrders 84 = .ok (.getfield 102, 3) := by decide +kernel
theorem dX7_findOrders_87 : decode cX7_findOrders 87 = .ok (.if_icmp .ge 46, 3) := by decide +kernel
theorem dX7_findOrders_90 : decode cX7_findOrders 90 = .ok (.aload_n 0, 1) := by decide +kernel
theorem dX7_findOrders_91 : decode cX7_findOrders 91 = .ok (.getfield 87, 3) := by decide +kernel
theorem dX7_findOrders_94 : decode cX7_findOrders 94 = .ok (.iload 4, 2) := by decide +kernel
theorem dX7_findOrders_96 : decode cX7_findOrders 96 = .ok (.dup2, 1) := by decide +kernel
theorem dX7_findOrders_97 : decode cX7_findOrders 97 = .ok (.iaload, 1) := by decide +kernel
theorem dX7_findOrders_98 : decode cX7_findOrders 98 = .ok (.aload_n 0, 1) := by decide +kernel
theorem dX7_findOrders_99 : decode cX7_findOrders 99 = .ok (.getfield 84, 3) := by decide +kernel
theorem dX7_findOrders_102 : decode cX7_findOrders 102 = .ok (.iload 5, 2) := by decide +kernel
theorem dX7_findOrders_104 : decode cX7_findOrders 104 = .ok (.iaload, 1) := by decide +kernel
theorem dX7_findOrders_105 : decode cX7_findOrders 105 = .ok (.aload_n 0, 1) := by decide +kernel
theorem dX7_findOrders_106 : decode cX7_findOrders 106 = .ok (.getfield 84, 3) := by decide +kernel
theorem dX7_findOrders_109 : decode cX7_findOrders 109 = .ok (.iload 4, 2) := by decide +kernel
theorem dX7_findOrders_111 : decode cX7_findOrders 111 = .ok (.iaload, 1) := by decide +kernel
theorem dX7_findOrders_112 : decode cX7_findOrders 112 = .ok (.if_icmp .le 7, 3) := by decide +kernel
theorem dX7_findOrders_115 : decode cX7_findOrders 115 = .ok (.iconst (-1), 1) := by decide +kernel
theorem dX7_findOrders_116 : decode cX7_findOrders 116 = .ok (.goto 9, 3) := by decide +kernel
theorem dX7_findOrders_119 : decode cX7_findOrders 119 = .ok (.iconst 1, 1) := by decide +kernel
theorem dX7_findOrders_120 : decode cX7_findOrders 120 = .ok (.iload 5, 2) := by decide +kernel
theorem dX7_findOrders_122 : decode cX7_findOrders 122 = .ok (.ishl, 1) := by decide +kernel
theorem dX7_findOrders_123 : decode cX7_findOrders 123 = .ok (.iconst (-1), 1) := by decide +kernel
theorem dX7_findOrders_124 : decode cX7_findOrders 124 = .ok (.ixor, 1) := by decide +kernel
theorem dX7_findOrders_125 : decode cX7_findOrders 125 = .ok (.iand, 1) := by decide +kernel
theorem dX7_findOrders_126 : decode cX7_findOrders 126 = .ok (.iastore, 1) := by decide +kernel
theorem dX7_findOrders_127 : decode cX7_findOrders 127 = .ok (.iinc 5 1, 3) := by decide +kernel
theorem dX7_findOrders_130 : decode cX7_findOrders 130 = .ok (.goto (-49), 3) := by decide +kernel
theorem dX7_findOrders_133 : decode cX7_findOrders 133 = .ok (.iinc 4 1, 3) := by decide +kernel
theorem dX7_findOrders_136 : decode cX7_findOrders 136 = .ok (.goto (-67), 3) := by decide +kernel
theorem dX7_findOrders_139 : decode cX7_findOrders 139 = .ok (.iinc 3 1, 3) := by decide +kernel
theorem dX7_findOrders_142 : decode cX7_findOrders 142 = .ok (.goto (-99), 3) := by decide +kernel
theorem dX7_findOrders_145 : decode cX7_findOrders 145 = .ok (.iload_n 2, 1) := by decide +kernel
theorem dX7_findOrders_146 : decode cX7_findOrders 146 = .ok (.ireturn, 1) := by decide +kernel
theorem dX7_orders_0 : decode cX7_orders 0 = .ok (.aload_n 0, 1) := by decide +kernel
theorem dX7_orders_1 : decode cX7_orders 1 = .ok (.invokevirtual 323, 3) := by decide +kernel
theorem dX7_orders_4 : decode cX7_orders 4 = .ok (.ireturn, 1) := by decide +kernel
theorem dX7_heavier_0 : decode cX7_heavier 0 = .ok (.aload_n 0, 1) := by decide +kernel
theorem dX7_heavier_1 : decode cX7_heavier 1 = .ok (.iload_n 1, 1) := by decide +kernel
theorem dX7_heavier_2 : decode cX7_heavier 2 = .ok (.invokevirtual 112, 3) := by decide +kernel
theorem dX7_heavier_5 : decode cX7_heavier 5 = .ok (.ifCond .ne 6, 3) := by decide +kernel
theorem dX7_heavier_8 : decode cX7_heavier 8 = .ok (.ldc 244, 2) := by decide +kernel
theorem dX7_heavier_10 : decode cX7_heavier 10 = .ok (.ireturn, 1) := by decide +kernel
theorem dX7_heavier_11 : decode cX7_heavier 11 = .ok (.aload_n 0, 1) := by decide +kernel
theorem dX7_heavier_12 : decode cX7_heavier 12 = .ok (.invokevirtual 323, 3) := by decide +kernel
theorem dX7_heavier_15 : decode cX7_heavier 15 = .ok (.ifCond .ne 7, 3) := by decide +kernel
theorem dX7_heavier_18 : decode cX7_heavier 18 = .ok (.iconst 0, 1) := by decide +kernel
theorem dX7_heavier_19 : decode cX7_heavier 19 = .ok (.goto 9, 3) := by decide +kernel
theorem dX7_heavier_22 : decode cX7_heavier 22 = .ok (.aload_n 0, 1) := by decide +kernel
theorem dX7_heavier_23 : decode cX7_heavier 23 = .ok (.getfield 87, 3) := by decide +kernel
theorem dX7_heavier_26 : decode cX7_heavier 26 = .ok (.iload_n 1, 1) := by decide +kernel
theorem dX7_heavier_27 : decode cX7_heavier 27 = .ok (.iaload, 1) := by decide +kernel
theorem dX7_heavier_28 : decode cX7_heavier 28 = .ok (.ireturn, 1) := by decide +kernel
theorem dX7_row_0 : decode cX7_row 0 = .ok (.aload_n 0, 1) := by decide +kernel
theorem dX7_row_1 : decode cX7_row 1 = .ok (.iload_n 1, 1) := by decide +kernel
theorem dX7_row_2 : decode cX7_row 2 = .ok (.invokevirtual 112, 3) := by decide +kernel
theorem dX7_row_5 : decode cX7_row 5 = .ok (.ifCond .eq 16, 3) := by decide +kernel
theorem dX7_row_8 : decode cX7_row 8 = .ok (.aload_n 0, 1) := by decide +kernel
theorem dX7_row_9 : decode cX7_row 9 = .ok (.iload_n 2, 1) := by decide +kernel
theorem dX7_row_10 : decode cX7_row 10 = .ok (.invokevirtual 260, 3) := by decide +kernel
theorem dX7_row_13 : decode cX7_row 13 = .ok (.ifCond .eq 8, 3) := by decide +kernel
theorem dX7_row_16 : decode cX7_row 16 = .ok (.iload_n 1, 1) := by decide +kernel
theorem dX7_row_17 : decode cX7_row 17 = .ok (.iload_n 2, 1) := by decide +kernel
theorem dX7_row_18 : decode cX7_row 18 = .ok (.if_icmp .ne 6, 3) := by decide +kernel
theorem dX7_row_21 : decode cX7_row 21 = .ok (.ldc 244, 2) := by decide +kernel
theorem dX7_row_23 : decode cX7_row 23 = .ok (.ireturn, 1) := by decide +kernel
theorem dX7_row_24 : decode cX7_row 24 = .ok (.aload_n 0, 1) := by decide +kernel
theorem dX7_row_25 : decode cX7_row 25 = .ok (.getfield 235, 3) := by decide +kernel
theorem dX7_row_28 : decode cX7_row 28 = .ok (.bipush 6, 2) := by decide +kernel
theorem dX7_row_30 : decode cX7_row 30 = .ok (.if_icmp .ne 6, 3) := by decide +kernel
theorem dX7_row_33 : decode cX7_row 33 = .ok (.ldc 122, 2) := by decide +kernel
theorem dX7_row_35 : decode cX7_row 35 = .ok (.ireturn, 1) := by decide +kernel
theorem dX7_row_36 : decode cX7_row 36 = .ok (.aload_n 0, 1) := by decide +kernel
theorem dX7_row_37 : decode cX7_row 37 = .ok (.getfield 90, 3) := by decide +kernel
theorem dX7_row_40 : decode cX7_row 40 = .ok (.aload_n 0, 1) := by decide +kernel
theorem dX7_row_41 : decode cX7_row 41 = .ok (.getfield 235, 3) := by decide +kernel
theorem dX7_row_44 : decode cX7_row 44 = .ok (.iload_n 1, 1) := by decide +kernel
theorem dX7_row_45 : decode cX7_row 45 = .ok (.iastore, 1) := by decide +kernel
theorem dX7_row_46 : decode cX7_row 46 = .ok (.aload_n 0, 1) := by decide +kernel
theorem dX7_row_47 : decode cX7_row 47 = .ok (.getfield 93, 3) := by decide +kernel
theorem dX7_row_50 : decode cX7_row 50 = .ok (.aload_n 0, 1) := by decide +kernel
theorem dX7_row_51 : decode cX7_row 51 = .ok (.getfield 235, 3) := by decide +kernel
theorem dX7_row_54 : decode cX7_row 54 = .ok (.iload_n 2, 1) := by decide +kernel
theorem dX7_row_55 : decode cX7_row 55 = .ok (.iastore, 1) := by decide +kernel
theorem dX7_row_56 : decode cX7_row 56 = .ok (.aload_n 0, 1) := by decide +kernel
theorem dX7_row_57 : decode cX7_row 57 = .ok (.dup, 1) := by decide +kernel
theorem dX7_row_58 : decode cX7_row 58 = .ok (.getfield 235, 3) := by decide +kernel
theorem dX7_row_61 : decode cX7_row 61 = .ok (.iconst 1, 1) := by decide +kernel
theorem dX7_row_62 : decode cX7_row 62 = .ok (.iadd, 1) := by decide +kernel
theorem dX7_row_63 : decode cX7_row 63 = .ok (.putfield 235, 3) := by decide +kernel
theorem dX7_row_66 : decode cX7_row 66 = .ok (.aload_n 0, 1) := by decide +kernel
theorem dX7_row_67 : decode cX7_row 67 = .ok (.getfield 235, 3) := by decide +kernel
theorem dX7_row_70 : decode cX7_row 70 = .ok (.ireturn, 1) := by decide +kernel
theorem dX7_odds_0 : decode cX7_odds 0 = .ok (.iconst 0, 1) := by decide +kernel
theorem dX7_odds_1 : decode cX7_odds 1 = .ok (.istore_n 1, 1) := by decide +kernel
theorem dX7_odds_2 : decode cX7_odds 2 = .ok (.iconst 0, 1) := by decide +kernel
theorem dX7_odds_3 : decode cX7_odds 3 = .ok (.istore_n 2, 1) := by decide +kernel
theorem dX7_odds_4 : decode cX7_odds 4 = .ok (.iload_n 2, 1) := by decide +kernel
theorem dX7_odds_5 : decode cX7_odds 5 = .ok (.aload_n 0, 1) := by decide +kernel
theorem dX7_odds_6 : decode cX7_odds 6 = .ok (.getfield 235, 3) := by decide +kernel
theorem dX7_odds_9 : decode cX7_odds 9 = .ok (.if_icmp .ge 34, 3) := by decide +kernel
theorem dX7_odds_12 : decode cX7_odds 12 = .ok (.iload_n 1, 1) := by decide +kernel
theorem dX7_odds_13 : decode cX7_odds 13 = .ok (.aload_n 0, 1) := by decide +kernel
theorem dX7_odds_14 : decode cX7_odds 14 = .ok (.getfield 93, 3) := by decide +kernel
theorem dX7_odds_17 : decode cX7_odds 17 = .ok (.iload_n 2, 1) := by decide +kernel
theorem dX7_odds_18 : decode cX7_odds 18 = .ok (.iaload, 1) := by decide +kernel
theorem dX7_odds_19 : decode cX7_odds 19 = .ok (.iconst (-1), 1) := by decide +kernel
theorem dX7_odds_20 : decode cX7_odds 20 = .ok (.if_icmp .ne 7, 3) := by decide +kernel
theorem dX7_odds_23 : decode cX7_odds 23 = .ok (.iconst 0, 1) := by decide +kernel
theorem dX7_odds_24 : decode cX7_odds 24 = .ok (.goto 11, 3) := by decide +kernel
theorem dX7_odds_27 : decode cX7_odds 27 = .ok (.iconst 1, 1) := by decide +kernel
theorem dX7_odds_28 : decode cX7_odds 28 = .ok (.aload_n 0, 1) := by decide +kernel
theorem dX7_odds_29 : decode cX7_odds 29 = .ok (.getfield 93, 3) := by decide +kernel
theorem dX7_odds_32 : decode cX7_odds 32 = .ok (.iload_n 2, 1) := by decide +kernel
theorem dX7_odds_33 : decode cX7_odds 33 = .ok (.iaload, 1) := by decide +kernel
theorem dX7_odds_34 : decode cX7_odds 34 = .ok (.ishl, 1) := by decide +kernel
theorem dX7_odds_35 : decode cX7_odds 35 = .ok (.ior, 1) := by decide +kernel
theorem dX7_odds_36 : decode cX7_odds 36 = .ok (.istore_n 1, 1) := by decide +kernel
theorem dX7_odds_37 : decode cX7_odds 37 = .ok (.iinc 2 1, 3) := by decide +kernel
theorem dX7_odds_40 : decode cX7_odds 40 = .ok (.goto (-36), 3) := by decide +kernel
theorem dX7_odds_43 : decode cX7_odds 43 = .ok (.ldc2_w 326, 3) := by decide +kernel
theorem dX7_odds_46 : decode cX7_odds 46 = .ok (.lstore_n 2, 1) := by decide +kernel
theorem dX7_odds_47 : decode cX7_odds 47 = .ok (.iconst 0, 1) := by decide +kernel
theorem dX7_odds_48 : decode cX7_odds 48 = .ok (.istore 4, 2) := by decide +kernel
theorem dX7_odds_50 : decode cX7_odds 50 = .ok (.iload 4, 2) := by decide +kernel
theorem dX7_odds_52 : decode cX7_odds 52 = .ok (.aload_n 0, 1) := by decide +kernel
theorem dX7_odds_53 : decode cX7_odds 53 = .ok (.getfield 102, 3) := by decide +kernel
theorem dX7_odds_56 : decode cX7_odds 56 = .ok (.if_icmp .ge 37, 3) := by decide +kernel
theorem dX7_odds_59 : decode cX7_odds 59 = .ok (.iload_n 1, 1) := by decide +kernel
theorem dX7_odds_60 : decode cX7_odds 60 = .ok (.iload 4, 2) := by decide +kernel
theorem dX7_odds_62 : decode cX7_odds 62 = .ok (.invokestatic 184, 3) := by decide +kernel
theorem dX7_odds_65 : decode cX7_odds 65 = .ok (.ifCond .eq 20, 3) := by decide +kernel
theorem dX7_odds_68 : decode cX7_odds 68 = .ok (.lload_n 2, 1) := by decide +kernel
theorem dX7_odds_69 : decode cX7_odds 69 = .ok (.aload_n 0, 1) := by decide +kernel
theorem dX7_odds_70 : decode cX7_odds 70 = .ok (.getfield 20, 3) := by decide +kernel
theorem dX7_odds_73 : decode cX7_odds 73 = .ok (.iload 4, 2) := by decide +kernel
theorem dX7_odds_75 : decode cX7_odds 75 = .ok (.iaload, 1) := by decide +kernel
theorem dX7_odds_76 : decode cX7_odds 76 = .ok (.i2l, 1) := by decide +kernel
theorem dX7_odds_77 : decode cX7_odds 77 = .ok (.lmul, 1) := by decide +kernel
theorem dX7_odds_78 : decode cX7_odds 78 = .ok (.ldc2_w 328, 3) := by decide +kernel
theorem dX7_odds_81 : decode cX7_odds 81 = .ok (.ldiv, 1) := by decide +kernel
theorem dX7_odds_82 : decode cX7_odds 82 = .ok (.goto 4, 3) := by decide +kernel
theorem dX7_odds_85 : decode cX7_odds 85 = .ok (.lload_n 2, 1) := by decide +kernel
theorem dX7_odds_86 : decode cX7_odds 86 = .ok (.lstore_n 2, 1) := by decide +kernel
theorem dX7_odds_87 : decode cX7_odds 87 = .ok (.iinc 4 1, 3) := by decide +kernel
theorem dX7_odds_90 : decode cX7_odds 90 = .ok (.goto (-40), 3) := by decide +kernel
theorem dX7_odds_93 : decode cX7_odds 93 = .ok (.lload_n 2, 1) := by decide +kernel
theorem dX7_odds_94 : decode cX7_odds 94 = .ok (.l2i, 1) := by decide +kernel
theorem dX7_odds_95 : decode cX7_odds 95 = .ok (.ireturn, 1) := by decide +kernel
theorem dX7_isBehind_0 : decode cX7_isBehind 0 = .ok (.aload_n 0, 1) := by decide +kernel
theorem dX7_isBehind_1 : decode cX7_isBehind 1 = .ok (.getfield 93, 3) := by decide +kernel
theorem dX7_isBehind_4 : decode cX7_isBehind 4 = .ok (.iload_n 1, 1) := by decide +kernel
theorem dX7_isBehind_5 : decode cX7_isBehind 5 = .ok (.iaload, 1) := by decide +kernel
theorem dX7_isBehind_6 : decode cX7_isBehind 6 = .ok (.iconst (-1), 1) := by decide +kernel
theorem dX7_isBehind_7 : decode cX7_isBehind 7 = .ok (.if_icmp .ne 7, 3) := by decide +kernel
theorem dX7_isBehind_10 : decode cX7_isBehind 10 = .ok (.iconst 1, 1) := by decide +kernel
theorem dX7_isBehind_11 : decode cX7_isBehind 11 = .ok (.goto 4, 3) := by decide +kernel
theorem dX7_isBehind_14 : decode cX7_isBehind 14 = .ok (.iconst 0, 1) := by decide +kernel
theorem dX7_isBehind_15 : decode cX7_isBehind 15 = .ok (.istore_n 2, 1) := by decide +kernel
theorem dX7_isBehind_16 : decode cX7_isBehind 16 = .ok (.iload_n 1, 1) := by decide +kernel
theorem dX7_isBehind_17 : decode cX7_isBehind 17 = .ok (.iconst 1, 1) := by decide +kernel
theorem dX7_isBehind_18 : decode cX7_isBehind 18 = .ok (.iadd, 1) := by decide +kernel
theorem dX7_isBehind_19 : decode cX7_isBehind 19 = .ok (.istore_n 3, 1) := by decide +kernel
theorem dX7_isBehind_20 : decode cX7_isBehind 20 = .ok (.iload_n 3, 1) := by decide +kernel
theorem dX7_isBehind_21 : decode cX7_isBehind 21 = .ok (.aload_n 0, 1) := by decide +kernel
theorem dX7_isBehind_22 : decode cX7_isBehind 22 = .ok (.getfield 235, 3) := by decide +kernel
theorem dX7_isBehind_25 : decode cX7_isBehind 25 = .ok (.if_icmp .ge 34, 3) := by decide +kernel
theorem dX7_isBehind_28 : decode cX7_isBehind 28 = .ok (.iload_n 2, 1) := by decide +kernel
theorem dX7_isBehind_29 : decode cX7_isBehind 29 = .ok (.ifCond .ne 18, 3) := by decide +kernel
theorem dX7_isBehind_32 : decode cX7_isBehind 32 = .ok (.aload_n 0, 1) := by decide +kernel
theorem dX7_isBehind_33 : decode cX7_isBehind 33 = .ok (.getfield 90, 3) := by decide +kernel
theorem dX7_isBehind_36 : decode cX7_isBehind 36 = .ok (.iload_n 3, 1) := by decide +kernel
theorem dX7_isBehind_37 : decode cX7_isBehind 37 = .ok (.iaload, 1) := by decide +kernel
theorem dX7_isBehind_38 : decode cX7_isBehind 38 = .ok (.aload_n 0, 1) := by decide +kernel
theorem dX7_isBehind_39 : decode cX7_isBehind 39 = .ok (.getfield 93, 3) := by decide +kernel
theorem dX7_isBehind_42 : decode cX7_isBehind 42 = .ok (.iload_n 1, 1) := by decide +kernel
theorem dX7_isBehind_43 : decode cX7_isBehind 43 = .ok (.iaload, 1) := by decide +kernel
theorem dX7_isBehind_44 : decode cX7_isBehind 44 = .ok (.if_icmp .ne 7, 3) := by decide +kernel
theorem dX7_isBehind_47 : decode cX7_isBehind 47 = .ok (.iconst 1, 1) := by decide +kernel
theorem dX7_isBehind_48 : decode cX7_isBehind 48 = .ok (.goto 4, 3) := by decide +kernel
theorem dX7_isBehind_51 : decode cX7_isBehind 51 = .ok (.iconst 0, 1) := by decide +kernel
theorem dX7_isBehind_52 : decode cX7_isBehind 52 = .ok (.istore_n 2, 1) := by decide +kernel
theorem dX7_isBehind_53 : decode cX7_isBehind 53 = .ok (.iinc 3 1, 3) := by decide +kernel
theorem dX7_isBehind_56 : decode cX7_isBehind 56 = .ok (.goto (-36), 3) := by decide +kernel
theorem dX7_isBehind_59 : decode cX7_isBehind 59 = .ok (.iload_n 2, 1) := by decide +kernel
theorem dX7_isBehind_60 : decode cX7_isBehind 60 = .ok (.ireturn, 1) := by decide +kernel
theorem dX7_wrong_0 : decode cX7_wrong 0 = .ok (.aload_n 0, 1) := by decide +kernel
theorem dX7_wrong_1 : decode cX7_wrong 1 = .ok (.iload_n 1, 1) := by decide +kernel
theorem dX7_wrong_2 : decode cX7_wrong 2 = .ok (.invokevirtual 241, 3) := by decide +kernel
theorem dX7_wrong_5 : decode cX7_wrong 5 = .ok (.ifCond .ne 6, 3) := by decide +kernel
theorem dX7_wrong_8 : decode cX7_wrong 8 = .ok (.ldc 244, 2) := by decide +kernel
theorem dX7_wrong_10 : decode cX7_wrong 10 = .ok (.ireturn, 1) := by decide +kernel
theorem dX7_wrong_11 : decode cX7_wrong 11 = .ok (.aload_n 0, 1) := by decide +kernel
theorem dX7_wrong_12 : decode cX7_wrong 12 = .ok (.getfield 32, 3) := by decide +kernel
theorem dX7_wrong_15 : decode cX7_wrong 15 = .ok (.iload_n 1, 1) := by decide +kernel
theorem dX7_wrong_16 : decode cX7_wrong 16 = .ok (.iaload, 1) := by decide +kernel
theorem dX7_wrong_17 : decode cX7_wrong 17 = .ok (.istore_n 2, 1) := by decide +kernel
theorem dX7_wrong_18 : decode cX7_wrong 18 = .ok (.iconst (-1), 1) := by decide +kernel
theorem dX7_wrong_19 : decode cX7_wrong 19 = .ok (.istore_n 3, 1) := by decide +kernel
theorem dX7_wrong_20 : decode cX7_wrong 20 = .ok (.iconst 0, 1) := by decide +kernel
theorem dX7_wrong_21 : decode cX7_wrong 21 = .ok (.istore 4, 2) := by decide +kernel
theorem dX7_wrong_23 : decode cX7_wrong 23 = .ok (.iload 4, 2) := by decide +kernel
theorem dX7_wrong_25 : decode cX7_wrong 25 = .ok (.aload_n 0, 1) := by decide +kernel
theorem dX7_wrong_26 : decode cX7_wrong 26 = .ok (.getfield 235, 3) := by decide +kernel
theorem dX7_wrong_29 : decode cX7_wrong 29 = .ok (.if_icmp .ge 94, 3) := by decide +kernel
theorem dX7_wrong_32 : decode cX7_wrong 32 = .ok (.iload_n 3, 1) := by decide +kernel
theorem dX7_wrong_33 : decode cX7_wrong 33 = .ok (.ifCond .ge 90, 3) := by decide +kernel
theorem dX7_wrong_36 : decode cX7_wrong 36 = .ok (.aload_n 0, 1) := by decide +kernel
theorem dX7_wrong_37 : decode cX7_wrong 37 = .ok (.iload_n 1, 1) := by decide +kernel
theorem dX7_wrong_38 : decode cX7_wrong 38 = .ok (.aload_n 0, 1) := by decide +kernel
theorem dX7_wrong_39 : decode cX7_wrong 39 = .ok (.getfield 90, 3) := by decide +kernel
theorem dX7_wrong_42 : decode cX7_wrong 42 = .ok (.iload 4, 2) := by decide +kernel
theorem dX7_wrong_44 : decode cX7_wrong 44 = .ok (.iaload, 1) := by decide +kernel
theorem dX7_wrong_45 : decode cX7_wrong 45 = .ok (.aload_n 0, 1) := by decide +kernel
theorem dX7_wrong_46 : decode cX7_wrong 46 = .ok (.getfield 93, 3) := by decide +kernel
theorem dX7_wrong_49 : decode cX7_wrong 49 = .ok (.iload 4, 2) := by decide +kernel
theorem dX7_wrong_51 : decode cX7_wrong 51 = .ok (.iaload, 1) := by decide +kernel
theorem dX7_wrong_52 : decode cX7_wrong 52 = .ok (.invokevirtual 263, 3) := by decide +kernel
theorem dX7_wrong_55 : decode cX7_wrong 55 = .ok (.ifCond .eq 29, 3) := by decide +kernel
theorem dX7_wrong_58 : decode cX7_wrong 58 = .ok (.aload_n 0, 1) := by decide +kernel
theorem dX7_wrong_59 : decode cX7_wrong 59 = .ok (.iload_n 1, 1) := by decide +kernel
theorem dX7_wrong_60 : decode cX7_wrong 60 = .ok (.aload_n 0, 1) := by decide +kernel
theorem dX7_wrong_61 : decode cX7_wrong 61 = .ok (.getfield 90, 3) := by decide +kernel
theorem dX7_wrong_64 : decode cX7_wrong 64 = .ok (.iload 4, 2) := by decide +kernel
theorem dX7_wrong_66 : decode cX7_wrong 66 = .ok (.iaload, 1) := by decide +kernel
theorem dX7_wrong_67 : decode cX7_wrong 67 = .ok (.aload_n 0, 1) := by decide +kernel
theorem dX7_wrong_68 : decode cX7_wrong 68 = .ok (.getfield 93, 3) := by decide +kernel
theorem dX7_wrong_71 : decode cX7_wrong 71 = .ok (.iload 4, 2) := by decide +kernel
theorem dX7_wrong_73 : decode cX7_wrong 73 = .ok (.iaload, 1) := by decide +kernel
theorem dX7_wrong_74 : decode cX7_wrong 74 = .ok (.invokevirtual 257, 3) := by decide +kernel
theorem dX7_wrong_77 : decode cX7_wrong 77 = .ok (.ifCond .eq 7, 3) := by decide +kernel
theorem dX7_wrong_80 : decode cX7_wrong 80 = .ok (.iconst 1, 1) := by decide +kernel
theorem dX7_wrong_81 : decode cX7_wrong 81 = .ok (.goto 4, 3) := by decide +kernel
theorem dX7_wrong_84 : decode cX7_wrong 84 = .ok (.iconst 0, 1) := by decide +kernel
theorem dX7_wrong_85 : decode cX7_wrong 85 = .ok (.istore 5, 2) := by decide +kernel
theorem dX7_wrong_87 : decode cX7_wrong 87 = .ok (.iload 5, 2) := by decide +kernel
theorem dX7_wrong_89 : decode cX7_wrong 89 = .ok (.ifCond .eq 7, 3) := by decide +kernel
theorem dX7_wrong_92 : decode cX7_wrong 92 = .ok (.iconst (-1), 1) := by decide +kernel
theorem dX7_wrong_93 : decode cX7_wrong 93 = .ok (.goto 5, 3) := by decide +kernel
theorem dX7_wrong_96 : decode cX7_wrong 96 = .ok (.iload 4, 2) := by decide +kernel
theorem dX7_wrong_98 : decode cX7_wrong 98 = .ok (.istore_n 3, 1) := by decide +kernel
theorem dX7_wrong_99 : decode cX7_wrong 99 = .ok (.aload_n 0, 1) := by decide +kernel
theorem dX7_wrong_100 : decode cX7_wrong 100 = .ok (.getfield 32, 3) := by decide +kernel
theorem dX7_wrong_103 : decode cX7_wrong 103 = .ok (.iload_n 1, 1) := by decide +kernel
theorem dX7_wrong_104 : decode cX7_wrong 104 = .ok (.dup2, 1) := by decide +kernel
theorem dX7_wrong_105 : decode cX7_wrong 105 = .ok (.iaload, 1) := by decide +kernel
theorem dX7_wrong_106 : decode cX7_wrong 106 = .ok (.iconst 1, 1) := by decide +kernel
theorem dX7_wrong_107 : decode cX7_wrong 107 = .ok (.aload_n 0, 1) := by decide +kernel
theorem dX7_wrong_108 : decode cX7_wrong 108 = .ok (.getfield 90, 3) := by decide +kernel
theorem dX7_wrong_111 : decode cX7_wrong 111 = .ok (.iload 4, 2) := by decide +kernel
theorem dX7_wrong_113 : decode cX7_wrong 113 = .ok (.iaload, 1) := by decide +kernel
theorem dX7_wrong_114 : decode cX7_wrong 114 = .ok (.ishl, 1) := by decide +kernel
theorem dX7_wrong_115 : decode cX7_wrong 115 = .ok (.ior, 1) := by decide +kernel
theorem dX7_wrong_116 : decode cX7_wrong 116 = .ok (.iastore, 1) := by decide +kernel
theorem dX7_wrong_117 : decode cX7_wrong 117 = .ok (.iinc 4 1, 3) := by decide +kernel
theorem dX7_wrong_120 : decode cX7_wrong 120 = .ok (.goto (-97), 3) := by decide +kernel
theorem dX7_wrong_123 : decode cX7_wrong 123 = .ok (.aload_n 0, 1) := by decide +kernel
theorem dX7_wrong_124 : decode cX7_wrong 124 = .ok (.getfield 32, 3) := by decide +kernel
theorem dX7_wrong_127 : decode cX7_wrong 127 = .ok (.iload_n 1, 1) := by decide +kernel
theorem dX7_wrong_128 : decode cX7_wrong 128 = .ok (.iload_n 2, 1) := by decide +kernel
theorem dX7_wrong_129 : decode cX7_wrong 129 = .ok (.iastore, 1) := by decide +kernel
theorem dX7_wrong_130 : decode cX7_wrong 130 = .ok (.iconst 0, 1) := by decide +kernel
theorem dX7_wrong_131 : decode cX7_wrong 131 = .ok (.istore 4, 2) := by decide +kernel
theorem dX7_wrong_133 : decode cX7_wrong 133 = .ok (.iload 4, 2) := by decide +kernel
theorem dX7_wrong_135 : decode cX7_wrong 135 = .ok (.aload_n 0, 1) := by decide +kernel
theorem dX7_wrong_136 : decode cX7_wrong 136 = .ok (.getfield 235, 3) := by decide +kernel
theorem dX7_wrong_139 : decode cX7_wrong 139 = .ok (.if_icmp .ge 29, 3) := by decide +kernel
theorem dX7_wrong_142 : decode cX7_wrong 142 = .ok (.iload_n 3, 1) := by decide +kernel
theorem dX7_wrong_143 : decode cX7_wrong 143 = .ok (.ifCond .ge 25, 3) := by decide +kernel
theorem dX7_wrong_146 : decode cX7_wrong 146 = .ok (.aload_n 0, 1) := by decide +kernel
theorem dX7_wrong_147 : decode cX7_wrong 147 = .ok (.iload 4, 2) := by decide +kernel
theorem dX7_wrong_149 : decode cX7_wrong 149 = .ok (.invokevirtual 330, 3) := by decide +kernel
theorem dX7_wrong_152 : decode cX7_wrong 152 = .ok (.ifCond .eq 7, 3) := by decide +kernel
theorem dX7_wrong_155 : decode cX7_wrong 155 = .ok (.iconst (-1), 1) := by decide +kernel
theorem dX7_wrong_156 : decode cX7_wrong 156 = .ok (.goto 5, 3) := by decide +kernel
theorem dX7_wrong_159 : decode cX7_wrong 159 = .ok (.iload 4, 2) := by decide +kernel
theorem dX7_wrong_161 : decode cX7_wrong 161 = .ok (.istore_n 3, 1) := by decide +kernel
theorem dX7_wrong_162 : decode cX7_wrong 162 = .ok (.iinc 4 1, 3) := by decide +kernel
theorem dX7_wrong_165 : decode cX7_wrong 165 = .ok (.goto (-32), 3) := by decide +kernel
theorem dX7_wrong_168 : decode cX7_wrong 168 = .ok (.iload_n 3, 1) := by decide +kernel
theorem dX7_wrong_169 : decode cX7_wrong 169 = .ok (.ireturn, 1) := by decide +kernel
theorem dX7_tear_0 : decode cX7_tear 0 = .ok (.aload_n 0, 1) := by decide +kernel
theorem dX7_tear_1 : decode cX7_tear 1 = .ok (.getfield 235, 3) := by decide +kernel
theorem dX7_tear_4 : decode cX7_tear 4 = .ok (.aload_n 0, 1) := by decide +kernel
theorem dX7_tear_5 : decode cX7_tear 5 = .ok (.getfield 232, 3) := by decide +kernel
theorem dX7_tear_8 : decode cX7_tear 8 = .ok (.iadd, 1) := by decide +kernel
theorem dX7_tear_9 : decode cX7_tear 9 = .ok (.istore_n 1, 1) := by decide +kernel
theorem dX7_tear_10 : decode cX7_tear 10 = .ok (.aload_n 0, 1) := by decide +kernel
theorem dX7_tear_11 : decode cX7_tear 11 = .ok (.iconst 0, 1) := by decide +kernel
theorem dX7_tear_12 : decode cX7_tear 12 = .ok (.putfield 235, 3) := by decide +kernel
theorem dX7_tear_15 : decode cX7_tear 15 = .ok (.aload_n 0, 1) := by decide +kernel
theorem dX7_tear_16 : decode cX7_tear 16 = .ok (.iconst 0, 1) := by decide +kernel
theorem dX7_tear_17 : decode cX7_tear 17 = .ok (.putfield 232, 3) := by decide +kernel
theorem dX7_tear_20 : decode cX7_tear 20 = .ok (.iload_n 1, 1) := by decide +kernel
theorem dX7_tear_21 : decode cX7_tear 21 = .ok (.ireturn, 1) := by decide +kernel
theorem dX7_seed_0 : decode cX7_seed 0 = .ok (.iload_n 1, 1) := by decide +kernel
theorem dX7_seed_1 : decode cX7_seed 1 = .ok (.ifCond .ge 6, 3) := by decide +kernel
theorem dX7_seed_4 : decode cX7_seed 4 = .ok (.ldc 118, 2) := by decide +kernel
theorem dX7_seed_6 : decode cX7_seed 6 = .ok (.ireturn, 1) := by decide +kernel
theorem dX7_seed_7 : decode cX7_seed 7 = .ok (.aload_n 0, 1) := by decide +kernel
theorem dX7_seed_8 : decode cX7_seed 8 = .ok (.getfield 270, 3) := by decide +kernel
theorem dX7_seed_11 : decode cX7_seed 11 = .ok (.istore_n 2, 1) := by decide +kernel
theorem dX7_seed_12 : decode cX7_seed 12 = .ok (.aload_n 0, 1) := by decide +kernel
theorem dX7_seed_13 : decode cX7_seed 13 = .ok (.iload_n 1, 1) := by decide +kernel
theorem dX7_seed_14 : decode cX7_seed 14 = .ok (.putfield 270, 3) := by decide +kernel
theorem dX7_seed_17 : decode cX7_seed 17 = .ok (.iload_n 2, 1) := by decide +kernel
theorem dX7_seed_18 : decode cX7_seed 18 = .ok (.ireturn, 1) := by decide +kernel
theorem dX7_keep_0 : decode cX7_keep 0 = .ok (.iload_n 1, 1) := by decide +kernel
theorem dX7_keep_1 : decode cX7_keep 1 = .ok (.i2l, 1) := by decide +kernel
theorem dX7_keep_2 : decode cX7_keep 2 = .ok (.lconst 0, 1) := by decide +kernel
theorem dX7_keep_3 : decode cX7_keep 3 = .ok (.lconst 1, 1) := by decide +kernel
theorem dX7_keep_4 : decode cX7_keep 4 = .ok (.invokestatic 108, 3) := by decide +kernel
theorem dX7_keep_7 : decode cX7_keep 7 = .ok (.ifCond .ne 6, 3) := by decide +kernel
theorem dX7_keep_10 : decode cX7_keep 10 = .ok (.ldc 244, 2) := by decide +kernel
theorem dX7_keep_12 : decode cX7_keep 12 = .ok (.ireturn, 1) := by decide +kernel
theorem dX7_keep_13 : decode cX7_keep 13 = .ok (.bipush 110, 2) := by decide +kernel
theorem dX7_keep_15 : decode cX7_keep 15 = .ok (.iload_n 1, 1) := by decide +kernel
theorem dX7_keep_16 : decode cX7_keep 16 = .ok (.imul, 1) := by decide +kernel
theorem dX7_keep_17 : decode cX7_keep 17 = .ok (.istore_n 2, 1) := by decide +kernel
theorem dX7_keep_18 : decode cX7_keep 18 = .ok (.iconst 0, 1) := by decide +kernel
theorem dX7_keep_19 : decode cX7_keep 19 = .ok (.istore_n 3, 1) := by decide +kernel
theorem dX7_keep_20 : decode cX7_keep 20 = .ok (.iload_n 3, 1) := by decide +kernel
theorem dX7_keep_21 : decode cX7_keep 21 = .ok (.bipush 30, 2) := by decide +kernel
theorem dX7_keep_23 : decode cX7_keep 23 = .ok (.if_icmp .ge 57, 3) := by decide +kernel
theorem dX7_keep_26 : decode cX7_keep 26 = .ok (.aload_n 0, 1) := by decide +kernel
theorem dX7_keep_27 : decode cX7_keep 27 = .ok (.getfield 96, 3) := by decide +kernel
theorem dX7_keep_30 : decode cX7_keep 30 = .ok (.iload_n 2, 1) := by decide +kernel
theorem dX7_keep_31 : decode cX7_keep 31 = .ok (.iload_n 3, 1) := by decide +kernel
theorem dX7_keep_32 : decode cX7_keep 32 = .ok (.iadd, 1) := by decide +kernel
theorem dX7_keep_33 : decode cX7_keep 33 = .ok (.aload_n 0, 1) := by decide +kernel
theorem dX7_keep_34 : decode cX7_keep 34 = .ok (.getfield 35, 3) := by decide +kernel
theorem dX7_keep_37 : decode cX7_keep 37 = .ok (.iload_n 3, 1) := by decide +kernel
theorem dX7_keep_38 : decode cX7_keep 38 = .ok (.iaload, 1) := by decide +kernel
theorem dX7_keep_39 : decode cX7_keep 39 = .ok (.iastore, 1) := by decide +kernel
theorem dX7_keep_40 : decode cX7_keep 40 = .ok (.aload_n 0, 1) := by decide +kernel
theorem dX7_keep_41 : decode cX7_keep 41 = .ok (.getfield 96, 3) := by decide +kernel
theorem dX7_keep_44 : decode cX7_keep 44 = .ok (.iload_n 2, 1) := by decide +kernel
theorem dX7_keep_45 : decode cX7_keep 45 = .ok (.bipush 30, 2) := by decide +kernel
theorem dX7_keep_47 : decode cX7_keep 47 = .ok (.iadd, 1) := by decide +kernel
theorem dX7_keep_48 : decode cX7_keep 48 = .ok (.iload_n 3, 1) := by decide +kernel
theorem dX7_keep_49 : decode cX7_keep 49 = .ok (.iadd, 1) := by decide +kernel
theorem dX7_keep_50 : decode cX7_keep 50 = .ok (.aload_n 0, 1) := by decide +kernel
theorem dX7_keep_51 : decode cX7_keep 51 = .ok (.getfield 38, 3) := by decide +kernel
theorem dX7_keep_54 : decode cX7_keep 54 = .ok (.iload_n 3, 1) := by decide +kernel
theorem dX7_keep_55 : decode cX7_keep 55 = .ok (.iaload, 1) := by decide +kernel
theorem dX7_keep_56 : decode cX7_keep 56 = .ok (.iastore, 1) := by decide +kernel
theorem dX7_keep_57 : decode cX7_keep 57 = .ok (.aload_n 0, 1) := by decide +kernel
theorem dX7_keep_58 : decode cX7_keep 58 = .ok (.getfield 96, 3) := by decide +kernel
theorem dX7_keep_61 : decode cX7_keep 61 = .ok (.iload_n 2, 1) := by decide +kernel
theorem dX7_keep_62 : decode cX7_keep 62 = .ok (.bipush 60, 2) := by decide +kernel
theorem dX7_keep_64 : decode cX7_keep 64 = .ok (.iadd, 1) := by decide +kernel
theorem dX7_keep_65 : decode cX7_keep 65 = .ok (.iload_n 3, 1) := by decide +kernel
theorem dX7_keep_66 : decode cX7_keep 66 = .ok (.iadd, 1) := by decide +kernel
theorem dX7_keep_67 : decode cX7_keep 67 = .ok (.aload_n 0, 1) := by decide +kernel
theorem dX7_keep_68 : decode cX7_keep 68 = .ok (.getfield 41, 3) := by decide +kernel
theorem dX7_keep_71 : decode cX7_keep 71 = .ok (.iload_n 3, 1) := by decide +kernel
theorem dX7_keep_72 : decode cX7_keep 72 = .ok (.iaload, 1) := by decide +kernel
theorem dX7_keep_73 : decode cX7_keep 73 = .ok (.iastore, 1) := by decide +kernel
theorem dX7_keep_74 : decode cX7_keep 74 = .ok (.iinc 3 1, 3) := by decide +kernel
theorem dX7_keep_77 : decode cX7_keep 77 = .ok (.goto (-57), 3) := by decide +kernel
theorem dX7_keep_80 : decode cX7_keep 80 = .ok (.iconst 0, 1) := by decide +kernel
theorem dX7_keep_81 : decode cX7_keep 81 = .ok (.istore_n 3, 1) := by decide +kernel
theorem dX7_keep_82 : decode cX7_keep 82 = .ok (.iload_n 3, 1) := by decide +kernel
theorem dX7_keep_83 : decode cX7_keep 83 = .ok (.bipush 6, 2) := by decide +kernel
theorem dX7_keep_85 : decode cX7_keep 85 = .ok (.if_icmp .ge 26, 3) := by decide +kernel
theorem dX7_keep_88 : decode cX7_keep 88 = .ok (.aload_n 0, 1) := by decide +kernel
theorem dX7_keep_89 : decode cX7_keep 89 = .ok (.getfield 96, 3) := by decide +kernel
theorem dX7_keep_92 : decode cX7_keep 92 = .ok (.iload_n 2, 1) := by decide +kernel
theorem dX7_keep_93 : decode cX7_keep 93 = .ok (.bipush 90, 2) := by decide +kernel
theorem dX7_keep_95 : decode cX7_keep 95 = .ok (.iadd, 1) := by decide +kernel
theorem dX7_keep_96 : decode cX7_keep 96 = .ok (.iload_n 3, 1) := by decide +kernel
theorem dX7_keep_97 : decode cX7_keep 97 = .ok (.iadd, 1) := by decide +kernel
theorem dX7_keep_98 : decode cX7_keep 98 = .ok (.aload_n 0, 1) := by decide +kernel
theorem dX7_keep_99 : decode cX7_keep 99 = .ok (.getfield 29, 3) := by decide +kernel
theorem dX7_keep_102 : decode cX7_keep 102 = .ok (.iload_n 3, 1) := by decide +kernel
theorem dX7_keep_103 : decode cX7_keep 103 = .ok (.iaload, 1) := by decide +kernel
theorem dX7_keep_104 : decode cX7_keep 104 = .ok (.iastore, 1) := by decide +kernel
theorem dX7_keep_105 : decode cX7_keep 105 = .ok (.iinc 3 1, 3) := by decide +kernel
theorem dX7_keep_108 : decode cX7_keep 108 = .ok (.goto (-26), 3) := by decide +kernel
theorem dX7_keep_111 : decode cX7_keep 111 = .ok (.iconst 0, 1) := by decide +kernel
theorem dX7_keep_112 : decode cX7_keep 112 = .ok (.istore_n 3, 1) := by decide +kernel
theorem dX7_keep_113 : decode cX7_keep 113 = .ok (.iload_n 3, 1) := by decide +kernel
theorem dX7_keep_114 : decode cX7_keep 114 = .ok (.iconst 5, 1) := by decide +kernel
theorem dX7_keep_115 : decode cX7_keep 115 = .ok (.if_icmp .ge 26, 3) := by decide +kernel
theorem dX7_keep_118 : decode cX7_keep 118 = .ok (.aload_n 0, 1) := by decide +kernel
theorem dX7_keep_119 : decode cX7_keep 119 = .ok (.getfield 96, 3) := by decide +kernel
theorem dX7_keep_122 : decode cX7_keep 122 = .ok (.iload_n 2, 1) := by decide +kernel
theorem dX7_keep_123 : decode cX7_keep 123 = .ok (.bipush 96, 2) := by decide +kernel
theorem dX7_keep_125 : decode cX7_keep 125 = .ok (.iadd, 1) := by decide +kernel
theorem dX7_keep_126 : decode cX7_keep 126 = .ok (.iload_n 3, 1) := by decide +kernel
theorem dX7_keep_127 : decode cX7_keep 127 = .ok (.iadd, 1) := by decide +kernel
theorem dX7_keep_128 : decode cX7_keep 128 = .ok (.aload_n 0, 1) := by decide +kernel
theorem dX7_keep_129 : decode cX7_keep 129 = .ok (.getfield 32, 3) := by decide +kernel
theorem dX7_keep_132 : decode cX7_keep 132 = .ok (.iload_n 3, 1) := by decide +kernel
theorem dX7_keep_133 : decode cX7_keep 133 = .ok (.iaload, 1) := by decide +kernel
theorem dX7_keep_134 : decode cX7_keep 134 = .ok (.iastore, 1) := by decide +kernel
theorem dX7_keep_135 : decode cX7_keep 135 = .ok (.iinc 3 1, 3) := by decide +kernel
theorem dX7_keep_138 : decode cX7_keep 138 = .ok (.goto (-25), 3) := by decide +kernel
theorem dX7_keep_141 : decode cX7_keep 141 = .ok (.aload_n 0, 1) := by decide +kernel
theorem dX7_keep_142 : decode cX7_keep 142 = .ok (.getfield 96, 3) := by decide +kernel
theorem dX7_keep_145 : decode cX7_keep 145 = .ok (.iload_n 2, 1) := by decide +kernel
theorem dX7_keep_146 : decode cX7_keep 146 = .ok (.bipush 101, 2) := by decide +kernel
theorem dX7_keep_148 : decode cX7_keep 148 = .ok (.iadd, 1) := by decide +kernel
theorem dX7_keep_149 : decode cX7_keep 149 = .ok (.aload_n 0, 1) := by decide +kernel
theorem dX7_keep_150 : decode cX7_keep 150 = .ok (.getfield 226, 3) := by decide +kernel
theorem dX7_keep_153 : decode cX7_keep 153 = .ok (.iastore, 1) := by decide +kernel
theorem dX7_keep_154 : decode cX7_keep 154 = .ok (.aload_n 0, 1) := by decide +kernel
theorem dX7_keep_155 : decode cX7_keep 155 = .ok (.getfield 96, 3) := by decide +kernel
theorem dX7_keep_158 : decode cX7_keep 158 = .ok (.iload_n 2, 1) := by decide +kernel
theorem dX7_keep_159 : decode cX7_keep 159 = .ok (.bipush 102, 2) := by decide +kernel
theorem dX7_keep_161 : decode cX7_keep 161 = .ok (.iadd, 1) := by decide +kernel
theorem dX7_keep_162 : decode cX7_keep 162 = .ok (.aload_n 0, 1) := by decide +kernel
theorem dX7_keep_163 : decode cX7_keep 163 = .ok (.getfield 229, 3) := by decide +kernel
theorem dX7_keep_166 : decode cX7_keep 166 = .ok (.iastore, 1) := by decide +kernel
theorem dX7_keep_167 : decode cX7_keep 167 = .ok (.aload_n 0, 1) := by decide +kernel
theorem dX7_keep_168 : decode cX7_keep 168 = .ok (.getfield 96, 3) := by decide +kernel
theorem dX7_keep_171 : decode cX7_keep 171 = .ok (.iload_n 2, 1) := by decide +kernel
theorem dX7_keep_172 : decode cX7_keep 172 = .ok (.bipush 103, 2) := by decide +kernel
theorem dX7_keep_174 : decode cX7_keep 174 = .ok (.iadd, 1) := by decide +kernel
theorem dX7_keep_175 : decode cX7_keep 175 = .ok (.aload_n 0, 1) := by decide +kernel
theorem dX7_keep_176 : decode cX7_keep 176 = .ok (.getfield 270, 3) := by decide +kernel
theorem dX7_keep_179 : decode cX7_keep 179 = .ok (.iastore, 1) := by decide +kernel
theorem dX7_keep_180 : decode cX7_keep 180 = .ok (.aload_n 0, 1) := by decide +kernel
theorem dX7_keep_181 : decode cX7_keep 181 = .ok (.getfield 99, 3) := by decide +kernel
theorem dX7_keep_184 : decode cX7_keep 184 = .ok (.iload_n 1, 1) := by decide +kernel
theorem dX7_keep_185 : decode cX7_keep 185 = .ok (.iconst 1, 1) := by decide +kernel
theorem dX7_keep_186 : decode cX7_keep 186 = .ok (.bastore, 1) := by decide +kernel
theorem dX7_keep_187 : decode cX7_keep 187 = .ok (.iconst 1, 1) := by decide +kernel
theorem dX7_keep_188 : decode cX7_keep 188 = .ok (.ireturn, 1) := by decide +kernel
theorem dX7_goBack_0 : decode cX7_goBack 0 = .ok (.iload_n 1, 1) := by decide +kernel
theorem dX7_goBack_1 : decode cX7_goBack 1 = .ok (.i2l, 1) := by decide +kernel
theorem dX7_goBack_2 : decode cX7_goBack 2 = .ok (.lconst 0, 1) := by decide +kernel
theorem dX7_goBack_3 : decode cX7_goBack 3 = .ok (.lconst 1, 1) := by decide +kernel
theorem dX7_goBack_4 : decode cX7_goBack 4 = .ok (.invokestatic 108, 3) := by decide +kernel
theorem dX7_goBack_7 : decode cX7_goBack 7 = .ok (.ifCond .ne 6, 3) := by decide +kernel
theorem dX7_goBack_10 : decode cX7_goBack 10 = .ok (.ldc 244, 2) := by decide +kernel
theorem dX7_goBack_12 : decode cX7_goBack 12 = .ok (.ireturn, 1) := by decide +kernel
theorem dX7_goBack_13 : decode cX7_goBack 13 = .ok (.aload_n 0, 1) := by decide +kernel
theorem dX7_goBack_14 : decode cX7_goBack 14 = .ok (.getfield 99, 3) := by decide +kernel
theorem dX7_goBack_17 : decode cX7_goBack 17 = .ok (.iload_n 1, 1) := by decide +kernel
theorem dX7_goBack_18 : decode cX7_goBack 18 = .ok (.baload, 1) := by decide +kernel
theorem dX7_goBack_19 : decode cX7_goBack 19 = .ok (.ifCond .ne 6, 3) := by decide +kernel
theorem dX7_goBack_22 : decode cX7_goBack 22 = .ok (.ldc 249, 2) := by decide +kernel
theorem dX7_goBack_24 : decode cX7_goBack 24 = .ok (.ireturn, 1) := by decide +kernel
theorem dX7_goBack_25 : decode cX7_goBack 25 = .ok (.bipush 110, 2) := by decide +kernel
theorem dX7_goBack_27 : decode cX7_goBack 27 = .ok (.iload_n 1, 1) := by decide +kernel
theorem dX7_goBack_28 : decode cX7_goBack 28 = .ok (.imul, 1) := by decide +kernel
theorem dX7_goBack_29 : decode cX7_goBack 29 = .ok (.istore_n 2, 1) := by decide +kernel
theorem dX7_goBack_30 : decode cX7_goBack 30 = .ok (.iconst 0, 1) := by decide +kernel
theorem dX7_goBack_31 : decode cX7_goBack 31 = .ok (.istore_n 3, 1) := by decide +kernel
theorem dX7_goBack_32 : decode cX7_goBack 32 = .ok (.iload_n 3, 1) := by decide +kernel
theorem dX7_goBack_33 : decode cX7_goBack 33 = .ok (.bipush 30, 2) := by decide +kernel
theorem dX7_goBack_35 : decode cX7_goBack 35 = .ok (.if_icmp .ge 57, 3) := by decide +kernel
theorem dX7_goBack_38 : decode cX7_goBack 38 = .ok (.aload_n 0, 1) := by decide +kernel
theorem dX7_goBack_39 : decode cX7_goBack 39 = .ok (.getfield 35, 3) := by decide +kernel
theorem dX7_goBack_42 : decode cX7_goBack 42 = .ok (.iload_n 3, 1) := by decide +kernel
theorem dX7_goBack_43 : decode cX7_goBack 43 = .ok (.aload_n 0, 1) := by decide +kernel
theorem dX7_goBack_44 : decode cX7_goBack 44 = .ok (.getfield 96, 3) := by decide +kernel
theorem dX7_goBack_47 : decode cX7_goBack 47 = .ok (.iload_n 2, 1) := by decide +kernel
theorem dX7_goBack_48 : decode cX7_goBack 48 = .ok (.iload_n 3, 1) := by decide +kernel
theorem dX7_goBack_49 : decode cX7_goBack 49 = .ok (.iadd, 1) := by decide +kernel
theorem dX7_goBack_50 : decode cX7_goBack 50 = .ok (.iaload, 1) := by decide +kernel
theorem dX7_goBack_51 : decode cX7_goBack 51 = .ok (.iastore, 1) := by decide +kernel
theorem dX7_goBack_52 : decode cX7_goBack 52 = .ok (.aload_n 0, 1) := by decide +kernel
theorem dX7_goBack_53 : decode cX7_goBack 53 = .ok (.getfield 38, 3) := by decide +kernel
theorem dX7_goBack_56 : decode cX7_goBack 56 = .ok (.iload_n 3, 1) := by decide +kernel
theorem dX7_goBack_57 : decode cX7_goBack 57 = .ok (.aload_n 0, 1) := by decide +kernel
theorem dX7_goBack_58 : decode cX7_goBack 58 = .ok (.getfield 96, 3) := by decide +kernel
theorem dX7_goBack_61 : decode cX7_goBack 61 = .ok (.iload_n 2, 1) := by decide +kernel
theorem dX7_goBack_62 : decode cX7_goBack 62 = .ok (.bipush 30, 2) := by decide +kernel
theorem dX7_goBack_64 : decode cX7_goBack 64 = .ok (.iadd, 1) := by decide +kernel
theorem dX7_goBack_65 : decode cX7_goBack 65 = .ok (.iload_n 3, 1) := by decide +kernel
theorem dX7_goBack_66 : decode cX7_goBack 66 = .ok (.iadd, 1) := by decide +kernel
theorem dX7_goBack_67 : decode cX7_goBack 67 = .ok (.iaload, 1) := by decide +kernel
theorem dX7_goBack_68 : decode cX7_goBack 68 = .ok (.iastore, 1) := by decide +kernel
theorem dX7_goBack_69 : decode cX7_goBack 69 = .ok (.aload_n 0, 1) := by decide +kernel
theorem dX7_goBack_70 : decode cX7_goBack 70 = .ok (.getfield 41, 3) := by decide +kernel
theorem dX7_goBack_73 : decode cX7_goBack 73 = .ok (.iload_n 3, 1) := by decide +kernel
theorem dX7_goBack_74 : decode cX7_goBack 74 = .ok (.aload_n 0, 1) := by decide +kernel
theorem dX7_goBack_75 : decode cX7_goBack 75 = .ok (.getfield 96, 3) := by decide +kernel
theorem dX7_goBack_78 : decode cX7_goBack 78 = .ok (.iload_n 2, 1) := by decide +kernel
theorem dX7_goBack_79 : decode cX7_goBack 79 = .ok (.bipush 60, 2) := by decide +kernel
theorem dX7_goBack_81 : decode cX7_goBack 81 = .ok (.iadd, 1) := by decide +kernel
theorem dX7_goBack_82 : decode cX7_goBack 82 = .ok (.iload_n 3, 1) := by decide +kernel
theorem dX7_goBack_83 : decode cX7_goBack 83 = .ok (.iadd, 1) := by decide +kernel
theorem dX7_goBack_84 : decode cX7_goBack 84 = .ok (.iaload, 1) := by decide +kernel
theorem dX7_goBack_85 : decode cX7_goBack 85 = .ok (.iastore, 1) := by decide +kernel
theorem dX7_goBack_86 : decode cX7_goBack 86 = .ok (.iinc 3 1, 3) := by decide +kernel
theorem dX7_goBack_89 : decode cX7_goBack 89 = .ok (.goto (-57), 3) := by decide +kernel
theorem dX7_goBack_92 : decode cX7_goBack 92 = .ok (.iconst 0, 1) := by decide +kernel
theorem dX7_goBack_93 : decode cX7_goBack 93 = .ok (.istore_n 3, 1) := by decide +kernel
theorem dX7_goBack_94 : decode cX7_goBack 94 = .ok (.iload_n 3, 1) := by decide +kernel
theorem dX7_goBack_95 : decode cX7_goBack 95 = .ok (.bipush 6, 2) := by decide +kernel
theorem dX7_goBack_97 : decode cX7_goBack 97 = .ok (.if_icmp .ge 26, 3) := by decide +kernel
theorem dX7_goBack_100 : decode cX7_goBack 100 = .ok (.aload_n 0, 1) := by decide +kernel
theorem dX7_goBack_101 : decode cX7_goBack 101 = .ok (.getfield 29, 3) := by decide +kernel
theorem dX7_goBack_104 : decode cX7_goBack 104 = .ok (.iload_n 3, 1) := by decide +kernel
theorem dX7_goBack_105 : decode cX7_goBack 105 = .ok (.aload_n 0, 1) := by decide +kernel
theorem dX7_goBack_106 : decode cX7_goBack 106 = .ok (.getfield 96, 3) := by decide +kernel
theorem dX7_goBack_109 : decode cX7_goBack 109 = .ok (.iload_n 2, 1) := by decide +kernel
theorem dX7_goBack_110 : decode cX7_goBack 110 = .ok (.bipush 90, 2) := by decide +kernel
theorem dX7_goBack_112 : decode cX7_goBack 112 = .ok (.iadd, 1) := by decide +kernel
theorem dX7_goBack_113 : decode cX7_goBack 113 = .ok (.iload_n 3, 1) := by decide +kernel
theorem dX7_goBack_114 : decode cX7_goBack 114 = .ok (.iadd, 1) := by decide +kernel
theorem dX7_goBack_115 : decode cX7_goBack 115 = .ok (.iaload, 1) := by decide +kernel
theorem dX7_goBack_116 : decode cX7_goBack 116 = .ok (.iastore, 1) := by decide +kernel
theorem dX7_goBack_117 : decode cX7_goBack 117 = .ok (.iinc 3 1, 3) := by decide +kernel
theorem dX7_goBack_120 : decode cX7_goBack 120 = .ok (.goto (-26), 3) := by decide +kernel
theorem dX7_goBack_123 : decode cX7_goBack 123 = .ok (.iconst 0, 1) := by decide +kernel
theorem dX7_goBack_124 : decode cX7_goBack 124 = .ok (.istore_n 3, 1) := by decide +kernel
theorem dX7_goBack_125 : decode cX7_goBack 125 = .ok (.iload_n 3, 1) := by decide +kernel
theorem dX7_goBack_126 : decode cX7_goBack 126 = .ok (.iconst 5, 1) := by decide +kernel
theorem dX7_goBack_127 : decode cX7_goBack 127 = .ok (.if_icmp .ge 26, 3) := by decide +kernel
theorem dX7_goBack_130 : decode cX7_goBack 130 = .ok (.aload_n 0, 1) := by decide +kernel
theorem dX7_goBack_131 : decode cX7_goBack 131 = .ok (.getfield 32, 3) := by decide +kernel
theorem dX7_goBack_134 : decode cX7_goBack 134 = .ok (.iload_n 3, 1) := by decide +kernel
theorem dX7_goBack_135 : decode cX7_goBack 135 = .ok (.aload_n 0, 1) := by decide +kernel
theorem dX7_goBack_136 : decode cX7_goBack 136 = .ok (.getfield 96, 3) := by decide +kernel
theorem dX7_goBack_139 : decode cX7_goBack 139 = .ok (.iload_n 2, 1) := by decide +kernel
theorem dX7_goBack_140 : decode cX7_goBack 140 = .ok (.bipush 96, 2) := by decide +kernel
theorem dX7_goBack_142 : decode cX7_goBack 142 = .ok (.iadd, 1) := by decide +kernel
theorem dX7_goBack_143 : decode cX7_goBack 143 = .ok (.iload_n 3, 1) := by decide +kernel
theorem dX7_goBack_144 : decode cX7_goBack 144 = .ok (.iadd, 1) := by decide +kernel
theorem dX7_goBack_145 : decode cX7_goBack 145 = .ok (.iaload, 1) := by decide +kernel
theorem dX7_goBack_146 : decode cX7_goBack 146 = .ok (.iastore, 1) := by decide +kernel
theorem dX7_goBack_147 : decode cX7_goBack 147 = .ok (.iinc 3 1, 3) := by decide +kernel
theorem dX7_goBack_150 : decode cX7_goBack 150 = .ok (.goto (-25), 3) := by decide +kernel
theorem dX7_goBack_153 : decode cX7_goBack 153 = .ok (.aload_n 0, 1) := by decide +kernel
theorem dX7_goBack_154 : decode cX7_goBack 154 = .ok (.aload_n 0, 1) := by decide +kernel
theorem dX7_goBack_155 : decode cX7_goBack 155 = .ok (.getfield 96, 3) := by decide +kernel
theorem dX7_goBack_158 : decode cX7_goBack 158 = .ok (.iload_n 2, 1) := by decide +kernel
theorem dX7_goBack_159 : decode cX7_goBack 159 = .ok (.bipush 101, 2) := by decide +kernel
theorem dX7_goBack_161 : decode cX7_goBack 161 = .ok (.iadd, 1) := by decide +kernel
theorem dX7_goBack_162 : decode cX7_goBack 162 = .ok (.iaload, 1) := by decide +kernel
theorem dX7_goBack_163 : decode cX7_goBack 163 = .ok (.putfield 226, 3) := by decide +kernel
theorem dX7_goBack_166 : decode cX7_goBack 166 = .ok (.aload_n 0, 1) := by decide +kernel
theorem dX7_goBack_167 : decode cX7_goBack 167 = .ok (.aload_n 0, 1) := by decide +kernel
theorem dX7_goBack_168 : decode cX7_goBack 168 = .ok (.getfield 96, 3) := by decide +kernel
theorem dX7_goBack_171 : decode cX7_goBack 171 = .ok (.iload_n 2, 1) := by decide +kernel
theorem dX7_goBack_172 : decode cX7_goBack 172 = .ok (.bipush 102, 2) := by decide +kernel
theorem dX7_goBack_174 : decode cX7_goBack 174 = .ok (.iadd, 1) := by decide +kernel
theorem dX7_goBack_175 : decode cX7_goBack 175 = .ok (.iaload, 1) := by decide +kernel
theorem dX7_goBack_176 : decode cX7_goBack 176 = .ok (.putfield 229, 3) := by decide +kernel
theorem dX7_goBack_179 : decode cX7_goBack 179 = .ok (.aload_n 0, 1) := by decide +kernel
theorem dX7_goBack_180 : decode cX7_goBack 180 = .ok (.aload_n 0, 1) := by decide +kernel
theorem dX7_goBack_181 : decode cX7_goBack 181 = .ok (.getfield 96, 3) := by decide +kernel
theorem dX7_goBack_184 : decode cX7_goBack 184 = .ok (.iload_n 2, 1) := by decide +kernel
theorem dX7_goBack_185 : decode cX7_goBack 185 = .ok (.bipush 103, 2) := by decide +kernel
theorem dX7_goBack_187 : decode cX7_goBack 187 = .ok (.iadd, 1) := by decide +kernel
theorem dX7_goBack_188 : decode cX7_goBack 188 = .ok (.iaload, 1) := by decide +kernel
theorem dX7_goBack_189 : decode cX7_goBack 189 = .ok (.putfield 270, 3) := by decide +kernel
theorem dX7_goBack_192 : decode cX7_goBack 192 = .ok (.iconst 1, 1) := by decide +kernel
theorem dX7_goBack_193 : decode cX7_goBack 193 = .ok (.ireturn, 1) := by decide +kernel
