theorem dX3_init_0 : decode cX3_init 0 = .ok (.aload_n 0, 1) := by decide +kernel
theorem dX3_init_1 : decode cX3_init 1 = .ok (.invokespecial 3, 3) := by decide +kernel
theorem dX3_init_4 : decode cX3_init 4 = .ok (.aload_n 0, 1) := by decide +kernel
theorem dX3_init_5 : decode cX3_init 5 = .ok (.sipush 500, 3) := by decide +kernel
theorem dX3_init_8 : decode cX3_init 8 = .ok (.newarray .byte, 2) := by decide +kernel
theorem dX3_init_10 : decode cX3_init 10 = .ok (.putfield 9, 3) := by decide +kernel
theorem dX3_init_13 : decode cX3_init 13 = .ok (.aload_n 0, 1) := by decide +kernel
theorem dX3_init_14 : decode cX3_init 14 = .ok (.iconst 0, 1) := by decide +kernel
theorem dX3_init_15 : decode cX3_init 15 = .ok (.putfield 15, 3) := by decide +kernel
theorem dX3_init_18 : decode cX3_init 18 = .ok (.aload_n 0, 1) := by decide +kernel
theorem dX3_init_19 : decode cX3_init 19 = .ok (.iconst (-1), 1) := by decide +kernel
theorem dX3_init_20 : decode cX3_init 20 = .ok (.putfield 19, 3) := by decide +kernel
theorem dX3_init_23 : decode cX3_init 23 = .ok (.aload_n 0, 1) := by decide +kernel
theorem dX3_init_24 : decode cX3_init 24 = .ok (.iconst 0, 1) := by decide +kernel
theorem dX3_init_25 : decode cX3_init 25 = .ok (.putfield 22, 3) := by decide +kernel
theorem dX3_init_28 : decode cX3_init 28 = .ok (.aload_n 0, 1) := by decide +kernel
theorem dX3_init_29 : decode cX3_init 29 = .ok (.iconst 0, 1) := by decide +kernel
theorem dX3_init_30 : decode cX3_init 30 = .ok (.putfield 25, 3) := by decide +kernel
theorem dX3_init_33 : decode cX3_init 33 = .ok (.aload_n 0, 1) := by decide +kernel
theorem dX3_init_34 : decode cX3_init 34 = .ok (.iconst 0, 1) := by decide +kernel
theorem dX3_init_35 : decode cX3_init 35 = .ok (.putfield 28, 3) := by decide +kernel
theorem dX3_init_38 : decode cX3_init 38 = .ok (.aload_n 0, 1) := by decide +kernel
theorem dX3_init_39 : decode cX3_init 39 = .ok (.iconst 0, 1) := by decide +kernel
theorem dX3_init_40 : decode cX3_init 40 = .ok (.putfield 31, 3) := by decide +kernel
theorem dX3_init_43 : decode cX3_init 43 = .ok (.aload_n 0, 1) := by decide +kernel
theorem dX3_init_44 : decode cX3_init 44 = .ok (.iconst 0, 1) := by decide +kernel
theorem dX3_init_45 : decode cX3_init 45 = .ok (.putfield 34, 3) := by decide +kernel
theorem dX3_init_48 : decode cX3_init 48 = .ok (.aload_n 0, 1) := by decide +kernel
theorem dX3_init_49 : decode cX3_init 49 = .ok (.iconst 0, 1) := by decide +kernel
theorem dX3_init_50 : decode cX3_init 50 = .ok (.putfield 37, 3) := by decide +kernel
theorem dX3_init_53 : decode cX3_init 53 = .ok (.return_, 1) := by decide +kernel
theorem dX3_add_0 : decode cX3_add 0 = .ok (.iload_n 1, 1) := by decide +kernel
theorem dX3_add_1 : decode cX3_add 1 = .ok (.iconst 1, 1) := by decide +kernel
theorem dX3_add_2 : decode cX3_add 2 = .ok (.isub, 1) := by decide +kernel
theorem dX3_add_3 : decode cX3_add 3 = .ok (.istore 4, 2) := by decide +kernel
theorem dX3_add_5 : decode cX3_add 5 = .ok (.iload 4, 2) := by decide +kernel
theorem dX3_add_7 : decode cX3_add 7 = .ok (.ifCond .lt 47, 3) := by decide +kernel
theorem dX3_add_10 : decode cX3_add 10 = .ok (.aload_n 0, 1) := by decide +kernel
theorem dX3_add_11 : decode cX3_add 11 = .ok (.getfield 15, 3) := by decide +kernel
theorem dX3_add_14 : decode cX3_add 14 = .ok (.sipush 500, 3) := by decide +kernel
theorem dX3_add_17 : decode cX3_add 17 = .ok (.if_icmp .ge 37, 3) := by decide +kernel
theorem dX3_add_20 : decode cX3_add 20 = .ok (.aload_n 0, 1) := by decide +kernel
theorem dX3_add_21 : decode cX3_add 21 = .ok (.getfield 9, 3) := by decide +kernel
theorem dX3_add_24 : decode cX3_add 24 = .ok (.aload_n 0, 1) := by decide +kernel
theorem dX3_add_25 : decode cX3_add 25 = .ok (.getfield 15, 3) := by decide +kernel
theorem dX3_add_28 : decode cX3_add 28 = .ok (.lload_n 2, 1) := by decide +kernel
theorem dX3_add_29 : decode cX3_add 29 = .ok (.bipush 8, 2) := by decide +kernel
theorem dX3_add_31 : decode cX3_add 31 = .ok (.iload 4, 2) := by decide +kernel
theorem dX3_add_33 : decode cX3_add 33 = .ok (.imul, 1) := by decide +kernel
theorem dX3_add_34 : decode cX3_add 34 = .ok (.lshr, 1) := by decide +kernel
theorem dX3_add_35 : decode cX3_add 35 = .ok (.l2i, 1) := by decide +kernel
theorem dX3_add_36 : decode cX3_add 36 = .ok (.i2b, 1) := by decide +kernel
theorem dX3_add_37 : decode cX3_add 37 = .ok (.bastore, 1) := by decide +kernel
theorem dX3_add_38 : decode cX3_add 38 = .ok (.aload_n 0, 1) := by decide +kernel
theorem dX3_add_39 : decode cX3_add 39 = .ok (.dup, 1) := by decide +kernel
theorem dX3_add_40 : decode cX3_add 40 = .ok (.getfield 15, 3) := by decide +kernel
theorem dX3_add_43 : decode cX3_add 43 = .ok (.iconst 1, 1) := by decide +kernel
theorem dX3_add_44 : decode cX3_add 44 = .ok (.iadd, 1) := by decide +kernel
theorem dX3_add_45 : decode cX3_add 45 = .ok (.putfield 15, 3) := by decide +kernel
theorem dX3_add_48 : decode cX3_add 48 = .ok (.iinc 4 (-1), 3) := by decide +kernel
theorem dX3_add_51 : decode cX3_add 51 = .ok (.goto (-46), 3) := by decide +kernel
theorem dX3_add_54 : decode cX3_add 54 = .ok (.aload_n 0, 1) := by decide +kernel
theorem dX3_add_55 : decode cX3_add 55 = .ok (.getfield 15, 3) := by decide +kernel
theorem dX3_add_58 : decode cX3_add 58 = .ok (.ireturn, 1) := by decide +kernel
theorem dX3_readInto_0 : decode cX3_readInto 0 = .ok (.aload_n 1, 1) := by decide +kernel
theorem dX3_readInto_1 : decode cX3_readInto 1 = .ok (.invokevirtual 40, 3) := by decide +kernel
theorem dX3_readInto_4 : decode cX3_readInto 4 = .ok (.aload_n 0, 1) := by decide +kernel
theorem dX3_readInto_5 : decode cX3_readInto 5 = .ok (.iconst 0, 1) := by decide +kernel
theorem dX3_readInto_6 : decode cX3_readInto 6 = .ok (.putfield 25, 3) := by decide +kernel
theorem dX3_readInto_9 : decode cX3_readInto 9 = .ok (.aload_n 0, 1) := by decide +kernel
theorem dX3_readInto_10 : decode cX3_readInto 10 = .ok (.iconst 0, 1) := by decide +kernel
theorem dX3_readInto_11 : decode cX3_readInto 11 = .ok (.putfield 22, 3) := by decide +kernel
theorem dX3_readInto_14 : decode cX3_readInto 14 = .ok (.aload_n 0, 1) := by decide +kernel
theorem dX3_readInto_15 : decode cX3_readInto 15 = .ok (.iconst (-1), 1) := by decide +kernel
theorem dX3_readInto_16 : decode cX3_readInto 16 = .ok (.putfield 19, 3) := by decide +kernel
theorem dX3_readInto_19 : decode cX3_readInto 19 = .ok (.aload_n 0, 1) := by decide +kernel
theorem dX3_readInto_20 : decode cX3_readInto 20 = .ok (.iconst 0, 1) := by decide +kernel
theorem dX3_readInto_21 : decode cX3_readInto 21 = .ok (.putfield 31, 3) := by decide +kernel
theorem dX3_readInto_24 : decode cX3_readInto 24 = .ok (.aload_n 0, 1) := by decide +kernel
theorem dX3_readInto_25 : decode cX3_readInto 25 = .ok (.iconst 0, 1) := by decide +kernel
theorem dX3_readInto_26 : decode cX3_readInto 26 = .ok (.putfield 34, 3) := by decide +kernel
theorem dX3_readInto_29 : decode cX3_readInto 29 = .ok (.aload_n 0, 1) := by decide +kernel
theorem dX3_readInto_30 : decode cX3_readInto 30 = .ok (.iconst 0, 1) := by decide +kernel
theorem dX3_readInto_31 : decode cX3_readInto 31 = .ok (.putfield 37, 3) := by decide +kernel
theorem dX3_readInto_34 : decode cX3_readInto 34 = .ok (.aload_n 0, 1) := by decide +kernel
theorem dX3_readInto_35 : decode cX3_readInto 35 = .ok (.invokevirtual 45, 3) := by decide +kernel
theorem dX3_readInto_38 : decode cX3_readInto 38 = .ok (.iconst 0, 1) := by decide +kernel
theorem dX3_readInto_39 : decode cX3_readInto 39 = .ok (.istore_n 2, 1) := by decide +kernel
theorem dX3_readInto_40 : decode cX3_readInto 40 = .ok (.iload_n 2, 1) := by decide +kernel
theorem dX3_readInto_41 : decode cX3_readInto 41 = .ok (.aload_n 0, 1) := by decide +kernel
theorem dX3_readInto_42 : decode cX3_readInto 42 = .ok (.getfield 15, 3) := by decide +kernel
theorem dX3_readInto_45 : decode cX3_readInto 45 = .ok (.if_icmp .ge 36, 3) := by decide +kernel
theorem dX3_readInto_48 : decode cX3_readInto 48 = .ok (.aload_n 0, 1) := by decide +kernel
theorem dX3_readInto_49 : decode cX3_readInto 49 = .ok (.getfield 25, 3) := by decide +kernel
theorem dX3_readInto_52 : decode cX3_readInto 52 = .ok (.aload_n 0, 1) := by decide +kernel
theorem dX3_readInto_53 : decode cX3_readInto 53 = .ok (.getfield 15, 3) := by decide +kernel
theorem dX3_readInto_56 : decode cX3_readInto 56 = .ok (.if_icmp .ge 25, 3) := by decide +kernel
theorem dX3_readInto_59 : decode cX3_readInto 59 = .ok (.aload_n 0, 1) := by decide +kernel
theorem dX3_readInto_60 : decode cX3_readInto 60 = .ok (.getfield 22, 3) := by decide +kernel
theorem dX3_readInto_63 : decode cX3_readInto 63 = .ok (.ifCond .ne 18, 3) := by decide +kernel
theorem dX3_readInto_66 : decode cX3_readInto 66 = .ok (.aload_n 0, 1) := by decide +kernel
theorem dX3_readInto_67 : decode cX3_readInto 67 = .ok (.aload_n 1, 1) := by decide +kernel
theorem dX3_readInto_68 : decode cX3_readInto 68 = .ok (.invokevirtual 48, 3) := by decide +kernel
theorem dX3_readInto_71 : decode cX3_readInto 71 = .ok (.aload_n 0, 1) := by decide +kernel
theorem dX3_readInto_72 : decode cX3_readInto 72 = .ok (.invokevirtual 45, 3) := by decide +kernel
theorem dX3_readInto_75 : decode cX3_readInto 75 = .ok (.iinc 2 1, 3) := by decide +kernel
theorem dX3_readInto_78 : decode cX3_readInto 78 = .ok (.goto (-38), 3) := by decide +kernel
theorem dX3_readInto_81 : decode cX3_readInto 81 = .ok (.aload_n 0, 1) := by decide +kernel
theorem dX3_readInto_82 : decode cX3_readInto 82 = .ok (.getfield 22, 3) := by decide +kernel
theorem dX3_readInto_85 : decode cX3_readInto 85 = .ok (.ireturn, 1) := by decide +kernel
theorem dX3_readClause_0 : decode cX3_readClause 0 = .ok (.aload_n 0, 1) := by decide +kernel
theorem dX3_readClause_1 : decode cX3_readClause 1 = .ok (.getfield 25, 3) := by decide +kernel
theorem dX3_readClause_4 : decode cX3_readClause 4 = .ok (.istore_n 2, 1) := by decide +kernel
theorem dX3_readClause_5 : decode cX3_readClause 5 = .ok (.aload_n 0, 1) := by decide +kernel
theorem dX3_readClause_6 : decode cX3_readClause 6 = .ok (.invokevirtual 52, 3) := by decide +kernel
theorem dX3_readClause_9 : decode cX3_readClause 9 = .ok (.istore_n 3, 1) := by decide +kernel
theorem dX3_readClause_10 : decode cX3_readClause 10 = .ok (.aload_n 0, 1) := by decide +kernel
theorem dX3_readClause_11 : decode cX3_readClause 11 = .ok (.iload_n 2, 1) := by decide +kernel
theorem dX3_readClause_12 : decode cX3_readClause 12 = .ok (.iload_n 3, 1) := by decide +kernel
theorem dX3_readClause_13 : decode cX3_readClause 13 = .ok (.invokevirtual 56, 3) := by decide +kernel
theorem dX3_readClause_16 : decode cX3_readClause 16 = .ok (.istore 4, 2) := by decide +kernel
theorem dX3_readClause_18 : decode cX3_readClause 18 = .ok (.aload_n 0, 1) := by decide +kernel
theorem dX3_readClause_19 : decode cX3_readClause 19 = .ok (.iload 4, 2) := by decide +kernel
theorem dX3_readClause_21 : decode cX3_readClause 21 = .ok (.aload_n 1, 1) := by decide +kernel
theorem dX3_readClause_22 : decode cX3_readClause 22 = .ok (.invokevirtual 60, 3) := by decide +kernel
theorem dX3_readClause_25 : decode cX3_readClause 25 = .ok (.istore 5, 2) := by decide +kernel
theorem dX3_readClause_27 : decode cX3_readClause 27 = .ok (.iload 5, 2) := by decide +kernel
theorem dX3_readClause_29 : decode cX3_readClause 29 = .ok (.ifCond .eq 11, 3) := by decide +kernel
theorem dX3_readClause_32 : decode cX3_readClause 32 = .ok (.aload_n 0, 1) := by decide +kernel
theorem dX3_readClause_33 : decode cX3_readClause 33 = .ok (.iload 5, 2) := by decide +kernel
theorem dX3_readClause_35 : decode cX3_readClause 35 = .ok (.iload_n 2, 1) := by decide +kernel
theorem dX3_readClause_36 : decode cX3_readClause 36 = .ok (.invokevirtual 64, 3) := by decide +kernel
theorem dX3_readClause_39 : decode cX3_readClause 39 = .ok (.return_, 1) := by decide +kernel
theorem dX3_readClause_40 : decode cX3_readClause 40 = .ok (.aload_n 0, 1) := by decide +kernel
theorem dX3_readClause_41 : decode cX3_readClause 41 = .ok (.iload_n 3, 1) := by decide +kernel
theorem dX3_readClause_42 : decode cX3_readClause 42 = .ok (.putfield 25, 3) := by decide +kernel
theorem dX3_readClause_45 : decode cX3_readClause 45 = .ok (.iload 4, 2) := by decide +kernel
theorem dX3_readClause_47 : decode cX3_readClause 47 = .ok (.tableswitch 61 1 4 #[29, 37, 45, 53], 29) := by decide +kernel
theorem dX3_readClause_76 : decode cX3_readClause 76 = .ok (.aload_n 0, 1) := by decide +kernel
theorem dX3_readClause_77 : decode cX3_readClause 77 = .ok (.aload_n 1, 1) := by decide +kernel
theorem dX3_readClause_78 : decode cX3_readClause 78 = .ok (.invokevirtual 68, 3) := by decide +kernel
theorem dX3_readClause_81 : decode cX3_readClause 81 = .ok (.goto 32, 3) := by decide +kernel
theorem dX3_readClause_84 : decode cX3_readClause 84 = .ok (.aload_n 0, 1) := by decide +kernel
theorem dX3_readClause_85 : decode cX3_readClause 85 = .ok (.aload_n 1, 1) := by decide +kernel
theorem dX3_readClause_86 : decode cX3_readClause 86 = .ok (.invokevirtual 71, 3) := by decide +kernel
theorem dX3_readClause_89 : decode cX3_readClause 89 = .ok (.goto 24, 3) := by decide +kernel
theorem dX3_readClause_92 : decode cX3_readClause 92 = .ok (.aload_n 0, 1) := by decide +kernel
theorem dX3_readClause_93 : decode cX3_readClause 93 = .ok (.aload_n 1, 1) := by decide +kernel
theorem dX3_readClause_94 : decode cX3_readClause 94 = .ok (.invokevirtual 74, 3) := by decide +kernel
theorem dX3_readClause_97 : decode cX3_readClause 97 = .ok (.goto 16, 3) := by decide +kernel
theorem dX3_readClause_100 : decode cX3_readClause 100 = .ok (.aload_n 0, 1) := by decide +kernel
theorem dX3_readClause_101 : decode cX3_readClause 101 = .ok (.aload_n 1, 1) := by decide +kernel
theorem dX3_readClause_102 : decode cX3_readClause 102 = .ok (.invokevirtual 77, 3) := by decide +kernel
theorem dX3_readClause_105 : decode cX3_readClause 105 = .ok (.goto 8, 3) := by decide +kernel
theorem dX3_readClause_108 : decode cX3_readClause 108 = .ok (.aload_n 0, 1) := by decide +kernel
theorem dX3_readClause_109 : decode cX3_readClause 109 = .ok (.aload_n 1, 1) := by decide +kernel
theorem dX3_readClause_110 : decode cX3_readClause 110 = .ok (.invokevirtual 80, 3) := by decide +kernel
theorem dX3_readClause_113 : decode cX3_readClause 113 = .ok (.return_, 1) := by decide +kernel
theorem dX3_clauseOf_0 : decode cX3_clauseOf 0 = .ok (.aload_n 0, 1) := by decide +kernel
theorem dX3_clauseOf_1 : decode cX3_clauseOf 1 = .ok (.ldc 83, 2) := by decide +kernel
theorem dX3_clauseOf_3 : decode cX3_clauseOf 3 = .ok (.iload_n 1, 1) := by decide +kernel
theorem dX3_clauseOf_4 : decode cX3_clauseOf 4 = .ok (.iload_n 2, 1) := by decide +kernel
theorem dX3_clauseOf_5 : decode cX3_clauseOf 5 = .ok (.invokevirtual 85, 3) := by decide +kernel
theorem dX3_clauseOf_8 : decode cX3_clauseOf 8 = .ok (.ifCond .eq 5, 3) := by decide +kernel
theorem dX3_clauseOf_11 : decode cX3_clauseOf 11 = .ok (.iconst 1, 1) := by decide +kernel
theorem dX3_clauseOf_12 : decode cX3_clauseOf 12 = .ok (.ireturn, 1) := by decide +kernel
theorem dX3_clauseOf_13 : decode cX3_clauseOf 13 = .ok (.aload_n 0, 1) := by decide +kernel
theorem dX3_clauseOf_14 : decode cX3_clauseOf 14 = .ok (.ldc 89, 2) := by decide +kernel
theorem dX3_clauseOf_16 : decode cX3_clauseOf 16 = .ok (.iload_n 1, 1) := by decide +kernel
theorem dX3_clauseOf_17 : decode cX3_clauseOf 17 = .ok (.iload_n 2, 1) := by decide +kernel
theorem dX3_clauseOf_18 : decode cX3_clauseOf 18 = .ok (.invokevirtual 85, 3) := by decide +kernel
theorem dX3_clauseOf_21 : decode cX3_clauseOf 21 = .ok (.ifCond .eq 5, 3) := by decide +kernel
theorem dX3_clauseOf_24 : decode cX3_clauseOf 24 = .ok (.iconst 2, 1) := by decide +kernel
theorem dX3_clauseOf_25 : decode cX3_clauseOf 25 = .ok (.ireturn, 1) := by decide +kernel
theorem dX3_clauseOf_26 : decode cX3_clauseOf 26 = .ok (.aload_n 0, 1) := by decide +kernel
theorem dX3_clauseOf_27 : decode cX3_clauseOf 27 = .ok (.ldc 91, 2) := by decide +kernel
theorem dX3_clauseOf_29 : decode cX3_clauseOf 29 = .ok (.iload_n 1, 1) := by decide +kernel
theorem dX3_clauseOf_30 : decode cX3_clauseOf 30 = .ok (.iload_n 2, 1) := by decide +kernel
theorem dX3_clauseOf_31 : decode cX3_clauseOf 31 = .ok (.invokevirtual 85, 3) := by decide +kernel
theorem dX3_clauseOf_34 : decode cX3_clauseOf 34 = .ok (.ifCond .eq 5, 3) := by decide +kernel
theorem dX3_clauseOf_37 : decode cX3_clauseOf 37 = .ok (.iconst 3, 1) := by decide +kernel
theorem dX3_clauseOf_38 : decode cX3_clauseOf 38 = .ok (.ireturn, 1) := by decide +kernel
theorem dX3_clauseOf_39 : decode cX3_clauseOf 39 = .ok (.aload_n 0, 1) := by decide +kernel
theorem dX3_clauseOf_40 : decode cX3_clauseOf 40 = .ok (.ldc 93, 2) := by decide +kernel
theorem dX3_clauseOf_42 : decode cX3_clauseOf 42 = .ok (.iload_n 1, 1) := by decide +kernel
theorem dX3_clauseOf_43 : decode cX3_clauseOf 43 = .ok (.iload_n 2, 1) := by decide +kernel
theorem dX3_clauseOf_44 : decode cX3_clauseOf 44 = .ok (.invokevirtual 85, 3) := by decide +kernel
theorem dX3_clauseOf_47 : decode cX3_clauseOf 47 = .ok (.ifCond .eq 5, 3) := by decide +kernel
theorem dX3_clauseOf_50 : decode cX3_clauseOf 50 = .ok (.iconst 4, 1) := by decide +kernel
theorem dX3_clauseOf_51 : decode cX3_clauseOf 51 = .ok (.ireturn, 1) := by decide +kernel
theorem dX3_clauseOf_52 : decode cX3_clauseOf 52 = .ok (.aload_n 0, 1) := by decide +kernel
theorem dX3_clauseOf_53 : decode cX3_clauseOf 53 = .ok (.ldc 95, 2) := by decide +kernel
theorem dX3_clauseOf_55 : decode cX3_clauseOf 55 = .ok (.iload_n 1, 1) := by decide +kernel
theorem dX3_clauseOf_56 : decode cX3_clauseOf 56 = .ok (.iload_n 2, 1) := by decide +kernel
theorem dX3_clauseOf_57 : decode cX3_clauseOf 57 = .ok (.invokevirtual 85, 3) := by decide +kernel
theorem dX3_clauseOf_60 : decode cX3_clauseOf 60 = .ok (.ifCond .eq 7, 3) := by decide +kernel
theorem dX3_clauseOf_63 : decode cX3_clauseOf 63 = .ok (.iconst 5, 1) := by decide +kernel
theorem dX3_clauseOf_64 : decode cX3_clauseOf 64 = .ok (.goto 4, 3) := by decide +kernel
theorem dX3_clauseOf_67 : decode cX3_clauseOf 67 = .ok (.iconst 0, 1) := by decide +kernel
theorem dX3_clauseOf_68 : decode cX3_clauseOf 68 = .ok (.ireturn, 1) := by decide +kernel
theorem dX3_whyNot_0 : decode cX3_whyNot 0 = .ok (.iload_n 1, 1) := by decide +kernel
theorem dX3_whyNot_1 : decode cX3_whyNot 1 = .ok (.tableswitch 93 1 5 #[35, 55, 64, 74, 84], 35) := by decide +kernel
theorem dX3_whyNot_36 : decode cX3_whyNot 36 = .ok (.aload_n 0, 1) := by decide +kernel
theorem dX3_whyNot_37 : decode cX3_whyNot 37 = .ok (.getfield 37, 3) := by decide +kernel
theorem dX3_whyNot_40 : decode cX3_whyNot 40 = .ok (.ifCond .le 7, 3) := by decide +kernel
theorem dX3_whyNot_43 : decode cX3_whyNot 43 = .ok (.iconst 1, 1) := by decide +kernel
theorem dX3_whyNot_44 : decode cX3_whyNot 44 = .ok (.goto 11, 3) := by decide +kernel
theorem dX3_whyNot_47 : decode cX3_whyNot 47 = .ok (.aload_n 0, 1) := by decide +kernel
theorem dX3_whyNot_48 : decode cX3_whyNot 48 = .ok (.getfield 31, 3) := by decide +kernel
theorem dX3_whyNot_51 : decode cX3_whyNot 51 = .ok (.iconst 1, 1) := by decide +kernel
theorem dX3_whyNot_52 : decode cX3_whyNot 52 = .ok (.invokestatic 97, 3) := by decide +kernel
theorem dX3_whyNot_55 : decode cX3_whyNot 55 = .ok (.ireturn, 1) := by decide +kernel
theorem dX3_whyNot_56 : decode cX3_whyNot 56 = .ok (.aload_n 2, 1) := by decide +kernel
theorem dX3_whyNot_57 : decode cX3_whyNot 57 = .ok (.getfield 100, 3) := by decide +kernel
theorem dX3_whyNot_60 : decode cX3_whyNot 60 = .ok (.iconst 5, 1) := by decide +kernel
theorem dX3_whyNot_61 : decode cX3_whyNot 61 = .ok (.invokestatic 97, 3) := by decide +kernel
theorem dX3_whyNot_64 : decode cX3_whyNot 64 = .ok (.ireturn, 1) := by decide +kernel
theorem dX3_whyNot_65 : decode cX3_whyNot 65 = .ok (.aload_n 2, 1) := by decide +kernel
theorem dX3_whyNot_66 : decode cX3_whyNot 66 = .ok (.getfield 103, 3) := by decide +kernel
theorem dX3_whyNot_69 : decode cX3_whyNot 69 = .ok (.bipush 6, 2) := by decide +kernel
theorem dX3_whyNot_71 : decode cX3_whyNot 71 = .ok (.invokestatic 97, 3) := by decide +kernel
theorem dX3_whyNot_74 : decode cX3_whyNot 74 = .ok (.ireturn, 1) := by decide +kernel
theorem dX3_whyNot_75 : decode cX3_whyNot 75 = .ok (.aload_n 0, 1) := by decide +kernel
theorem dX3_whyNot_76 : decode cX3_whyNot 76 = .ok (.getfield 34, 3) := by decide +kernel
theorem dX3_whyNot_79 : decode cX3_whyNot 79 = .ok (.bipush 12, 2) := by decide +kernel
theorem dX3_whyNot_81 : decode cX3_whyNot 81 = .ok (.invokestatic 97, 3) := by decide +kernel
theorem dX3_whyNot_84 : decode cX3_whyNot 84 = .ok (.ireturn, 1) := by decide +kernel
theorem dX3_whyNot_85 : decode cX3_whyNot 85 = .ok (.aload_n 2, 1) := by decide +kernel
theorem dX3_whyNot_86 : decode cX3_whyNot 86 = .ok (.getfield 106, 3) := by decide +kernel
theorem dX3_whyNot_89 : decode cX3_whyNot 89 = .ok (.iconst 5, 1) := by decide +kernel
theorem dX3_whyNot_90 : decode cX3_whyNot 90 = .ok (.invokestatic 97, 3) := by decide +kernel
theorem dX3_whyNot_93 : decode cX3_whyNot 93 = .ok (.ireturn, 1) := by decide +kernel
theorem dX3_whyNot_94 : decode cX3_whyNot 94 = .ok (.iconst 1, 1) := by decide +kernel
theorem dX3_whyNot_95 : decode cX3_whyNot 95 = .ok (.ireturn, 1) := by decide +kernel
theorem dX3_overMost_0 : decode cX3_overMost 0 = .ok (.iload_n 0, 1) := by decide +kernel
theorem dX3_overMost_1 : decode cX3_overMost 1 = .ok (.iload_n 1, 1) := by decide +kernel
theorem dX3_overMost_2 : decode cX3_overMost 2 = .ok (.if_icmp .ge 7, 3) := by decide +kernel
theorem dX3_overMost_5 : decode cX3_overMost 5 = .ok (.iconst 0, 1) := by decide +kernel
theorem dX3_overMost_6 : decode cX3_overMost 6 = .ok (.goto 4, 3) := by decide +kernel
theorem dX3_overMost_9 : decode cX3_overMost 9 = .ok (.iconst 3, 1) := by decide +kernel
theorem dX3_overMost_10 : decode cX3_overMost 10 = .ok (.ireturn, 1) := by decide +kernel
theorem dX3_readYear_0 : decode cX3_readYear 0 = .ok (.aload_n 0, 1) := by decide +kernel
theorem dX3_readYear_1 : decode cX3_readYear 1 = .ok (.dup, 1) := by decide +kernel
theorem dX3_readYear_2 : decode cX3_readYear 2 = .ok (.getfield 31, 3) := by decide +kernel
theorem dX3_readYear_5 : decode cX3_readYear 5 = .ok (.iconst 1, 1) := by decide +kernel
theorem dX3_readYear_6 : decode cX3_readYear 6 = .ok (.iadd, 1) := by decide +kernel
theorem dX3_readYear_7 : decode cX3_readYear 7 = .ok (.putfield 31, 3) := by decide +kernel
theorem dX3_readYear_10 : decode cX3_readYear 10 = .ok (.aload_n 0, 1) := by decide +kernel
theorem dX3_readYear_11 : decode cX3_readYear 11 = .ok (.iconst 1, 1) := by decide +kernel
theorem dX3_readYear_12 : decode cX3_readYear 12 = .ok (.bipush 99, 2) := by decide +kernel
theorem dX3_readYear_14 : decode cX3_readYear 14 = .ok (.invokevirtual 109, 3) := by decide +kernel
theorem dX3_readYear_17 : decode cX3_readYear 17 = .ok (.istore_n 2, 1) := by decide +kernel
theorem dX3_readYear_18 : decode cX3_readYear 18 = .ok (.aload_n 0, 1) := by decide +kernel
theorem dX3_readYear_19 : decode cX3_readYear 19 = .ok (.invokevirtual 112, 3) := by decide +kernel
theorem dX3_readYear_22 : decode cX3_readYear 22 = .ok (.aload_n 1, 1) := by decide +kernel
theorem dX3_readYear_23 : decode cX3_readYear 23 = .ok (.iload_n 2, 1) := by decide +kernel
theorem dX3_readYear_24 : decode cX3_readYear 24 = .ok (.putfield 115, 3) := by decide +kernel
theorem dX3_readYear_27 : decode cX3_readYear 27 = .ok (.return_, 1) := by decide +kernel
theorem dX3_readBridge_0 : decode cX3_readBridge 0 = .ok (.aload_n 0, 1) := by decide +kernel
theorem dX3_readBridge_1 : decode cX3_readBridge 1 = .ok (.dup, 1) := by decide +kernel
theorem dX3_readBridge_2 : decode cX3_readBridge 2 = .ok (.getfield 37, 3) := by decide +kernel
theorem dX3_readBridge_5 : decode cX3_readBridge 5 = .ok (.iconst 1, 1) := by decide +kernel
theorem dX3_readBridge_6 : decode cX3_readBridge 6 = .ok (.iadd, 1) := by decide +kernel
theorem dX3_readBridge_7 : decode cX3_readBridge 7 = .ok (.putfield 37, 3) := by decide +kernel
theorem dX3_readBridge_10 : decode cX3_readBridge 10 = .ok (.aload_n 0, 1) := by decide +kernel
theorem dX3_readBridge_11 : decode cX3_readBridge 11 = .ok (.iconst 0, 1) := by decide +kernel
theorem dX3_readBridge_12 : decode cX3_readBridge 12 = .ok (.bipush 9, 2) := by decide +kernel
theorem dX3_readBridge_14 : decode cX3_readBridge 14 = .ok (.invokevirtual 109, 3) := by decide +kernel
theorem dX3_readBridge_17 : decode cX3_readBridge 17 = .ok (.istore_n 2, 1) := by decide +kernel
theorem dX3_readBridge_18 : decode cX3_readBridge 18 = .ok (.aload_n 0, 1) := by decide +kernel
theorem dX3_readBridge_19 : decode cX3_readBridge 19 = .ok (.invokevirtual 112, 3) := by decide +kernel
theorem dX3_readBridge_22 : decode cX3_readBridge 22 = .ok (.aload_n 1, 1) := by decide +kernel
theorem dX3_readBridge_23 : decode cX3_readBridge 23 = .ok (.iload_n 2, 1) := by decide +kernel
theorem dX3_readBridge_24 : decode cX3_readBridge 24 = .ok (.invokevirtual 117, 3) := by decide +kernel
theorem dX3_readBridge_27 : decode cX3_readBridge 27 = .ok (.return_, 1) := by decide +kernel
theorem dX3_readMan_0 : decode cX3_readMan 0 = .ok (.aload_n 0, 1) := by decide +kernel
theorem dX3_readMan_1 : decode cX3_readMan 1 = .ok (.dup, 1) := by decide +kernel
theorem dX3_readMan_2 : decode cX3_readMan 2 = .ok (.getfield 37, 3) := by decide +kernel
theorem dX3_readMan_5 : decode cX3_readMan 5 = .ok (.iconst 1, 1) := by decide +kernel
theorem dX3_readMan_6 : decode cX3_readMan 6 = .ok (.iadd, 1) := by decide +kernel
theorem dX3_readMan_7 : decode cX3_readMan 7 = .ok (.putfield 37, 3) := by decide +kernel
theorem dX3_readMan_10 : decode cX3_readMan 10 = .ok (.aload_n 0, 1) := by decide +kernel
theorem dX3_readMan_11 : decode cX3_readMan 11 = .ok (.iconst 1, 1) := by decide +kernel
theorem dX3_readMan_12 : decode cX3_readMan 12 = .ok (.sipush 999, 3) := by decide +kernel
theorem dX3_readMan_15 : decode cX3_readMan 15 = .ok (.invokevirtual 109, 3) := by decide +kernel
theorem dX3_readMan_18 : decode cX3_readMan 18 = .ok (.istore_n 2, 1) := by decide +kernel
theorem dX3_readMan_19 : decode cX3_readMan 19 = .ok (.aload_n 0, 1) := by decide +kernel
theorem dX3_readMan_20 : decode cX3_readMan 20 = .ok (.iconst 0, 1) := by decide +kernel
theorem dX3_readMan_21 : decode cX3_readMan 21 = .ok (.bipush 100, 2) := by decide +kernel
theorem dX3_readMan_23 : decode cX3_readMan 23 = .ok (.invokevirtual 109, 3) := by decide +kernel
theorem dX3_readMan_26 : decode cX3_readMan 26 = .ok (.istore_n 3, 1) := by decide +kernel
theorem dX3_readMan_27 : decode cX3_readMan 27 = .ok (.aload_n 0, 1) := by decide +kernel
theorem dX3_readMan_28 : decode cX3_readMan 28 = .ok (.invokevirtual 112, 3) := by decide +kernel
theorem dX3_readMan_31 : decode cX3_readMan 31 = .ok (.aload_n 1, 1) := by decide +kernel
theorem dX3_readMan_32 : decode cX3_readMan 32 = .ok (.iload_n 2, 1) := by decide +kernel
theorem dX3_readMan_33 : decode cX3_readMan 33 = .ok (.iload_n 3, 1) := by decide +kernel
theorem dX3_readMan_34 : decode cX3_readMan 34 = .ok (.invokevirtual 121, 3) := by decide +kernel
theorem dX3_readMan_37 : decode cX3_readMan 37 = .ok (.return_, 1) := by decide +kernel
theorem dX3_readOx_0 : decode cX3_readOx 0 = .ok (.aload_n 0, 1) := by decide +kernel
theorem dX3_readOx_1 : decode cX3_readOx 1 = .ok (.dup, 1) := by decide +kernel
theorem dX3_readOx_2 : decode cX3_readOx 2 = .ok (.getfield 37, 3) := by decide +kernel
theorem dX3_readOx_5 : decode cX3_readOx 5 = .ok (.iconst 1, 1) := by decide +kernel
theorem dX3_readOx_6 : decode cX3_readOx 6 = .ok (.iadd, 1) := by decide +kernel
theorem dX3_readOx_7 : decode cX3_readOx 7 = .ok (.putfield 37, 3) := by decide +kernel
theorem dX3_readOx_10 : decode cX3_readOx 10 = .ok (.aload_n 0, 1) := by decide +kernel
theorem dX3_readOx_11 : decode cX3_readOx 11 = .ok (.iconst 1, 1) := by decide +kernel
theorem dX3_readOx_12 : decode cX3_readOx 12 = .ok (.sipush 999, 3) := by decide +kernel
theorem dX3_readOx_15 : decode cX3_readOx 15 = .ok (.invokevirtual 109, 3) := by decide +kernel
theorem dX3_readOx_18 : decode cX3_readOx 18 = .ok (.istore_n 2, 1) := by decide +kernel
theorem dX3_readOx_19 : decode cX3_readOx 19 = .ok (.aload_n 0, 1) := by decide +kernel
theorem dX3_readOx_20 : decode cX3_readOx 20 = .ok (.iconst 0, 1) := by decide +kernel
theorem dX3_readOx_21 : decode cX3_readOx 21 = .ok (.sipush 999, 3) := by decide +kernel
theorem dX3_readOx_24 : decode cX3_readOx 24 = .ok (.invokevirtual 109, 3) := by decide +kernel
theorem dX3_readOx_27 : decode cX3_readOx 27 = .ok (.istore_n 3, 1) := by decide +kernel
theorem dX3_readOx_28 : decode cX3_readOx 28 = .ok (.aload_n 0, 1) := by decide +kernel
theorem dX3_readOx_29 : decode cX3_readOx 29 = .ok (.invokevirtual 112, 3) := by decide +kernel
theorem dX3_readOx_32 : decode cX3_readOx 32 = .ok (.aload_n 1, 1) := by decide +kernel
theorem dX3_readOx_33 : decode cX3_readOx 33 = .ok (.iload_n 2, 1) := by decide +kernel
theorem dX3_readOx_34 : decode cX3_readOx 34 = .ok (.iload_n 3, 1) := by decide +kernel
theorem dX3_readOx_35 : decode cX3_readOx 35 = .ok (.invokevirtual 124, 3) := by decide +kernel
theorem dX3_readOx_38 : decode cX3_readOx 38 = .ok (.return_, 1) := by decide +kernel
theorem dX3_readKnows_0 : decode cX3_readKnows 0 = .ok (.aload_n 0, 1) := by decide +kernel
theorem dX3_readKnows_1 : decode cX3_readKnows 1 = .ok (.dup, 1) := by decide +kernel
theorem dX3_readKnows_2 : decode cX3_readKnows 2 = .ok (.getfield 37, 3) := by decide +kernel
theorem dX3_readKnows_5 : decode cX3_readKnows 5 = .ok (.iconst 1, 1) := by decide +kernel
theorem dX3_readKnows_6 : decode cX3_readKnows 6 = .ok (.iadd, 1) := by decide +kernel
theorem dX3_readKnows_7 : decode cX3_readKnows 7 = .ok (.putfield 37, 3) := by decide +kernel
theorem dX3_readKnows_10 : decode cX3_readKnows 10 = .ok (.aload_n 0, 1) := by decide +kernel
theorem dX3_readKnows_11 : decode cX3_readKnows 11 = .ok (.dup, 1) := by decide +kernel
theorem dX3_readKnows_12 : decode cX3_readKnows 12 = .ok (.getfield 34, 3) := by decide +kernel
theorem dX3_readKnows_15 : decode cX3_readKnows 15 = .ok (.iconst 1, 1) := by decide +kernel
theorem dX3_readKnows_16 : decode cX3_readKnows 16 = .ok (.iadd, 1) := by decide +kernel
theorem dX3_readKnows_17 : decode cX3_readKnows 17 = .ok (.putfield 34, 3) := by decide +kernel
theorem dX3_readKnows_20 : decode cX3_readKnows 20 = .ok (.aload_n 0, 1) := by decide +kernel
theorem dX3_readKnows_21 : decode cX3_readKnows 21 = .ok (.iconst 0, 1) := by decide +kernel
theorem dX3_readKnows_22 : decode cX3_readKnows 22 = .ok (.aload_n 1, 1) := by decide +kernel
theorem dX3_readKnows_23 : decode cX3_readKnows 23 = .ok (.getfield 103, 3) := by decide +kernel
theorem dX3_readKnows_26 : decode cX3_readKnows 26 = .ok (.iconst 1, 1) := by decide +kernel
theorem dX3_readKnows_27 : decode cX3_readKnows 27 = .ok (.isub, 1) := by decide +kernel
theorem dX3_readKnows_28 : decode cX3_readKnows 28 = .ok (.invokevirtual 109, 3) := by decide +kernel
theorem dX3_readKnows_31 : decode cX3_readKnows 31 = .ok (.istore_n 2, 1) := by decide +kernel
theorem dX3_readKnows_32 : decode cX3_readKnows 32 = .ok (.aload_n 0, 1) := by decide +kernel
theorem dX3_readKnows_33 : decode cX3_readKnows 33 = .ok (.getfield 22, 3) := by decide +kernel
theorem dX3_readKnows_36 : decode cX3_readKnows 36 = .ok (.ifCond .ne 7, 3) := by decide +kernel
theorem dX3_readKnows_39 : decode cX3_readKnows 39 = .ok (.iconst 1, 1) := by decide +kernel
theorem dX3_readKnows_40 : decode cX3_readKnows 40 = .ok (.goto 4, 3) := by decide +kernel
theorem dX3_readKnows_43 : decode cX3_readKnows 43 = .ok (.iconst 0, 1) := by decide +kernel
theorem dX3_readKnows_44 : decode cX3_readKnows 44 = .ok (.istore_n 3, 1) := by decide +kernel
theorem dX3_readKnows_45 : decode cX3_readKnows 45 = .ok (.iconst 0, 1) := by decide +kernel
theorem dX3_readKnows_46 : decode cX3_readKnows 46 = .ok (.istore 4, 2) := by decide +kernel
theorem dX3_readKnows_48 : decode cX3_readKnows 48 = .ok (.iload 4, 2) := by decide +kernel
theorem dX3_readKnows_50 : decode cX3_readKnows 50 = .ok (.aload_n 0, 1) := by decide +kernel
theorem dX3_readKnows_51 : decode cX3_readKnows 51 = .ok (.getfield 15, 3) := by decide +kernel
theorem dX3_readKnows_54 : decode cX3_readKnows 54 = .ok (.if_icmp .ge 48, 3) := by decide +kernel
theorem dX3_readKnows_57 : decode cX3_readKnows 57 = .ok (.iload_n 3, 1) := by decide +kernel
theorem dX3_readKnows_58 : decode cX3_readKnows 58 = .ok (.ifCond .eq 44, 3) := by decide +kernel
theorem dX3_readKnows_61 : decode cX3_readKnows 61 = .ok (.aload_n 0, 1) := by decide +kernel
theorem dX3_readKnows_62 : decode cX3_readKnows 62 = .ok (.iconst 0, 1) := by decide +kernel
theorem dX3_readKnows_63 : decode cX3_readKnows 63 = .ok (.aload_n 1, 1) := by decide +kernel
theorem dX3_readKnows_64 : decode cX3_readKnows 64 = .ok (.getfield 103, 3) := by decide +kernel
theorem dX3_readKnows_67 : decode cX3_readKnows 67 = .ok (.iconst 1, 1) := by decide +kernel
theorem dX3_readKnows_68 : decode cX3_readKnows 68 = .ok (.isub, 1) := by decide +kernel
theorem dX3_readKnows_69 : decode cX3_readKnows 69 = .ok (.invokevirtual 109, 3) := by decide +kernel
theorem dX3_readKnows_72 : decode cX3_readKnows 72 = .ok (.istore 5, 2) := by decide +kernel
theorem dX3_readKnows_74 : decode cX3_readKnows 74 = .ok (.aload_n 0, 1) := by decide +kernel
theorem dX3_readKnows_75 : decode cX3_readKnows 75 = .ok (.getfield 22, 3) := by decide +kernel
theorem dX3_readKnows_78 : decode cX3_readKnows 78 = .ok (.ifCond .ne 11, 3) := by decide +kernel
theorem dX3_readKnows_81 : decode cX3_readKnows 81 = .ok (.aload_n 0, 1) := by decide +kernel
theorem dX3_readKnows_82 : decode cX3_readKnows 82 = .ok (.aload_n 1, 1) := by decide +kernel
theorem dX3_readKnows_83 : decode cX3_readKnows 83 = .ok (.iload_n 2, 1) := by decide +kernel
theorem dX3_readKnows_84 : decode cX3_readKnows 84 = .ok (.iload 5, 2) := by decide +kernel
theorem dX3_readKnows_86 : decode cX3_readKnows 86 = .ok (.invokevirtual 127, 3) := by decide +kernel
theorem dX3_readKnows_89 : decode cX3_readKnows 89 = .ok (.aload_n 0, 1) := by decide +kernel
theorem dX3_readKnows_90 : decode cX3_readKnows 90 = .ok (.bipush 44, 2) := by decide +kernel
theorem dX3_readKnows_92 : decode cX3_readKnows 92 = .ok (.invokevirtual 131, 3) := by decide +kernel
theorem dX3_readKnows_95 : decode cX3_readKnows 95 = .ok (.istore_n 3, 1) := by decide +kernel
theorem dX3_readKnows_96 : decode cX3_readKnows 96 = .ok (.iinc 4 1, 3) := by decide +kernel
theorem dX3_readKnows_99 : decode cX3_readKnows 99 = .ok (.goto (-51), 3) := by decide +kernel
theorem dX3_readKnows_102 : decode cX3_readKnows 102 = .ok (.aload_n 0, 1) := by decide +kernel
theorem dX3_readKnows_103 : decode cX3_readKnows 103 = .ok (.invokevirtual 112, 3) := by decide +kernel
theorem dX3_readKnows_106 : decode cX3_readKnows 106 = .ok (.return_, 1) := by decide +kernel
theorem dX3_readKnown_0 : decode cX3_readKnown 0 = .ok (.aload_n 1, 1) := by decide +kernel
theorem dX3_readKnown_1 : decode cX3_readKnown 1 = .ok (.iload_n 2, 1) := by decide +kernel
theorem dX3_readKnown_2 : decode cX3_readKnown 2 = .ok (.invokevirtual 135, 3) := by decide +kernel
theorem dX3_readKnown_5 : decode cX3_readKnown 5 = .ok (.ifCond .ne 4, 3) := by decide +kernel
theorem dX3_readKnown_8 : decode cX3_readKnown 8 = .ok (.return_, 1) := by decide +kernel
theorem dX3_readKnown_9 : decode cX3_readKnown 9 = .ok (.iload_n 2, 1) := by decide +kernel
theorem dX3_readKnown_10 : decode cX3_readKnown 10 = .ok (.iload_n 3, 1) := by decide +kernel
theorem dX3_readKnown_11 : decode cX3_readKnown 11 = .ok (.if_icmp .eq 16, 3) := by decide +kernel
theorem dX3_readKnown_14 : decode cX3_readKnown 14 = .ok (.aload_n 1, 1) := by decide +kernel
theorem dX3_readKnown_15 : decode cX3_readKnown 15 = .ok (.getfield 139, 3) := by decide +kernel
theorem dX3_readKnown_18 : decode cX3_readKnown 18 = .ok (.iload_n 2, 1) := by decide +kernel
theorem dX3_readKnown_19 : decode cX3_readKnown 19 = .ok (.iaload, 1) := by decide +kernel
theorem dX3_readKnown_20 : decode cX3_readKnown 20 = .ok (.iload_n 3, 1) := by decide +kernel
theorem dX3_readKnown_21 : decode cX3_readKnown 21 = .ok (.invokestatic 143, 3) := by decide +kernel
theorem dX3_readKnown_24 : decode cX3_readKnown 24 = .ok (.ifCond .eq 15, 3) := by decide +kernel
theorem dX3_readKnown_27 : decode cX3_readKnown 27 = .ok (.aload_n 0, 1) := by decide +kernel
theorem dX3_readKnown_28 : decode cX3_readKnown 28 = .ok (.iconst 4, 1) := by decide +kernel
theorem dX3_readKnown_29 : decode cX3_readKnown 29 = .ok (.aload_n 0, 1) := by decide +kernel
theorem dX3_readKnown_30 : decode cX3_readKnown 30 = .ok (.getfield 28, 3) := by decide +kernel
theorem dX3_readKnown_33 : decode cX3_readKnown 33 = .ok (.invokevirtual 64, 3) := by decide +kernel
theorem dX3_readKnown_36 : decode cX3_readKnown 36 = .ok (.goto 16, 3) := by decide +kernel
theorem dX3_readKnown_39 : decode cX3_readKnown 39 = .ok (.aload_n 1, 1) := by decide +kernel
theorem dX3_readKnown_40 : decode cX3_readKnown 40 = .ok (.getfield 139, 3) := by decide +kernel
theorem dX3_readKnown_43 : decode cX3_readKnown 43 = .ok (.iload_n 2, 1) := by decide +kernel
theorem dX3_readKnown_44 : decode cX3_readKnown 44 = .ok (.dup2, 1) := by decide +kernel
theorem dX3_readKnown_45 : decode cX3_readKnown 45 = .ok (.iaload, 1) := by decide +kernel
theorem dX3_readKnown_46 : decode cX3_readKnown 46 = .ok (.iload_n 3, 1) := by decide +kernel
theorem dX3_readKnown_47 : decode cX3_readKnown 47 = .ok (.invokestatic 147, 3) := by decide +kernel
theorem dX3_readKnown_50 : decode cX3_readKnown 50 = .ok (.ior, 1) := by decide +kernel
theorem dX3_readKnown_51 : decode cX3_readKnown 51 = .ok (.iastore, 1) := by decide +kernel
theorem dX3_readKnown_52 : decode cX3_readKnown 52 = .ok (.return_, 1) := by decide +kernel
theorem dX3_number_0 : decode cX3_number 0 = .ok (.aload_n 0, 1) := by decide +kernel
theorem dX3_number_1 : decode cX3_number 1 = .ok (.getfield 22, 3) := by decide +kernel
theorem dX3_number_4 : decode cX3_number 4 = .ok (.ifCond .eq 5, 3) := by decide +kernel
theorem dX3_number_7 : decode cX3_number 7 = .ok (.iconst 0, 1) := by decide +kernel
theorem dX3_number_8 : decode cX3_number 8 = .ok (.ireturn, 1) := by decide +kernel
theorem dX3_number_9 : decode cX3_number 9 = .ok (.aload_n 0, 1) := by decide +kernel
theorem dX3_number_10 : decode cX3_number 10 = .ok (.invokevirtual 45, 3) := by decide +kernel
theorem dX3_number_13 : decode cX3_number 13 = .ok (.aload_n 0, 1) := by decide +kernel
theorem dX3_number_14 : decode cX3_number 14 = .ok (.aload_n 0, 1) := by decide +kernel
theorem dX3_number_15 : decode cX3_number 15 = .ok (.getfield 25, 3) := by decide +kernel
theorem dX3_number_18 : decode cX3_number 18 = .ok (.putfield 28, 3) := by decide +kernel
theorem dX3_number_21 : decode cX3_number 21 = .ok (.iconst 0, 1) := by decide +kernel
theorem dX3_number_22 : decode cX3_number 22 = .ok (.istore_n 3, 1) := by decide +kernel
theorem dX3_number_23 : decode cX3_number 23 = .ok (.aload_n 0, 1) := by decide +kernel
theorem dX3_number_24 : decode cX3_number 24 = .ok (.getfield 25, 3) := by decide +kernel
theorem dX3_number_27 : decode cX3_number 27 = .ok (.aload_n 0, 1) := by decide +kernel
theorem dX3_number_28 : decode cX3_number 28 = .ok (.getfield 15, 3) := by decide +kernel
theorem dX3_number_31 : decode cX3_number 31 = .ok (.if_icmp .ge 66, 3) := by decide +kernel
theorem dX3_number_34 : decode cX3_number 34 = .ok (.aload_n 0, 1) := by decide +kernel
theorem dX3_number_35 : decode cX3_number 35 = .ok (.getfield 9, 3) := by decide +kernel
theorem dX3_number_38 : decode cX3_number 38 = .ok (.aload_n 0, 1) := by decide +kernel
theorem dX3_number_39 : decode cX3_number 39 = .ok (.getfield 25, 3) := by decide +kernel
theorem dX3_number_42 : decode cX3_number 42 = .ok (.baload, 1) := by decide +kernel
theorem dX3_number_43 : decode cX3_number 43 = .ok (.invokestatic 151, 3) := by decide +kernel
theorem dX3_number_46 : decode cX3_number 46 = .ok (.ifCond .eq 51, 3) := by decide +kernel
theorem dX3_number_49 : decode cX3_number 49 = .ok (.aload_n 0, 1) := by decide +kernel
theorem dX3_number_50 : decode cX3_number 50 = .ok (.getfield 25, 3) := by decide +kernel
theorem dX3_number_53 : decode cX3_number 53 = .ok (.aload_n 0, 1) := by decide +kernel
theorem dX3_number_54 : decode cX3_number 54 = .ok (.getfield 28, 3) := by decide +kernel
theorem dX3_number_57 : decode cX3_number 57 = .ok (.isub, 1) := by decide +kernel
theorem dX3_number_58 : decode cX3_number 58 = .ok (.iconst 3, 1) := by decide +kernel
theorem dX3_number_59 : decode cX3_number 59 = .ok (.if_icmp .ge 23, 3) := by decide +kernel
theorem dX3_number_62 : decode cX3_number 62 = .ok (.bipush 10, 2) := by decide +kernel
theorem dX3_number_64 : decode cX3_number 64 = .ok (.iload_n 3, 1) := by decide +kernel
theorem dX3_number_65 : decode cX3_number 65 = .ok (.imul, 1) := by decide +kernel
theorem dX3_number_66 : decode cX3_number 66 = .ok (.aload_n 0, 1) := by decide +kernel
theorem dX3_number_67 : decode cX3_number 67 = .ok (.getfield 9, 3) := by decide +kernel
theorem dX3_number_70 : decode cX3_number 70 = .ok (.aload_n 0, 1) := by decide +kernel
theorem dX3_number_71 : decode cX3_number 71 = .ok (.getfield 25, 3) := by decide +kernel
theorem dX3_number_74 : decode cX3_number 74 = .ok (.baload, 1) := by decide +kernel
theorem dX3_number_75 : decode cX3_number 75 = .ok (.iadd, 1) := by decide +kernel
theorem dX3_number_76 : decode cX3_number 76 = .ok (.bipush 48, 2) := by decide +kernel
theorem dX3_number_78 : decode cX3_number 78 = .ok (.isub, 1) := by decide +kernel
theorem dX3_number_79 : decode cX3_number 79 = .ok (.goto 4, 3) := by decide +kernel
theorem dX3_number_82 : decode cX3_number 82 = .ok (.iload_n 3, 1) := by decide +kernel
theorem dX3_number_83 : decode cX3_number 83 = .ok (.istore_n 3, 1) := by decide +kernel
theorem dX3_number_84 : decode cX3_number 84 = .ok (.aload_n 0, 1) := by decide +kernel
theorem dX3_number_85 : decode cX3_number 85 = .ok (.dup, 1) := by decide +kernel
theorem dX3_number_86 : decode cX3_number 86 = .ok (.getfield 25, 3) := by decide +kernel
theorem dX3_number_89 : decode cX3_number 89 = .ok (.iconst 1, 1) := by decide +kernel
theorem dX3_number_90 : decode cX3_number 90 = .ok (.iadd, 1) := by decide +kernel
theorem dX3_number_91 : decode cX3_number 91 = .ok (.putfield 25, 3) := by decide +kernel
theorem dX3_number_94 : decode cX3_number 94 = .ok (.goto (-71), 3) := by decide +kernel
theorem dX3_number_97 : decode cX3_number 97 = .ok (.aload_n 0, 1) := by decide +kernel
theorem dX3_number_98 : decode cX3_number 98 = .ok (.getfield 25, 3) := by decide +kernel
theorem dX3_number_101 : decode cX3_number 101 = .ok (.aload_n 0, 1) := by decide +kernel
theorem dX3_number_102 : decode cX3_number 102 = .ok (.getfield 28, 3) := by decide +kernel
theorem dX3_number_105 : decode cX3_number 105 = .ok (.isub, 1) := by decide +kernel
theorem dX3_number_106 : decode cX3_number 106 = .ok (.istore 4, 2) := by decide +kernel
theorem dX3_number_108 : decode cX3_number 108 = .ok (.iload 4, 2) := by decide +kernel
theorem dX3_number_110 : decode cX3_number 110 = .ok (.ifCond .ne 15, 3) := by decide +kernel
theorem dX3_number_113 : decode cX3_number 113 = .ok (.aload_n 0, 1) := by decide +kernel
theorem dX3_number_114 : decode cX3_number 114 = .ok (.iconst 1, 1) := by decide +kernel
theorem dX3_number_115 : decode cX3_number 115 = .ok (.aload_n 0, 1) := by decide +kernel
theorem dX3_number_116 : decode cX3_number 116 = .ok (.getfield 28, 3) := by decide +kernel
theorem dX3_number_119 : decode cX3_number 119 = .ok (.invokevirtual 64, 3) := by decide +kernel
theorem dX3_number_122 : decode cX3_number 122 = .ok (.goto 28, 3) := by decide +kernel
theorem dX3_number_125 : decode cX3_number 125 = .ok (.iload 4, 2) := by decide +kernel
theorem dX3_number_127 : decode cX3_number 127 = .ok (.iconst 3, 1) := by decide +kernel
theorem dX3_number_128 : decode cX3_number 128 = .ok (.if_icmp .gt 13, 3) := by decide +kernel
theorem dX3_number_131 : decode cX3_number 131 = .ok (.iload_n 3, 1) := by decide +kernel
theorem dX3_number_132 : decode cX3_number 132 = .ok (.iload_n 1, 1) := by decide +kernel
theorem dX3_number_133 : decode cX3_number 133 = .ok (.if_icmp .lt 8, 3) := by decide +kernel
theorem dX3_number_136 : decode cX3_number 136 = .ok (.iload_n 3, 1) := by decide +kernel
theorem dX3_number_137 : decode cX3_number 137 = .ok (.iload_n 2, 1) := by decide +kernel
theorem dX3_number_138 : decode cX3_number 138 = .ok (.if_icmp .le 12, 3) := by decide +kernel
theorem dX3_number_141 : decode cX3_number 141 = .ok (.aload_n 0, 1) := by decide +kernel
theorem dX3_number_142 : decode cX3_number 142 = .ok (.iconst 2, 1) := by decide +kernel
theorem dX3_number_143 : decode cX3_number 143 = .ok (.aload_n 0, 1) := by decide +kernel
theorem dX3_number_144 : decode cX3_number 144 = .ok (.getfield 28, 3) := by decide +kernel
theorem dX3_number_147 : decode cX3_number 147 = .ok (.invokevirtual 64, 3) := by decide +kernel
theorem dX3_number_150 : decode cX3_number 150 = .ok (.aload_n 0, 1) := by decide +kernel
theorem dX3_number_151 : decode cX3_number 151 = .ok (.getfield 22, 3) := by decide +kernel
theorem dX3_number_154 : decode cX3_number 154 = .ok (.ifCond .ne 7, 3) := by decide +kernel
theorem dX3_number_157 : decode cX3_number 157 = .ok (.iload_n 3, 1) := by decide +kernel
theorem dX3_number_158 : decode cX3_number 158 = .ok (.goto 4, 3) := by decide +kernel
theorem dX3_number_161 : decode cX3_number 161 = .ok (.iconst 0, 1) := by decide +kernel
theorem dX3_number_162 : decode cX3_number 162 = .ok (.ireturn, 1) := by decide +kernel
theorem dX3_endClause_0 : decode cX3_endClause 0 = .ok (.aload_n 0, 1) := by decide +kernel
theorem dX3_endClause_1 : decode cX3_endClause 1 = .ok (.getfield 22, 3) := by decide +kernel
theorem dX3_endClause_4 : decode cX3_endClause 4 = .ok (.ifCond .ne 21, 3) := by decide +kernel
theorem dX3_endClause_7 : decode cX3_endClause 7 = .ok (.aload_n 0, 1) := by decide +kernel
theorem dX3_endClause_8 : decode cX3_endClause 8 = .ok (.bipush 59, 2) := by decide +kernel
theorem dX3_endClause_10 : decode cX3_endClause 10 = .ok (.invokevirtual 131, 3) := by decide +kernel
theorem dX3_endClause_13 : decode cX3_endClause 13 = .ok (.ifCond .ne 12, 3) := by decide +kernel
theorem dX3_endClause_16 : decode cX3_endClause 16 = .ok (.aload_n 0, 1) := by decide +kernel
theorem dX3_endClause_17 : decode cX3_endClause 17 = .ok (.iconst 1, 1) := by decide +kernel
theorem dX3_endClause_18 : decode cX3_endClause 18 = .ok (.aload_n 0, 1) := by decide +kernel
theorem dX3_endClause_19 : decode cX3_endClause 19 = .ok (.getfield 25, 3) := by decide +kernel
theorem dX3_endClause_22 : decode cX3_endClause 22 = .ok (.invokevirtual 64, 3) := by decide +kernel
theorem dX3_endClause_25 : decode cX3_endClause 25 = .ok (.return_, 1) := by decide +kernel
theorem dX3_takes_0 : decode cX3_takes 0 = .ok (.aload_n 0, 1) := by decide +kernel
theorem dX3_takes_1 : decode cX3_takes 1 = .ok (.getfield 22, 3) := by decide +kernel
theorem dX3_takes_4 : decode cX3_takes 4 = .ok (.ifCond .eq 5, 3) := by decide +kernel
theorem dX3_takes_7 : decode cX3_takes 7 = .ok (.iconst 0, 1) := by decide +kernel
theorem dX3_takes_8 : decode cX3_takes 8 = .ok (.ireturn, 1) := by decide +kernel
theorem dX3_takes_9 : decode cX3_takes 9 = .ok (.aload_n 0, 1) := by decide +kernel
theorem dX3_takes_10 : decode cX3_takes 10 = .ok (.invokevirtual 45, 3) := by decide +kernel
theorem dX3_takes_13 : decode cX3_takes 13 = .ok (.aload_n 0, 1) := by decide +kernel
theorem dX3_takes_14 : decode cX3_takes 14 = .ok (.getfield 25, 3) := by decide +kernel
theorem dX3_takes_17 : decode cX3_takes 17 = .ok (.aload_n 0, 1) := by decide +kernel
theorem dX3_takes_18 : decode cX3_takes 18 = .ok (.getfield 15, 3) := by decide +kernel
theorem dX3_takes_21 : decode cX3_takes 21 = .ok (.if_icmp .ge 28, 3) := by decide +kernel
theorem dX3_takes_24 : decode cX3_takes 24 = .ok (.aload_n 0, 1) := by decide +kernel
theorem dX3_takes_25 : decode cX3_takes 25 = .ok (.getfield 9, 3) := by decide +kernel
theorem dX3_takes_28 : decode cX3_takes 28 = .ok (.aload_n 0, 1) := by decide +kernel
theorem dX3_takes_29 : decode cX3_takes 29 = .ok (.getfield 25, 3) := by decide +kernel
theorem dX3_takes_32 : decode cX3_takes 32 = .ok (.baload, 1) := by decide +kernel
theorem dX3_takes_33 : decode cX3_takes 33 = .ok (.iload_n 1, 1) := by decide +kernel
theorem dX3_takes_34 : decode cX3_takes 34 = .ok (.if_icmp .ne 15, 3) := by decide +kernel
theorem dX3_takes_37 : decode cX3_takes 37 = .ok (.aload_n 0, 1) := by decide +kernel
theorem dX3_takes_38 : decode cX3_takes 38 = .ok (.dup, 1) := by decide +kernel
theorem dX3_takes_39 : decode cX3_takes 39 = .ok (.getfield 25, 3) := by decide +kernel
theorem dX3_takes_42 : decode cX3_takes 42 = .ok (.iconst 1, 1) := by decide +kernel
theorem dX3_takes_43 : decode cX3_takes 43 = .ok (.iadd, 1) := by decide +kernel
theorem dX3_takes_44 : decode cX3_takes 44 = .ok (.putfield 25, 3) := by decide +kernel
theorem dX3_takes_47 : decode cX3_takes 47 = .ok (.iconst 1, 1) := by decide +kernel
theorem dX3_takes_48 : decode cX3_takes 48 = .ok (.ireturn, 1) := by decide +kernel
theorem dX3_takes_49 : decode cX3_takes 49 = .ok (.iconst 0, 1) := by decide +kernel
theorem dX3_takes_50 : decode cX3_takes 50 = .ok (.ireturn, 1) := by decide +kernel
theorem dX3_skipBlanks_0 : decode cX3_skipBlanks 0 = .ok (.aload_n 0, 1) := by decide +kernel
theorem dX3_skipBlanks_1 : decode cX3_skipBlanks 1 = .ok (.getfield 25, 3) := by decide +kernel
theorem dX3_skipBlanks_4 : decode cX3_skipBlanks 4 = .ok (.aload_n 0, 1) := by decide +kernel
theorem dX3_skipBlanks_5 : decode cX3_skipBlanks 5 = .ok (.getfield 15, 3) := by decide +kernel
theorem dX3_skipBlanks_8 : decode cX3_skipBlanks 8 = .ok (.if_icmp .ge 30, 3) := by decide +kernel
theorem dX3_skipBlanks_11 : decode cX3_skipBlanks 11 = .ok (.aload_n 0, 1) := by decide +kernel
theorem dX3_skipBlanks_12 : decode cX3_skipBlanks 12 = .ok (.getfield 9, 3) := by decide +kernel
theorem dX3_skipBlanks_15 : decode cX3_skipBlanks 15 = .ok (.aload_n 0, 1) := by decide +kernel
theorem dX3_skipBlanks_16 : decode cX3_skipBlanks 16 = .ok (.getfield 25, 3) := by decide +kernel
theorem dX3_skipBlanks_19 : decode cX3_skipBlanks 19 = .ok (.baload, 1) := by decide +kernel
theorem dX3_skipBlanks_20 : decode cX3_skipBlanks 20 = .ok (.bipush 32, 2) := by decide +kernel
theorem dX3_skipBlanks_22 : decode cX3_skipBlanks 22 = .ok (.if_icmp .ne 16, 3) := by decide +kernel
theorem dX3_skipBlanks_25 : decode cX3_skipBlanks 25 = .ok (.aload_n 0, 1) := by decide +kernel
theorem dX3_skipBlanks_26 : decode cX3_skipBlanks 26 = .ok (.dup, 1) := by decide +kernel
theorem dX3_skipBlanks_27 : decode cX3_skipBlanks 27 = .ok (.getfield 25, 3) := by decide +kernel
theorem dX3_skipBlanks_30 : decode cX3_skipBlanks 30 = .ok (.iconst 1, 1) := by decide +kernel
theorem dX3_skipBlanks_31 : decode cX3_skipBlanks 31 = .ok (.iadd, 1) := by decide +kernel
theorem dX3_skipBlanks_32 : decode cX3_skipBlanks 32 = .ok (.putfield 25, 3) := by decide +kernel
theorem dX3_skipBlanks_35 : decode cX3_skipBlanks 35 = .ok (.goto (-35), 3) := by decide +kernel
theorem dX3_skipBlanks_38 : decode cX3_skipBlanks 38 = .ok (.return_, 1) := by decide +kernel
theorem dX3_endOfWord_0 : decode cX3_endOfWord 0 = .ok (.aload_n 0, 1) := by decide +kernel
theorem dX3_endOfWord_1 : decode cX3_endOfWord 1 = .ok (.getfield 25, 3) := by decide +kernel
theorem dX3_endOfWord_4 : decode cX3_endOfWord 4 = .ok (.istore_n 1, 1) := by decide +kernel
theorem dX3_endOfWord_5 : decode cX3_endOfWord 5 = .ok (.iload_n 1, 1) := by decide +kernel
theorem dX3_endOfWord_6 : decode cX3_endOfWord 6 = .ok (.aload_n 0, 1) := by decide +kernel
theorem dX3_endOfWord_7 : decode cX3_endOfWord 7 = .ok (.getfield 15, 3) := by decide +kernel
theorem dX3_endOfWord_10 : decode cX3_endOfWord 10 = .ok (.if_icmp .ge 31, 3) := by decide +kernel
theorem dX3_endOfWord_13 : decode cX3_endOfWord 13 = .ok (.aload_n 0, 1) := by decide +kernel
theorem dX3_endOfWord_14 : decode cX3_endOfWord 14 = .ok (.getfield 9, 3) := by decide +kernel
theorem dX3_endOfWord_17 : decode cX3_endOfWord 17 = .ok (.iload_n 1, 1) := by decide +kernel
theorem dX3_endOfWord_18 : decode cX3_endOfWord 18 = .ok (.baload, 1) := by decide +kernel
theorem dX3_endOfWord_19 : decode cX3_endOfWord 19 = .ok (.bipush 97, 2) := by decide +kernel
theorem dX3_endOfWord_21 : decode cX3_endOfWord 21 = .ok (.if_icmp .lt 20, 3) := by decide +kernel
theorem dX3_endOfWord_24 : decode cX3_endOfWord 24 = .ok (.aload_n 0, 1) := by decide +kernel
theorem dX3_endOfWord_25 : decode cX3_endOfWord 25 = .ok (.getfield 9, 3) := by decide +kernel
theorem dX3_endOfWord_28 : decode cX3_endOfWord 28 = .ok (.iload_n 1, 1) := by decide +kernel
theorem dX3_endOfWord_29 : decode cX3_endOfWord 29 = .ok (.baload, 1) := by decide +kernel
theorem dX3_endOfWord_30 : decode cX3_endOfWord 30 = .ok (.bipush 122, 2) := by decide +kernel
theorem dX3_endOfWord_32 : decode cX3_endOfWord 32 = .ok (.if_icmp .gt 9, 3) := by decide +kernel
theorem dX3_endOfWord_35 : decode cX3_endOfWord 35 = .ok (.iinc 1 1, 3) := by decide +kernel
theorem dX3_endOfWord_38 : decode cX3_endOfWord 38 = .ok (.goto (-33), 3) := by decide +kernel
theorem dX3_endOfWord_41 : decode cX3_endOfWord 41 = .ok (.iload_n 1, 1) := by decide +kernel
theorem dX3_endOfWord_42 : decode cX3_endOfWord 42 = .ok (.ireturn, 1) := by decide +kernel
theorem dX3_isWord_0 : decode cX3_isWord 0 = .ok (.iload_n 3, 1) := by decide +kernel
theorem dX3_isWord_1 : decode cX3_isWord 1 = .ok (.iload_n 2, 1) := by decide +kernel
theorem dX3_isWord_2 : decode cX3_isWord 2 = .ok (.isub, 1) := by decide +kernel
theorem dX3_isWord_3 : decode cX3_isWord 3 = .ok (.aload_n 1, 1) := by decide +kernel
theorem dX3_isWord_4 : decode cX3_isWord 4 = .ok (.invokevirtual 155, 3) := by decide +kernel
theorem dX3_isWord_7 : decode cX3_isWord 7 = .ok (.if_icmp .ne 15, 3) := by decide +kernel
theorem dX3_isWord_10 : decode cX3_isWord 10 = .ok (.iload_n 2, 1) := by decide +kernel
theorem dX3_isWord_11 : decode cX3_isWord 11 = .ok (.ifCond .lt 11, 3) := by decide +kernel
theorem dX3_isWord_14 : decode cX3_isWord 14 = .ok (.iload_n 3, 1) := by decide +kernel
theorem dX3_isWord_15 : decode cX3_isWord 15 = .ok (.aload_n 0, 1) := by decide +kernel
theorem dX3_isWord_16 : decode cX3_isWord 16 = .ok (.getfield 15, 3) := by decide +kernel
theorem dX3_isWord_19 : decode cX3_isWord 19 = .ok (.if_icmp .le 5, 3) := by decide +kernel
theorem dX3_isWord_22 : decode cX3_isWord 22 = .ok (.iconst 0, 1) := by decide +kernel
theorem dX3_isWord_23 : decode cX3_isWord 23 = .ok (.ireturn, 1) := by decide +kernel
theorem dX3_isWord_24 : decode cX3_isWord 24 = .ok (.iconst 0, 1) := by decide +kernel
theorem dX3_isWord_25 : decode cX3_isWord 25 = .ok (.istore 4, 2) := by decide +kernel
theorem dX3_isWord_27 : decode cX3_isWord 27 = .ok (.iload 4, 2) := by decide +kernel
theorem dX3_isWord_29 : decode cX3_isWord 29 = .ok (.aload_n 1, 1) := by decide +kernel
theorem dX3_isWord_30 : decode cX3_isWord 30 = .ok (.invokevirtual 155, 3) := by decide +kernel
theorem dX3_isWord_33 : decode cX3_isWord 33 = .ok (.if_icmp .ge 29, 3) := by decide +kernel
theorem dX3_isWord_36 : decode cX3_isWord 36 = .ok (.aload_n 0, 1) := by decide +kernel
theorem dX3_isWord_37 : decode cX3_isWord 37 = .ok (.getfield 9, 3) := by decide +kernel
theorem dX3_isWord_40 : decode cX3_isWord 40 = .ok (.iload_n 2, 1) := by decide +kernel
theorem dX3_isWord_41 : decode cX3_isWord 41 = .ok (.iload 4, 2) := by decide +kernel
theorem dX3_isWord_43 : decode cX3_isWord 43 = .ok (.iadd, 1) := by decide +kernel
theorem dX3_isWord_44 : decode cX3_isWord 44 = .ok (.baload, 1) := by decide +kernel
theorem dX3_isWord_45 : decode cX3_isWord 45 = .ok (.aload_n 1, 1) := by decide +kernel
theorem dX3_isWord_46 : decode cX3_isWord 46 = .ok (.iload 4, 2) := by decide +kernel
theorem dX3_isWord_48 : decode cX3_isWord 48 = .ok (.invokevirtual 159, 3) := by decide +kernel
theorem dX3_isWord_51 : decode cX3_isWord 51 = .ok (.if_icmp .eq 5, 3) := by decide +kernel
theorem dX3_isWord_54 : decode cX3_isWord 54 = .ok (.iconst 0, 1) := by decide +kernel
theorem dX3_isWord_55 : decode cX3_isWord 55 = .ok (.ireturn, 1) := by decide +kernel
theorem dX3_isWord_56 : decode cX3_isWord 56 = .ok (.iinc 4 1, 3) := by decide +kernel
theorem dX3_isWord_59 : decode cX3_isWord 59 = .ok (.goto (-32), 3) := by decide +kernel
theorem dX3_isWord_62 : decode cX3_isWord 62 = .ok (.iconst 1, 1) := by decide +kernel
theorem dX3_isWord_63 : decode cX3_isWord 63 = .ok (.ireturn, 1) := by decide +kernel
theorem dX3_isFigure_0 : decode cX3_isFigure 0 = .ok (.iload_n 0, 1) := by decide +kernel
theorem dX3_isFigure_1 : decode cX3_isFigure 1 = .ok (.bipush 48, 2) := by decide +kernel
theorem dX3_isFigure_3 : decode cX3_isFigure 3 = .ok (.if_icmp .lt 13, 3) := by decide +kernel
theorem dX3_isFigure_6 : decode cX3_isFigure 6 = .ok (.iload_n 0, 1) := by decide +kernel
theorem dX3_isFigure_7 : decode cX3_isFigure 7 = .ok (.bipush 57, 2) := by decide +kernel
theorem dX3_isFigure_9 : decode cX3_isFigure 9 = .ok (.if_icmp .gt 7, 3) := by decide +kernel
theorem dX3_isFigure_12 : decode cX3_isFigure 12 = .ok (.iconst 1, 1) := by decide +kernel
theorem dX3_isFigure_13 : decode cX3_isFigure 13 = .ok (.goto 4, 3) := by decide +kernel
theorem dX3_isFigure_16 : decode cX3_isFigure 16 = .ok (.iconst 0, 1) := by decide +kernel
theorem dX3_isFigure_17 : decode cX3_isFigure 17 = .ok (.ireturn, 1) := by decide +kernel
theorem dX3_blame_0 : decode cX3_blame 0 = .ok (.aload_n 0, 1) := by decide +kernel
theorem dX3_blame_1 : decode cX3_blame 1 = .ok (.iload_n 1, 1) := by decide +kernel
theorem dX3_blame_2 : decode cX3_blame 2 = .ok (.putfield 22, 3) := by decide +kernel
theorem dX3_blame_5 : decode cX3_blame 5 = .ok (.aload_n 0, 1) := by decide +kernel
theorem dX3_blame_6 : decode cX3_blame 6 = .ok (.iload_n 2, 1) := by decide +kernel
theorem dX3_blame_7 : decode cX3_blame 7 = .ok (.putfield 19, 3) := by decide +kernel
theorem dX3_blame_10 : decode cX3_blame 10 = .ok (.return_, 1) := by decide +kernel
theorem dX6_init_0 : decode cX6_init 0 = .ok (.aload_n 0, 1) := by decide +kernel
theorem dX6_init_1 : decode cX6_init 1 = .ok (.invokespecial 1, 3) := by decide +kernel
theorem dX6_init_4 : decode cX6_init 4 = .ok (.aload_n 0, 1) := by decide +kernel
theorem dX6_init_5 : decode cX6_init 5 = .ok (.new 7, 3) := by decide +kernel
theorem dX6_init_8 : decode cX6_init 8 = .ok (.dup, 1) := by decide +kernel
theorem dX6_init_9 : decode cX6_init 9 = .ok (.invokespecial 9, 3) := by decide +kernel
theorem dX6_init_12 : decode cX6_init 12 = .ok (.putfield 10, 3) := by decide +kernel
theorem dX6_init_15 : decode cX6_init 15 = .ok (.aload_n 0, 1) := by decide +kernel
theorem dX6_init_16 : decode cX6_init 16 = .ok (.new 7, 3) := by decide +kernel
theorem dX6_init_19 : decode cX6_init 19 = .ok (.dup, 1) := by decide +kernel
theorem dX6_init_20 : decode cX6_init 20 = .ok (.invokespecial 9, 3) := by decide +kernel
theorem dX6_init_23 : decode cX6_init 23 = .ok (.putfield 16, 3) := by decide +kernel
theorem dX6_init_26 : decode cX6_init 26 = .ok (.aload_n 0, 1) := by decide +kernel
theorem dX6_init_27 : decode cX6_init 27 = .ok (.new 19, 3) := by decide +kernel
theorem dX6_init_30 : decode cX6_init 30 = .ok (.dup, 1) := by decide +kernel
theorem dX6_init_31 : decode cX6_init 31 = .ok (.invokespecial 21, 3) := by decide +kernel
theorem dX6_init_34 : decode cX6_init 34 = .ok (.putfield 22, 3) := by decide +kernel
theorem dX6_init_37 : decode cX6_init 37 = .ok (.aload_n 0, 1) := by decide +kernel
theorem dX6_init_38 : decode cX6_init 38 = .ok (.new 26, 3) := by decide +kernel
theorem dX6_init_41 : decode cX6_init 41 = .ok (.dup, 1) := by decide +kernel
theorem dX6_init_42 : decode cX6_init 42 = .ok (.aload_n 0, 1) := by decide +kernel
theorem dX6_init_43 : decode cX6_init 43 = .ok (.getfield 10, 3) := by decide +kernel
theorem dX6_init_46 : decode cX6_init 46 = .ok (.invokespecial 28, 3) := by decide +kernel
theorem dX6_init_49 : decode cX6_init 49 = .ok (.putfield 31, 3) := by decide +kernel
theorem dX6_init_52 : decode cX6_init 52 = .ok (.aload_n 0, 1) := by decide +kernel
theorem dX6_init_53 : decode cX6_init 53 = .ok (.new 26, 3) := by decide +kernel
theorem dX6_init_56 : decode cX6_init 56 = .ok (.dup, 1) := by decide +kernel
theorem dX6_init_57 : decode cX6_init 57 = .ok (.aload_n 0, 1) := by decide +kernel
theorem dX6_init_58 : decode cX6_init 58 = .ok (.getfield 10, 3) := by decide +kernel
theorem dX6_init_61 : decode cX6_init 61 = .ok (.invokespecial 28, 3) := by decide +kernel
theorem dX6_init_64 : decode cX6_init 64 = .ok (.putfield 35, 3) := by decide +kernel
theorem dX6_init_67 : decode cX6_init 67 = .ok (.aload_n 0, 1) := by decide +kernel
theorem dX6_init_68 : decode cX6_init 68 = .ok (.new 26, 3) := by decide +kernel
theorem dX6_init_71 : decode cX6_init 71 = .ok (.dup, 1) := by decide +kernel
theorem dX6_init_72 : decode cX6_init 72 = .ok (.aload_n 0, 1) := by decide +kernel
theorem dX6_init_73 : decode cX6_init 73 = .ok (.getfield 10, 3) := by decide +kernel
theorem dX6_init_76 : decode cX6_init 76 = .ok (.invokespecial 28, 3) := by decide +kernel
theorem dX6_init_79 : decode cX6_init 79 = .ok (.putfield 38, 3) := by decide +kernel
theorem dX6_init_82 : decode cX6_init 82 = .ok (.aload_n 0, 1) := by decide +kernel
theorem dX6_init_83 : decode cX6_init 83 = .ok (.new 41, 3) := by decide +kernel
theorem dX6_init_86 : decode cX6_init 86 = .ok (.dup, 1) := by decide +kernel
theorem dX6_init_87 : decode cX6_init 87 = .ok (.aload_n 0, 1) := by decide +kernel
theorem dX6_init_88 : decode cX6_init 88 = .ok (.getfield 10, 3) := by decide +kernel
theorem dX6_init_91 : decode cX6_init 91 = .ok (.aload_n 0, 1) := by decide +kernel
theorem dX6_init_92 : decode cX6_init 92 = .ok (.getfield 31, 3) := by decide +kernel
theorem dX6_init_95 : decode cX6_init 95 = .ok (.invokespecial 43, 3) := by decide +kernel
theorem dX6_init_98 : decode cX6_init 98 = .ok (.putfield 46, 3) := by decide +kernel
theorem dX6_init_101 : decode cX6_init 101 = .ok (.aload_n 0, 1) := by decide +kernel
theorem dX6_init_102 : decode cX6_init 102 = .ok (.new 50, 3) := by decide +kernel
theorem dX6_init_105 : decode cX6_init 105 = .ok (.dup, 1) := by decide +kernel
theorem dX6_init_106 : decode cX6_init 106 = .ok (.invokespecial 52, 3) := by decide +kernel
theorem dX6_init_109 : decode cX6_init 109 = .ok (.putfield 53, 3) := by decide +kernel
theorem dX6_init_112 : decode cX6_init 112 = .ok (.aload_n 0, 1) := by decide +kernel
theorem dX6_init_113 : decode cX6_init 113 = .ok (.new 57, 3) := by decide +kernel
theorem dX6_init_116 : decode cX6_init 116 = .ok (.dup, 1) := by decide +kernel
theorem dX6_init_117 : decode cX6_init 117 = .ok (.invokespecial 59, 3) := by decide +kernel
theorem dX6_init_120 : decode cX6_init 120 = .ok (.putfield 60, 3) := by decide +kernel
theorem dX6_init_123 : decode cX6_init 123 = .ok (.aload_n 0, 1) := by decide +kernel
theorem dX6_init_124 : decode cX6_init 124 = .ok (.iconst 0, 1) := by decide +kernel
theorem dX6_init_125 : decode cX6_init 125 = .ok (.putfield 64, 3) := by decide +kernel
theorem dX6_init_128 : decode cX6_init 128 = .ok (.return_, 1) := by decide +kernel
theorem dX6_feed_0 : decode cX6_feed 0 = .ok (.iload_n 1, 1) := by decide +kernel
theorem dX6_feed_1 : decode cX6_feed 1 = .ok (.iconst 1, 1) := by decide +kernel
theorem dX6_feed_2 : decode cX6_feed 2 = .ok (.if_icmp .lt 9, 3) := by decide +kernel
theorem dX6_feed_5 : decode cX6_feed 5 = .ok (.iload_n 1, 1) := by decide +kernel
theorem dX6_feed_6 : decode cX6_feed 6 = .ok (.bipush 8, 2) := by decide +kernel
theorem dX6_feed_8 : decode cX6_feed 8 = .ok (.if_icmp .le 6, 3) := by decide +kernel
theorem dX6_feed_11 : decode cX6_feed 11 = .ok (.ldc 68, 2) := by decide +kernel
theorem dX6_feed_13 : decode cX6_feed 13 = .ok (.ireturn, 1) := by decide +kernel
theorem dX6_feed_14 : decode cX6_feed 14 = .ok (.aload_n 0, 1) := by decide +kernel
theorem dX6_feed_15 : decode cX6_feed 15 = .ok (.getfield 22, 3) := by decide +kernel
theorem dX6_feed_18 : decode cX6_feed 18 = .ok (.getfield 69, 3) := by decide +kernel
theorem dX6_feed_21 : decode cX6_feed 21 = .ok (.iload_n 1, 1) := by decide +kernel
theorem dX6_feed_22 : decode cX6_feed 22 = .ok (.iadd, 1) := by decide +kernel
theorem dX6_feed_23 : decode cX6_feed 23 = .ok (.sipush 500, 3) := by decide +kernel
theorem dX6_feed_26 : decode cX6_feed 26 = .ok (.if_icmp .le 6, 3) := by decide +kernel
theorem dX6_feed_29 : decode cX6_feed 29 = .ok (.ldc 72, 2) := by decide +kernel
theorem dX6_feed_31 : decode cX6_feed 31 = .ok (.ireturn, 1) := by decide +kernel
theorem dX6_feed_32 : decode cX6_feed 32 = .ok (.aload_n 0, 1) := by decide +kernel
theorem dX6_feed_33 : decode cX6_feed 33 = .ok (.getfield 22, 3) := by decide +kernel
theorem dX6_feed_36 : decode cX6_feed 36 = .ok (.iload_n 1, 1) := by decide +kernel
theorem dX6_feed_37 : decode cX6_feed 37 = .ok (.lload_n 2, 1) := by decide +kernel
theorem dX6_feed_38 : decode cX6_feed 38 = .ok (.invokevirtual 73, 3) := by decide +kernel
theorem dX6_feed_41 : decode cX6_feed 41 = .ok (.ireturn, 1) := by decide +kernel
theorem dX6_hills_0 : decode cX6_hills 0 = .ok (.aload_n 0, 1) := by decide +kernel
theorem dX6_hills_1 : decode cX6_hills 1 = .ok (.getfield 22, 3) := by decide +kernel
theorem dX6_hills_4 : decode cX6_hills 4 = .ok (.aload_n 0, 1) := by decide +kernel
theorem dX6_hills_5 : decode cX6_hills 5 = .ok (.getfield 16, 3) := by decide +kernel
theorem dX6_hills_8 : decode cX6_hills 8 = .ok (.invokevirtual 77, 3) := by decide +kernel
theorem dX6_hills_11 : decode cX6_hills 11 = .ok (.istore_n 1, 1) := by decide +kernel
theorem dX6_hills_12 : decode cX6_hills 12 = .ok (.aload_n 0, 1) := by decide +kernel
theorem dX6_hills_13 : decode cX6_hills 13 = .ok (.getfield 22, 3) := by decide +kernel
theorem dX6_hills_16 : decode cX6_hills 16 = .ok (.iconst 0, 1) := by decide +kernel
theorem dX6_hills_17 : decode cX6_hills 17 = .ok (.putfield 69, 3) := by decide +kernel
theorem dX6_hills_20 : decode cX6_hills 20 = .ok (.iload_n 1, 1) := by decide +kernel
theorem dX6_hills_21 : decode cX6_hills 21 = .ok (.ifCond .eq 8, 3) := by decide +kernel
theorem dX6_hills_24 : decode cX6_hills 24 = .ok (.bipush (-10), 2) := by decide +kernel
theorem dX6_hills_26 : decode cX6_hills 26 = .ok (.iload_n 1, 1) := by decide +kernel
theorem dX6_hills_27 : decode cX6_hills 27 = .ok (.isub, 1) := by decide +kernel
theorem dX6_hills_28 : decode cX6_hills 28 = .ok (.ireturn, 1) := by decide +kernel
theorem dX6_hills_29 : decode cX6_hills 29 = .ok (.aload_n 0, 1) := by decide +kernel
theorem dX6_hills_30 : decode cX6_hills 30 = .ok (.getfield 10, 3) := by decide +kernel
theorem dX6_hills_33 : decode cX6_hills 33 = .ok (.aload_n 0, 1) := by decide +kernel
theorem dX6_hills_34 : decode cX6_hills 34 = .ok (.getfield 16, 3) := by decide +kernel
theorem dX6_hills_37 : decode cX6_hills 37 = .ok (.invokevirtual 81, 3) := by decide +kernel
theorem dX6_hills_40 : decode cX6_hills 40 = .ok (.aload_n 0, 1) := by decide +kernel
theorem dX6_hills_41 : decode cX6_hills 41 = .ok (.getfield 31, 3) := by decide +kernel
theorem dX6_hills_44 : decode cX6_hills 44 = .ok (.invokevirtual 84, 3) := by decide +kernel
theorem dX6_hills_47 : decode cX6_hills 47 = .ok (.aload_n 0, 1) := by decide +kernel
theorem dX6_hills_48 : decode cX6_hills 48 = .ok (.getfield 53, 3) := by decide +kernel
theorem dX6_hills_51 : decode cX6_hills 51 = .ok (.invokevirtual 87, 3) := by decide +kernel
theorem dX6_hills_54 : decode cX6_hills 54 = .ok (.aload_n 0, 1) := by decide +kernel
theorem dX6_hills_55 : decode cX6_hills 55 = .ok (.getfield 60, 3) := by decide +kernel
theorem dX6_hills_58 : decode cX6_hills 58 = .ok (.invokevirtual 90, 3) := by decide +kernel
theorem dX6_hills_61 : decode cX6_hills 61 = .ok (.aload_n 0, 1) := by decide +kernel
theorem dX6_hills_62 : decode cX6_hills 62 = .ok (.iconst 0, 1) := by decide +kernel
theorem dX6_hills_63 : decode cX6_hills 63 = .ok (.putfield 64, 3) := by decide +kernel
theorem dX6_hills_66 : decode cX6_hills 66 = .ok (.aload_n 0, 1) := by decide +kernel
theorem dX6_hills_67 : decode cX6_hills 67 = .ok (.getfield 10, 3) := by decide +kernel
theorem dX6_hills_70 : decode cX6_hills 70 = .ok (.getfield 91, 3) := by decide +kernel
theorem dX6_hills_73 : decode cX6_hills 73 = .ok (.ireturn, 1) := by decide +kernel
theorem dX6_fault_0 : decode cX6_fault 0 = .ok (.aload_n 0, 1) := by decide +kernel
theorem dX6_fault_1 : decode cX6_fault 1 = .ok (.getfield 22, 3) := by decide +kernel
theorem dX6_fault_4 : decode cX6_fault 4 = .ok (.getfield 94, 3) := by decide +kernel
theorem dX6_fault_7 : decode cX6_fault 7 = .ok (.ireturn, 1) := by decide +kernel
theorem dX6_told_0 : decode cX6_told 0 = .ok (.iload_n 1, 1) := by decide +kernel
theorem dX6_told_1 : decode cX6_told 1 = .ok (.tableswitch 123 0 8 #[51, 59, 67, 75, 83, 91, 99, 107, 115], 51) := by decide +kernel
theorem dX6_told_52 : decode cX6_told 52 = .ok (.aload_n 0, 1) := by decide +kernel
theorem dX6_told_53 : decode cX6_told 53 = .ok (.getfield 10, 3) := by decide +kernel
theorem dX6_told_56 : decode cX6_told 56 = .ok (.getfield 97, 3) := by decide +kernel
theorem dX6_told_59 : decode cX6_told 59 = .ok (.ireturn, 1) := by decide +kernel
theorem dX6_told_60 : decode cX6_told 60 = .ok (.aload_n 0, 1) := by decide +kernel
theorem dX6_told_61 : decode cX6_told 61 = .ok (.getfield 10, 3) := by decide +kernel
theorem dX6_told_64 : decode cX6_told 64 = .ok (.getfield 100, 3) := by decide +kernel
theorem dX6_told_67 : decode cX6_told 67 = .ok (.ireturn, 1) := by decide +kernel
theorem dX6_told_68 : decode cX6_told 68 = .ok (.aload_n 0, 1) := by decide +kernel
theorem dX6_told_69 : decode cX6_told 69 = .ok (.getfield 10, 3) := by decide +kernel
theorem dX6_told_72 : decode cX6_told 72 = .ok (.getfield 91, 3) := by decide +kernel
theorem dX6_told_75 : decode cX6_told 75 = .ok (.ireturn, 1) := by decide +kernel
theorem dX6_told_76 : decode cX6_told 76 = .ok (.aload_n 0, 1) := by decide +kernel
theorem dX6_told_77 : decode cX6_told 77 = .ok (.getfield 10, 3) := by decide +kernel
theorem dX6_told_80 : decode cX6_told 80 = .ok (.getfield 103, 3) := by decide +kernel
theorem dX6_told_83 : decode cX6_told 83 = .ok (.ireturn, 1) := by decide +kernel
theorem dX6_told_84 : decode cX6_told 84 = .ok (.aload_n 0, 1) := by decide +kernel
theorem dX6_told_85 : decode cX6_told 85 = .ok (.getfield 22, 3) := by decide +kernel
theorem dX6_told_88 : decode cX6_told 88 = .ok (.getfield 69, 3) := by decide +kernel
theorem dX6_told_91 : decode cX6_told 91 = .ok (.ireturn, 1) := by decide +kernel
theorem dX6_told_92 : decode cX6_told 92 = .ok (.aload_n 0, 1) := by decide +kernel
theorem dX6_told_93 : decode cX6_told 93 = .ok (.getfield 31, 3) := by decide +kernel
theorem dX6_told_96 : decode cX6_told 96 = .ok (.getfield 106, 3) := by decide +kernel
theorem dX6_told_99 : decode cX6_told 99 = .ok (.ireturn, 1) := by decide +kernel
theorem dX6_told_100 : decode cX6_told 100 = .ok (.aload_n 0, 1) := by decide +kernel
theorem dX6_told_101 : decode cX6_told 101 = .ok (.getfield 31, 3) := by decide +kernel
theorem dX6_told_104 : decode cX6_told 104 = .ok (.getfield 109, 3) := by decide +kernel
theorem dX6_told_107 : decode cX6_told 107 = .ok (.ireturn, 1) := by decide +kernel
theorem dX6_told_108 : decode cX6_told 108 = .ok (.aload_n 0, 1) := by decide +kernel
theorem dX6_told_109 : decode cX6_told 109 = .ok (.getfield 53, 3) := by decide +kernel
theorem dX6_told_112 : decode cX6_told 112 = .ok (.getfield 112, 3) := by decide +kernel
theorem dX6_told_115 : decode cX6_told 115 = .ok (.ireturn, 1) := by decide +kernel
theorem dX6_told_116 : decode cX6_told 116 = .ok (.aload_n 0, 1) := by decide +kernel
theorem dX6_told_117 : decode cX6_told 117 = .ok (.getfield 60, 3) := by decide +kernel
theorem dX6_told_120 : decode cX6_told 120 = .ok (.getfield 115, 3) := by decide +kernel
theorem dX6_told_123 : decode cX6_told 123 = .ok (.ireturn, 1) := by decide +kernel
theorem dX6_told_124 : decode cX6_told 124 = .ok (.ldc 68, 2) := by decide +kernel
theorem dX6_told_126 : decode cX6_told 126 = .ok (.ireturn, 1) := by decide +kernel
theorem dX6_bridge_0 : decode cX6_bridge 0 = .ok (.aload_n 0, 1) := by decide +kernel
theorem dX6_bridge_1 : decode cX6_bridge 1 = .ok (.getfield 10, 3) := by decide +kernel
theorem dX6_bridge_4 : decode cX6_bridge 4 = .ok (.iload_n 1, 1) := by decide +kernel
theorem dX6_bridge_5 : decode cX6_bridge 5 = .ok (.invokevirtual 116, 3) := by decide +kernel
theorem dX6_bridge_8 : decode cX6_bridge 8 = .ok (.ifCond .ne 6, 3) := by decide +kernel
theorem dX6_bridge_11 : decode cX6_bridge 11 = .ok (.ldc 120, 2) := by decide +kernel
theorem dX6_bridge_13 : decode cX6_bridge 13 = .ok (.ireturn, 1) := by decide +kernel
theorem dX6_bridge_14 : decode cX6_bridge 14 = .ok (.iload_n 2, 1) := by decide +kernel
theorem dX6_bridge_15 : decode cX6_bridge 15 = .ok (.tableswitch 54 0 2 #[25, 35, 45], 25) := by decide +kernel
theorem dX6_bridge_40 : decode cX6_bridge 40 = .ok (.aload_n 0, 1) := by decide +kernel
theorem dX6_bridge_41 : decode cX6_bridge 41 = .ok (.getfield 10, 3) := by decide +kernel
theorem dX6_bridge_44 : decode cX6_bridge 44 = .ok (.getfield 121, 3) := by decide +kernel
theorem dX6_bridge_47 : decode cX6_bridge 47 = .ok (.iload_n 1, 1) := by decide +kernel
theorem dX6_bridge_48 : decode cX6_bridge 48 = .ok (.iaload, 1) := by decide +kernel
theorem dX6_bridge_49 : decode cX6_bridge 49 = .ok (.ireturn, 1) := by decide +kernel
theorem dX6_bridge_50 : decode cX6_bridge 50 = .ok (.aload_n 0, 1) := by decide +kernel
theorem dX6_bridge_51 : decode cX6_bridge 51 = .ok (.getfield 31, 3) := by decide +kernel
theorem dX6_bridge_54 : decode cX6_bridge 54 = .ok (.getfield 125, 3) := by decide +kernel
theorem dX6_bridge_57 : decode cX6_bridge 57 = .ok (.iload_n 1, 1) := by decide +kernel
theorem dX6_bridge_58 : decode cX6_bridge 58 = .ok (.iaload, 1) := by decide +kernel
theorem dX6_bridge_59 : decode cX6_bridge 59 = .ok (.ireturn, 1) := by decide +kernel
theorem dX6_bridge_60 : decode cX6_bridge 60 = .ok (.aload_n 0, 1) := by decide +kernel
theorem dX6_bridge_61 : decode cX6_bridge 61 = .ok (.getfield 31, 3) := by decide +kernel
theorem dX6_bridge_64 : decode cX6_bridge 64 = .ok (.iload_n 1, 1) := by decide +kernel
theorem dX6_bridge_65 : decode cX6_bridge 65 = .ok (.invokevirtual 128, 3) := by decide +kernel
theorem dX6_bridge_68 : decode cX6_bridge 68 = .ok (.ireturn, 1) := by decide +kernel
theorem dX6_bridge_69 : decode cX6_bridge 69 = .ok (.ldc 68, 2) := by decide +kernel
theorem dX6_bridge_71 : decode cX6_bridge 71 = .ok (.ireturn, 1) := by decide +kernel
theorem dX6_man_0 : decode cX6_man 0 = .ok (.aload_n 0, 1) := by decide +kernel
theorem dX6_man_1 : decode cX6_man 1 = .ok (.getfield 10, 3) := by decide +kernel
theorem dX6_man_4 : decode cX6_man 4 = .ok (.iload_n 1, 1) := by decide +kernel
theorem dX6_man_5 : decode cX6_man 5 = .ok (.invokevirtual 132, 3) := by decide +kernel
theorem dX6_man_8 : decode cX6_man 8 = .ok (.ifCond .ne 6, 3) := by decide +kernel
theorem dX6_man_11 : decode cX6_man 11 = .ok (.ldc 120, 2) := by decide +kernel
theorem dX6_man_13 : decode cX6_man 13 = .ok (.ireturn, 1) := by decide +kernel
theorem dX6_man_14 : decode cX6_man 14 = .ok (.iload_n 2, 1) := by decide +kernel
theorem dX6_man_15 : decode cX6_man 15 = .ok (.tableswitch 79 0 3 #[29, 39, 49, 69], 29) := by decide +kernel
theorem dX6_man_44 : decode cX6_man 44 = .ok (.aload_n 0, 1) := by decide +kernel
theorem dX6_man_45 : decode cX6_man 45 = .ok (.getfield 10, 3) := by decide +kernel
theorem dX6_man_48 : decode cX6_man 48 = .ok (.getfield 135, 3) := by decide +kernel
theorem dX6_man_51 : decode cX6_man 51 = .ok (.iload_n 1, 1) := by decide +kernel
theorem dX6_man_52 : decode cX6_man 52 = .ok (.iaload, 1) := by decide +kernel
theorem dX6_man_53 : decode cX6_man 53 = .ok (.ireturn, 1) := by decide +kernel
theorem dX6_man_54 : decode cX6_man 54 = .ok (.aload_n 0, 1) := by decide +kernel
theorem dX6_man_55 : decode cX6_man 55 = .ok (.getfield 10, 3) := by decide +kernel
theorem dX6_man_58 : decode cX6_man 58 = .ok (.getfield 138, 3) := by decide +kernel
theorem dX6_man_61 : decode cX6_man 61 = .ok (.iload_n 1, 1) := by decide +kernel
theorem dX6_man_62 : decode cX6_man 62 = .ok (.iaload, 1) := by decide +kernel
theorem dX6_man_63 : decode cX6_man 63 = .ok (.ireturn, 1) := by decide +kernel
theorem dX6_man_64 : decode cX6_man 64 = .ok (.aload_n 0, 1) := by decide +kernel
theorem dX6_man_65 : decode cX6_man 65 = .ok (.getfield 31, 3) := by decide +kernel
theorem dX6_man_68 : decode cX6_man 68 = .ok (.getfield 109, 3) := by decide +kernel
theorem dX6_man_71 : decode cX6_man 71 = .ok (.iload_n 1, 1) := by decide +kernel
theorem dX6_man_72 : decode cX6_man 72 = .ok (.invokestatic 141, 3) := by decide +kernel
theorem dX6_man_75 : decode cX6_man 75 = .ok (.ifCond .eq 7, 3) := by decide +kernel
theorem dX6_man_78 : decode cX6_man 78 = .ok (.iconst 1, 1) := by decide +kernel
theorem dX6_man_79 : decode cX6_man 79 = .ok (.goto 4, 3) := by decide +kernel
theorem dX6_man_82 : decode cX6_man 82 = .ok (.iconst 0, 1) := by decide +kernel
theorem dX6_man_83 : decode cX6_man 83 = .ok (.ireturn, 1) := by decide +kernel
theorem dX6_man_84 : decode cX6_man 84 = .ok (.aload_n 0, 1) := by decide +kernel
theorem dX6_man_85 : decode cX6_man 85 = .ok (.getfield 31, 3) := by decide +kernel
theorem dX6_man_88 : decode cX6_man 88 = .ok (.getfield 145, 3) := by decide +kernel
theorem dX6_man_91 : decode cX6_man 91 = .ok (.iload_n 1, 1) := by decide +kernel
theorem dX6_man_92 : decode cX6_man 92 = .ok (.iaload, 1) := by decide +kernel
theorem dX6_man_93 : decode cX6_man 93 = .ok (.ireturn, 1) := by decide +kernel
theorem dX6_man_94 : decode cX6_man 94 = .ok (.ldc 68, 2) := by decide +kernel
theorem dX6_man_96 : decode cX6_man 96 = .ok (.ireturn, 1) := by decide +kernel
theorem dX6_ox_0 : decode cX6_ox 0 = .ok (.aload_n 0, 1) := by decide +kernel
theorem dX6_ox_1 : decode cX6_ox 1 = .ok (.getfield 10, 3) := by decide +kernel
theorem dX6_ox_4 : decode cX6_ox 4 = .ok (.iload_n 1, 1) := by decide +kernel
theorem dX6_ox_5 : decode cX6_ox 5 = .ok (.invokevirtual 148, 3) := by decide +kernel
theorem dX6_ox_8 : decode cX6_ox 8 = .ok (.ifCond .ne 6, 3) := by decide +kernel
theorem dX6_ox_11 : decode cX6_ox 11 = .ok (.ldc 120, 2) := by decide +kernel
theorem dX6_ox_13 : decode cX6_ox 13 = .ok (.ireturn, 1) := by decide +kernel
theorem dX6_ox_14 : decode cX6_ox 14 = .ok (.iload_n 2, 1) := by decide +kernel
theorem dX6_ox_15 : decode cX6_ox 15 = .ok (.lookupswitch 45 #[(0, 25), (1, 35)], 25) := by decide +kernel
theorem dX6_ox_40 : decode cX6_ox 40 = .ok (.aload_n 0, 1) := by decide +kernel
theorem dX6_ox_41 : decode cX6_ox 41 = .ok (.getfield 10, 3) := by decide +kernel
theorem dX6_ox_44 : decode cX6_ox 44 = .ok (.getfield 151, 3) := by decide +kernel
theorem dX6_ox_47 : decode cX6_ox 47 = .ok (.iload_n 1, 1) := by decide +kernel
theorem dX6_ox_48 : decode cX6_ox 48 = .ok (.iaload, 1) := by decide +kernel
theorem dX6_ox_49 : decode cX6_ox 49 = .ok (.ireturn, 1) := by decide +kernel
theorem dX6_ox_50 : decode cX6_ox 50 = .ok (.aload_n 0, 1) := by decide +kernel
theorem dX6_ox_51 : decode cX6_ox 51 = .ok (.getfield 10, 3) := by decide +kernel
theorem dX6_ox_54 : decode cX6_ox 54 = .ok (.getfield 154, 3) := by decide +kernel
theorem dX6_ox_57 : decode cX6_ox 57 = .ok (.iload_n 1, 1) := by decide +kernel
theorem dX6_ox_58 : decode cX6_ox 58 = .ok (.iaload, 1) := by decide +kernel
theorem dX6_ox_59 : decode cX6_ox 59 = .ok (.ireturn, 1) := by decide +kernel
theorem dX6_ox_60 : decode cX6_ox 60 = .ok (.ldc 68, 2) := by decide +kernel
theorem dX6_ox_62 : decode cX6_ox 62 = .ok (.ireturn, 1) := by decide +kernel
theorem dX6_named_0 : decode cX6_named 0 = .ok (.aload_n 0, 1) := by decide +kernel
theorem dX6_named_1 : decode cX6_named 1 = .ok (.getfield 10, 3) := by decide +kernel
theorem dX6_named_4 : decode cX6_named 4 = .ok (.iload_n 1, 1) := by decide +kernel
theorem dX6_named_5 : decode cX6_named 5 = .ok (.invokevirtual 116, 3) := by decide +kernel
theorem dX6_named_8 : decode cX6_named 8 = .ok (.ifCond .eq 14, 3) := by decide +kernel
theorem dX6_named_11 : decode cX6_named 11 = .ok (.aload_n 0, 1) := by decide +kernel
theorem dX6_named_12 : decode cX6_named 12 = .ok (.getfield 10, 3) := by decide +kernel
theorem dX6_named_15 : decode cX6_named 15 = .ok (.iload_n 2, 1) := by decide +kernel
theorem dX6_named_16 : decode cX6_named 16 = .ok (.invokevirtual 132, 3) := by decide +kernel
theorem dX6_named_19 : decode cX6_named 19 = .ok (.ifCond .ne 6, 3) := by decide +kernel
theorem dX6_named_22 : decode cX6_named 22 = .ok (.ldc 120, 2) := by decide +kernel
theorem dX6_named_24 : decode cX6_named 24 = .ok (.ireturn, 1) := by decide +kernel
theorem dX6_named_25 : decode cX6_named 25 = .ok (.aload_n 0, 1) := by decide +kernel
theorem dX6_named_26 : decode cX6_named 26 = .ok (.getfield 31, 3) := by decide +kernel
theorem dX6_named_29 : decode cX6_named 29 = .ok (.getfield 125, 3) := by decide +kernel
theorem dX6_named_32 : decode cX6_named 32 = .ok (.iload_n 1, 1) := by decide +kernel
theorem dX6_named_33 : decode cX6_named 33 = .ok (.iaload, 1) := by decide +kernel
theorem dX6_named_34 : decode cX6_named 34 = .ok (.iload_n 2, 1) := by decide +kernel
theorem dX6_named_35 : decode cX6_named 35 = .ok (.invokestatic 141, 3) := by decide +kernel
theorem dX6_named_38 : decode cX6_named 38 = .ok (.ifCond .eq 19, 3) := by decide +kernel
theorem dX6_named_41 : decode cX6_named 41 = .ok (.aload_n 0, 1) := by decide +kernel
theorem dX6_named_42 : decode cX6_named 42 = .ok (.getfield 31, 3) := by decide +kernel
theorem dX6_named_45 : decode cX6_named 45 = .ok (.getfield 157, 3) := by decide +kernel
theorem dX6_named_48 : decode cX6_named 48 = .ok (.iload_n 1, 1) := by decide +kernel
theorem dX6_named_49 : decode cX6_named 49 = .ok (.iload_n 2, 1) := by decide +kernel
theorem dX6_named_50 : decode cX6_named 50 = .ok (.invokestatic 160, 3) := by decide +kernel
theorem dX6_named_53 : decode cX6_named 53 = .ok (.iaload, 1) := by decide +kernel
theorem dX6_named_54 : decode cX6_named 54 = .ok (.goto 5, 3) := by decide +kernel
theorem dX6_named_57 : decode cX6_named 57 = .ok (.ldc 164, 2) := by decide +kernel
theorem dX6_named_59 : decode cX6_named 59 = .ok (.ireturn, 1) := by decide +kernel
theorem dX6_cross_0 : decode cX6_cross 0 = .ok (.aload_n 0, 1) := by decide +kernel
theorem dX6_cross_1 : decode cX6_cross 1 = .ok (.getfield 10, 3) := by decide +kernel
theorem dX6_cross_4 : decode cX6_cross 4 = .ok (.iload_n 1, 1) := by decide +kernel
theorem dX6_cross_5 : decode cX6_cross 5 = .ok (.invokevirtual 116, 3) := by decide +kernel
theorem dX6_cross_8 : decode cX6_cross 8 = .ok (.ifCond .eq 15, 3) := by decide +kernel
theorem dX6_cross_11 : decode cX6_cross 11 = .ok (.aload_n 0, 1) := by decide +kernel
theorem dX6_cross_12 : decode cX6_cross 12 = .ok (.getfield 10, 3) := by decide +kernel
theorem dX6_cross_15 : decode cX6_cross 15 = .ok (.iload_n 2, 1) := by decide +kernel
theorem dX6_cross_16 : decode cX6_cross 16 = .ok (.iload_n 3, 1) := by decide +kernel
theorem dX6_cross_17 : decode cX6_cross 17 = .ok (.invokevirtual 165, 3) := by decide +kernel
theorem dX6_cross_20 : decode cX6_cross 20 = .ok (.ifCond .ne 6, 3) := by decide +kernel
theorem dX6_cross_23 : decode cX6_cross 23 = .ok (.ldc 120, 2) := by decide +kernel
theorem dX6_cross_25 : decode cX6_cross 25 = .ok (.ireturn, 1) := by decide +kernel
theorem dX6_cross_26 : decode cX6_cross 26 = .ok (.aload_n 0, 1) := by decide +kernel
theorem dX6_cross_27 : decode cX6_cross 27 = .ok (.getfield 31, 3) := by decide +kernel
theorem dX6_cross_30 : decode cX6_cross 30 = .ok (.iload_n 1, 1) := by decide +kernel
theorem dX6_cross_31 : decode cX6_cross 31 = .ok (.invokevirtual 168, 3) := by decide +kernel
theorem dX6_cross_34 : decode cX6_cross 34 = .ok (.iload_n 2, 1) := by decide +kernel
theorem dX6_cross_35 : decode cX6_cross 35 = .ok (.invokestatic 141, 3) := by decide +kernel
theorem dX6_cross_38 : decode cX6_cross 38 = .ok (.ifCond .eq 24, 3) := by decide +kernel
theorem dX6_cross_41 : decode cX6_cross 41 = .ok (.iload_n 3, 1) := by decide +kernel
theorem dX6_cross_42 : decode cX6_cross 42 = .ok (.iconst (-1), 1) := by decide +kernel
theorem dX6_cross_43 : decode cX6_cross 43 = .ok (.if_icmp .eq 22, 3) := by decide +kernel
theorem dX6_cross_46 : decode cX6_cross 46 = .ok (.aload_n 0, 1) := by decide +kernel
theorem dX6_cross_47 : decode cX6_cross 47 = .ok (.getfield 31, 3) := by decide +kernel
theorem dX6_cross_50 : decode cX6_cross 50 = .ok (.getfield 145, 3) := by decide +kernel
theorem dX6_cross_53 : decode cX6_cross 53 = .ok (.iload_n 2, 1) := by decide +kernel
theorem dX6_cross_54 : decode cX6_cross 54 = .ok (.iaload, 1) := by decide +kernel
theorem dX6_cross_55 : decode cX6_cross 55 = .ok (.iload_n 3, 1) := by decide +kernel
theorem dX6_cross_56 : decode cX6_cross 56 = .ok (.invokestatic 141, 3) := by decide +kernel
theorem dX6_cross_59 : decode cX6_cross 59 = .ok (.ifCond .ne 6, 3) := by decide +kernel
theorem dX6_cross_62 : decode cX6_cross 62 = .ok (.ldc 164, 2) := by decide +kernel
theorem dX6_cross_64 : decode cX6_cross 64 = .ok (.ireturn, 1) := by decide +kernel
theorem dX6_cross_65 : decode cX6_cross 65 = .ok (.aload_n 0, 1) := by decide +kernel
theorem dX6_cross_66 : decode cX6_cross 66 = .ok (.getfield 31, 3) := by decide +kernel
theorem dX6_cross_69 : decode cX6_cross 69 = .ok (.iload_n 1, 1) := by decide +kernel
theorem dX6_cross_70 : decode cX6_cross 70 = .ok (.iload_n 2, 1) := by decide +kernel
theorem dX6_cross_71 : decode cX6_cross 71 = .ok (.iload_n 3, 1) := by decide +kernel
theorem dX6_cross_72 : decode cX6_cross 72 = .ok (.invokevirtual 171, 3) := by decide +kernel
theorem dX6_cross_75 : decode cX6_cross 75 = .ok (.ireturn, 1) := by decide +kernel
theorem dX6_evening_0 : decode cX6_evening 0 = .ok (.aload_n 0, 1) := by decide +kernel
theorem dX6_evening_1 : decode cX6_evening 1 = .ok (.getfield 31, 3) := by decide +kernel
theorem dX6_evening_4 : decode cX6_evening 4 = .ok (.invokevirtual 175, 3) := by decide +kernel
theorem dX6_evening_7 : decode cX6_evening 7 = .ok (.ireturn, 1) := by decide +kernel
theorem dX6_know_0 : decode cX6_know 0 = .ok (.aload_n 0, 1) := by decide +kernel
theorem dX6_know_1 : decode cX6_know 1 = .ok (.getfield 10, 3) := by decide +kernel
theorem dX6_know_4 : decode cX6_know 4 = .ok (.iload_n 1, 1) := by decide +kernel
theorem dX6_know_5 : decode cX6_know 5 = .ok (.iload_n 2, 1) := by decide +kernel
theorem dX6_know_6 : decode cX6_know 6 = .ok (.invokevirtual 179, 3) := by decide +kernel
theorem dX6_know_9 : decode cX6_know 9 = .ok (.ifCond .ne 6, 3) := by decide +kernel
theorem dX6_know_12 : decode cX6_know 12 = .ok (.ldc 120, 2) := by decide +kernel
theorem dX6_know_14 : decode cX6_know 14 = .ok (.ireturn, 1) := by decide +kernel
theorem dX6_know_15 : decode cX6_know 15 = .ok (.aload_n 0, 1) := by decide +kernel
theorem dX6_know_16 : decode cX6_know 16 = .ok (.getfield 31, 3) := by decide +kernel
theorem dX6_know_19 : decode cX6_know 19 = .ok (.getfield 145, 3) := by decide +kernel
theorem dX6_know_22 : decode cX6_know 22 = .ok (.iload_n 1, 1) := by decide +kernel
theorem dX6_know_23 : decode cX6_know 23 = .ok (.iaload, 1) := by decide +kernel
theorem dX6_know_24 : decode cX6_know 24 = .ok (.iload_n 2, 1) := by decide +kernel
theorem dX6_know_25 : decode cX6_know 25 = .ok (.invokestatic 141, 3) := by decide +kernel
theorem dX6_know_28 : decode cX6_know 28 = .ok (.ifCond .eq 7, 3) := by decide +kernel
theorem dX6_know_31 : decode cX6_know 31 = .ok (.iconst 1, 1) := by decide +kernel
theorem dX6_know_32 : decode cX6_know 32 = .ok (.goto 4, 3) := by decide +kernel
theorem dX6_know_35 : decode cX6_know 35 = .ok (.iconst 0, 1) := by decide +kernel
theorem dX6_know_36 : decode cX6_know 36 = .ok (.istore 4, 2) := by decide +kernel
theorem dX6_know_38 : decode cX6_know 38 = .ok (.aload_n 0, 1) := by decide +kernel
theorem dX6_know_39 : decode cX6_know 39 = .ok (.getfield 31, 3) := by decide +kernel
theorem dX6_know_42 : decode cX6_know 42 = .ok (.getfield 145, 3) := by decide +kernel
theorem dX6_know_45 : decode cX6_know 45 = .ok (.iload_n 1, 1) := by decide +kernel
theorem dX6_know_46 : decode cX6_know 46 = .ok (.iload_n 3, 1) := by decide +kernel
theorem dX6_know_47 : decode cX6_know 47 = .ok (.ifCond .eq 20, 3) := by decide +kernel
theorem dX6_know_50 : decode cX6_know 50 = .ok (.aload_n 0, 1) := by decide +kernel
theorem dX6_know_51 : decode cX6_know 51 = .ok (.getfield 31, 3) := by decide +kernel
theorem dX6_know_54 : decode cX6_know 54 = .ok (.getfield 145, 3) := by decide +kernel
theorem dX6_know_57 : decode cX6_know 57 = .ok (.iload_n 1, 1) := by decide +kernel
theorem dX6_know_58 : decode cX6_know 58 = .ok (.iaload, 1) := by decide +kernel
theorem dX6_know_59 : decode cX6_know 59 = .ok (.iload_n 2, 1) := by decide +kernel
theorem dX6_know_60 : decode cX6_know 60 = .ok (.invokestatic 182, 3) := by decide +kernel
theorem dX6_know_63 : decode cX6_know 63 = .ok (.ior, 1) := by decide +kernel
theorem dX6_know_64 : decode cX6_know 64 = .ok (.goto 19, 3) := by decide +kernel
theorem dX6_know_67 : decode cX6_know 67 = .ok (.aload_n 0, 1) := by decide +kernel
theorem dX6_know_68 : decode cX6_know 68 = .ok (.getfield 31, 3) := by decide +kernel
theorem dX6_know_71 : decode cX6_know 71 = .ok (.getfield 145, 3) := by decide +kernel
theorem dX6_know_74 : decode cX6_know 74 = .ok (.iload_n 1, 1) := by decide +kernel
theorem dX6_know_75 : decode cX6_know 75 = .ok (.iaload, 1) := by decide +kernel
theorem dX6_know_76 : decode cX6_know 76 = .ok (.iload_n 2, 1) := by decide +kernel
theorem dX6_know_77 : decode cX6_know 77 = .ok (.invokestatic 182, 3) := by decide +kernel
theorem dX6_know_80 : decode cX6_know 80 = .ok (.iconst (-1), 1) := by decide +kernel
theorem dX6_know_81 : decode cX6_know 81 = .ok (.ixor, 1) := by decide +kernel
theorem dX6_know_82 : decode cX6_know 82 = .ok (.iand, 1) := by decide +kernel
theorem dX6_know_83 : decode cX6_know 83 = .ok (.iastore, 1) := by decide +kernel
theorem dX6_know_84 : decode cX6_know 84 = .ok (.iload 4, 2) := by decide +kernel
theorem dX6_know_86 : decode cX6_know 86 = .ok (.ireturn, 1) := by decide +kernel
theorem dX6_drift_0 : decode cX6_drift 0 = .ok (.iload_n 1, 1) := by decide +kernel
theorem dX6_drift_1 : decode cX6_drift 1 = .ok (.iconst 1, 1) := by decide +kernel
theorem dX6_drift_2 : decode cX6_drift 2 = .ok (.if_icmp .lt 9, 3) := by decide +kernel
theorem dX6_drift_5 : decode cX6_drift 5 = .ok (.iload_n 1, 1) := by decide +kernel
theorem dX6_drift_6 : decode cX6_drift 6 = .ok (.bipush 99, 2) := by decide +kernel
theorem dX6_drift_8 : decode cX6_drift 8 = .ok (.if_icmp .le 6, 3) := by decide +kernel
theorem dX6_drift_11 : decode cX6_drift 11 = .ok (.ldc 68, 2) := by decide +kernel
theorem dX6_drift_13 : decode cX6_drift 13 = .ok (.ireturn, 1) := by decide +kernel
theorem dX6_drift_14 : decode cX6_drift 14 = .ok (.aload_n 0, 1) := by decide +kernel
theorem dX6_drift_15 : decode cX6_drift 15 = .ok (.getfield 10, 3) := by decide +kernel
theorem dX6_drift_18 : decode cX6_drift 18 = .ok (.getfield 100, 3) := by decide +kernel
theorem dX6_drift_21 : decode cX6_drift 21 = .ok (.iconst 1, 1) := by decide +kernel
theorem dX6_drift_22 : decode cX6_drift 22 = .ok (.if_icmp .lt 14, 3) := by decide +kernel
theorem dX6_drift_25 : decode cX6_drift 25 = .ok (.aload_n 0, 1) := by decide +kernel
theorem dX6_drift_26 : decode cX6_drift 26 = .ok (.getfield 10, 3) := by decide +kernel
theorem dX6_drift_29 : decode cX6_drift 29 = .ok (.getfield 91, 3) := by decide +kernel
theorem dX6_drift_32 : decode cX6_drift 32 = .ok (.iconst 1, 1) := by decide +kernel
theorem dX6_drift_33 : decode cX6_drift 33 = .ok (.if_icmp .ge 6, 3) := by decide +kernel
theorem dX6_drift_36 : decode cX6_drift 36 = .ok (.ldc 164, 2) := by decide +kernel
theorem dX6_drift_38 : decode cX6_drift 38 = .ok (.ireturn, 1) := by decide +kernel
theorem dX6_drift_39 : decode cX6_drift 39 = .ok (.iconst 0, 1) := by decide +kernel
theorem dX6_drift_40 : decode cX6_drift 40 = .ok (.istore_n 2, 1) := by decide +kernel
theorem dX6_drift_41 : decode cX6_drift 41 = .ok (.iload_n 2, 1) := by decide +kernel
theorem dX6_drift_42 : decode cX6_drift 42 = .ok (.iload_n 1, 1) := by decide +kernel
theorem dX6_drift_43 : decode cX6_drift 43 = .ok (.if_icmp .ge 16, 3) := by decide +kernel
theorem dX6_drift_46 : decode cX6_drift 46 = .ok (.aload_n 0, 1) := by decide +kernel
theorem dX6_drift_47 : decode cX6_drift 47 = .ok (.getfield 31, 3) := by decide +kernel
theorem dX6_drift_50 : decode cX6_drift 50 = .ok (.invokevirtual 185, 3) := by decide +kernel
theorem dX6_drift_53 : decode cX6_drift 53 = .ok (.iinc 2 1, 3) := by decide +kernel
theorem dX6_drift_56 : decode cX6_drift 56 = .ok (.goto (-15), 3) := by decide +kernel
theorem dX6_drift_59 : decode cX6_drift 59 = .ok (.aload_n 0, 1) := by decide +kernel
theorem dX6_drift_60 : decode cX6_drift 60 = .ok (.getfield 31, 3) := by decide +kernel
theorem dX6_drift_63 : decode cX6_drift 63 = .ok (.getfield 109, 3) := by decide +kernel
theorem dX6_drift_66 : decode cX6_drift 66 = .ok (.ireturn, 1) := by decide +kernel
theorem dX6_most_0 : decode cX6_most 0 = .ok (.aload_n 0, 1) := by decide +kernel
theorem dX6_most_1 : decode cX6_most 1 = .ok (.getfield 10, 3) := by decide +kernel
theorem dX6_most_4 : decode cX6_most 4 = .ok (.iload_n 1, 1) := by decide +kernel
theorem dX6_most_5 : decode cX6_most 5 = .ok (.invokevirtual 116, 3) := by decide +kernel
theorem dX6_most_8 : decode cX6_most 8 = .ok (.ifCond .ne 6, 3) := by decide +kernel
theorem dX6_most_11 : decode cX6_most 11 = .ok (.ldc 120, 2) := by decide +kernel
theorem dX6_most_13 : decode cX6_most 13 = .ok (.ireturn, 1) := by decide +kernel
theorem dX6_most_14 : decode cX6_most 14 = .ok (.aload_n 0, 1) := by decide +kernel
theorem dX6_most_15 : decode cX6_most 15 = .ok (.getfield 46, 3) := by decide +kernel
theorem dX6_most_18 : decode cX6_most 18 = .ok (.iload_n 1, 1) := by decide +kernel
theorem dX6_most_19 : decode cX6_most 19 = .ok (.invokevirtual 188, 3) := by decide +kernel
theorem dX6_most_22 : decode cX6_most 22 = .ok (.istore_n 3, 1) := by decide +kernel
theorem dX6_most_23 : decode cX6_most 23 = .ok (.iload_n 2, 1) := by decide +kernel
theorem dX6_most_24 : decode cX6_most 24 = .ok (.iconst (-1), 1) := by decide +kernel
theorem dX6_most_25 : decode cX6_most 25 = .ok (.if_icmp .ne 5, 3) := by decide +kernel
theorem dX6_most_28 : decode cX6_most 28 = .ok (.iload_n 3, 1) := by decide +kernel
theorem dX6_most_29 : decode cX6_most 29 = .ok (.ireturn, 1) := by decide +kernel
theorem dX6_most_30 : decode cX6_most 30 = .ok (.iload_n 2, 1) := by decide +kernel
theorem dX6_most_31 : decode cX6_most 31 = .ok (.ifCond .lt 20, 3) := by decide +kernel
theorem dX6_most_34 : decode cX6_most 34 = .ok (.iload_n 2, 1) := by decide +kernel
theorem dX6_most_35 : decode cX6_most 35 = .ok (.iload_n 3, 1) := by decide +kernel
theorem dX6_most_36 : decode cX6_most 36 = .ok (.if_icmp .ge 15, 3) := by decide +kernel
theorem dX6_most_39 : decode cX6_most 39 = .ok (.aload_n 0, 1) := by decide +kernel
theorem dX6_most_40 : decode cX6_most 40 = .ok (.getfield 46, 3) := by decide +kernel
theorem dX6_most_43 : decode cX6_most 43 = .ok (.getfield 191, 3) := by decide +kernel
theorem dX6_most_46 : decode cX6_most 46 = .ok (.iload_n 2, 1) := by decide +kernel
theorem dX6_most_47 : decode cX6_most 47 = .ok (.iaload, 1) := by decide +kernel
theorem dX6_most_48 : decode cX6_most 48 = .ok (.goto 4, 3) := by decide +kernel
theorem dX6_most_51 : decode cX6_most 51 = .ok (.iconst (-1), 1) := by decide +kernel
theorem dX6_most_52 : decode cX6_most 52 = .ok (.ireturn, 1) := by decide +kernel
theorem dX6_names_0 : decode cX6_names 0 = .ok (.aload_n 0, 1) := by decide +kernel
theorem dX6_names_1 : decode cX6_names 1 = .ok (.getfield 10, 3) := by decide +kernel
theorem dX6_names_4 : decode cX6_names 4 = .ok (.iload_n 1, 1) := by decide +kernel
theorem dX6_names_5 : decode cX6_names 5 = .ok (.invokevirtual 116, 3) := by decide +kernel
theorem dX6_names_8 : decode cX6_names 8 = .ok (.ifCond .ne 6, 3) := by decide +kernel
theorem dX6_names_11 : decode cX6_names 11 = .ok (.ldc 120, 2) := by decide +kernel
theorem dX6_names_13 : decode cX6_names 13 = .ok (.ireturn, 1) := by decide +kernel
theorem dX6_names_14 : decode cX6_names 14 = .ok (.aload_n 0, 1) := by decide +kernel
theorem dX6_names_15 : decode cX6_names 15 = .ok (.getfield 46, 3) := by decide +kernel
theorem dX6_names_18 : decode cX6_names 18 = .ok (.iload_n 1, 1) := by decide +kernel
theorem dX6_names_19 : decode cX6_names 19 = .ok (.invokevirtual 188, 3) := by decide +kernel
theorem dX6_names_22 : decode cX6_names 22 = .ok (.istore_n 3, 1) := by decide +kernel
theorem dX6_names_23 : decode cX6_names 23 = .ok (.iload_n 2, 1) := by decide +kernel
theorem dX6_names_24 : decode cX6_names 24 = .ok (.ifCond .lt 19, 3) := by decide +kernel
theorem dX6_names_27 : decode cX6_names 27 = .ok (.iload_n 2, 1) := by decide +kernel
theorem dX6_names_28 : decode cX6_names 28 = .ok (.iload_n 3, 1) := by decide +kernel
theorem dX6_names_29 : decode cX6_names 29 = .ok (.if_icmp .ge 14, 3) := by decide +kernel
theorem dX6_names_32 : decode cX6_names 32 = .ok (.aload_n 0, 1) := by decide +kernel
theorem dX6_names_33 : decode cX6_names 33 = .ok (.getfield 46, 3) := by decide +kernel
theorem dX6_names_36 : decode cX6_names 36 = .ok (.iload_n 2, 1) := by decide +kernel
theorem dX6_names_37 : decode cX6_names 37 = .ok (.invokevirtual 194, 3) := by decide +kernel
theorem dX6_names_40 : decode cX6_names 40 = .ok (.goto 5, 3) := by decide +kernel
theorem dX6_names_43 : decode cX6_names 43 = .ok (.ldc 68, 2) := by decide +kernel
theorem dX6_names_45 : decode cX6_names 45 = .ok (.ireturn, 1) := by decide +kernel
theorem dX6_tellings_0 : decode cX6_tellings 0 = .ok (.aload_n 0, 1) := by decide +kernel
theorem dX6_tellings_1 : decode cX6_tellings 1 = .ok (.getfield 10, 3) := by decide +kernel
theorem dX6_tellings_4 : decode cX6_tellings 4 = .ok (.iload_n 1, 1) := by decide +kernel
theorem dX6_tellings_5 : decode cX6_tellings 5 = .ok (.invokevirtual 116, 3) := by decide +kernel
theorem dX6_tellings_8 : decode cX6_tellings 8 = .ok (.ifCond .eq 14, 3) := by decide +kernel
theorem dX6_tellings_11 : decode cX6_tellings 11 = .ok (.aload_n 0, 1) := by decide +kernel
theorem dX6_tellings_12 : decode cX6_tellings 12 = .ok (.getfield 46, 3) := by decide +kernel
theorem dX6_tellings_15 : decode cX6_tellings 15 = .ok (.iload_n 1, 1) := by decide +kernel
theorem dX6_tellings_16 : decode cX6_tellings 16 = .ok (.invokevirtual 197, 3) := by decide +kernel
theorem dX6_tellings_19 : decode cX6_tellings 19 = .ok (.goto 5, 3) := by decide +kernel
theorem dX6_tellings_22 : decode cX6_tellings 22 = .ok (.ldc 120, 2) := by decide +kernel
theorem dX6_tellings_24 : decode cX6_tellings 24 = .ok (.ireturn, 1) := by decide +kernel
theorem dX6_hired_0 : decode cX6_hired 0 = .ok (.aload_n 0, 1) := by decide +kernel
theorem dX6_hired_1 : decode cX6_hired 1 = .ok (.getfield 10, 3) := by decide +kernel
theorem dX6_hired_4 : decode cX6_hired 4 = .ok (.iload_n 1, 1) := by decide +kernel
theorem dX6_hired_5 : decode cX6_hired 5 = .ok (.invokevirtual 116, 3) := by decide +kernel
theorem dX6_hired_8 : decode cX6_hired 8 = .ok (.ifCond .ne 6, 3) := by decide +kernel
theorem dX6_hired_11 : decode cX6_hired 11 = .ok (.ldc 120, 2) := by decide +kernel
theorem dX6_hired_13 : decode cX6_hired 13 = .ok (.ireturn, 1) := by decide +kernel
theorem dX6_hired_14 : decode cX6_hired 14 = .ok (.iload_n 2, 1) := by decide +kernel
theorem dX6_hired_15 : decode cX6_hired 15 = .ok (.ifCond .eq 11, 3) := by decide +kernel
theorem dX6_hired_18 : decode cX6_hired 18 = .ok (.iload_n 2, 1) := by decide +kernel
theorem dX6_hired_19 : decode cX6_hired 19 = .ok (.iconst 1, 1) := by decide +kernel
theorem dX6_hired_20 : decode cX6_hired 20 = .ok (.if_icmp .eq 6, 3) := by decide +kernel
theorem dX6_hired_23 : decode cX6_hired 23 = .ok (.ldc 68, 2) := by decide +kernel
theorem dX6_hired_25 : decode cX6_hired 25 = .ok (.ireturn, 1) := by decide +kernel
theorem dX6_hired_26 : decode cX6_hired 26 = .ok (.aload_n 0, 1) := by decide +kernel
theorem dX6_hired_27 : decode cX6_hired 27 = .ok (.getfield 46, 3) := by decide +kernel
theorem dX6_hired_30 : decode cX6_hired 30 = .ok (.iload_n 1, 1) := by decide +kernel
theorem dX6_hired_31 : decode cX6_hired 31 = .ok (.invokevirtual 200, 3) := by decide +kernel
theorem dX6_hired_34 : decode cX6_hired 34 = .ok (.istore_n 3, 1) := by decide +kernel
theorem dX6_hired_35 : decode cX6_hired 35 = .ok (.iload_n 2, 1) := by decide +kernel
theorem dX6_hired_36 : decode cX6_hired 36 = .ok (.iconst 1, 1) := by decide +kernel
theorem dX6_hired_37 : decode cX6_hired 37 = .ok (.if_icmp .eq 8, 3) := by decide +kernel
theorem dX6_hired_40 : decode cX6_hired 40 = .ok (.iload_n 3, 1) := by decide +kernel
theorem dX6_hired_41 : decode cX6_hired 41 = .ok (.iconst (-1), 1) := by decide +kernel
theorem dX6_hired_42 : decode cX6_hired 42 = .ok (.if_icmp .ne 7, 3) := by decide +kernel
theorem dX6_hired_45 : decode cX6_hired 45 = .ok (.iload_n 3, 1) := by decide +kernel
theorem dX6_hired_46 : decode cX6_hired 46 = .ok (.goto 11, 3) := by decide +kernel
theorem dX6_hired_49 : decode cX6_hired 49 = .ok (.aload_n 0, 1) := by decide +kernel
theorem dX6_hired_50 : decode cX6_hired 50 = .ok (.getfield 10, 3) := by decide +kernel
theorem dX6_hired_53 : decode cX6_hired 53 = .ok (.iload_n 3, 1) := by decide +kernel
theorem dX6_hired_54 : decode cX6_hired 54 = .ok (.invokevirtual 203, 3) := by decide +kernel
theorem dX6_hired_57 : decode cX6_hired 57 = .ok (.ireturn, 1) := by decide +kernel
theorem dX6_found_0 : decode cX6_found 0 = .ok (.iload_n 1, 1) := by decide +kernel
theorem dX6_found_1 : decode cX6_found 1 = .ok (.lookupswitch 43 #[(0, 27), (1, 35)], 27) := by decide +kernel
theorem dX6_found_28 : decode cX6_found 28 = .ok (.aload_n 0, 1) := by decide +kernel
theorem dX6_found_29 : decode cX6_found 29 = .ok (.getfield 31, 3) := by decide +kernel
theorem dX6_found_32 : decode cX6_found 32 = .ok (.invokevirtual 206, 3) := by decide +kernel
theorem dX6_found_35 : decode cX6_found 35 = .ok (.ireturn, 1) := by decide +kernel
theorem dX6_found_36 : decode cX6_found 36 = .ok (.aload_n 0, 1) := by decide +kernel
theorem dX6_found_37 : decode cX6_found 37 = .ok (.getfield 31, 3) := by decide +kernel
theorem dX6_found_40 : decode cX6_found 40 = .ok (.invokevirtual 209, 3) := by decide +kernel
theorem dX6_found_43 : decode cX6_found 43 = .ok (.ireturn, 1) := by decide +kernel
theorem dX6_found_44 : decode cX6_found 44 = .ok (.ldc 68, 2) := by decide +kernel
theorem dX6_found_46 : decode cX6_found 46 = .ok (.ireturn, 1) := by decide +kernel
theorem dX6_whom_0 : decode cX6_whom 0 = .ok (.aload_n 0, 1) := by decide +kernel
theorem dX6_whom_1 : decode cX6_whom 1 = .ok (.getfield 10, 3) := by decide +kernel
theorem dX6_whom_4 : decode cX6_whom 4 = .ok (.iload_n 1, 1) := by decide +kernel
theorem dX6_whom_5 : decode cX6_whom 5 = .ok (.invokevirtual 116, 3) := by decide +kernel
theorem dX6_whom_8 : decode cX6_whom 8 = .ok (.ifCond .eq 14, 3) := by decide +kernel
theorem dX6_whom_11 : decode cX6_whom 11 = .ok (.aload_n 0, 1) := by decide +kernel
theorem dX6_whom_12 : decode cX6_whom 12 = .ok (.getfield 10, 3) := by decide +kernel
theorem dX6_whom_15 : decode cX6_whom 15 = .ok (.iload_n 2, 1) := by decide +kernel
theorem dX6_whom_16 : decode cX6_whom 16 = .ok (.invokevirtual 132, 3) := by decide +kernel
theorem dX6_whom_19 : decode cX6_whom 19 = .ok (.ifCond .ne 6, 3) := by decide +kernel
theorem dX6_whom_22 : decode cX6_whom 22 = .ok (.ldc 120, 2) := by decide +kernel
theorem dX6_whom_24 : decode cX6_whom 24 = .ok (.ireturn, 1) := by decide +kernel
theorem dX6_whom_25 : decode cX6_whom 25 = .ok (.aload_n 0, 1) := by decide +kernel
theorem dX6_whom_26 : decode cX6_whom 26 = .ok (.getfield 31, 3) := by decide +kernel
theorem dX6_whom_29 : decode cX6_whom 29 = .ok (.iload_n 1, 1) := by decide +kernel
theorem dX6_whom_30 : decode cX6_whom 30 = .ok (.invokevirtual 168, 3) := by decide +kernel
theorem dX6_whom_33 : decode cX6_whom 33 = .ok (.iload_n 2, 1) := by decide +kernel
theorem dX6_whom_34 : decode cX6_whom 34 = .ok (.invokestatic 141, 3) := by decide +kernel
theorem dX6_whom_37 : decode cX6_whom 37 = .ok (.ifCond .eq 22, 3) := by decide +kernel
theorem dX6_whom_40 : decode cX6_whom 40 = .ok (.aload_n 0, 1) := by decide +kernel
theorem dX6_whom_41 : decode cX6_whom 41 = .ok (.getfield 10, 3) := by decide +kernel
theorem dX6_whom_44 : decode cX6_whom 44 = .ok (.aload_n 0, 1) := by decide +kernel
theorem dX6_whom_45 : decode cX6_whom 45 = .ok (.getfield 31, 3) := by decide +kernel
theorem dX6_whom_48 : decode cX6_whom 48 = .ok (.iload_n 1, 1) := by decide +kernel
theorem dX6_whom_49 : decode cX6_whom 49 = .ok (.iload_n 2, 1) := by decide +kernel
theorem dX6_whom_50 : decode cX6_whom 50 = .ok (.invokevirtual 212, 3) := by decide +kernel
theorem dX6_whom_53 : decode cX6_whom 53 = .ok (.invokevirtual 215, 3) := by decide +kernel
theorem dX6_whom_56 : decode cX6_whom 56 = .ok (.goto 5, 3) := by decide +kernel
theorem dX6_whom_59 : decode cX6_whom 59 = .ok (.ldc 164, 2) := by decide +kernel
theorem dX6_whom_61 : decode cX6_whom 61 = .ok (.ireturn, 1) := by decide +kernel
theorem dX6_see_0 : decode cX6_see 0 = .ok (.aload_n 0, 1) := by decide +kernel
theorem dX6_see_1 : decode cX6_see 1 = .ok (.getfield 10, 3) := by decide +kernel
theorem dX6_see_4 : decode cX6_see 4 = .ok (.iload_n 1, 1) := by decide +kernel
theorem dX6_see_5 : decode cX6_see 5 = .ok (.iload_n 2, 1) := by decide +kernel
theorem dX6_see_6 : decode cX6_see 6 = .ok (.invokevirtual 179, 3) := by decide +kernel
theorem dX6_see_9 : decode cX6_see 9 = .ok (.ifCond .ne 6, 3) := by decide +kernel
theorem dX6_see_12 : decode cX6_see 12 = .ok (.ldc 120, 2) := by decide +kernel
theorem dX6_see_14 : decode cX6_see 14 = .ok (.ireturn, 1) := by decide +kernel
theorem dX6_see_15 : decode cX6_see 15 = .ok (.aload_n 0, 1) := by decide +kernel
theorem dX6_see_16 : decode cX6_see 16 = .ok (.getfield 53, 3) := by decide +kernel
theorem dX6_see_19 : decode cX6_see 19 = .ok (.getfield 112, 3) := by decide +kernel
theorem dX6_see_22 : decode cX6_see 22 = .ok (.bipush 20, 2) := by decide +kernel
theorem dX6_see_24 : decode cX6_see 24 = .ok (.if_icmp .lt 6, 3) := by decide +kernel
theorem dX6_see_27 : decode cX6_see 27 = .ok (.ldc 72, 2) := by decide +kernel
theorem dX6_see_29 : decode cX6_see 29 = .ok (.ireturn, 1) := by decide +kernel
theorem dX6_see_30 : decode cX6_see 30 = .ok (.iload_n 3, 1) := by decide +kernel
theorem dX6_see_31 : decode cX6_see 31 = .ok (.ifCond .eq 15, 3) := by decide +kernel
theorem dX6_see_34 : decode cX6_see 34 = .ok (.aload_n 0, 1) := by decide +kernel
theorem dX6_see_35 : decode cX6_see 35 = .ok (.getfield 53, 3) := by decide +kernel
theorem dX6_see_38 : decode cX6_see 38 = .ok (.iload_n 1, 1) := by decide +kernel
theorem dX6_see_39 : decode cX6_see 39 = .ok (.iload_n 2, 1) := by decide +kernel
theorem dX6_see_40 : decode cX6_see 40 = .ok (.invokevirtual 218, 3) := by decide +kernel
theorem dX6_see_43 : decode cX6_see 43 = .ok (.goto 12, 3) := by decide +kernel
theorem dX6_see_46 : decode cX6_see 46 = .ok (.aload_n 0, 1) := by decide +kernel
theorem dX6_see_47 : decode cX6_see 47 = .ok (.getfield 53, 3) := by decide +kernel
theorem dX6_see_50 : decode cX6_see 50 = .ok (.iload_n 2, 1) := by decide +kernel
theorem dX6_see_51 : decode cX6_see 51 = .ok (.iload_n 1, 1) := by decide +kernel
theorem dX6_see_52 : decode cX6_see 52 = .ok (.invokevirtual 218, 3) := by decide +kernel
theorem dX6_see_55 : decode cX6_see 55 = .ok (.ireturn, 1) := by decide +kernel
theorem dX6_orders_0 : decode cX6_orders 0 = .ok (.aload_n 0, 1) := by decide +kernel
theorem dX6_orders_1 : decode cX6_orders 1 = .ok (.getfield 53, 3) := by decide +kernel
theorem dX6_orders_4 : decode cX6_orders 4 = .ok (.aload_n 0, 1) := by decide +kernel
theorem dX6_orders_5 : decode cX6_orders 5 = .ok (.getfield 10, 3) := by decide +kernel
theorem dX6_orders_8 : decode cX6_orders 8 = .ok (.getfield 91, 3) := by decide +kernel
theorem dX6_orders_11 : decode cX6_orders 11 = .ok (.invokevirtual 220, 3) := by decide +kernel
theorem dX6_orders_14 : decode cX6_orders 14 = .ok (.ireturn, 1) := by decide +kernel
theorem dX6_heavier_0 : decode cX6_heavier 0 = .ok (.aload_n 0, 1) := by decide +kernel
theorem dX6_heavier_1 : decode cX6_heavier 1 = .ok (.getfield 10, 3) := by decide +kernel
theorem dX6_heavier_4 : decode cX6_heavier 4 = .ok (.iload_n 1, 1) := by decide +kernel
theorem dX6_heavier_5 : decode cX6_heavier 5 = .ok (.invokevirtual 132, 3) := by decide +kernel
theorem dX6_heavier_8 : decode cX6_heavier 8 = .ok (.ifCond .eq 21, 3) := by decide +kernel
theorem dX6_heavier_11 : decode cX6_heavier 11 = .ok (.aload_n 0, 1) := by decide +kernel
theorem dX6_heavier_12 : decode cX6_heavier 12 = .ok (.getfield 53, 3) := by decide +kernel
theorem dX6_heavier_15 : decode cX6_heavier 15 = .ok (.iload_n 1, 1) := by decide +kernel
theorem dX6_heavier_16 : decode cX6_heavier 16 = .ok (.aload_n 0, 1) := by decide +kernel
theorem dX6_heavier_17 : decode cX6_heavier 17 = .ok (.getfield 10, 3) := by decide +kernel
theorem dX6_heavier_20 : decode cX6_heavier 20 = .ok (.getfield 91, 3) := by decide +kernel
theorem dX6_heavier_23 : decode cX6_heavier 23 = .ok (.invokevirtual 223, 3) := by decide +kernel
theorem dX6_heavier_26 : decode cX6_heavier 26 = .ok (.goto 5, 3) := by decide +kernel
theorem dX6_heavier_29 : decode cX6_heavier 29 = .ok (.ldc 120, 2) := by decide +kernel
theorem dX6_heavier_31 : decode cX6_heavier 31 = .ok (.ireturn, 1) := by decide +kernel
theorem dX6_row_0 : decode cX6_row 0 = .ok (.aload_n 0, 1) := by decide +kernel
theorem dX6_row_1 : decode cX6_row 1 = .ok (.getfield 10, 3) := by decide +kernel
theorem dX6_row_4 : decode cX6_row 4 = .ok (.iload_n 1, 1) := by decide +kernel
theorem dX6_row_5 : decode cX6_row 5 = .ok (.iload_n 2, 1) := by decide +kernel
theorem dX6_row_6 : decode cX6_row 6 = .ok (.invokevirtual 165, 3) := by decide +kernel
theorem dX6_row_9 : decode cX6_row 9 = .ok (.ifCond .ne 6, 3) := by decide +kernel
theorem dX6_row_12 : decode cX6_row 12 = .ok (.ldc 120, 2) := by decide +kernel
theorem dX6_row_14 : decode cX6_row 14 = .ok (.ireturn, 1) := by decide +kernel
theorem dX6_row_15 : decode cX6_row 15 = .ok (.aload_n 0, 1) := by decide +kernel
theorem dX6_row_16 : decode cX6_row 16 = .ok (.getfield 60, 3) := by decide +kernel
theorem dX6_row_19 : decode cX6_row 19 = .ok (.getfield 115, 3) := by decide +kernel
theorem dX6_row_22 : decode cX6_row 22 = .ok (.bipush 6, 2) := by decide +kernel
theorem dX6_row_24 : decode cX6_row 24 = .ok (.if_icmp .ge 15, 3) := by decide +kernel
theorem dX6_row_27 : decode cX6_row 27 = .ok (.aload_n 0, 1) := by decide +kernel
theorem dX6_row_28 : decode cX6_row 28 = .ok (.getfield 60, 3) := by decide +kernel
theorem dX6_row_31 : decode cX6_row 31 = .ok (.iload_n 1, 1) := by decide +kernel
theorem dX6_row_32 : decode cX6_row 32 = .ok (.iload_n 2, 1) := by decide +kernel
theorem dX6_row_33 : decode cX6_row 33 = .ok (.invokevirtual 226, 3) := by decide +kernel
theorem dX6_row_36 : decode cX6_row 36 = .ok (.goto 5, 3) := by decide +kernel
theorem dX6_row_39 : decode cX6_row 39 = .ok (.ldc 72, 2) := by decide +kernel
theorem dX6_row_41 : decode cX6_row 41 = .ok (.ireturn, 1) := by decide +kernel
theorem dX6_odds_0 : decode cX6_odds 0 = .ok (.aload_n 0, 1) := by decide +kernel
theorem dX6_odds_1 : decode cX6_odds 1 = .ok (.getfield 10, 3) := by decide +kernel
theorem dX6_odds_4 : decode cX6_odds 4 = .ok (.aload_n 0, 1) := by decide +kernel
theorem dX6_odds_5 : decode cX6_odds 5 = .ok (.getfield 60, 3) := by decide +kernel
theorem dX6_odds_8 : decode cX6_odds 8 = .ok (.invokevirtual 227, 3) := by decide +kernel
theorem dX6_odds_11 : decode cX6_odds 11 = .ok (.invokevirtual 230, 3) := by decide +kernel
theorem dX6_odds_14 : decode cX6_odds 14 = .ok (.ireturn, 1) := by decide +kernel
theorem dX6_wrong_0 : decode cX6_wrong 0 = .ok (.aload_n 0, 1) := by decide +kernel
theorem dX6_wrong_1 : decode cX6_wrong 1 = .ok (.getfield 10, 3) := by decide +kernel
theorem dX6_wrong_4 : decode cX6_wrong 4 = .ok (.iload_n 1, 1) := by decide +kernel
theorem dX6_wrong_5 : decode cX6_wrong 5 = .ok (.invokevirtual 116, 3) := by decide +kernel
theorem dX6_wrong_8 : decode cX6_wrong 8 = .ok (.ifCond .eq 18, 3) := by decide +kernel
theorem dX6_wrong_11 : decode cX6_wrong 11 = .ok (.aload_n 0, 1) := by decide +kernel
theorem dX6_wrong_12 : decode cX6_wrong 12 = .ok (.getfield 60, 3) := by decide +kernel
theorem dX6_wrong_15 : decode cX6_wrong 15 = .ok (.aload_n 0, 1) := by decide +kernel
theorem dX6_wrong_16 : decode cX6_wrong 16 = .ok (.getfield 31, 3) := by decide +kernel
theorem dX6_wrong_19 : decode cX6_wrong 19 = .ok (.iload_n 1, 1) := by decide +kernel
theorem dX6_wrong_20 : decode cX6_wrong 20 = .ok (.invokevirtual 233, 3) := by decide +kernel
theorem dX6_wrong_23 : decode cX6_wrong 23 = .ok (.goto 5, 3) := by decide +kernel
theorem dX6_wrong_26 : decode cX6_wrong 26 = .ok (.ldc 120, 2) := by decide +kernel
theorem dX6_wrong_28 : decode cX6_wrong 28 = .ok (.ireturn, 1) := by decide +kernel
theorem dX6_tear_0 : decode cX6_tear 0 = .ok (.aload_n 0, 1) := by decide +kernel
theorem dX6_tear_1 : decode cX6_tear 1 = .ok (.getfield 60, 3) := by decide +kernel
theorem dX6_tear_4 : decode cX6_tear 4 = .ok (.getfield 115, 3) := by decide +kernel
theorem dX6_tear_7 : decode cX6_tear 7 = .ok (.aload_n 0, 1) := by decide +kernel
theorem dX6_tear_8 : decode cX6_tear 8 = .ok (.getfield 53, 3) := by decide +kernel
theorem dX6_tear_11 : decode cX6_tear 11 = .ok (.getfield 112, 3) := by decide +kernel
theorem dX6_tear_14 : decode cX6_tear 14 = .ok (.iadd, 1) := by decide +kernel
theorem dX6_tear_15 : decode cX6_tear 15 = .ok (.istore_n 1, 1) := by decide +kernel
theorem dX6_tear_16 : decode cX6_tear 16 = .ok (.aload_n 0, 1) := by decide +kernel
theorem dX6_tear_17 : decode cX6_tear 17 = .ok (.getfield 60, 3) := by decide +kernel
theorem dX6_tear_20 : decode cX6_tear 20 = .ok (.invokevirtual 90, 3) := by decide +kernel
theorem dX6_tear_23 : decode cX6_tear 23 = .ok (.aload_n 0, 1) := by decide +kernel
theorem dX6_tear_24 : decode cX6_tear 24 = .ok (.getfield 53, 3) := by decide +kernel
theorem dX6_tear_27 : decode cX6_tear 27 = .ok (.invokevirtual 87, 3) := by decide +kernel
theorem dX6_tear_30 : decode cX6_tear 30 = .ok (.iload_n 1, 1) := by decide +kernel
theorem dX6_tear_31 : decode cX6_tear 31 = .ok (.ireturn, 1) := by decide +kernel
theorem dX6_seed_0 : decode cX6_seed 0 = .ok (.iload_n 1, 1) := by decide +kernel
theorem dX6_seed_1 : decode cX6_seed 1 = .ok (.ifCond .ge 6, 3) := by decide +kernel
theorem dX6_seed_4 : decode cX6_seed 4 = .ok (.ldc 68, 2) := by decide +kernel
theorem dX6_seed_6 : decode cX6_seed 6 = .ok (.ireturn, 1) := by decide +kernel
theorem dX6_seed_7 : decode cX6_seed 7 = .ok (.aload_n 0, 1) := by decide +kernel
theorem dX6_seed_8 : decode cX6_seed 8 = .ok (.getfield 31, 3) := by decide +kernel
theorem dX6_seed_11 : decode cX6_seed 11 = .ok (.getfield 237, 3) := by decide +kernel
theorem dX6_seed_14 : decode cX6_seed 14 = .ok (.istore_n 2, 1) := by decide +kernel
theorem dX6_seed_15 : decode cX6_seed 15 = .ok (.aload_n 0, 1) := by decide +kernel
theorem dX6_seed_16 : decode cX6_seed 16 = .ok (.getfield 31, 3) := by decide +kernel
theorem dX6_seed_19 : decode cX6_seed 19 = .ok (.iload_n 1, 1) := by decide +kernel
theorem dX6_seed_20 : decode cX6_seed 20 = .ok (.putfield 237, 3) := by decide +kernel
theorem dX6_seed_23 : decode cX6_seed 23 = .ok (.iload_n 2, 1) := by decide +kernel
theorem dX6_seed_24 : decode cX6_seed 24 = .ok (.ireturn, 1) := by decide +kernel
theorem dX6_keep_0 : decode cX6_keep 0 = .ok (.iload_n 1, 1) := by decide +kernel
theorem dX6_keep_1 : decode cX6_keep 1 = .ok (.invokestatic 240, 3) := by decide +kernel
theorem dX6_keep_4 : decode cX6_keep 4 = .ok (.ifCond .ne 6, 3) := by decide +kernel
theorem dX6_keep_7 : decode cX6_keep 7 = .ok (.ldc 120, 2) := by decide +kernel
theorem dX6_keep_9 : decode cX6_keep 9 = .ok (.ireturn, 1) := by decide +kernel
theorem dX6_keep_10 : decode cX6_keep 10 = .ok (.aload_n 0, 1) := by decide +kernel
theorem dX6_keep_11 : decode cX6_keep 11 = .ok (.iload_n 1, 1) := by decide +kernel
theorem dX6_keep_12 : decode cX6_keep 12 = .ok (.invokevirtual 243, 3) := by decide +kernel
theorem dX6_keep_15 : decode cX6_keep 15 = .ok (.aload_n 0, 1) := by decide +kernel
theorem dX6_keep_16 : decode cX6_keep 16 = .ok (.getfield 31, 3) := by decide +kernel
theorem dX6_keep_19 : decode cX6_keep 19 = .ok (.invokevirtual 247, 3) := by decide +kernel
theorem dX6_keep_22 : decode cX6_keep 22 = .ok (.aload_n 0, 1) := by decide +kernel
theorem dX6_keep_23 : decode cX6_keep 23 = .ok (.dup, 1) := by decide +kernel
theorem dX6_keep_24 : decode cX6_keep 24 = .ok (.getfield 64, 3) := by decide +kernel
theorem dX6_keep_27 : decode cX6_keep 27 = .ok (.iload_n 1, 1) := by decide +kernel
theorem dX6_keep_28 : decode cX6_keep 28 = .ok (.invokestatic 182, 3) := by decide +kernel
theorem dX6_keep_31 : decode cX6_keep 31 = .ok (.ior, 1) := by decide +kernel
theorem dX6_keep_32 : decode cX6_keep 32 = .ok (.putfield 64, 3) := by decide +kernel
theorem dX6_keep_35 : decode cX6_keep 35 = .ok (.iconst 1, 1) := by decide +kernel
theorem dX6_keep_36 : decode cX6_keep 36 = .ok (.ireturn, 1) := by decide +kernel
theorem dX6_goBack_0 : decode cX6_goBack 0 = .ok (.iload_n 1, 1) := by decide +kernel
theorem dX6_goBack_1 : decode cX6_goBack 1 = .ok (.invokestatic 240, 3) := by decide +kernel
theorem dX6_goBack_4 : decode cX6_goBack 4 = .ok (.ifCond .ne 6, 3) := by decide +kernel
theorem dX6_goBack_7 : decode cX6_goBack 7 = .ok (.ldc 120, 2) := by decide +kernel
theorem dX6_goBack_9 : decode cX6_goBack 9 = .ok (.ireturn, 1) := by decide +kernel
theorem dX6_goBack_10 : decode cX6_goBack 10 = .ok (.aload_n 0, 1) := by decide +kernel
theorem dX6_goBack_11 : decode cX6_goBack 11 = .ok (.getfield 64, 3) := by decide +kernel
theorem dX6_goBack_14 : decode cX6_goBack 14 = .ok (.iload_n 1, 1) := by decide +kernel
theorem dX6_goBack_15 : decode cX6_goBack 15 = .ok (.invokestatic 141, 3) := by decide +kernel
theorem dX6_goBack_18 : decode cX6_goBack 18 = .ok (.ifCond .ne 6, 3) := by decide +kernel
theorem dX6_goBack_21 : decode cX6_goBack 21 = .ok (.ldc 164, 2) := by decide +kernel
theorem dX6_goBack_23 : decode cX6_goBack 23 = .ok (.ireturn, 1) := by decide +kernel
theorem dX6_goBack_24 : decode cX6_goBack 24 = .ok (.aload_n 0, 1) := by decide +kernel
theorem dX6_goBack_25 : decode cX6_goBack 25 = .ok (.getfield 31, 3) := by decide +kernel
theorem dX6_goBack_28 : decode cX6_goBack 28 = .ok (.aload_n 0, 1) := by decide +kernel
theorem dX6_goBack_29 : decode cX6_goBack 29 = .ok (.iload_n 1, 1) := by decide +kernel
theorem dX6_goBack_30 : decode cX6_goBack 30 = .ok (.invokevirtual 243, 3) := by decide +kernel
theorem dX6_goBack_33 : decode cX6_goBack 33 = .ok (.invokevirtual 247, 3) := by decide +kernel
theorem dX6_goBack_36 : decode cX6_goBack 36 = .ok (.iconst 1, 1) := by decide +kernel
theorem dX6_goBack_37 : decode cX6_goBack 37 = .ok (.ireturn, 1) := by decide +kernel
theorem dX6_isImage_0 : decode cX6_isImage 0 = .ok (.iload_n 0, 1) := by decide +kernel
theorem dX6_isImage_1 : decode cX6_isImage 1 = .ok (.ifCond .eq 8, 3) := by decide +kernel
theorem dX6_isImage_4 : decode cX6_isImage 4 = .ok (.iload_n 0, 1) := by decide +kernel
theorem dX6_isImage_5 : decode cX6_isImage 5 = .ok (.iconst 1, 1) := by decide +kernel
theorem dX6_isImage_6 : decode cX6_isImage 6 = .ok (.if_icmp .ne 7, 3) := by decide +kernel
theorem dX6_isImage_9 : decode cX6_isImage 9 = .ok (.iconst 1, 1) := by decide +kernel
theorem dX6_isImage_10 : decode cX6_isImage 10 = .ok (.goto 4, 3) := by decide +kernel
theorem dX6_isImage_13 : decode cX6_isImage 13 = .ok (.iconst 0, 1) := by decide +kernel
theorem dX6_isImage_14 : decode cX6_isImage 14 = .ok (.ireturn, 1) := by decide +kernel
theorem dX6_image_0 : decode cX6_image 0 = .ok (.iload_n 1, 1) := by decide +kernel
theorem dX6_image_1 : decode cX6_image 1 = .ok (.ifCond .ne 10, 3) := by decide +kernel
theorem dX6_image_4 : decode cX6_image 4 = .ok (.aload_n 0, 1) := by decide +kernel
theorem dX6_image_5 : decode cX6_image 5 = .ok (.getfield 35, 3) := by decide +kernel
theorem dX6_image_8 : decode cX6_image 8 = .ok (.goto 7, 3) := by decide +kernel
theorem dX6_image_11 : decode cX6_image 11 = .ok (.aload_n 0, 1) := by decide +kernel
theorem dX6_image_12 : decode cX6_image 12 = .ok (.getfield 38, 3) := by decide +kernel
theorem dX6_image_15 : decode cX6_image 15 = .ok (.areturn, 1) := by decide +kernel
theorem dX6_bit_0 : decode cX6_bit 0 = .ok (.iconst 1, 1) := by decide +kernel
theorem dX6_bit_1 : decode cX6_bit 1 = .ok (.iload_n 0, 1) := by decide +kernel
theorem dX6_bit_2 : decode cX6_bit 2 = .ok (.ishl, 1) := by decide +kernel
theorem dX6_bit_3 : decode cX6_bit 3 = .ok (.ireturn, 1) := by decide +kernel
theorem dX6_has_0 : decode cX6_has 0 = .ok (.iload_n 0, 1) := by decide +kernel
theorem dX6_has_1 : decode cX6_has 1 = .ok (.iload_n 1, 1) := by decide +kernel
theorem dX6_has_2 : decode cX6_has 2 = .ok (.invokestatic 182, 3) := by decide +kernel
theorem dX6_has_5 : decode cX6_has 5 = .ok (.iand, 1) := by decide +kernel
theorem dX6_has_6 : decode cX6_has 6 = .ok (.ifCond .eq 7, 3) := by decide +kernel
theorem dX6_has_9 : decode cX6_has 9 = .ok (.iconst 1, 1) := by decide +kernel
theorem dX6_has_10 : decode cX6_has 10 = .ok (.goto 4, 3) := by decide +kernel
theorem dX6_has_13 : decode cX6_has 13 = .ok (.iconst 0, 1) := by decide +kernel
theorem dX6_has_14 : decode cX6_has 14 = .ok (.ireturn, 1) := by decide +kernel
theorem dX6_slot_0 : decode cX6_slot 0 = .ok (.iload_n 0, 1) := by decide +kernel
theorem dX6_slot_1 : decode cX6_slot 1 = .ok (.bipush 6, 2) := by decide +kernel
theorem dX6_slot_3 : decode cX6_slot 3 = .ok (.imul, 1) := by decide +kernel
theorem dX6_slot_4 : decode cX6_slot 4 = .ok (.iload_n 1, 1) := by decide +kernel
theorem dX6_slot_5 : decode cX6_slot 5 = .ok (.iadd, 1) := by decide +kernel
theorem dX6_slot_6 : decode cX6_slot 6 = .ok (.ireturn, 1) := by decide +kernel
