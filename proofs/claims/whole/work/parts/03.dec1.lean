theorem dX0_init_0 : decode cX0_init 0 = .ok (.aload_n 0, 1) := by decide +kernel
theorem dX0_init_1 : decode cX0_init 1 = .ok (.invokespecial 3, 3) := by decide +kernel
theorem dX0_init_4 : decode cX0_init 4 = .ok (.aload_n 0, 1) := by decide +kernel
theorem dX0_init_5 : decode cX0_init 5 = .ok (.iconst 0, 1) := by decide +kernel
theorem dX0_init_6 : decode cX0_init 6 = .ok (.putfield 9, 3) := by decide +kernel
theorem dX0_init_9 : decode cX0_init 9 = .ok (.aload_n 0, 1) := by decide +kernel
theorem dX0_init_10 : decode cX0_init 10 = .ok (.iconst 0, 1) := by decide +kernel
theorem dX0_init_11 : decode cX0_init 11 = .ok (.putfield 15, 3) := by decide +kernel
theorem dX0_init_14 : decode cX0_init 14 = .ok (.aload_n 0, 1) := by decide +kernel
theorem dX0_init_15 : decode cX0_init 15 = .ok (.iconst 0, 1) := by decide +kernel
theorem dX0_init_16 : decode cX0_init 16 = .ok (.putfield 18, 3) := by decide +kernel
theorem dX0_init_19 : decode cX0_init 19 = .ok (.aload_n 0, 1) := by decide +kernel
theorem dX0_init_20 : decode cX0_init 20 = .ok (.bipush 6, 2) := by decide +kernel
theorem dX0_init_22 : decode cX0_init 22 = .ok (.newarray .int, 2) := by decide +kernel
theorem dX0_init_24 : decode cX0_init 24 = .ok (.putfield 21, 3) := by decide +kernel
theorem dX0_init_27 : decode cX0_init 27 = .ok (.aload_n 0, 1) := by decide +kernel
theorem dX0_init_28 : decode cX0_init 28 = .ok (.iconst 5, 1) := by decide +kernel
theorem dX0_init_29 : decode cX0_init 29 = .ok (.newarray .int, 2) := by decide +kernel
theorem dX0_init_31 : decode cX0_init 31 = .ok (.putfield 25, 3) := by decide +kernel
theorem dX0_init_34 : decode cX0_init 34 = .ok (.aload_n 0, 1) := by decide +kernel
theorem dX0_init_35 : decode cX0_init 35 = .ok (.bipush 30, 2) := by decide +kernel
theorem dX0_init_37 : decode cX0_init 37 = .ok (.newarray .int, 2) := by decide +kernel
theorem dX0_init_39 : decode cX0_init 39 = .ok (.putfield 28, 3) := by decide +kernel
theorem dX0_init_42 : decode cX0_init 42 = .ok (.aload_n 0, 1) := by decide +kernel
theorem dX0_init_43 : decode cX0_init 43 = .ok (.bipush 30, 2) := by decide +kernel
theorem dX0_init_45 : decode cX0_init 45 = .ok (.newarray .int, 2) := by decide +kernel
theorem dX0_init_47 : decode cX0_init 47 = .ok (.putfield 31, 3) := by decide +kernel
theorem dX0_init_50 : decode cX0_init 50 = .ok (.aload_n 0, 1) := by decide +kernel
theorem dX0_init_51 : decode cX0_init 51 = .ok (.bipush 30, 2) := by decide +kernel
theorem dX0_init_53 : decode cX0_init 53 = .ok (.newarray .int, 2) := by decide +kernel
theorem dX0_init_55 : decode cX0_init 55 = .ok (.putfield 34, 3) := by decide +kernel
theorem dX0_init_58 : decode cX0_init 58 = .ok (.aload_n 0, 1) := by decide +kernel
theorem dX0_init_59 : decode cX0_init 59 = .ok (.aload_n 1, 1) := by decide +kernel
theorem dX0_init_60 : decode cX0_init 60 = .ok (.putfield 37, 3) := by decide +kernel
theorem dX0_init_63 : decode cX0_init 63 = .ok (.aload_n 0, 1) := by decide +kernel
theorem dX0_init_64 : decode cX0_init 64 = .ok (.invokevirtual 41, 3) := by decide +kernel
theorem dX0_init_67 : decode cX0_init 67 = .ok (.return_, 1) := by decide +kernel
theorem dX0_begin_0 : decode cX0_begin 0 = .ok (.aload_n 0, 1) := by decide +kernel
theorem dX0_begin_1 : decode cX0_begin 1 = .ok (.invokevirtual 41, 3) := by decide +kernel
theorem dX0_begin_4 : decode cX0_begin 4 = .ok (.aload_n 0, 1) := by decide +kernel
theorem dX0_begin_5 : decode cX0_begin 5 = .ok (.aload_n 0, 1) := by decide +kernel
theorem dX0_begin_6 : decode cX0_begin 6 = .ok (.getfield 37, 3) := by decide +kernel
theorem dX0_begin_9 : decode cX0_begin 9 = .ok (.invokevirtual 44, 3) := by decide +kernel
theorem dX0_begin_12 : decode cX0_begin 12 = .ok (.putfield 9, 3) := by decide +kernel
theorem dX0_begin_15 : decode cX0_begin 15 = .ok (.aload_n 0, 1) := by decide +kernel
theorem dX0_begin_16 : decode cX0_begin 16 = .ok (.iconst 0, 1) := by decide +kernel
theorem dX0_begin_17 : decode cX0_begin 17 = .ok (.putfield 15, 3) := by decide +kernel
theorem dX0_begin_20 : decode cX0_begin 20 = .ok (.aload_n 0, 1) := by decide +kernel
theorem dX0_begin_21 : decode cX0_begin 21 = .ok (.getfield 37, 3) := by decide +kernel
theorem dX0_begin_24 : decode cX0_begin 24 = .ok (.getfield 50, 3) := by decide +kernel
theorem dX0_begin_27 : decode cX0_begin 27 = .ok (.iconst 0, 1) := by decide +kernel
theorem dX0_begin_28 : decode cX0_begin 28 = .ok (.aload_n 0, 1) := by decide +kernel
theorem dX0_begin_29 : decode cX0_begin 29 = .ok (.getfield 21, 3) := by decide +kernel
theorem dX0_begin_32 : decode cX0_begin 32 = .ok (.iconst 0, 1) := by decide +kernel
theorem dX0_begin_33 : decode cX0_begin 33 = .ok (.bipush 6, 2) := by decide +kernel
theorem dX0_begin_35 : decode cX0_begin 35 = .ok (.invokestatic 53, 3) := by decide +kernel
theorem dX0_begin_38 : decode cX0_begin 38 = .ok (.return_, 1) := by decide +kernel
theorem dX0_forget_0 : decode cX0_forget 0 = .ok (.iconst 0, 1) := by decide +kernel
theorem dX0_forget_1 : decode cX0_forget 1 = .ok (.istore_n 1, 1) := by decide +kernel
theorem dX0_forget_2 : decode cX0_forget 2 = .ok (.iload_n 1, 1) := by decide +kernel
theorem dX0_forget_3 : decode cX0_forget 3 = .ok (.iconst 5, 1) := by decide +kernel
theorem dX0_forget_4 : decode cX0_forget 4 = .ok (.if_icmp .ge 16, 3) := by decide +kernel
theorem dX0_forget_7 : decode cX0_forget 7 = .ok (.aload_n 0, 1) := by decide +kernel
theorem dX0_forget_8 : decode cX0_forget 8 = .ok (.getfield 25, 3) := by decide +kernel
theorem dX0_forget_11 : decode cX0_forget 11 = .ok (.iload_n 1, 1) := by decide +kernel
theorem dX0_forget_12 : decode cX0_forget 12 = .ok (.iconst 0, 1) := by decide +kernel
theorem dX0_forget_13 : decode cX0_forget 13 = .ok (.iastore, 1) := by decide +kernel
theorem dX0_forget_14 : decode cX0_forget 14 = .ok (.iinc 1 1, 3) := by decide +kernel
theorem dX0_forget_17 : decode cX0_forget 17 = .ok (.goto (-15), 3) := by decide +kernel
theorem dX0_forget_20 : decode cX0_forget 20 = .ok (.iconst 0, 1) := by decide +kernel
theorem dX0_forget_21 : decode cX0_forget 21 = .ok (.istore_n 1, 1) := by decide +kernel
theorem dX0_forget_22 : decode cX0_forget 22 = .ok (.iload_n 1, 1) := by decide +kernel
theorem dX0_forget_23 : decode cX0_forget 23 = .ok (.bipush 30, 2) := by decide +kernel
theorem dX0_forget_25 : decode cX0_forget 25 = .ok (.if_icmp .ge 30, 3) := by decide +kernel
theorem dX0_forget_28 : decode cX0_forget 28 = .ok (.aload_n 0, 1) := by decide +kernel
theorem dX0_forget_29 : decode cX0_forget 29 = .ok (.getfield 28, 3) := by decide +kernel
theorem dX0_forget_32 : decode cX0_forget 32 = .ok (.iload_n 1, 1) := by decide +kernel
theorem dX0_forget_33 : decode cX0_forget 33 = .ok (.iconst (-1), 1) := by decide +kernel
theorem dX0_forget_34 : decode cX0_forget 34 = .ok (.iastore, 1) := by decide +kernel
theorem dX0_forget_35 : decode cX0_forget 35 = .ok (.aload_n 0, 1) := by decide +kernel
theorem dX0_forget_36 : decode cX0_forget 36 = .ok (.getfield 31, 3) := by decide +kernel
theorem dX0_forget_39 : decode cX0_forget 39 = .ok (.iload_n 1, 1) := by decide +kernel
theorem dX0_forget_40 : decode cX0_forget 40 = .ok (.iconst (-1), 1) := by decide +kernel
theorem dX0_forget_41 : decode cX0_forget 41 = .ok (.iastore, 1) := by decide +kernel
theorem dX0_forget_42 : decode cX0_forget 42 = .ok (.aload_n 0, 1) := by decide +kernel
theorem dX0_forget_43 : decode cX0_forget 43 = .ok (.getfield 34, 3) := by decide +kernel
theorem dX0_forget_46 : decode cX0_forget 46 = .ok (.iload_n 1, 1) := by decide +kernel
theorem dX0_forget_47 : decode cX0_forget 47 = .ok (.iconst (-1), 1) := by decide +kernel
theorem dX0_forget_48 : decode cX0_forget 48 = .ok (.iastore, 1) := by decide +kernel
theorem dX0_forget_49 : decode cX0_forget 49 = .ok (.iinc 1 1, 3) := by decide +kernel
theorem dX0_forget_52 : decode cX0_forget 52 = .ok (.goto (-30), 3) := by decide +kernel
theorem dX0_forget_55 : decode cX0_forget 55 = .ok (.return_, 1) := by decide +kernel
theorem dX0_copyFrom_0 : decode cX0_copyFrom 0 = .ok (.aload_n 0, 1) := by decide +kernel
theorem dX0_copyFrom_1 : decode cX0_copyFrom 1 = .ok (.aload_n 1, 1) := by decide +kernel
theorem dX0_copyFrom_2 : decode cX0_copyFrom 2 = .ok (.getfield 9, 3) := by decide +kernel
theorem dX0_copyFrom_5 : decode cX0_copyFrom 5 = .ok (.putfield 9, 3) := by decide +kernel
theorem dX0_copyFrom_8 : decode cX0_copyFrom 8 = .ok (.aload_n 0, 1) := by decide +kernel
theorem dX0_copyFrom_9 : decode cX0_copyFrom 9 = .ok (.aload_n 1, 1) := by decide +kernel
theorem dX0_copyFrom_10 : decode cX0_copyFrom 10 = .ok (.getfield 15, 3) := by decide +kernel
theorem dX0_copyFrom_13 : decode cX0_copyFrom 13 = .ok (.putfield 15, 3) := by decide +kernel
theorem dX0_copyFrom_16 : decode cX0_copyFrom 16 = .ok (.aload_n 0, 1) := by decide +kernel
theorem dX0_copyFrom_17 : decode cX0_copyFrom 17 = .ok (.aload_n 1, 1) := by decide +kernel
theorem dX0_copyFrom_18 : decode cX0_copyFrom 18 = .ok (.getfield 18, 3) := by decide +kernel
theorem dX0_copyFrom_21 : decode cX0_copyFrom 21 = .ok (.putfield 18, 3) := by decide +kernel
theorem dX0_copyFrom_24 : decode cX0_copyFrom 24 = .ok (.aload_n 1, 1) := by decide +kernel
theorem dX0_copyFrom_25 : decode cX0_copyFrom 25 = .ok (.getfield 21, 3) := by decide +kernel
theorem dX0_copyFrom_28 : decode cX0_copyFrom 28 = .ok (.iconst 0, 1) := by decide +kernel
theorem dX0_copyFrom_29 : decode cX0_copyFrom 29 = .ok (.aload_n 0, 1) := by decide +kernel
theorem dX0_copyFrom_30 : decode cX0_copyFrom 30 = .ok (.getfield 21, 3) := by decide +kernel
theorem dX0_copyFrom_33 : decode cX0_copyFrom 33 = .ok (.iconst 0, 1) := by decide +kernel
theorem dX0_copyFrom_34 : decode cX0_copyFrom 34 = .ok (.bipush 6, 2) := by decide +kernel
theorem dX0_copyFrom_36 : decode cX0_copyFrom 36 = .ok (.invokestatic 53, 3) := by decide +kernel
theorem dX0_copyFrom_39 : decode cX0_copyFrom 39 = .ok (.aload_n 1, 1) := by decide +kernel
theorem dX0_copyFrom_40 : decode cX0_copyFrom 40 = .ok (.getfield 25, 3) := by decide +kernel
theorem dX0_copyFrom_43 : decode cX0_copyFrom 43 = .ok (.iconst 0, 1) := by decide +kernel
theorem dX0_copyFrom_44 : decode cX0_copyFrom 44 = .ok (.aload_n 0, 1) := by decide +kernel
theorem dX0_copyFrom_45 : decode cX0_copyFrom 45 = .ok (.getfield 25, 3) := by decide +kernel
theorem dX0_copyFrom_48 : decode cX0_copyFrom 48 = .ok (.iconst 0, 1) := by decide +kernel
theorem dX0_copyFrom_49 : decode cX0_copyFrom 49 = .ok (.iconst 5, 1) := by decide +kernel
theorem dX0_copyFrom_50 : decode cX0_copyFrom 50 = .ok (.invokestatic 53, 3) := by decide +kernel
theorem dX0_copyFrom_53 : decode cX0_copyFrom 53 = .ok (.aload_n 1, 1) := by decide +kernel
theorem dX0_copyFrom_54 : decode cX0_copyFrom 54 = .ok (.getfield 28, 3) := by decide +kernel
theorem dX0_copyFrom_57 : decode cX0_copyFrom 57 = .ok (.iconst 0, 1) := by decide +kernel
theorem dX0_copyFrom_58 : decode cX0_copyFrom 58 = .ok (.aload_n 0, 1) := by decide +kernel
theorem dX0_copyFrom_59 : decode cX0_copyFrom 59 = .ok (.getfield 28, 3) := by decide +kernel
theorem dX0_copyFrom_62 : decode cX0_copyFrom 62 = .ok (.iconst 0, 1) := by decide +kernel
theorem dX0_copyFrom_63 : decode cX0_copyFrom 63 = .ok (.bipush 30, 2) := by decide +kernel
theorem dX0_copyFrom_65 : decode cX0_copyFrom 65 = .ok (.invokestatic 53, 3) := by decide +kernel
theorem dX0_copyFrom_68 : decode cX0_copyFrom 68 = .ok (.aload_n 1, 1) := by decide +kernel
theorem dX0_copyFrom_69 : decode cX0_copyFrom 69 = .ok (.getfield 31, 3) := by decide +kernel
theorem dX0_copyFrom_72 : decode cX0_copyFrom 72 = .ok (.iconst 0, 1) := by decide +kernel
theorem dX0_copyFrom_73 : decode cX0_copyFrom 73 = .ok (.aload_n 0, 1) := by decide +kernel
theorem dX0_copyFrom_74 : decode cX0_copyFrom 74 = .ok (.getfield 31, 3) := by decide +kernel
theorem dX0_copyFrom_77 : decode cX0_copyFrom 77 = .ok (.iconst 0, 1) := by decide +kernel
theorem dX0_copyFrom_78 : decode cX0_copyFrom 78 = .ok (.bipush 30, 2) := by decide +kernel
theorem dX0_copyFrom_80 : decode cX0_copyFrom 80 = .ok (.invokestatic 53, 3) := by decide +kernel
theorem dX0_copyFrom_83 : decode cX0_copyFrom 83 = .ok (.aload_n 1, 1) := by decide +kernel
theorem dX0_copyFrom_84 : decode cX0_copyFrom 84 = .ok (.getfield 34, 3) := by decide +kernel
theorem dX0_copyFrom_87 : decode cX0_copyFrom 87 = .ok (.iconst 0, 1) := by decide +kernel
theorem dX0_copyFrom_88 : decode cX0_copyFrom 88 = .ok (.aload_n 0, 1) := by decide +kernel
theorem dX0_copyFrom_89 : decode cX0_copyFrom 89 = .ok (.getfield 34, 3) := by decide +kernel
theorem dX0_copyFrom_92 : decode cX0_copyFrom 92 = .ok (.iconst 0, 1) := by decide +kernel
theorem dX0_copyFrom_93 : decode cX0_copyFrom 93 = .ok (.bipush 30, 2) := by decide +kernel
theorem dX0_copyFrom_95 : decode cX0_copyFrom 95 = .ok (.invokestatic 53, 3) := by decide +kernel
theorem dX0_copyFrom_98 : decode cX0_copyFrom 98 = .ok (.return_, 1) := by decide +kernel
theorem dX0_toCome_0 : decode cX0_toCome 0 = .ok (.aload_n 0, 1) := by decide +kernel
theorem dX0_toCome_1 : decode cX0_toCome 1 = .ok (.getfield 9, 3) := by decide +kernel
theorem dX0_toCome_4 : decode cX0_toCome 4 = .ok (.aload_n 0, 1) := by decide +kernel
theorem dX0_toCome_5 : decode cX0_toCome 5 = .ok (.getfield 25, 3) := by decide +kernel
theorem dX0_toCome_8 : decode cX0_toCome 8 = .ok (.iload_n 1, 1) := by decide +kernel
theorem dX0_toCome_9 : decode cX0_toCome 9 = .ok (.iaload, 1) := by decide +kernel
theorem dX0_toCome_10 : decode cX0_toCome 10 = .ok (.iconst (-1), 1) := by decide +kernel
theorem dX0_toCome_11 : decode cX0_toCome 11 = .ok (.ixor, 1) := by decide +kernel
theorem dX0_toCome_12 : decode cX0_toCome 12 = .ok (.iand, 1) := by decide +kernel
theorem dX0_toCome_13 : decode cX0_toCome 13 = .ok (.ireturn, 1) := by decide +kernel
theorem dX0_isRemembered_0 : decode cX0_isRemembered 0 = .ok (.aload_n 0, 1) := by decide +kernel
theorem dX0_isRemembered_1 : decode cX0_isRemembered 1 = .ok (.getfield 31, 3) := by decide +kernel
theorem dX0_isRemembered_4 : decode cX0_isRemembered 4 = .ok (.iload_n 1, 1) := by decide +kernel
theorem dX0_isRemembered_5 : decode cX0_isRemembered 5 = .ok (.iload_n 2, 1) := by decide +kernel
theorem dX0_isRemembered_6 : decode cX0_isRemembered 6 = .ok (.invokestatic 59, 3) := by decide +kernel
theorem dX0_isRemembered_9 : decode cX0_isRemembered 9 = .ok (.iaload, 1) := by decide +kernel
theorem dX0_isRemembered_10 : decode cX0_isRemembered 10 = .ok (.istore_n 3, 1) := by decide +kernel
theorem dX0_isRemembered_11 : decode cX0_isRemembered 11 = .ok (.iload_n 3, 1) := by decide +kernel
theorem dX0_isRemembered_12 : decode cX0_isRemembered 12 = .ok (.iconst (-1), 1) := by decide +kernel
theorem dX0_isRemembered_13 : decode cX0_isRemembered 13 = .ok (.if_icmp .eq 37, 3) := by decide +kernel
theorem dX0_isRemembered_16 : decode cX0_isRemembered 16 = .ok (.aload_n 0, 1) := by decide +kernel
theorem dX0_isRemembered_17 : decode cX0_isRemembered 17 = .ok (.getfield 37, 3) := by decide +kernel
theorem dX0_isRemembered_20 : decode cX0_isRemembered 20 = .ok (.getfield 63, 3) := by decide +kernel
theorem dX0_isRemembered_23 : decode cX0_isRemembered 23 = .ok (.iload_n 1, 1) := by decide +kernel
theorem dX0_isRemembered_24 : decode cX0_isRemembered 24 = .ok (.iaload, 1) := by decide +kernel
theorem dX0_isRemembered_25 : decode cX0_isRemembered 25 = .ok (.ifCond .eq 21, 3) := by decide +kernel
theorem dX0_isRemembered_28 : decode cX0_isRemembered 28 = .ok (.aload_n 0, 1) := by decide +kernel
theorem dX0_isRemembered_29 : decode cX0_isRemembered 29 = .ok (.getfield 15, 3) := by decide +kernel
theorem dX0_isRemembered_32 : decode cX0_isRemembered 32 = .ok (.iload_n 3, 1) := by decide +kernel
theorem dX0_isRemembered_33 : decode cX0_isRemembered 33 = .ok (.isub, 1) := by decide +kernel
theorem dX0_isRemembered_34 : decode cX0_isRemembered 34 = .ok (.aload_n 0, 1) := by decide +kernel
theorem dX0_isRemembered_35 : decode cX0_isRemembered 35 = .ok (.getfield 37, 3) := by decide +kernel
theorem dX0_isRemembered_38 : decode cX0_isRemembered 38 = .ok (.getfield 63, 3) := by decide +kernel
theorem dX0_isRemembered_41 : decode cX0_isRemembered 41 = .ok (.iload_n 1, 1) := by decide +kernel
theorem dX0_isRemembered_42 : decode cX0_isRemembered 42 = .ok (.iaload, 1) := by decide +kernel
theorem dX0_isRemembered_43 : decode cX0_isRemembered 43 = .ok (.if_icmp .gt 7, 3) := by decide +kernel
theorem dX0_isRemembered_46 : decode cX0_isRemembered 46 = .ok (.iconst 1, 1) := by decide +kernel
theorem dX0_isRemembered_47 : decode cX0_isRemembered 47 = .ok (.goto 4, 3) := by decide +kernel
theorem dX0_isRemembered_50 : decode cX0_isRemembered 50 = .ok (.iconst 0, 1) := by decide +kernel
theorem dX0_isRemembered_51 : decode cX0_isRemembered 51 = .ok (.ireturn, 1) := by decide +kernel
theorem dX0_allRemembered_0 : decode cX0_allRemembered 0 = .ok (.iconst 0, 1) := by decide +kernel
theorem dX0_allRemembered_1 : decode cX0_allRemembered 1 = .ok (.istore_n 2, 1) := by decide +kernel
theorem dX0_allRemembered_2 : decode cX0_allRemembered 2 = .ok (.iconst 0, 1) := by decide +kernel
theorem dX0_allRemembered_3 : decode cX0_allRemembered 3 = .ok (.istore_n 3, 1) := by decide +kernel
theorem dX0_allRemembered_4 : decode cX0_allRemembered 4 = .ok (.iload_n 3, 1) := by decide +kernel
theorem dX0_allRemembered_5 : decode cX0_allRemembered 5 = .ok (.aload_n 0, 1) := by decide +kernel
theorem dX0_allRemembered_6 : decode cX0_allRemembered 6 = .ok (.getfield 37, 3) := by decide +kernel
theorem dX0_allRemembered_9 : decode cX0_allRemembered 9 = .ok (.getfield 66, 3) := by decide +kernel
theorem dX0_allRemembered_12 : decode cX0_allRemembered 12 = .ok (.if_icmp .ge 25, 3) := by decide +kernel
theorem dX0_allRemembered_15 : decode cX0_allRemembered 15 = .ok (.aload_n 0, 1) := by decide +kernel
theorem dX0_allRemembered_16 : decode cX0_allRemembered 16 = .ok (.iload_n 1, 1) := by decide +kernel
theorem dX0_allRemembered_17 : decode cX0_allRemembered 17 = .ok (.iload_n 3, 1) := by decide +kernel
theorem dX0_allRemembered_18 : decode cX0_allRemembered 18 = .ok (.invokevirtual 69, 3) := by decide +kernel
theorem dX0_allRemembered_21 : decode cX0_allRemembered 21 = .ok (.ifCond .eq 10, 3) := by decide +kernel
theorem dX0_allRemembered_24 : decode cX0_allRemembered 24 = .ok (.iload_n 2, 1) := by decide +kernel
theorem dX0_allRemembered_25 : decode cX0_allRemembered 25 = .ok (.iload_n 3, 1) := by decide +kernel
theorem dX0_allRemembered_26 : decode cX0_allRemembered 26 = .ok (.invokestatic 73, 3) := by decide +kernel
theorem dX0_allRemembered_29 : decode cX0_allRemembered 29 = .ok (.ior, 1) := by decide +kernel
theorem dX0_allRemembered_30 : decode cX0_allRemembered 30 = .ok (.istore_n 2, 1) := by decide +kernel
theorem dX0_allRemembered_31 : decode cX0_allRemembered 31 = .ok (.iinc 3 1, 3) := by decide +kernel
theorem dX0_allRemembered_34 : decode cX0_allRemembered 34 = .ok (.goto (-30), 3) := by decide +kernel
theorem dX0_allRemembered_37 : decode cX0_allRemembered 37 = .ok (.iload_n 2, 1) := by decide +kernel
theorem dX0_allRemembered_38 : decode cX0_allRemembered 38 = .ok (.ireturn, 1) := by decide +kernel
theorem dX0_goesAlone_0 : decode cX0_goesAlone 0 = .ok (.aload_n 0, 1) := by decide +kernel
theorem dX0_goesAlone_1 : decode cX0_goesAlone 1 = .ok (.getfield 37, 3) := by decide +kernel
theorem dX0_goesAlone_4 : decode cX0_goesAlone 4 = .ok (.aload_n 0, 1) := by decide +kernel
theorem dX0_goesAlone_5 : decode cX0_goesAlone 5 = .ok (.getfield 37, 3) := by decide +kernel
theorem dX0_goesAlone_8 : decode cX0_goesAlone 8 = .ok (.getfield 77, 3) := by decide +kernel
theorem dX0_goesAlone_11 : decode cX0_goesAlone 11 = .ok (.iload_n 2, 1) := by decide +kernel
theorem dX0_goesAlone_12 : decode cX0_goesAlone 12 = .ok (.iaload, 1) := by decide +kernel
theorem dX0_goesAlone_13 : decode cX0_goesAlone 13 = .ok (.iconst 1, 1) := by decide +kernel
theorem dX0_goesAlone_14 : decode cX0_goesAlone 14 = .ok (.isub, 1) := by decide +kernel
theorem dX0_goesAlone_15 : decode cX0_goesAlone 15 = .ok (.invokevirtual 80, 3) := by decide +kernel
theorem dX0_goesAlone_18 : decode cX0_goesAlone 18 = .ok (.iload_n 2, 1) := by decide +kernel
theorem dX0_goesAlone_19 : decode cX0_goesAlone 19 = .ok (.invokestatic 73, 3) := by decide +kernel
theorem dX0_goesAlone_22 : decode cX0_goesAlone 22 = .ok (.iconst (-1), 1) := by decide +kernel
theorem dX0_goesAlone_23 : decode cX0_goesAlone 23 = .ok (.ixor, 1) := by decide +kernel
theorem dX0_goesAlone_24 : decode cX0_goesAlone 24 = .ok (.iand, 1) := by decide +kernel
theorem dX0_goesAlone_25 : decode cX0_goesAlone 25 = .ok (.istore_n 3, 1) := by decide +kernel
theorem dX0_goesAlone_26 : decode cX0_goesAlone 26 = .ok (.iload_n 3, 1) := by decide +kernel
theorem dX0_goesAlone_27 : decode cX0_goesAlone 27 = .ok (.aload_n 0, 1) := by decide +kernel
theorem dX0_goesAlone_28 : decode cX0_goesAlone 28 = .ok (.getfield 9, 3) := by decide +kernel
theorem dX0_goesAlone_31 : decode cX0_goesAlone 31 = .ok (.iand, 1) := by decide +kernel
theorem dX0_goesAlone_32 : decode cX0_goesAlone 32 = .ok (.ifCond .ne 31, 3) := by decide +kernel
theorem dX0_goesAlone_35 : decode cX0_goesAlone 35 = .ok (.aload_n 0, 1) := by decide +kernel
theorem dX0_goesAlone_36 : decode cX0_goesAlone 36 = .ok (.getfield 34, 3) := by decide +kernel
theorem dX0_goesAlone_39 : decode cX0_goesAlone 39 = .ok (.iload_n 1, 1) := by decide +kernel
theorem dX0_goesAlone_40 : decode cX0_goesAlone 40 = .ok (.iload_n 2, 1) := by decide +kernel
theorem dX0_goesAlone_41 : decode cX0_goesAlone 41 = .ok (.invokestatic 59, 3) := by decide +kernel
theorem dX0_goesAlone_44 : decode cX0_goesAlone 44 = .ok (.iaload, 1) := by decide +kernel
theorem dX0_goesAlone_45 : decode cX0_goesAlone 45 = .ok (.aload_n 0, 1) := by decide +kernel
theorem dX0_goesAlone_46 : decode cX0_goesAlone 46 = .ok (.getfield 37, 3) := by decide +kernel
theorem dX0_goesAlone_49 : decode cX0_goesAlone 49 = .ok (.aload_n 0, 1) := by decide +kernel
theorem dX0_goesAlone_50 : decode cX0_goesAlone 50 = .ok (.getfield 15, 3) := by decide +kernel
theorem dX0_goesAlone_53 : decode cX0_goesAlone 53 = .ok (.invokevirtual 83, 3) := by decide +kernel
theorem dX0_goesAlone_56 : decode cX0_goesAlone 56 = .ok (.if_icmp .eq 7, 3) := by decide +kernel
theorem dX0_goesAlone_59 : decode cX0_goesAlone 59 = .ok (.iconst 1, 1) := by decide +kernel
theorem dX0_goesAlone_60 : decode cX0_goesAlone 60 = .ok (.goto 4, 3) := by decide +kernel
theorem dX0_goesAlone_63 : decode cX0_goesAlone 63 = .ok (.iconst 0, 1) := by decide +kernel
theorem dX0_goesAlone_64 : decode cX0_goesAlone 64 = .ok (.ireturn, 1) := by decide +kernel
theorem dX0_helpers_0 : decode cX0_helpers 0 = .ok (.aload_n 0, 1) := by decide +kernel
theorem dX0_helpers_1 : decode cX0_helpers 1 = .ok (.iload_n 1, 1) := by decide +kernel
theorem dX0_helpers_2 : decode cX0_helpers 2 = .ok (.iload_n 2, 1) := by decide +kernel
theorem dX0_helpers_3 : decode cX0_helpers 3 = .ok (.invokevirtual 69, 3) := by decide +kernel
theorem dX0_helpers_6 : decode cX0_helpers 6 = .ok (.ifCond .eq 7, 3) := by decide +kernel
theorem dX0_helpers_9 : decode cX0_helpers 9 = .ok (.iconst 0, 1) := by decide +kernel
theorem dX0_helpers_10 : decode cX0_helpers 10 = .ok (.goto 32, 3) := by decide +kernel
theorem dX0_helpers_13 : decode cX0_helpers 13 = .ok (.aload_n 0, 1) := by decide +kernel
theorem dX0_helpers_14 : decode cX0_helpers 14 = .ok (.getfield 21, 3) := by decide +kernel
theorem dX0_helpers_17 : decode cX0_helpers 17 = .ok (.iload_n 2, 1) := by decide +kernel
theorem dX0_helpers_18 : decode cX0_helpers 18 = .ok (.iaload, 1) := by decide +kernel
theorem dX0_helpers_19 : decode cX0_helpers 19 = .ok (.aload_n 0, 1) := by decide +kernel
theorem dX0_helpers_20 : decode cX0_helpers 20 = .ok (.getfield 37, 3) := by decide +kernel
theorem dX0_helpers_23 : decode cX0_helpers 23 = .ok (.aload_n 0, 1) := by decide +kernel
theorem dX0_helpers_24 : decode cX0_helpers 24 = .ok (.getfield 37, 3) := by decide +kernel
theorem dX0_helpers_27 : decode cX0_helpers 27 = .ok (.getfield 77, 3) := by decide +kernel
theorem dX0_helpers_30 : decode cX0_helpers 30 = .ok (.iload_n 2, 1) := by decide +kernel
theorem dX0_helpers_31 : decode cX0_helpers 31 = .ok (.iaload, 1) := by decide +kernel
theorem dX0_helpers_32 : decode cX0_helpers 32 = .ok (.invokevirtual 80, 3) := by decide +kernel
theorem dX0_helpers_35 : decode cX0_helpers 35 = .ok (.iand, 1) := by decide +kernel
theorem dX0_helpers_36 : decode cX0_helpers 36 = .ok (.aload_n 0, 1) := by decide +kernel
theorem dX0_helpers_37 : decode cX0_helpers 37 = .ok (.iload_n 1, 1) := by decide +kernel
theorem dX0_helpers_38 : decode cX0_helpers 38 = .ok (.invokevirtual 86, 3) := by decide +kernel
theorem dX0_helpers_41 : decode cX0_helpers 41 = .ok (.iand, 1) := by decide +kernel
theorem dX0_helpers_42 : decode cX0_helpers 42 = .ok (.ireturn, 1) := by decide +kernel
theorem dX0_go_0 : decode cX0_go 0 = .ok (.iload_n 3, 1) := by decide +kernel
theorem dX0_go_1 : decode cX0_go 1 = .ok (.iconst (-1), 1) := by decide +kernel
theorem dX0_go_2 : decode cX0_go 2 = .ok (.if_icmp .ne 12, 3) := by decide +kernel
theorem dX0_go_5 : decode cX0_go 5 = .ok (.aload_n 0, 1) := by decide +kernel
theorem dX0_go_6 : decode cX0_go 6 = .ok (.iload_n 1, 1) := by decide +kernel
theorem dX0_go_7 : decode cX0_go 7 = .ok (.iload_n 2, 1) := by decide +kernel
theorem dX0_go_8 : decode cX0_go 8 = .ok (.invokevirtual 89, 3) := by decide +kernel
theorem dX0_go_11 : decode cX0_go 11 = .ok (.goto 13, 3) := by decide +kernel
theorem dX0_go_14 : decode cX0_go 14 = .ok (.aload_n 0, 1) := by decide +kernel
theorem dX0_go_15 : decode cX0_go 15 = .ok (.iload_n 1, 1) := by decide +kernel
theorem dX0_go_16 : decode cX0_go 16 = .ok (.iload_n 2, 1) := by decide +kernel
theorem dX0_go_17 : decode cX0_go 17 = .ok (.invokevirtual 92, 3) := by decide +kernel
theorem dX0_go_20 : decode cX0_go 20 = .ok (.iload_n 3, 1) := by decide +kernel
theorem dX0_go_21 : decode cX0_go 21 = .ok (.invokestatic 95, 3) := by decide +kernel
theorem dX0_go_24 : decode cX0_go 24 = .ok (.istore 4, 2) := by decide +kernel
theorem dX0_go_26 : decode cX0_go 26 = .ok (.iload 4, 2) := by decide +kernel
theorem dX0_go_28 : decode cX0_go 28 = .ok (.ifCond .ne 20, 3) := by decide +kernel
theorem dX0_go_31 : decode cX0_go 31 = .ok (.aload_n 0, 1) := by decide +kernel
theorem dX0_go_32 : decode cX0_go 32 = .ok (.dup, 1) := by decide +kernel
theorem dX0_go_33 : decode cX0_go 33 = .ok (.getfield 9, 3) := by decide +kernel
theorem dX0_go_36 : decode cX0_go 36 = .ok (.iload_n 2, 1) := by decide +kernel
theorem dX0_go_37 : decode cX0_go 37 = .ok (.invokestatic 73, 3) := by decide +kernel
theorem dX0_go_40 : decode cX0_go 40 = .ok (.iconst (-1), 1) := by decide +kernel
theorem dX0_go_41 : decode cX0_go 41 = .ok (.ixor, 1) := by decide +kernel
theorem dX0_go_42 : decode cX0_go 42 = .ok (.iand, 1) := by decide +kernel
theorem dX0_go_43 : decode cX0_go 43 = .ok (.putfield 9, 3) := by decide +kernel
theorem dX0_go_46 : decode cX0_go 46 = .ok (.iconst 0, 1) := by decide +kernel
theorem dX0_go_47 : decode cX0_go 47 = .ok (.ireturn, 1) := by decide +kernel
theorem dX0_go_48 : decode cX0_go 48 = .ok (.aload_n 0, 1) := by decide +kernel
theorem dX0_go_49 : decode cX0_go 49 = .ok (.getfield 25, 3) := by decide +kernel
theorem dX0_go_52 : decode cX0_go 52 = .ok (.iload_n 1, 1) := by decide +kernel
theorem dX0_go_53 : decode cX0_go 53 = .ok (.dup2, 1) := by decide +kernel
theorem dX0_go_54 : decode cX0_go 54 = .ok (.iaload, 1) := by decide +kernel
theorem dX0_go_55 : decode cX0_go 55 = .ok (.iload_n 2, 1) := by decide +kernel
theorem dX0_go_56 : decode cX0_go 56 = .ok (.invokestatic 73, 3) := by decide +kernel
theorem dX0_go_59 : decode cX0_go 59 = .ok (.ior, 1) := by decide +kernel
theorem dX0_go_60 : decode cX0_go 60 = .ok (.iastore, 1) := by decide +kernel
theorem dX0_go_61 : decode cX0_go 61 = .ok (.aload_n 0, 1) := by decide +kernel
theorem dX0_go_62 : decode cX0_go 62 = .ok (.getfield 28, 3) := by decide +kernel
theorem dX0_go_65 : decode cX0_go 65 = .ok (.iload_n 1, 1) := by decide +kernel
theorem dX0_go_66 : decode cX0_go 66 = .ok (.iload_n 2, 1) := by decide +kernel
theorem dX0_go_67 : decode cX0_go 67 = .ok (.invokestatic 59, 3) := by decide +kernel
theorem dX0_go_70 : decode cX0_go 70 = .ok (.iload_n 3, 1) := by decide +kernel
theorem dX0_go_71 : decode cX0_go 71 = .ok (.iastore, 1) := by decide +kernel
theorem dX0_go_72 : decode cX0_go 72 = .ok (.iload_n 3, 1) := by decide +kernel
theorem dX0_go_73 : decode cX0_go 73 = .ok (.iconst (-1), 1) := by decide +kernel
theorem dX0_go_74 : decode cX0_go 74 = .ok (.if_icmp .ne 24, 3) := by decide +kernel
theorem dX0_go_77 : decode cX0_go 77 = .ok (.aload_n 0, 1) := by decide +kernel
theorem dX0_go_78 : decode cX0_go 78 = .ok (.getfield 34, 3) := by decide +kernel
theorem dX0_go_81 : decode cX0_go 81 = .ok (.iload_n 1, 1) := by decide +kernel
theorem dX0_go_82 : decode cX0_go 82 = .ok (.iload_n 2, 1) := by decide +kernel
theorem dX0_go_83 : decode cX0_go 83 = .ok (.invokestatic 59, 3) := by decide +kernel
theorem dX0_go_86 : decode cX0_go 86 = .ok (.aload_n 0, 1) := by decide +kernel
theorem dX0_go_87 : decode cX0_go 87 = .ok (.getfield 37, 3) := by decide +kernel
theorem dX0_go_90 : decode cX0_go 90 = .ok (.aload_n 0, 1) := by decide +kernel
theorem dX0_go_91 : decode cX0_go 91 = .ok (.getfield 15, 3) := by decide +kernel
theorem dX0_go_94 : decode cX0_go 94 = .ok (.invokevirtual 83, 3) := by decide +kernel
theorem dX0_go_97 : decode cX0_go 97 = .ok (.iastore, 1) := by decide +kernel
theorem dX0_go_98 : decode cX0_go 98 = .ok (.iconst 1, 1) := by decide +kernel
theorem dX0_go_99 : decode cX0_go 99 = .ok (.ireturn, 1) := by decide +kernel
theorem dX0_endDay_0 : decode cX0_endDay 0 = .ok (.iconst 0, 1) := by decide +kernel
theorem dX0_endDay_1 : decode cX0_endDay 1 = .ok (.istore_n 1, 1) := by decide +kernel
theorem dX0_endDay_2 : decode cX0_endDay 2 = .ok (.iconst 0, 1) := by decide +kernel
theorem dX0_endDay_3 : decode cX0_endDay 3 = .ok (.istore_n 2, 1) := by decide +kernel
theorem dX0_endDay_4 : decode cX0_endDay 4 = .ok (.iload_n 2, 1) := by decide +kernel
theorem dX0_endDay_5 : decode cX0_endDay 5 = .ok (.aload_n 0, 1) := by decide +kernel
theorem dX0_endDay_6 : decode cX0_endDay 6 = .ok (.getfield 37, 3) := by decide +kernel
theorem dX0_endDay_9 : decode cX0_endDay 9 = .ok (.getfield 98, 3) := by decide +kernel
theorem dX0_endDay_12 : decode cX0_endDay 12 = .ok (.if_icmp .ge 64, 3) := by decide +kernel
theorem dX0_endDay_15 : decode cX0_endDay 15 = .ok (.aload_n 0, 1) := by decide +kernel
theorem dX0_endDay_16 : decode cX0_endDay 16 = .ok (.iload_n 2, 1) := by decide +kernel
theorem dX0_endDay_17 : decode cX0_endDay 17 = .ok (.invokevirtual 101, 3) := by decide +kernel
theorem dX0_endDay_20 : decode cX0_endDay 20 = .ok (.istore_n 3, 1) := by decide +kernel
theorem dX0_endDay_21 : decode cX0_endDay 21 = .ok (.iconst 0, 1) := by decide +kernel
theorem dX0_endDay_22 : decode cX0_endDay 22 = .ok (.istore 4, 2) := by decide +kernel
theorem dX0_endDay_24 : decode cX0_endDay 24 = .ok (.iload 4, 2) := by decide +kernel
theorem dX0_endDay_26 : decode cX0_endDay 26 = .ok (.aload_n 0, 1) := by decide +kernel
theorem dX0_endDay_27 : decode cX0_endDay 27 = .ok (.getfield 37, 3) := by decide +kernel
theorem dX0_endDay_30 : decode cX0_endDay 30 = .ok (.getfield 66, 3) := by decide +kernel
theorem dX0_endDay_33 : decode cX0_endDay 33 = .ok (.if_icmp .ge 33, 3) := by decide +kernel
theorem dX0_endDay_36 : decode cX0_endDay 36 = .ok (.iload_n 3, 1) := by decide +kernel
theorem dX0_endDay_37 : decode cX0_endDay 37 = .ok (.iload 4, 2) := by decide +kernel
theorem dX0_endDay_39 : decode cX0_endDay 39 = .ok (.invokestatic 95, 3) := by decide +kernel
theorem dX0_endDay_42 : decode cX0_endDay 42 = .ok (.ifCond .eq 18, 3) := by decide +kernel
theorem dX0_endDay_45 : decode cX0_endDay 45 = .ok (.aload_n 0, 1) := by decide +kernel
theorem dX0_endDay_46 : decode cX0_endDay 46 = .ok (.getfield 31, 3) := by decide +kernel
theorem dX0_endDay_49 : decode cX0_endDay 49 = .ok (.iload_n 2, 1) := by decide +kernel
theorem dX0_endDay_50 : decode cX0_endDay 50 = .ok (.iload 4, 2) := by decide +kernel
theorem dX0_endDay_52 : decode cX0_endDay 52 = .ok (.invokestatic 59, 3) := by decide +kernel
theorem dX0_endDay_55 : decode cX0_endDay 55 = .ok (.aload_n 0, 1) := by decide +kernel
theorem dX0_endDay_56 : decode cX0_endDay 56 = .ok (.getfield 15, 3) := by decide +kernel
theorem dX0_endDay_59 : decode cX0_endDay 59 = .ok (.iastore, 1) := by decide +kernel
theorem dX0_endDay_60 : decode cX0_endDay 60 = .ok (.iinc 4 1, 3) := by decide +kernel
theorem dX0_endDay_63 : decode cX0_endDay 63 = .ok (.goto (-39), 3) := by decide +kernel
theorem dX0_endDay_66 : decode cX0_endDay 66 = .ok (.iload_n 1, 1) := by decide +kernel
theorem dX0_endDay_67 : decode cX0_endDay 67 = .ok (.iload_n 3, 1) := by decide +kernel
theorem dX0_endDay_68 : decode cX0_endDay 68 = .ok (.ior, 1) := by decide +kernel
theorem dX0_endDay_69 : decode cX0_endDay 69 = .ok (.istore_n 1, 1) := by decide +kernel
theorem dX0_endDay_70 : decode cX0_endDay 70 = .ok (.iinc 2 1, 3) := by decide +kernel
theorem dX0_endDay_73 : decode cX0_endDay 73 = .ok (.goto (-69), 3) := by decide +kernel
theorem dX0_endDay_76 : decode cX0_endDay 76 = .ok (.iconst 0, 1) := by decide +kernel
theorem dX0_endDay_77 : decode cX0_endDay 77 = .ok (.istore_n 2, 1) := by decide +kernel
theorem dX0_endDay_78 : decode cX0_endDay 78 = .ok (.iload_n 2, 1) := by decide +kernel
theorem dX0_endDay_79 : decode cX0_endDay 79 = .ok (.aload_n 0, 1) := by decide +kernel
theorem dX0_endDay_80 : decode cX0_endDay 80 = .ok (.getfield 37, 3) := by decide +kernel
theorem dX0_endDay_83 : decode cX0_endDay 83 = .ok (.getfield 98, 3) := by decide +kernel
theorem dX0_endDay_86 : decode cX0_endDay 86 = .ok (.if_icmp .ge 16, 3) := by decide +kernel
theorem dX0_endDay_89 : decode cX0_endDay 89 = .ok (.aload_n 0, 1) := by decide +kernel
theorem dX0_endDay_90 : decode cX0_endDay 90 = .ok (.getfield 25, 3) := by decide +kernel
theorem dX0_endDay_93 : decode cX0_endDay 93 = .ok (.iload_n 2, 1) := by decide +kernel
theorem dX0_endDay_94 : decode cX0_endDay 94 = .ok (.iconst 0, 1) := by decide +kernel
theorem dX0_endDay_95 : decode cX0_endDay 95 = .ok (.iastore, 1) := by decide +kernel
theorem dX0_endDay_96 : decode cX0_endDay 96 = .ok (.iinc 2 1, 3) := by decide +kernel
theorem dX0_endDay_99 : decode cX0_endDay 99 = .ok (.goto (-21), 3) := by decide +kernel
theorem dX0_endDay_102 : decode cX0_endDay 102 = .ok (.aload_n 0, 1) := by decide +kernel
theorem dX0_endDay_103 : decode cX0_endDay 103 = .ok (.dup, 1) := by decide +kernel
theorem dX0_endDay_104 : decode cX0_endDay 104 = .ok (.getfield 15, 3) := by decide +kernel
theorem dX0_endDay_107 : decode cX0_endDay 107 = .ok (.iconst 1, 1) := by decide +kernel
theorem dX0_endDay_108 : decode cX0_endDay 108 = .ok (.iadd, 1) := by decide +kernel
theorem dX0_endDay_109 : decode cX0_endDay 109 = .ok (.putfield 15, 3) := by decide +kernel
theorem dX0_endDay_112 : decode cX0_endDay 112 = .ok (.iload_n 1, 1) := by decide +kernel
theorem dX0_endDay_113 : decode cX0_endDay 113 = .ok (.ireturn, 1) := by decide +kernel
theorem dX0_liarsAt_0 : decode cX0_liarsAt 0 = .ok (.iconst 0, 1) := by decide +kernel
theorem dX0_liarsAt_1 : decode cX0_liarsAt 1 = .ok (.istore_n 2, 1) := by decide +kernel
theorem dX0_liarsAt_2 : decode cX0_liarsAt 2 = .ok (.iconst 0, 1) := by decide +kernel
theorem dX0_liarsAt_3 : decode cX0_liarsAt 3 = .ok (.istore_n 3, 1) := by decide +kernel
theorem dX0_liarsAt_4 : decode cX0_liarsAt 4 = .ok (.iload_n 3, 1) := by decide +kernel
theorem dX0_liarsAt_5 : decode cX0_liarsAt 5 = .ok (.aload_n 0, 1) := by decide +kernel
theorem dX0_liarsAt_6 : decode cX0_liarsAt 6 = .ok (.getfield 37, 3) := by decide +kernel
theorem dX0_liarsAt_9 : decode cX0_liarsAt 9 = .ok (.getfield 66, 3) := by decide +kernel
theorem dX0_liarsAt_12 : decode cX0_liarsAt 12 = .ok (.if_icmp .ge 61, 3) := by decide +kernel
theorem dX0_liarsAt_15 : decode cX0_liarsAt 15 = .ok (.aload_n 0, 1) := by decide +kernel
theorem dX0_liarsAt_16 : decode cX0_liarsAt 16 = .ok (.getfield 28, 3) := by decide +kernel
theorem dX0_liarsAt_19 : decode cX0_liarsAt 19 = .ok (.iload_n 1, 1) := by decide +kernel
theorem dX0_liarsAt_20 : decode cX0_liarsAt 20 = .ok (.iload_n 3, 1) := by decide +kernel
theorem dX0_liarsAt_21 : decode cX0_liarsAt 21 = .ok (.invokestatic 59, 3) := by decide +kernel
theorem dX0_liarsAt_24 : decode cX0_liarsAt 24 = .ok (.iaload, 1) := by decide +kernel
theorem dX0_liarsAt_25 : decode cX0_liarsAt 25 = .ok (.istore 4, 2) := by decide +kernel
theorem dX0_liarsAt_27 : decode cX0_liarsAt 27 = .ok (.aload_n 0, 1) := by decide +kernel
theorem dX0_liarsAt_28 : decode cX0_liarsAt 28 = .ok (.getfield 25, 3) := by decide +kernel
theorem dX0_liarsAt_31 : decode cX0_liarsAt 31 = .ok (.iload_n 1, 1) := by decide +kernel
theorem dX0_liarsAt_32 : decode cX0_liarsAt 32 = .ok (.iaload, 1) := by decide +kernel
theorem dX0_liarsAt_33 : decode cX0_liarsAt 33 = .ok (.iload_n 3, 1) := by decide +kernel
theorem dX0_liarsAt_34 : decode cX0_liarsAt 34 = .ok (.invokestatic 95, 3) := by decide +kernel
theorem dX0_liarsAt_37 : decode cX0_liarsAt 37 = .ok (.ifCond .eq 30, 3) := by decide +kernel
theorem dX0_liarsAt_40 : decode cX0_liarsAt 40 = .ok (.iload 4, 2) := by decide +kernel
theorem dX0_liarsAt_42 : decode cX0_liarsAt 42 = .ok (.iconst (-1), 1) := by decide +kernel
theorem dX0_liarsAt_43 : decode cX0_liarsAt 43 = .ok (.if_icmp .eq 24, 3) := by decide +kernel
theorem dX0_liarsAt_46 : decode cX0_liarsAt 46 = .ok (.aload_n 0, 1) := by decide +kernel
theorem dX0_liarsAt_47 : decode cX0_liarsAt 47 = .ok (.getfield 25, 3) := by decide +kernel
theorem dX0_liarsAt_50 : decode cX0_liarsAt 50 = .ok (.iload_n 1, 1) := by decide +kernel
theorem dX0_liarsAt_51 : decode cX0_liarsAt 51 = .ok (.iaload, 1) := by decide +kernel
theorem dX0_liarsAt_52 : decode cX0_liarsAt 52 = .ok (.iload 4, 2) := by decide +kernel
theorem dX0_liarsAt_54 : decode cX0_liarsAt 54 = .ok (.invokestatic 95, 3) := by decide +kernel
theorem dX0_liarsAt_57 : decode cX0_liarsAt 57 = .ok (.ifCond .ne 10, 3) := by decide +kernel
theorem dX0_liarsAt_60 : decode cX0_liarsAt 60 = .ok (.iload_n 2, 1) := by decide +kernel
theorem dX0_liarsAt_61 : decode cX0_liarsAt 61 = .ok (.iload_n 3, 1) := by decide +kernel
theorem dX0_liarsAt_62 : decode cX0_liarsAt 62 = .ok (.invokestatic 73, 3) := by decide +kernel
theorem dX0_liarsAt_65 : decode cX0_liarsAt 65 = .ok (.ior, 1) := by decide +kernel
theorem dX0_liarsAt_66 : decode cX0_liarsAt 66 = .ok (.istore_n 2, 1) := by decide +kernel
theorem dX0_liarsAt_67 : decode cX0_liarsAt 67 = .ok (.iinc 3 1, 3) := by decide +kernel
theorem dX0_liarsAt_70 : decode cX0_liarsAt 70 = .ok (.goto (-66), 3) := by decide +kernel
theorem dX0_liarsAt_73 : decode cX0_liarsAt 73 = .ok (.iload_n 2, 1) := by decide +kernel
theorem dX0_liarsAt_74 : decode cX0_liarsAt 74 = .ok (.ireturn, 1) := by decide +kernel
theorem dX0_saidUnlike_0 : decode cX0_saidUnlike 0 = .ok (.iconst 0, 1) := by decide +kernel
theorem dX0_saidUnlike_1 : decode cX0_saidUnlike 1 = .ok (.istore_n 1, 1) := by decide +kernel
theorem dX0_saidUnlike_2 : decode cX0_saidUnlike 2 = .ok (.iconst 0, 1) := by decide +kernel
theorem dX0_saidUnlike_3 : decode cX0_saidUnlike 3 = .ok (.istore_n 2, 1) := by decide +kernel
theorem dX0_saidUnlike_4 : decode cX0_saidUnlike 4 = .ok (.iload_n 2, 1) := by decide +kernel
theorem dX0_saidUnlike_5 : decode cX0_saidUnlike 5 = .ok (.aload_n 0, 1) := by decide +kernel
theorem dX0_saidUnlike_6 : decode cX0_saidUnlike 6 = .ok (.getfield 37, 3) := by decide +kernel
theorem dX0_saidUnlike_9 : decode cX0_saidUnlike 9 = .ok (.getfield 98, 3) := by decide +kernel
theorem dX0_saidUnlike_12 : decode cX0_saidUnlike 12 = .ok (.if_icmp .ge 97, 3) := by decide +kernel
theorem dX0_saidUnlike_15 : decode cX0_saidUnlike 15 = .ok (.iconst 0, 1) := by decide +kernel
theorem dX0_saidUnlike_16 : decode cX0_saidUnlike 16 = .ok (.istore_n 3, 1) := by decide +kernel
theorem dX0_saidUnlike_17 : decode cX0_saidUnlike 17 = .ok (.iload_n 3, 1) := by decide +kernel
theorem dX0_saidUnlike_18 : decode cX0_saidUnlike 18 = .ok (.iload_n 2, 1) := by decide +kernel
theorem dX0_saidUnlike_19 : decode cX0_saidUnlike 19 = .ok (.if_icmp .ge 84, 3) := by decide +kernel
theorem dX0_saidUnlike_22 : decode cX0_saidUnlike 22 = .ok (.iconst 0, 1) := by decide +kernel
theorem dX0_saidUnlike_23 : decode cX0_saidUnlike 23 = .ok (.istore 4, 2) := by decide +kernel
theorem dX0_saidUnlike_25 : decode cX0_saidUnlike 25 = .ok (.iload 4, 2) := by decide +kernel
theorem dX0_saidUnlike_27 : decode cX0_saidUnlike 27 = .ok (.aload_n 0, 1) := by decide +kernel
theorem dX0_saidUnlike_28 : decode cX0_saidUnlike 28 = .ok (.getfield 37, 3) := by decide +kernel
theorem dX0_saidUnlike_31 : decode cX0_saidUnlike 31 = .ok (.getfield 66, 3) := by decide +kernel
theorem dX0_saidUnlike_34 : decode cX0_saidUnlike 34 = .ok (.if_icmp .ge 63, 3) := by decide +kernel
theorem dX0_saidUnlike_37 : decode cX0_saidUnlike 37 = .ok (.aload_n 0, 1) := by decide +kernel
theorem dX0_saidUnlike_38 : decode cX0_saidUnlike 38 = .ok (.getfield 25, 3) := by decide +kernel
theorem dX0_saidUnlike_41 : decode cX0_saidUnlike 41 = .ok (.iload_n 2, 1) := by decide +kernel
theorem dX0_saidUnlike_42 : decode cX0_saidUnlike 42 = .ok (.iaload, 1) := by decide +kernel
theorem dX0_saidUnlike_43 : decode cX0_saidUnlike 43 = .ok (.aload_n 0, 1) := by decide +kernel
theorem dX0_saidUnlike_44 : decode cX0_saidUnlike 44 = .ok (.getfield 25, 3) := by decide +kernel
theorem dX0_saidUnlike_47 : decode cX0_saidUnlike 47 = .ok (.iload_n 3, 1) := by decide +kernel
theorem dX0_saidUnlike_48 : decode cX0_saidUnlike 48 = .ok (.iaload, 1) := by decide +kernel
theorem dX0_saidUnlike_49 : decode cX0_saidUnlike 49 = .ok (.iand, 1) := by decide +kernel
theorem dX0_saidUnlike_50 : decode cX0_saidUnlike 50 = .ok (.iload 4, 2) := by decide +kernel
theorem dX0_saidUnlike_52 : decode cX0_saidUnlike 52 = .ok (.invokestatic 95, 3) := by decide +kernel
theorem dX0_saidUnlike_55 : decode cX0_saidUnlike 55 = .ok (.ifCond .eq 36, 3) := by decide +kernel
theorem dX0_saidUnlike_58 : decode cX0_saidUnlike 58 = .ok (.aload_n 0, 1) := by decide +kernel
theorem dX0_saidUnlike_59 : decode cX0_saidUnlike 59 = .ok (.getfield 28, 3) := by decide +kernel
theorem dX0_saidUnlike_62 : decode cX0_saidUnlike 62 = .ok (.iload_n 2, 1) := by decide +kernel
theorem dX0_saidUnlike_63 : decode cX0_saidUnlike 63 = .ok (.iload 4, 2) := by decide +kernel
theorem dX0_saidUnlike_65 : decode cX0_saidUnlike 65 = .ok (.invokestatic 59, 3) := by decide +kernel
theorem dX0_saidUnlike_68 : decode cX0_saidUnlike 68 = .ok (.iaload, 1) := by decide +kernel
theorem dX0_saidUnlike_69 : decode cX0_saidUnlike 69 = .ok (.aload_n 0, 1) := by decide +kernel
theorem dX0_saidUnlike_70 : decode cX0_saidUnlike 70 = .ok (.getfield 28, 3) := by decide +kernel
theorem dX0_saidUnlike_73 : decode cX0_saidUnlike 73 = .ok (.iload_n 3, 1) := by decide +kernel
theorem dX0_saidUnlike_74 : decode cX0_saidUnlike 74 = .ok (.iload 4, 2) := by decide +kernel
theorem dX0_saidUnlike_76 : decode cX0_saidUnlike 76 = .ok (.invokestatic 59, 3) := by decide +kernel
theorem dX0_saidUnlike_79 : decode cX0_saidUnlike 79 = .ok (.iaload, 1) := by decide +kernel
theorem dX0_saidUnlike_80 : decode cX0_saidUnlike 80 = .ok (.if_icmp .eq 11, 3) := by decide +kernel
theorem dX0_saidUnlike_83 : decode cX0_saidUnlike 83 = .ok (.iload_n 1, 1) := by decide +kernel
theorem dX0_saidUnlike_84 : decode cX0_saidUnlike 84 = .ok (.iload 4, 2) := by decide +kernel
theorem dX0_saidUnlike_86 : decode cX0_saidUnlike 86 = .ok (.invokestatic 73, 3) := by decide +kernel
theorem dX0_saidUnlike_89 : decode cX0_saidUnlike 89 = .ok (.ior, 1) := by decide +kernel
theorem dX0_saidUnlike_90 : decode cX0_saidUnlike 90 = .ok (.istore_n 1, 1) := by decide +kernel
theorem dX0_saidUnlike_91 : decode cX0_saidUnlike 91 = .ok (.iinc 4 1, 3) := by decide +kernel
theorem dX0_saidUnlike_94 : decode cX0_saidUnlike 94 = .ok (.goto (-69), 3) := by decide +kernel
theorem dX0_saidUnlike_97 : decode cX0_saidUnlike 97 = .ok (.iinc 3 1, 3) := by decide +kernel
theorem dX0_saidUnlike_100 : decode cX0_saidUnlike 100 = .ok (.goto (-83), 3) := by decide +kernel
theorem dX0_saidUnlike_103 : decode cX0_saidUnlike 103 = .ok (.iinc 2 1, 3) := by decide +kernel
theorem dX0_saidUnlike_106 : decode cX0_saidUnlike 106 = .ok (.goto (-102), 3) := by decide +kernel
theorem dX0_saidUnlike_109 : decode cX0_saidUnlike 109 = .ok (.iload_n 1, 1) := by decide +kernel
theorem dX0_saidUnlike_110 : decode cX0_saidUnlike 110 = .ok (.ireturn, 1) := by decide +kernel
theorem dX0_saidTheDead_0 : decode cX0_saidTheDead 0 = .ok (.iconst 0, 1) := by decide +kernel
theorem dX0_saidTheDead_1 : decode cX0_saidTheDead 1 = .ok (.istore_n 1, 1) := by decide +kernel
theorem dX0_saidTheDead_2 : decode cX0_saidTheDead 2 = .ok (.iconst 0, 1) := by decide +kernel
theorem dX0_saidTheDead_3 : decode cX0_saidTheDead 3 = .ok (.istore_n 2, 1) := by decide +kernel
theorem dX0_saidTheDead_4 : decode cX0_saidTheDead 4 = .ok (.iload_n 2, 1) := by decide +kernel
theorem dX0_saidTheDead_5 : decode cX0_saidTheDead 5 = .ok (.aload_n 0, 1) := by decide +kernel
theorem dX0_saidTheDead_6 : decode cX0_saidTheDead 6 = .ok (.getfield 37, 3) := by decide +kernel
theorem dX0_saidTheDead_9 : decode cX0_saidTheDead 9 = .ok (.getfield 98, 3) := by decide +kernel
theorem dX0_saidTheDead_12 : decode cX0_saidTheDead 12 = .ok (.if_icmp .ge 78, 3) := by decide +kernel
theorem dX0_saidTheDead_15 : decode cX0_saidTheDead 15 = .ok (.iconst 0, 1) := by decide +kernel
theorem dX0_saidTheDead_16 : decode cX0_saidTheDead 16 = .ok (.istore_n 3, 1) := by decide +kernel
theorem dX0_saidTheDead_17 : decode cX0_saidTheDead 17 = .ok (.iload_n 3, 1) := by decide +kernel
theorem dX0_saidTheDead_18 : decode cX0_saidTheDead 18 = .ok (.aload_n 0, 1) := by decide +kernel
theorem dX0_saidTheDead_19 : decode cX0_saidTheDead 19 = .ok (.getfield 37, 3) := by decide +kernel
theorem dX0_saidTheDead_22 : decode cX0_saidTheDead 22 = .ok (.getfield 66, 3) := by decide +kernel
theorem dX0_saidTheDead_25 : decode cX0_saidTheDead 25 = .ok (.if_icmp .ge 59, 3) := by decide +kernel
theorem dX0_saidTheDead_28 : decode cX0_saidTheDead 28 = .ok (.aload_n 0, 1) := by decide +kernel
theorem dX0_saidTheDead_29 : decode cX0_saidTheDead 29 = .ok (.getfield 28, 3) := by decide +kernel
theorem dX0_saidTheDead_32 : decode cX0_saidTheDead 32 = .ok (.iload_n 2, 1) := by decide +kernel
theorem dX0_saidTheDead_33 : decode cX0_saidTheDead 33 = .ok (.iload_n 3, 1) := by decide +kernel
theorem dX0_saidTheDead_34 : decode cX0_saidTheDead 34 = .ok (.invokestatic 59, 3) := by decide +kernel
theorem dX0_saidTheDead_37 : decode cX0_saidTheDead 37 = .ok (.iaload, 1) := by decide +kernel
theorem dX0_saidTheDead_38 : decode cX0_saidTheDead 38 = .ok (.istore 4, 2) := by decide +kernel
theorem dX0_saidTheDead_40 : decode cX0_saidTheDead 40 = .ok (.aload_n 0, 1) := by decide +kernel
theorem dX0_saidTheDead_41 : decode cX0_saidTheDead 41 = .ok (.getfield 25, 3) := by decide +kernel
theorem dX0_saidTheDead_44 : decode cX0_saidTheDead 44 = .ok (.iload_n 2, 1) := by decide +kernel
theorem dX0_saidTheDead_45 : decode cX0_saidTheDead 45 = .ok (.iaload, 1) := by decide +kernel
theorem dX0_saidTheDead_46 : decode cX0_saidTheDead 46 = .ok (.iload_n 3, 1) := by decide +kernel
theorem dX0_saidTheDead_47 : decode cX0_saidTheDead 47 = .ok (.invokestatic 95, 3) := by decide +kernel
theorem dX0_saidTheDead_50 : decode cX0_saidTheDead 50 = .ok (.ifCond .eq 28, 3) := by decide +kernel
theorem dX0_saidTheDead_53 : decode cX0_saidTheDead 53 = .ok (.iload 4, 2) := by decide +kernel
theorem dX0_saidTheDead_55 : decode cX0_saidTheDead 55 = .ok (.iconst (-1), 1) := by decide +kernel
theorem dX0_saidTheDead_56 : decode cX0_saidTheDead 56 = .ok (.if_icmp .eq 22, 3) := by decide +kernel
theorem dX0_saidTheDead_59 : decode cX0_saidTheDead 59 = .ok (.aload_n 0, 1) := by decide +kernel
theorem dX0_saidTheDead_60 : decode cX0_saidTheDead 60 = .ok (.getfield 9, 3) := by decide +kernel
theorem dX0_saidTheDead_63 : decode cX0_saidTheDead 63 = .ok (.iload 4, 2) := by decide +kernel
theorem dX0_saidTheDead_65 : decode cX0_saidTheDead 65 = .ok (.invokestatic 95, 3) := by decide +kernel
theorem dX0_saidTheDead_68 : decode cX0_saidTheDead 68 = .ok (.ifCond .ne 10, 3) := by decide +kernel
theorem dX0_saidTheDead_71 : decode cX0_saidTheDead 71 = .ok (.iload_n 1, 1) := by decide +kernel
theorem dX0_saidTheDead_72 : decode cX0_saidTheDead 72 = .ok (.iload_n 3, 1) := by decide +kernel
theorem dX0_saidTheDead_73 : decode cX0_saidTheDead 73 = .ok (.invokestatic 73, 3) := by decide +kernel
theorem dX0_saidTheDead_76 : decode cX0_saidTheDead 76 = .ok (.ior, 1) := by decide +kernel
theorem dX0_saidTheDead_77 : decode cX0_saidTheDead 77 = .ok (.istore_n 1, 1) := by decide +kernel
theorem dX0_saidTheDead_78 : decode cX0_saidTheDead 78 = .ok (.iinc 3 1, 3) := by decide +kernel
theorem dX0_saidTheDead_81 : decode cX0_saidTheDead 81 = .ok (.goto (-64), 3) := by decide +kernel
theorem dX0_saidTheDead_84 : decode cX0_saidTheDead 84 = .ok (.iinc 2 1, 3) := by decide +kernel
theorem dX0_saidTheDead_87 : decode cX0_saidTheDead 87 = .ok (.goto (-83), 3) := by decide +kernel
theorem dX0_saidTheDead_90 : decode cX0_saidTheDead 90 = .ok (.iload_n 1, 1) := by decide +kernel
theorem dX0_saidTheDead_91 : decode cX0_saidTheDead 91 = .ok (.ireturn, 1) := by decide +kernel
theorem dX0_drawDay_0 : decode cX0_drawDay 0 = .ok (.iconst 0, 1) := by decide +kernel
theorem dX0_drawDay_1 : decode cX0_drawDay 1 = .ok (.istore_n 1, 1) := by decide +kernel
theorem dX0_drawDay_2 : decode cX0_drawDay 2 = .ok (.iload_n 1, 1) := by decide +kernel
theorem dX0_drawDay_3 : decode cX0_drawDay 3 = .ok (.aload_n 0, 1) := by decide +kernel
theorem dX0_drawDay_4 : decode cX0_drawDay 4 = .ok (.getfield 37, 3) := by decide +kernel
theorem dX0_drawDay_7 : decode cX0_drawDay 7 = .ok (.getfield 66, 3) := by decide +kernel
theorem dX0_drawDay_10 : decode cX0_drawDay 10 = .ok (.if_icmp .ge 43, 3) := by decide +kernel
theorem dX0_drawDay_13 : decode cX0_drawDay 13 = .ok (.aload_n 0, 1) := by decide +kernel
theorem dX0_drawDay_14 : decode cX0_drawDay 14 = .ok (.getfield 9, 3) := by decide +kernel
theorem dX0_drawDay_17 : decode cX0_drawDay 17 = .ok (.iload_n 1, 1) := by decide +kernel
theorem dX0_drawDay_18 : decode cX0_drawDay 18 = .ok (.invokestatic 95, 3) := by decide +kernel
theorem dX0_drawDay_21 : decode cX0_drawDay 21 = .ok (.ifCond .eq 26, 3) := by decide +kernel
theorem dX0_drawDay_24 : decode cX0_drawDay 24 = .ok (.aload_n 0, 1) := by decide +kernel
theorem dX0_drawDay_25 : decode cX0_drawDay 25 = .ok (.bipush 100, 2) := by decide +kernel
theorem dX0_drawDay_27 : decode cX0_drawDay 27 = .ok (.invokevirtual 104, 3) := by decide +kernel
theorem dX0_drawDay_30 : decode cX0_drawDay 30 = .ok (.aload_n 0, 1) := by decide +kernel
theorem dX0_drawDay_31 : decode cX0_drawDay 31 = .ok (.getfield 37, 3) := by decide +kernel
theorem dX0_drawDay_34 : decode cX0_drawDay 34 = .ok (.getfield 107, 3) := by decide +kernel
theorem dX0_drawDay_37 : decode cX0_drawDay 37 = .ok (.iload_n 1, 1) := by decide +kernel
theorem dX0_drawDay_38 : decode cX0_drawDay 38 = .ok (.iaload, 1) := by decide +kernel
theorem dX0_drawDay_39 : decode cX0_drawDay 39 = .ok (.if_icmp .ge 8, 3) := by decide +kernel
theorem dX0_drawDay_42 : decode cX0_drawDay 42 = .ok (.aload_n 0, 1) := by decide +kernel
theorem dX0_drawDay_43 : decode cX0_drawDay 43 = .ok (.iload_n 1, 1) := by decide +kernel
theorem dX0_drawDay_44 : decode cX0_drawDay 44 = .ok (.invokevirtual 110, 3) := by decide +kernel
theorem dX0_drawDay_47 : decode cX0_drawDay 47 = .ok (.iinc 1 1, 3) := by decide +kernel
theorem dX0_drawDay_50 : decode cX0_drawDay 50 = .ok (.goto (-48), 3) := by decide +kernel
theorem dX0_drawDay_53 : decode cX0_drawDay 53 = .ok (.aload_n 0, 1) := by decide +kernel
theorem dX0_drawDay_54 : decode cX0_drawDay 54 = .ok (.invokevirtual 114, 3) := by decide +kernel
theorem dX0_drawDay_57 : decode cX0_drawDay 57 = .ok (.pop, 1) := by decide +kernel
theorem dX0_drawDay_58 : decode cX0_drawDay 58 = .ok (.return_, 1) := by decide +kernel
theorem dX0_drawCrossing_0 : decode cX0_drawCrossing 0 = .ok (.aload_n 0, 1) := by decide +kernel
theorem dX0_drawCrossing_1 : decode cX0_drawCrossing 1 = .ok (.aload_n 0, 1) := by decide +kernel
theorem dX0_drawCrossing_2 : decode cX0_drawCrossing 2 = .ok (.getfield 37, 3) := by decide +kernel
theorem dX0_drawCrossing_5 : decode cX0_drawCrossing 5 = .ok (.getfield 98, 3) := by decide +kernel
theorem dX0_drawCrossing_8 : decode cX0_drawCrossing 8 = .ok (.invokevirtual 104, 3) := by decide +kernel
theorem dX0_drawCrossing_11 : decode cX0_drawCrossing 11 = .ok (.istore_n 2, 1) := by decide +kernel
theorem dX0_drawCrossing_12 : decode cX0_drawCrossing 12 = .ok (.aload_n 0, 1) := by decide +kernel
theorem dX0_drawCrossing_13 : decode cX0_drawCrossing 13 = .ok (.aload_n 0, 1) := by decide +kernel
theorem dX0_drawCrossing_14 : decode cX0_drawCrossing 14 = .ok (.getfield 37, 3) := by decide +kernel
theorem dX0_drawCrossing_17 : decode cX0_drawCrossing 17 = .ok (.getfield 66, 3) := by decide +kernel
theorem dX0_drawCrossing_20 : decode cX0_drawCrossing 20 = .ok (.invokevirtual 104, 3) := by decide +kernel
theorem dX0_drawCrossing_23 : decode cX0_drawCrossing 23 = .ok (.istore_n 3, 1) := by decide +kernel
theorem dX0_drawCrossing_24 : decode cX0_drawCrossing 24 = .ok (.aload_n 0, 1) := by decide +kernel
theorem dX0_drawCrossing_25 : decode cX0_drawCrossing 25 = .ok (.getfield 37, 3) := by decide +kernel
theorem dX0_drawCrossing_28 : decode cX0_drawCrossing 28 = .ok (.iload_n 2, 1) := by decide +kernel
theorem dX0_drawCrossing_29 : decode cX0_drawCrossing 29 = .ok (.invokevirtual 117, 3) := by decide +kernel
theorem dX0_drawCrossing_32 : decode cX0_drawCrossing 32 = .ok (.ifCond .eq 41, 3) := by decide +kernel
theorem dX0_drawCrossing_35 : decode cX0_drawCrossing 35 = .ok (.aload_n 0, 1) := by decide +kernel
theorem dX0_drawCrossing_36 : decode cX0_drawCrossing 36 = .ok (.getfield 25, 3) := by decide +kernel
theorem dX0_drawCrossing_39 : decode cX0_drawCrossing 39 = .ok (.iload_n 2, 1) := by decide +kernel
theorem dX0_drawCrossing_40 : decode cX0_drawCrossing 40 = .ok (.iaload, 1) := by decide +kernel
theorem dX0_drawCrossing_41 : decode cX0_drawCrossing 41 = .ok (.iload_n 1, 1) := by decide +kernel
theorem dX0_drawCrossing_42 : decode cX0_drawCrossing 42 = .ok (.invokestatic 95, 3) := by decide +kernel
theorem dX0_drawCrossing_45 : decode cX0_drawCrossing 45 = .ok (.ifCond .ne 28, 3) := by decide +kernel
theorem dX0_drawCrossing_48 : decode cX0_drawCrossing 48 = .ok (.aload_n 0, 1) := by decide +kernel
theorem dX0_drawCrossing_49 : decode cX0_drawCrossing 49 = .ok (.iload_n 2, 1) := by decide +kernel
theorem dX0_drawCrossing_50 : decode cX0_drawCrossing 50 = .ok (.iload_n 1, 1) := by decide +kernel
theorem dX0_drawCrossing_51 : decode cX0_drawCrossing 51 = .ok (.aload_n 0, 1) := by decide +kernel
theorem dX0_drawCrossing_52 : decode cX0_drawCrossing 52 = .ok (.getfield 21, 3) := by decide +kernel
theorem dX0_drawCrossing_55 : decode cX0_drawCrossing 55 = .ok (.iload_n 1, 1) := by decide +kernel
theorem dX0_drawCrossing_56 : decode cX0_drawCrossing 56 = .ok (.iaload, 1) := by decide +kernel
theorem dX0_drawCrossing_57 : decode cX0_drawCrossing 57 = .ok (.iload_n 3, 1) := by decide +kernel
theorem dX0_drawCrossing_58 : decode cX0_drawCrossing 58 = .ok (.invokestatic 95, 3) := by decide +kernel
theorem dX0_drawCrossing_61 : decode cX0_drawCrossing 61 = .ok (.ifCond .eq 7, 3) := by decide +kernel
theorem dX0_drawCrossing_64 : decode cX0_drawCrossing 64 = .ok (.iload_n 3, 1) := by decide +kernel
theorem dX0_drawCrossing_65 : decode cX0_drawCrossing 65 = .ok (.goto 4, 3) := by decide +kernel
theorem dX0_drawCrossing_68 : decode cX0_drawCrossing 68 = .ok (.iconst (-1), 1) := by decide +kernel
theorem dX0_drawCrossing_69 : decode cX0_drawCrossing 69 = .ok (.invokevirtual 121, 3) := by decide +kernel
theorem dX0_drawCrossing_72 : decode cX0_drawCrossing 72 = .ok (.pop, 1) := by decide +kernel
theorem dX0_drawCrossing_73 : decode cX0_drawCrossing 73 = .ok (.return_, 1) := by decide +kernel
theorem dX0_draw_0 : decode cX0_draw 0 = .ok (.aload_n 0, 1) := by decide +kernel
theorem dX0_draw_1 : decode cX0_draw 1 = .ok (.aload_n 0, 1) := by decide +kernel
theorem dX0_draw_2 : decode cX0_draw 2 = .ok (.getfield 18, 3) := by decide +kernel
theorem dX0_draw_5 : decode cX0_draw 5 = .ok (.i2l, 1) := by decide +kernel
theorem dX0_draw_6 : decode cX0_draw 6 = .ok (.ldc2_w 125, 3) := by decide +kernel
theorem dX0_draw_9 : decode cX0_draw 9 = .ok (.lmul, 1) := by decide +kernel
theorem dX0_draw_10 : decode cX0_draw 10 = .ok (.ldc2_w 127, 3) := by decide +kernel
theorem dX0_draw_13 : decode cX0_draw 13 = .ok (.ladd, 1) := by decide +kernel
theorem dX0_draw_14 : decode cX0_draw 14 = .ok (.ldc2_w 129, 3) := by decide +kernel
theorem dX0_draw_17 : decode cX0_draw 17 = .ok (.land, 1) := by decide +kernel
theorem dX0_draw_18 : decode cX0_draw 18 = .ok (.l2i, 1) := by decide +kernel
theorem dX0_draw_19 : decode cX0_draw 19 = .ok (.putfield 18, 3) := by decide +kernel
theorem dX0_draw_22 : decode cX0_draw 22 = .ok (.iload_n 1, 1) := by decide +kernel
theorem dX0_draw_23 : decode cX0_draw 23 = .ok (.iconst 1, 1) := by decide +kernel
theorem dX0_draw_24 : decode cX0_draw 24 = .ok (.if_icmp .ge 7, 3) := by decide +kernel
theorem dX0_draw_27 : decode cX0_draw 27 = .ok (.iconst 0, 1) := by decide +kernel
theorem dX0_draw_28 : decode cX0_draw 28 = .ok (.goto 12, 3) := by decide +kernel
theorem dX0_draw_31 : decode cX0_draw 31 = .ok (.aload_n 0, 1) := by decide +kernel
theorem dX0_draw_32 : decode cX0_draw 32 = .ok (.getfield 18, 3) := by decide +kernel
theorem dX0_draw_35 : decode cX0_draw 35 = .ok (.ldc 131, 2) := by decide +kernel
theorem dX0_draw_37 : decode cX0_draw 37 = .ok (.idiv, 1) := by decide +kernel
theorem dX0_draw_38 : decode cX0_draw 38 = .ok (.iload_n 1, 1) := by decide +kernel
theorem dX0_draw_39 : decode cX0_draw 39 = .ok (.irem, 1) := by decide +kernel
theorem dX0_draw_40 : decode cX0_draw 40 = .ok (.ireturn, 1) := by decide +kernel
theorem dX5_init_0 : decode cX5_init 0 = .ok (.aload_n 0, 1) := by decide +kernel
theorem dX5_init_1 : decode cX5_init 1 = .ok (.invokespecial 3, 3) := by decide +kernel
theorem dX5_init_4 : decode cX5_init 4 = .ok (.aload_n 0, 1) := by decide +kernel
theorem dX5_init_5 : decode cX5_init 5 = .ok (.iconst 0, 1) := by decide +kernel
theorem dX5_init_6 : decode cX5_init 6 = .ok (.putfield 9, 3) := by decide +kernel
theorem dX5_init_9 : decode cX5_init 9 = .ok (.aload_n 0, 1) := by decide +kernel
theorem dX5_init_10 : decode cX5_init 10 = .ok (.iconst 0, 1) := by decide +kernel
theorem dX5_init_11 : decode cX5_init 11 = .ok (.putfield 15, 3) := by decide +kernel
theorem dX5_init_14 : decode cX5_init 14 = .ok (.aload_n 0, 1) := by decide +kernel
theorem dX5_init_15 : decode cX5_init 15 = .ok (.iconst 0, 1) := by decide +kernel
theorem dX5_init_16 : decode cX5_init 16 = .ok (.putfield 18, 3) := by decide +kernel
theorem dX5_init_19 : decode cX5_init 19 = .ok (.aload_n 0, 1) := by decide +kernel
theorem dX5_init_20 : decode cX5_init 20 = .ok (.bipush 6, 2) := by decide +kernel
theorem dX5_init_22 : decode cX5_init 22 = .ok (.newarray .int, 2) := by decide +kernel
theorem dX5_init_24 : decode cX5_init 24 = .ok (.putfield 21, 3) := by decide +kernel
theorem dX5_init_27 : decode cX5_init 27 = .ok (.aload_n 0, 1) := by decide +kernel
theorem dX5_init_28 : decode cX5_init 28 = .ok (.bipush 6, 2) := by decide +kernel
theorem dX5_init_30 : decode cX5_init 30 = .ok (.newarray .int, 2) := by decide +kernel
theorem dX5_init_32 : decode cX5_init 32 = .ok (.putfield 25, 3) := by decide +kernel
theorem dX5_init_35 : decode cX5_init 35 = .ok (.aload_n 0, 1) := by decide +kernel
theorem dX5_init_36 : decode cX5_init 36 = .ok (.iconst 0, 1) := by decide +kernel
theorem dX5_init_37 : decode cX5_init 37 = .ok (.putfield 28, 3) := by decide +kernel
theorem dX5_init_40 : decode cX5_init 40 = .ok (.aload_n 0, 1) := by decide +kernel
theorem dX5_init_41 : decode cX5_init 41 = .ok (.aload_n 1, 1) := by decide +kernel
theorem dX5_init_42 : decode cX5_init 42 = .ok (.putfield 31, 3) := by decide +kernel
theorem dX5_init_45 : decode cX5_init 45 = .ok (.aload_n 0, 1) := by decide +kernel
theorem dX5_init_46 : decode cX5_init 46 = .ok (.aload_n 2, 1) := by decide +kernel
theorem dX5_init_47 : decode cX5_init 47 = .ok (.putfield 35, 3) := by decide +kernel
theorem dX5_init_50 : decode cX5_init 50 = .ok (.return_, 1) := by decide +kernel
theorem dX5_lookAt_0 : decode cX5_lookAt 0 = .ok (.aload_n 0, 1) := by decide +kernel
theorem dX5_lookAt_1 : decode cX5_lookAt 1 = .ok (.aload_n 0, 1) := by decide +kernel
theorem dX5_lookAt_2 : decode cX5_lookAt 2 = .ok (.getfield 35, 3) := by decide +kernel
theorem dX5_lookAt_5 : decode cX5_lookAt 5 = .ok (.iload_n 1, 1) := by decide +kernel
theorem dX5_lookAt_6 : decode cX5_lookAt 6 = .ok (.invokevirtual 39, 3) := by decide +kernel
theorem dX5_lookAt_9 : decode cX5_lookAt 9 = .ok (.putfield 9, 3) := by decide +kernel
theorem dX5_lookAt_12 : decode cX5_lookAt 12 = .ok (.aload_n 0, 1) := by decide +kernel
theorem dX5_lookAt_13 : decode cX5_lookAt 13 = .ok (.iconst 0, 1) := by decide +kernel
theorem dX5_lookAt_14 : decode cX5_lookAt 14 = .ok (.putfield 15, 3) := by decide +kernel
theorem dX5_lookAt_17 : decode cX5_lookAt 17 = .ok (.aload_n 0, 1) := by decide +kernel
theorem dX5_lookAt_18 : decode cX5_lookAt 18 = .ok (.iconst 0, 1) := by decide +kernel
theorem dX5_lookAt_19 : decode cX5_lookAt 19 = .ok (.putfield 18, 3) := by decide +kernel
theorem dX5_lookAt_22 : decode cX5_lookAt 22 = .ok (.iconst 0, 1) := by decide +kernel
theorem dX5_lookAt_23 : decode cX5_lookAt 23 = .ok (.istore_n 2, 1) := by decide +kernel
theorem dX5_lookAt_24 : decode cX5_lookAt 24 = .ok (.iload_n 2, 1) := by decide +kernel
theorem dX5_lookAt_25 : decode cX5_lookAt 25 = .ok (.aload_n 0, 1) := by decide +kernel
theorem dX5_lookAt_26 : decode cX5_lookAt 26 = .ok (.getfield 31, 3) := by decide +kernel
theorem dX5_lookAt_29 : decode cX5_lookAt 29 = .ok (.getfield 45, 3) := by decide +kernel
theorem dX5_lookAt_32 : decode cX5_lookAt 32 = .ok (.if_icmp .ge 104, 3) := by decide +kernel
theorem dX5_lookAt_35 : decode cX5_lookAt 35 = .ok (.aload_n 0, 1) := by decide +kernel
theorem dX5_lookAt_36 : decode cX5_lookAt 36 = .ok (.getfield 21, 3) := by decide +kernel
theorem dX5_lookAt_39 : decode cX5_lookAt 39 = .ok (.iload_n 2, 1) := by decide +kernel
theorem dX5_lookAt_40 : decode cX5_lookAt 40 = .ok (.aload_n 0, 1) := by decide +kernel
theorem dX5_lookAt_41 : decode cX5_lookAt 41 = .ok (.getfield 35, 3) := by decide +kernel
theorem dX5_lookAt_44 : decode cX5_lookAt 44 = .ok (.iload_n 1, 1) := by decide +kernel
theorem dX5_lookAt_45 : decode cX5_lookAt 45 = .ok (.iload_n 2, 1) := by decide +kernel
theorem dX5_lookAt_46 : decode cX5_lookAt 46 = .ok (.invokevirtual 50, 3) := by decide +kernel
theorem dX5_lookAt_49 : decode cX5_lookAt 49 = .ok (.iastore, 1) := by decide +kernel
theorem dX5_lookAt_50 : decode cX5_lookAt 50 = .ok (.aload_n 0, 1) := by decide +kernel
theorem dX5_lookAt_51 : decode cX5_lookAt 51 = .ok (.dup, 1) := by decide +kernel
theorem dX5_lookAt_52 : decode cX5_lookAt 52 = .ok (.getfield 15, 3) := by decide +kernel
theorem dX5_lookAt_55 : decode cX5_lookAt 55 = .ok (.aload_n 0, 1) := by decide +kernel
theorem dX5_lookAt_56 : decode cX5_lookAt 56 = .ok (.getfield 9, 3) := by decide +kernel
theorem dX5_lookAt_59 : decode cX5_lookAt 59 = .ok (.iload_n 2, 1) := by decide +kernel
theorem dX5_lookAt_60 : decode cX5_lookAt 60 = .ok (.invokestatic 53, 3) := by decide +kernel
theorem dX5_lookAt_63 : decode cX5_lookAt 63 = .ok (.ifCond .eq 22, 3) := by decide +kernel
theorem dX5_lookAt_66 : decode cX5_lookAt 66 = .ok (.aload_n 0, 1) := by decide +kernel
theorem dX5_lookAt_67 : decode cX5_lookAt 67 = .ok (.getfield 35, 3) := by decide +kernel
theorem dX5_lookAt_70 : decode cX5_lookAt 70 = .ok (.iload_n 1, 1) := by decide +kernel
theorem dX5_lookAt_71 : decode cX5_lookAt 71 = .ok (.iload_n 2, 1) := by decide +kernel
theorem dX5_lookAt_72 : decode cX5_lookAt 72 = .ok (.invokevirtual 57, 3) := by decide +kernel
theorem dX5_lookAt_75 : decode cX5_lookAt 75 = .ok (.ifCond .eq 10, 3) := by decide +kernel
theorem dX5_lookAt_78 : decode cX5_lookAt 78 = .ok (.iload_n 2, 1) := by decide +kernel
theorem dX5_lookAt_79 : decode cX5_lookAt 79 = .ok (.invokestatic 60, 3) := by decide +kernel
theorem dX5_lookAt_82 : decode cX5_lookAt 82 = .ok (.goto 4, 3) := by decide +kernel
theorem dX5_lookAt_85 : decode cX5_lookAt 85 = .ok (.iconst 0, 1) := by decide +kernel
theorem dX5_lookAt_86 : decode cX5_lookAt 86 = .ok (.ior, 1) := by decide +kernel
theorem dX5_lookAt_87 : decode cX5_lookAt 87 = .ok (.putfield 15, 3) := by decide +kernel
theorem dX5_lookAt_90 : decode cX5_lookAt 90 = .ok (.aload_n 0, 1) := by decide +kernel
theorem dX5_lookAt_91 : decode cX5_lookAt 91 = .ok (.dup, 1) := by decide +kernel
theorem dX5_lookAt_92 : decode cX5_lookAt 92 = .ok (.getfield 18, 3) := by decide +kernel
theorem dX5_lookAt_95 : decode cX5_lookAt 95 = .ok (.aload_n 0, 1) := by decide +kernel
theorem dX5_lookAt_96 : decode cX5_lookAt 96 = .ok (.getfield 9, 3) := by decide +kernel
theorem dX5_lookAt_99 : decode cX5_lookAt 99 = .ok (.iload_n 2, 1) := by decide +kernel
theorem dX5_lookAt_100 : decode cX5_lookAt 100 = .ok (.invokestatic 53, 3) := by decide +kernel
theorem dX5_lookAt_103 : decode cX5_lookAt 103 = .ok (.ifCond .eq 22, 3) := by decide +kernel
theorem dX5_lookAt_106 : decode cX5_lookAt 106 = .ok (.aload_n 0, 1) := by decide +kernel
theorem dX5_lookAt_107 : decode cX5_lookAt 107 = .ok (.getfield 35, 3) := by decide +kernel
theorem dX5_lookAt_110 : decode cX5_lookAt 110 = .ok (.iload_n 1, 1) := by decide +kernel
theorem dX5_lookAt_111 : decode cX5_lookAt 111 = .ok (.iload_n 2, 1) := by decide +kernel
theorem dX5_lookAt_112 : decode cX5_lookAt 112 = .ok (.invokevirtual 63, 3) := by decide +kernel
theorem dX5_lookAt_115 : decode cX5_lookAt 115 = .ok (.ifCond .ne 10, 3) := by decide +kernel
theorem dX5_lookAt_118 : decode cX5_lookAt 118 = .ok (.iload_n 2, 1) := by decide +kernel
theorem dX5_lookAt_119 : decode cX5_lookAt 119 = .ok (.invokestatic 60, 3) := by decide +kernel
theorem dX5_lookAt_122 : decode cX5_lookAt 122 = .ok (.goto 4, 3) := by decide +kernel
theorem dX5_lookAt_125 : decode cX5_lookAt 125 = .ok (.iconst 0, 1) := by decide +kernel
theorem dX5_lookAt_126 : decode cX5_lookAt 126 = .ok (.ior, 1) := by decide +kernel
theorem dX5_lookAt_127 : decode cX5_lookAt 127 = .ok (.putfield 18, 3) := by decide +kernel
theorem dX5_lookAt_130 : decode cX5_lookAt 130 = .ok (.iinc 2 1, 3) := by decide +kernel
theorem dX5_lookAt_133 : decode cX5_lookAt 133 = .ok (.goto (-109), 3) := by decide +kernel
theorem dX5_lookAt_136 : decode cX5_lookAt 136 = .ok (.return_, 1) := by decide +kernel
theorem dX5_lineUp_0 : decode cX5_lineUp 0 = .ok (.aload_n 0, 1) := by decide +kernel
theorem dX5_lineUp_1 : decode cX5_lineUp 1 = .ok (.iload_n 1, 1) := by decide +kernel
theorem dX5_lineUp_2 : decode cX5_lineUp 2 = .ok (.invokevirtual 66, 3) := by decide +kernel
theorem dX5_lineUp_5 : decode cX5_lineUp 5 = .ok (.aload_n 0, 1) := by decide +kernel
theorem dX5_lineUp_6 : decode cX5_lineUp 6 = .ok (.invokevirtual 70, 3) := by decide +kernel
theorem dX5_lineUp_9 : decode cX5_lineUp 9 = .ok (.istore_n 2, 1) := by decide +kernel
theorem dX5_lineUp_10 : decode cX5_lineUp 10 = .ok (.aload_n 0, 1) := by decide +kernel
theorem dX5_lineUp_11 : decode cX5_lineUp 11 = .ok (.iconst 0, 1) := by decide +kernel
theorem dX5_lineUp_12 : decode cX5_lineUp 12 = .ok (.putfield 28, 3) := by decide +kernel
theorem dX5_lineUp_15 : decode cX5_lineUp 15 = .ok (.iconst 0, 1) := by decide +kernel
theorem dX5_lineUp_16 : decode cX5_lineUp 16 = .ok (.istore_n 3, 1) := by decide +kernel
theorem dX5_lineUp_17 : decode cX5_lineUp 17 = .ok (.iload_n 3, 1) := by decide +kernel
theorem dX5_lineUp_18 : decode cX5_lineUp 18 = .ok (.bipush 6, 2) := by decide +kernel
theorem dX5_lineUp_20 : decode cX5_lineUp 20 = .ok (.if_icmp .ge 54, 3) := by decide +kernel
theorem dX5_lineUp_23 : decode cX5_lineUp 23 = .ok (.iload_n 2, 1) := by decide +kernel
theorem dX5_lineUp_24 : decode cX5_lineUp 24 = .ok (.ifCond .eq 50, 3) := by decide +kernel
theorem dX5_lineUp_27 : decode cX5_lineUp 27 = .ok (.aload_n 0, 1) := by decide +kernel
theorem dX5_lineUp_28 : decode cX5_lineUp 28 = .ok (.iload_n 2, 1) := by decide +kernel
theorem dX5_lineUp_29 : decode cX5_lineUp 29 = .ok (.invokevirtual 74, 3) := by decide +kernel
theorem dX5_lineUp_32 : decode cX5_lineUp 32 = .ok (.istore 4, 2) := by decide +kernel
theorem dX5_lineUp_34 : decode cX5_lineUp 34 = .ok (.iload 4, 2) := by decide +kernel
theorem dX5_lineUp_36 : decode cX5_lineUp 36 = .ok (.iconst (-1), 1) := by decide +kernel
theorem dX5_lineUp_37 : decode cX5_lineUp 37 = .ok (.if_icmp .ne 6, 3) := by decide +kernel
theorem dX5_lineUp_40 : decode cX5_lineUp 40 = .ok (.goto 34, 3) := by decide +kernel
theorem dX5_lineUp_43 : decode cX5_lineUp 43 = .ok (.aload_n 0, 1) := by decide +kernel
theorem dX5_lineUp_44 : decode cX5_lineUp 44 = .ok (.getfield 25, 3) := by decide +kernel
theorem dX5_lineUp_47 : decode cX5_lineUp 47 = .ok (.iload_n 3, 1) := by decide +kernel
theorem dX5_lineUp_48 : decode cX5_lineUp 48 = .ok (.iload 4, 2) := by decide +kernel
theorem dX5_lineUp_50 : decode cX5_lineUp 50 = .ok (.iastore, 1) := by decide +kernel
theorem dX5_lineUp_51 : decode cX5_lineUp 51 = .ok (.aload_n 0, 1) := by decide +kernel
theorem dX5_lineUp_52 : decode cX5_lineUp 52 = .ok (.iload_n 3, 1) := by decide +kernel
theorem dX5_lineUp_53 : decode cX5_lineUp 53 = .ok (.iconst 1, 1) := by decide +kernel
theorem dX5_lineUp_54 : decode cX5_lineUp 54 = .ok (.iadd, 1) := by decide +kernel
theorem dX5_lineUp_55 : decode cX5_lineUp 55 = .ok (.putfield 28, 3) := by decide +kernel
theorem dX5_lineUp_58 : decode cX5_lineUp 58 = .ok (.iload_n 2, 1) := by decide +kernel
theorem dX5_lineUp_59 : decode cX5_lineUp 59 = .ok (.iload 4, 2) := by decide +kernel
theorem dX5_lineUp_61 : decode cX5_lineUp 61 = .ok (.invokestatic 60, 3) := by decide +kernel
theorem dX5_lineUp_64 : decode cX5_lineUp 64 = .ok (.iconst (-1), 1) := by decide +kernel
theorem dX5_lineUp_65 : decode cX5_lineUp 65 = .ok (.ixor, 1) := by decide +kernel
theorem dX5_lineUp_66 : decode cX5_lineUp 66 = .ok (.iand, 1) := by decide +kernel
theorem dX5_lineUp_67 : decode cX5_lineUp 67 = .ok (.istore_n 2, 1) := by decide +kernel
theorem dX5_lineUp_68 : decode cX5_lineUp 68 = .ok (.iinc 3 1, 3) := by decide +kernel
theorem dX5_lineUp_71 : decode cX5_lineUp 71 = .ok (.goto (-54), 3) := by decide +kernel
theorem dX5_lineUp_74 : decode cX5_lineUp 74 = .ok (.aload_n 0, 1) := by decide +kernel
theorem dX5_lineUp_75 : decode cX5_lineUp 75 = .ok (.getfield 28, 3) := by decide +kernel
theorem dX5_lineUp_78 : decode cX5_lineUp 78 = .ok (.ireturn, 1) := by decide +kernel
theorem dX5_mostSet_0 : decode cX5_mostSet 0 = .ok (.aload_n 0, 1) := by decide +kernel
theorem dX5_mostSet_1 : decode cX5_mostSet 1 = .ok (.getfield 9, 3) := by decide +kernel
theorem dX5_mostSet_4 : decode cX5_mostSet 4 = .ok (.istore_n 1, 1) := by decide +kernel
theorem dX5_mostSet_5 : decode cX5_mostSet 5 = .ok (.iconst 0, 1) := by decide +kernel
theorem dX5_mostSet_6 : decode cX5_mostSet 6 = .ok (.istore_n 2, 1) := by decide +kernel
theorem dX5_mostSet_7 : decode cX5_mostSet 7 = .ok (.iload_n 2, 1) := by decide +kernel
theorem dX5_mostSet_8 : decode cX5_mostSet 8 = .ok (.bipush 6, 2) := by decide +kernel
theorem dX5_mostSet_10 : decode cX5_mostSet 10 = .ok (.if_icmp .ge 15, 3) := by decide +kernel
theorem dX5_mostSet_13 : decode cX5_mostSet 13 = .ok (.aload_n 0, 1) := by decide +kernel
theorem dX5_mostSet_14 : decode cX5_mostSet 14 = .ok (.iload_n 1, 1) := by decide +kernel
theorem dX5_mostSet_15 : decode cX5_mostSet 15 = .ok (.invokevirtual 77, 3) := by decide +kernel
theorem dX5_mostSet_18 : decode cX5_mostSet 18 = .ok (.istore_n 1, 1) := by decide +kernel
theorem dX5_mostSet_19 : decode cX5_mostSet 19 = .ok (.iinc 2 1, 3) := by decide +kernel
theorem dX5_mostSet_22 : decode cX5_mostSet 22 = .ok (.goto (-15), 3) := by decide +kernel
theorem dX5_mostSet_25 : decode cX5_mostSet 25 = .ok (.iload_n 1, 1) := by decide +kernel
theorem dX5_mostSet_26 : decode cX5_mostSet 26 = .ok (.ireturn, 1) := by decide +kernel
theorem dX5_passing_0 : decode cX5_passing 0 = .ok (.iconst 0, 1) := by decide +kernel
theorem dX5_passing_1 : decode cX5_passing 1 = .ok (.istore_n 2, 1) := by decide +kernel
theorem dX5_passing_2 : decode cX5_passing 2 = .ok (.iconst 0, 1) := by decide +kernel
theorem dX5_passing_3 : decode cX5_passing 3 = .ok (.istore_n 3, 1) := by decide +kernel
theorem dX5_passing_4 : decode cX5_passing 4 = .ok (.iload_n 3, 1) := by decide +kernel
theorem dX5_passing_5 : decode cX5_passing 5 = .ok (.aload_n 0, 1) := by decide +kernel
theorem dX5_passing_6 : decode cX5_passing 6 = .ok (.getfield 31, 3) := by decide +kernel
theorem dX5_passing_9 : decode cX5_passing 9 = .ok (.getfield 45, 3) := by decide +kernel
theorem dX5_passing_12 : decode cX5_passing 12 = .ok (.if_icmp .ge 33, 3) := by decide +kernel
theorem dX5_passing_15 : decode cX5_passing 15 = .ok (.iload_n 1, 1) := by decide +kernel
theorem dX5_passing_16 : decode cX5_passing 16 = .ok (.iload_n 3, 1) := by decide +kernel
theorem dX5_passing_17 : decode cX5_passing 17 = .ok (.invokestatic 53, 3) := by decide +kernel
theorem dX5_passing_20 : decode cX5_passing 20 = .ok (.ifCond .eq 19, 3) := by decide +kernel
theorem dX5_passing_23 : decode cX5_passing 23 = .ok (.aload_n 0, 1) := by decide +kernel
theorem dX5_passing_24 : decode cX5_passing 24 = .ok (.iload_n 3, 1) := by decide +kernel
theorem dX5_passing_25 : decode cX5_passing 25 = .ok (.iload_n 1, 1) := by decide +kernel
theorem dX5_passing_26 : decode cX5_passing 26 = .ok (.invokevirtual 80, 3) := by decide +kernel
theorem dX5_passing_29 : decode cX5_passing 29 = .ok (.ifCond .eq 10, 3) := by decide +kernel
theorem dX5_passing_32 : decode cX5_passing 32 = .ok (.iload_n 2, 1) := by decide +kernel
theorem dX5_passing_33 : decode cX5_passing 33 = .ok (.iload_n 3, 1) := by decide +kernel
theorem dX5_passing_34 : decode cX5_passing 34 = .ok (.invokestatic 60, 3) := by decide +kernel
theorem dX5_passing_37 : decode cX5_passing 37 = .ok (.ior, 1) := by decide +kernel
theorem dX5_passing_38 : decode cX5_passing 38 = .ok (.istore_n 2, 1) := by decide +kernel
theorem dX5_passing_39 : decode cX5_passing 39 = .ok (.iinc 3 1, 3) := by decide +kernel
theorem dX5_passing_42 : decode cX5_passing 42 = .ok (.goto (-38), 3) := by decide +kernel
theorem dX5_passing_45 : decode cX5_passing 45 = .ok (.iload_n 2, 1) := by decide +kernel
theorem dX5_passing_46 : decode cX5_passing 46 = .ok (.ireturn, 1) := by decide +kernel
theorem dX5_passes_0 : decode cX5_passes 0 = .ok (.aload_n 0, 1) := by decide +kernel
theorem dX5_passes_1 : decode cX5_passes 1 = .ok (.getfield 15, 3) := by decide +kernel
theorem dX5_passes_4 : decode cX5_passes 4 = .ok (.iload_n 1, 1) := by decide +kernel
theorem dX5_passes_5 : decode cX5_passes 5 = .ok (.invokestatic 53, 3) := by decide +kernel
theorem dX5_passes_8 : decode cX5_passes 8 = .ok (.ifCond .ne 14, 3) := by decide +kernel
theorem dX5_passes_11 : decode cX5_passes 11 = .ok (.aload_n 0, 1) := by decide +kernel
theorem dX5_passes_12 : decode cX5_passes 12 = .ok (.getfield 21, 3) := by decide +kernel
theorem dX5_passes_15 : decode cX5_passes 15 = .ok (.iload_n 1, 1) := by decide +kernel
theorem dX5_passes_16 : decode cX5_passes 16 = .ok (.iaload, 1) := by decide +kernel
theorem dX5_passes_17 : decode cX5_passes 17 = .ok (.iload_n 2, 1) := by decide +kernel
theorem dX5_passes_18 : decode cX5_passes 18 = .ok (.iand, 1) := by decide +kernel
theorem dX5_passes_19 : decode cX5_passes 19 = .ok (.ifCond .eq 7, 3) := by decide +kernel
theorem dX5_passes_22 : decode cX5_passes 22 = .ok (.iconst 1, 1) := by decide +kernel
theorem dX5_passes_23 : decode cX5_passes 23 = .ok (.goto 4, 3) := by decide +kernel
theorem dX5_passes_26 : decode cX5_passes 26 = .ok (.iconst 0, 1) := by decide +kernel
theorem dX5_passes_27 : decode cX5_passes 27 = .ok (.ireturn, 1) := by decide +kernel
theorem dX5_nextInLine_0 : decode cX5_nextInLine 0 = .ok (.iconst 0, 1) := by decide +kernel
theorem dX5_nextInLine_1 : decode cX5_nextInLine 1 = .ok (.istore_n 2, 1) := by decide +kernel
theorem dX5_nextInLine_2 : decode cX5_nextInLine 2 = .ok (.iload_n 2, 1) := by decide +kernel
theorem dX5_nextInLine_3 : decode cX5_nextInLine 3 = .ok (.aload_n 0, 1) := by decide +kernel
theorem dX5_nextInLine_4 : decode cX5_nextInLine 4 = .ok (.getfield 31, 3) := by decide +kernel
theorem dX5_nextInLine_7 : decode cX5_nextInLine 7 = .ok (.getfield 45, 3) := by decide +kernel
theorem dX5_nextInLine_10 : decode cX5_nextInLine 10 = .ok (.if_icmp .ge 46, 3) := by decide +kernel
theorem dX5_nextInLine_13 : decode cX5_nextInLine 13 = .ok (.iload_n 1, 1) := by decide +kernel
theorem dX5_nextInLine_14 : decode cX5_nextInLine 14 = .ok (.iload_n 2, 1) := by decide +kernel
theorem dX5_nextInLine_15 : decode cX5_nextInLine 15 = .ok (.invokestatic 60, 3) := by decide +kernel
theorem dX5_nextInLine_18 : decode cX5_nextInLine 18 = .ok (.iconst (-1), 1) := by decide +kernel
theorem dX5_nextInLine_19 : decode cX5_nextInLine 19 = .ok (.ixor, 1) := by decide +kernel
theorem dX5_nextInLine_20 : decode cX5_nextInLine 20 = .ok (.iand, 1) := by decide +kernel
theorem dX5_nextInLine_21 : decode cX5_nextInLine 21 = .ok (.istore_n 3, 1) := by decide +kernel
theorem dX5_nextInLine_22 : decode cX5_nextInLine 22 = .ok (.iload_n 1, 1) := by decide +kernel
theorem dX5_nextInLine_23 : decode cX5_nextInLine 23 = .ok (.iload_n 2, 1) := by decide +kernel
theorem dX5_nextInLine_24 : decode cX5_nextInLine 24 = .ok (.invokestatic 53, 3) := by decide +kernel
theorem dX5_nextInLine_27 : decode cX5_nextInLine 27 = .ok (.ifCond .eq 23, 3) := by decide +kernel
theorem dX5_nextInLine_30 : decode cX5_nextInLine 30 = .ok (.aload_n 0, 1) := by decide +kernel
theorem dX5_nextInLine_31 : decode cX5_nextInLine 31 = .ok (.iload_n 2, 1) := by decide +kernel
theorem dX5_nextInLine_32 : decode cX5_nextInLine 32 = .ok (.iload_n 3, 1) := by decide +kernel
theorem dX5_nextInLine_33 : decode cX5_nextInLine 33 = .ok (.invokevirtual 80, 3) := by decide +kernel
theorem dX5_nextInLine_36 : decode cX5_nextInLine 36 = .ok (.ifCond .eq 14, 3) := by decide +kernel
theorem dX5_nextInLine_39 : decode cX5_nextInLine 39 = .ok (.aload_n 0, 1) := by decide +kernel
theorem dX5_nextInLine_40 : decode cX5_nextInLine 40 = .ok (.iload_n 3, 1) := by decide +kernel
theorem dX5_nextInLine_41 : decode cX5_nextInLine 41 = .ok (.invokevirtual 77, 3) := by decide +kernel
theorem dX5_nextInLine_44 : decode cX5_nextInLine 44 = .ok (.iload_n 3, 1) := by decide +kernel
theorem dX5_nextInLine_45 : decode cX5_nextInLine 45 = .ok (.if_icmp .ne 5, 3) := by decide +kernel
theorem dX5_nextInLine_48 : decode cX5_nextInLine 48 = .ok (.iload_n 2, 1) := by decide +kernel
theorem dX5_nextInLine_49 : decode cX5_nextInLine 49 = .ok (.ireturn, 1) := by decide +kernel
theorem dX5_nextInLine_50 : decode cX5_nextInLine 50 = .ok (.iinc 2 1, 3) := by decide +kernel
theorem dX5_nextInLine_53 : decode cX5_nextInLine 53 = .ok (.goto (-51), 3) := by decide +kernel
theorem dX5_nextInLine_56 : decode cX5_nextInLine 56 = .ok (.iconst (-1), 1) := by decide +kernel
theorem dX5_nextInLine_57 : decode cX5_nextInLine 57 = .ok (.ireturn, 1) := by decide +kernel
theorem dX5_nameInLine_0 : decode cX5_nameInLine 0 = .ok (.iload_n 1, 1) := by decide +kernel
theorem dX5_nameInLine_1 : decode cX5_nameInLine 1 = .ok (.ifCond .lt 27, 3) := by decide +kernel
theorem dX5_nameInLine_4 : decode cX5_nameInLine 4 = .ok (.iload_n 1, 1) := by decide +kernel
theorem dX5_nameInLine_5 : decode cX5_nameInLine 5 = .ok (.aload_n 0, 1) := by decide +kernel
theorem dX5_nameInLine_6 : decode cX5_nameInLine 6 = .ok (.getfield 28, 3) := by decide +kernel
theorem dX5_nameInLine_9 : decode cX5_nameInLine 9 = .ok (.if_icmp .ge 19, 3) := by decide +kernel
theorem dX5_nameInLine_12 : decode cX5_nameInLine 12 = .ok (.aload_n 0, 1) := by decide +kernel
theorem dX5_nameInLine_13 : decode cX5_nameInLine 13 = .ok (.getfield 15, 3) := by decide +kernel
theorem dX5_nameInLine_16 : decode cX5_nameInLine 16 = .ok (.aload_n 0, 1) := by decide +kernel
theorem dX5_nameInLine_17 : decode cX5_nameInLine 17 = .ok (.getfield 25, 3) := by decide +kernel
theorem dX5_nameInLine_20 : decode cX5_nameInLine 20 = .ok (.iload_n 1, 1) := by decide +kernel
theorem dX5_nameInLine_21 : decode cX5_nameInLine 21 = .ok (.iaload, 1) := by decide +kernel
theorem dX5_nameInLine_22 : decode cX5_nameInLine 22 = .ok (.invokestatic 53, 3) := by decide +kernel
theorem dX5_nameInLine_25 : decode cX5_nameInLine 25 = .ok (.ifCond .eq 5, 3) := by decide +kernel
theorem dX5_nameInLine_28 : decode cX5_nameInLine 28 = .ok (.iconst (-1), 1) := by decide +kernel
theorem dX5_nameInLine_29 : decode cX5_nameInLine 29 = .ok (.ireturn, 1) := by decide +kernel
theorem dX5_nameInLine_30 : decode cX5_nameInLine 30 = .ok (.iconst 0, 1) := by decide +kernel
theorem dX5_nameInLine_31 : decode cX5_nameInLine 31 = .ok (.istore_n 2, 1) := by decide +kernel
theorem dX5_nameInLine_32 : decode cX5_nameInLine 32 = .ok (.iload_n 1, 1) := by decide +kernel
theorem dX5_nameInLine_33 : decode cX5_nameInLine 33 = .ok (.iconst 1, 1) := by decide +kernel
theorem dX5_nameInLine_34 : decode cX5_nameInLine 34 = .ok (.iadd, 1) := by decide +kernel
theorem dX5_nameInLine_35 : decode cX5_nameInLine 35 = .ok (.istore_n 3, 1) := by decide +kernel
theorem dX5_nameInLine_36 : decode cX5_nameInLine 36 = .ok (.iload_n 3, 1) := by decide +kernel
theorem dX5_nameInLine_37 : decode cX5_nameInLine 37 = .ok (.aload_n 0, 1) := by decide +kernel
theorem dX5_nameInLine_38 : decode cX5_nameInLine 38 = .ok (.getfield 28, 3) := by decide +kernel
theorem dX5_nameInLine_41 : decode cX5_nameInLine 41 = .ok (.if_icmp .ge 21, 3) := by decide +kernel
theorem dX5_nameInLine_44 : decode cX5_nameInLine 44 = .ok (.iload_n 2, 1) := by decide +kernel
theorem dX5_nameInLine_45 : decode cX5_nameInLine 45 = .ok (.aload_n 0, 1) := by decide +kernel
theorem dX5_nameInLine_46 : decode cX5_nameInLine 46 = .ok (.getfield 25, 3) := by decide +kernel
theorem dX5_nameInLine_49 : decode cX5_nameInLine 49 = .ok (.iload_n 3, 1) := by decide +kernel
theorem dX5_nameInLine_50 : decode cX5_nameInLine 50 = .ok (.iaload, 1) := by decide +kernel
theorem dX5_nameInLine_51 : decode cX5_nameInLine 51 = .ok (.invokestatic 60, 3) := by decide +kernel
theorem dX5_nameInLine_54 : decode cX5_nameInLine 54 = .ok (.ior, 1) := by decide +kernel
theorem dX5_nameInLine_55 : decode cX5_nameInLine 55 = .ok (.istore_n 2, 1) := by decide +kernel
theorem dX5_nameInLine_56 : decode cX5_nameInLine 56 = .ok (.iinc 3 1, 3) := by decide +kernel
theorem dX5_nameInLine_59 : decode cX5_nameInLine 59 = .ok (.goto (-23), 3) := by decide +kernel
theorem dX5_nameInLine_62 : decode cX5_nameInLine 62 = .ok (.iconst 0, 1) := by decide +kernel
theorem dX5_nameInLine_63 : decode cX5_nameInLine 63 = .ok (.istore_n 3, 1) := by decide +kernel
theorem dX5_nameInLine_64 : decode cX5_nameInLine 64 = .ok (.iload_n 3, 1) := by decide +kernel
theorem dX5_nameInLine_65 : decode cX5_nameInLine 65 = .ok (.aload_n 0, 1) := by decide +kernel
theorem dX5_nameInLine_66 : decode cX5_nameInLine 66 = .ok (.getfield 31, 3) := by decide +kernel
theorem dX5_nameInLine_69 : decode cX5_nameInLine 69 = .ok (.getfield 45, 3) := by decide +kernel
theorem dX5_nameInLine_72 : decode cX5_nameInLine 72 = .ok (.if_icmp .ge 31, 3) := by decide +kernel
theorem dX5_nameInLine_75 : decode cX5_nameInLine 75 = .ok (.aload_n 0, 1) := by decide +kernel
theorem dX5_nameInLine_76 : decode cX5_nameInLine 76 = .ok (.getfield 21, 3) := by decide +kernel
theorem dX5_nameInLine_79 : decode cX5_nameInLine 79 = .ok (.aload_n 0, 1) := by decide +kernel
theorem dX5_nameInLine_80 : decode cX5_nameInLine 80 = .ok (.getfield 25, 3) := by decide +kernel
theorem dX5_nameInLine_83 : decode cX5_nameInLine 83 = .ok (.iload_n 1, 1) := by decide +kernel
theorem dX5_nameInLine_84 : decode cX5_nameInLine 84 = .ok (.iaload, 1) := by decide +kernel
theorem dX5_nameInLine_85 : decode cX5_nameInLine 85 = .ok (.iaload, 1) := by decide +kernel
theorem dX5_nameInLine_86 : decode cX5_nameInLine 86 = .ok (.iload_n 2, 1) := by decide +kernel
theorem dX5_nameInLine_87 : decode cX5_nameInLine 87 = .ok (.iand, 1) := by decide +kernel
theorem dX5_nameInLine_88 : decode cX5_nameInLine 88 = .ok (.iload_n 3, 1) := by decide +kernel
theorem dX5_nameInLine_89 : decode cX5_nameInLine 89 = .ok (.invokestatic 53, 3) := by decide +kernel
theorem dX5_nameInLine_92 : decode cX5_nameInLine 92 = .ok (.ifCond .eq 5, 3) := by decide +kernel
theorem dX5_nameInLine_95 : decode cX5_nameInLine 95 = .ok (.iload_n 3, 1) := by decide +kernel
theorem dX5_nameInLine_96 : decode cX5_nameInLine 96 = .ok (.ireturn, 1) := by decide +kernel
theorem dX5_nameInLine_97 : decode cX5_nameInLine 97 = .ok (.iinc 3 1, 3) := by decide +kernel
theorem dX5_nameInLine_100 : decode cX5_nameInLine 100 = .ok (.goto (-36), 3) := by decide +kernel
theorem dX5_nameInLine_103 : decode cX5_nameInLine 103 = .ok (.iconst (-1), 1) := by decide +kernel
theorem dX5_nameInLine_104 : decode cX5_nameInLine 104 = .ok (.ireturn, 1) := by decide +kernel
theorem dX5_fewestTold_0 : decode cX5_fewestTold 0 = .ok (.aload_n 0, 1) := by decide +kernel
theorem dX5_fewestTold_1 : decode cX5_fewestTold 1 = .ok (.iload_n 1, 1) := by decide +kernel
theorem dX5_fewestTold_2 : decode cX5_fewestTold 2 = .ok (.invokevirtual 66, 3) := by decide +kernel
theorem dX5_fewestTold_5 : decode cX5_fewestTold 5 = .ok (.iconst 0, 1) := by decide +kernel
theorem dX5_fewestTold_6 : decode cX5_fewestTold 6 = .ok (.istore_n 2, 1) := by decide +kernel
theorem dX5_fewestTold_7 : decode cX5_fewestTold 7 = .ok (.iconst 0, 1) := by decide +kernel
theorem dX5_fewestTold_8 : decode cX5_fewestTold 8 = .ok (.istore_n 3, 1) := by decide +kernel
theorem dX5_fewestTold_9 : decode cX5_fewestTold 9 = .ok (.iload_n 3, 1) := by decide +kernel
theorem dX5_fewestTold_10 : decode cX5_fewestTold 10 = .ok (.aload_n 0, 1) := by decide +kernel
theorem dX5_fewestTold_11 : decode cX5_fewestTold 11 = .ok (.getfield 31, 3) := by decide +kernel
theorem dX5_fewestTold_14 : decode cX5_fewestTold 14 = .ok (.getfield 45, 3) := by decide +kernel
theorem dX5_fewestTold_17 : decode cX5_fewestTold 17 = .ok (.if_icmp .ge 72, 3) := by decide +kernel
theorem dX5_fewestTold_20 : decode cX5_fewestTold 20 = .ok (.aload_n 0, 1) := by decide +kernel
theorem dX5_fewestTold_21 : decode cX5_fewestTold 21 = .ok (.getfield 9, 3) := by decide +kernel
theorem dX5_fewestTold_24 : decode cX5_fewestTold 24 = .ok (.iload_n 3, 1) := by decide +kernel
theorem dX5_fewestTold_25 : decode cX5_fewestTold 25 = .ok (.invokestatic 53, 3) := by decide +kernel
theorem dX5_fewestTold_28 : decode cX5_fewestTold 28 = .ok (.ifCond .eq 55, 3) := by decide +kernel
theorem dX5_fewestTold_31 : decode cX5_fewestTold 31 = .ok (.aload_n 0, 1) := by decide +kernel
theorem dX5_fewestTold_32 : decode cX5_fewestTold 32 = .ok (.iload_n 3, 1) := by decide +kernel
theorem dX5_fewestTold_33 : decode cX5_fewestTold 33 = .ok (.aload_n 0, 1) := by decide +kernel
theorem dX5_fewestTold_34 : decode cX5_fewestTold 34 = .ok (.getfield 9, 3) := by decide +kernel
theorem dX5_fewestTold_37 : decode cX5_fewestTold 37 = .ok (.invokevirtual 80, 3) := by decide +kernel
theorem dX5_fewestTold_40 : decode cX5_fewestTold 40 = .ok (.ifCond .ne 43, 3) := by decide +kernel
theorem dX5_fewestTold_43 : decode cX5_fewestTold 43 = .ok (.aload_n 0, 1) := by decide +kernel
theorem dX5_fewestTold_44 : decode cX5_fewestTold 44 = .ok (.getfield 18, 3) := by decide +kernel
theorem dX5_fewestTold_47 : decode cX5_fewestTold 47 = .ok (.iload_n 3, 1) := by decide +kernel
theorem dX5_fewestTold_48 : decode cX5_fewestTold 48 = .ok (.invokestatic 53, 3) := by decide +kernel
theorem dX5_fewestTold_51 : decode cX5_fewestTold 51 = .ok (.ifCond .eq 27, 3) := by decide +kernel
theorem dX5_fewestTold_54 : decode cX5_fewestTold 54 = .ok (.aload_n 0, 1) := by decide +kernel
theorem dX5_fewestTold_55 : decode cX5_fewestTold 55 = .ok (.getfield 31, 3) := by decide +kernel
theorem dX5_fewestTold_58 : decode cX5_fewestTold 58 = .ok (.aload_n 0, 1) := by decide +kernel
theorem dX5_fewestTold_59 : decode cX5_fewestTold 59 = .ok (.getfield 31, 3) := by decide +kernel
theorem dX5_fewestTold_62 : decode cX5_fewestTold 62 = .ok (.getfield 83, 3) := by decide +kernel
theorem dX5_fewestTold_65 : decode cX5_fewestTold 65 = .ok (.iload_n 3, 1) := by decide +kernel
theorem dX5_fewestTold_66 : decode cX5_fewestTold 66 = .ok (.iaload, 1) := by decide +kernel
theorem dX5_fewestTold_67 : decode cX5_fewestTold 67 = .ok (.invokevirtual 86, 3) := by decide +kernel
theorem dX5_fewestTold_70 : decode cX5_fewestTold 70 = .ok (.aload_n 0, 1) := by decide +kernel
theorem dX5_fewestTold_71 : decode cX5_fewestTold 71 = .ok (.getfield 9, 3) := by decide +kernel
theorem dX5_fewestTold_74 : decode cX5_fewestTold 74 = .ok (.iand, 1) := by decide +kernel
theorem dX5_fewestTold_75 : decode cX5_fewestTold 75 = .ok (.ifCond .ne 5, 3) := by decide +kernel
theorem dX5_fewestTold_78 : decode cX5_fewestTold 78 = .ok (.iconst (-1), 1) := by decide +kernel
theorem dX5_fewestTold_79 : decode cX5_fewestTold 79 = .ok (.ireturn, 1) := by decide +kernel
theorem dX5_fewestTold_80 : decode cX5_fewestTold 80 = .ok (.iinc 2 1, 3) := by decide +kernel
theorem dX5_fewestTold_83 : decode cX5_fewestTold 83 = .ok (.iinc 3 1, 3) := by decide +kernel
theorem dX5_fewestTold_86 : decode cX5_fewestTold 86 = .ok (.goto (-77), 3) := by decide +kernel
theorem dX5_fewestTold_89 : decode cX5_fewestTold 89 = .ok (.iload_n 2, 1) := by decide +kernel
theorem dX5_fewestTold_90 : decode cX5_fewestTold 90 = .ok (.ireturn, 1) := by decide +kernel
theorem dX5_cheapestOxen_0 : decode cX5_cheapestOxen 0 = .ok (.aload_n 0, 1) := by decide +kernel
theorem dX5_cheapestOxen_1 : decode cX5_cheapestOxen 1 = .ok (.iload_n 1, 1) := by decide +kernel
theorem dX5_cheapestOxen_2 : decode cX5_cheapestOxen 2 = .ok (.invokevirtual 66, 3) := by decide +kernel
theorem dX5_cheapestOxen_5 : decode cX5_cheapestOxen 5 = .ok (.iconst (-1), 1) := by decide +kernel
theorem dX5_cheapestOxen_6 : decode cX5_cheapestOxen 6 = .ok (.istore_n 2, 1) := by decide +kernel
theorem dX5_cheapestOxen_7 : decode cX5_cheapestOxen 7 = .ok (.iconst 0, 1) := by decide +kernel
theorem dX5_cheapestOxen_8 : decode cX5_cheapestOxen 8 = .ok (.istore_n 3, 1) := by decide +kernel
theorem dX5_cheapestOxen_9 : decode cX5_cheapestOxen 9 = .ok (.iload_n 3, 1) := by decide +kernel
theorem dX5_cheapestOxen_10 : decode cX5_cheapestOxen 10 = .ok (.aload_n 0, 1) := by decide +kernel
theorem dX5_cheapestOxen_11 : decode cX5_cheapestOxen 11 = .ok (.getfield 31, 3) := by decide +kernel
theorem dX5_cheapestOxen_14 : decode cX5_cheapestOxen 14 = .ok (.getfield 89, 3) := by decide +kernel
theorem dX5_cheapestOxen_17 : decode cX5_cheapestOxen 17 = .ok (.invokestatic 60, 3) := by decide +kernel
theorem dX5_cheapestOxen_20 : decode cX5_cheapestOxen 20 = .ok (.if_icmp .ge 55, 3) := by decide +kernel
theorem dX5_cheapestOxen_23 : decode cX5_cheapestOxen 23 = .ok (.iload_n 2, 1) := by decide +kernel
theorem dX5_cheapestOxen_24 : decode cX5_cheapestOxen 24 = .ok (.iconst (-1), 1) := by decide +kernel
theorem dX5_cheapestOxen_25 : decode cX5_cheapestOxen 25 = .ok (.if_icmp .eq 22, 3) := by decide +kernel
theorem dX5_cheapestOxen_28 : decode cX5_cheapestOxen 28 = .ok (.aload_n 0, 1) := by decide +kernel
theorem dX5_cheapestOxen_29 : decode cX5_cheapestOxen 29 = .ok (.getfield 31, 3) := by decide +kernel
theorem dX5_cheapestOxen_32 : decode cX5_cheapestOxen 32 = .ok (.iload_n 3, 1) := by decide +kernel
theorem dX5_cheapestOxen_33 : decode cX5_cheapestOxen 33 = .ok (.invokevirtual 92, 3) := by decide +kernel
theorem dX5_cheapestOxen_36 : decode cX5_cheapestOxen 36 = .ok (.aload_n 0, 1) := by decide +kernel
theorem dX5_cheapestOxen_37 : decode cX5_cheapestOxen 37 = .ok (.getfield 31, 3) := by decide +kernel
theorem dX5_cheapestOxen_40 : decode cX5_cheapestOxen 40 = .ok (.iload_n 2, 1) := by decide +kernel
theorem dX5_cheapestOxen_41 : decode cX5_cheapestOxen 41 = .ok (.invokevirtual 92, 3) := by decide +kernel
theorem dX5_cheapestOxen_44 : decode cX5_cheapestOxen 44 = .ok (.if_icmp .ge 7, 3) := by decide +kernel
theorem dX5_cheapestOxen_47 : decode cX5_cheapestOxen 47 = .ok (.iconst 1, 1) := by decide +kernel
theorem dX5_cheapestOxen_48 : decode cX5_cheapestOxen 48 = .ok (.goto 4, 3) := by decide +kernel
theorem dX5_cheapestOxen_51 : decode cX5_cheapestOxen 51 = .ok (.iconst 0, 1) := by decide +kernel
theorem dX5_cheapestOxen_52 : decode cX5_cheapestOxen 52 = .ok (.istore 4, 2) := by decide +kernel
theorem dX5_cheapestOxen_54 : decode cX5_cheapestOxen 54 = .ok (.iload 4, 2) := by decide +kernel
theorem dX5_cheapestOxen_56 : decode cX5_cheapestOxen 56 = .ok (.ifCond .eq 13, 3) := by decide +kernel
theorem dX5_cheapestOxen_59 : decode cX5_cheapestOxen 59 = .ok (.aload_n 0, 1) := by decide +kernel
theorem dX5_cheapestOxen_60 : decode cX5_cheapestOxen 60 = .ok (.iload_n 3, 1) := by decide +kernel
theorem dX5_cheapestOxen_61 : decode cX5_cheapestOxen 61 = .ok (.invokevirtual 95, 3) := by decide +kernel
theorem dX5_cheapestOxen_64 : decode cX5_cheapestOxen 64 = .ok (.ifCond .eq 5, 3) := by decide +kernel
theorem dX5_cheapestOxen_67 : decode cX5_cheapestOxen 67 = .ok (.iload_n 3, 1) := by decide +kernel
theorem dX5_cheapestOxen_68 : decode cX5_cheapestOxen 68 = .ok (.istore_n 2, 1) := by decide +kernel
theorem dX5_cheapestOxen_69 : decode cX5_cheapestOxen 69 = .ok (.iinc 3 1, 3) := by decide +kernel
theorem dX5_cheapestOxen_72 : decode cX5_cheapestOxen 72 = .ok (.goto (-63), 3) := by decide +kernel
theorem dX5_cheapestOxen_75 : decode cX5_cheapestOxen 75 = .ok (.iload_n 2, 1) := by decide +kernel
theorem dX5_cheapestOxen_76 : decode cX5_cheapestOxen 76 = .ok (.ireturn, 1) := by decide +kernel
theorem dX5_allPassBefore_0 : decode cX5_allPassBefore 0 = .ok (.aload_n 0, 1) := by decide +kernel
theorem dX5_allPassBefore_1 : decode cX5_allPassBefore 1 = .ok (.getfield 31, 3) := by decide +kernel
theorem dX5_allPassBefore_4 : decode cX5_allPassBefore 4 = .ok (.iload_n 1, 1) := by decide +kernel
theorem dX5_allPassBefore_5 : decode cX5_allPassBefore 5 = .ok (.invokevirtual 99, 3) := by decide +kernel
theorem dX5_allPassBefore_8 : decode cX5_allPassBefore 8 = .ok (.istore_n 2, 1) := by decide +kernel
theorem dX5_allPassBefore_9 : decode cX5_allPassBefore 9 = .ok (.iconst 0, 1) := by decide +kernel
theorem dX5_allPassBefore_10 : decode cX5_allPassBefore 10 = .ok (.istore_n 3, 1) := by decide +kernel
theorem dX5_allPassBefore_11 : decode cX5_allPassBefore 11 = .ok (.iload_n 3, 1) := by decide +kernel
theorem dX5_allPassBefore_12 : decode cX5_allPassBefore 12 = .ok (.aload_n 0, 1) := by decide +kernel
theorem dX5_allPassBefore_13 : decode cX5_allPassBefore 13 = .ok (.getfield 31, 3) := by decide +kernel
theorem dX5_allPassBefore_16 : decode cX5_allPassBefore 16 = .ok (.getfield 45, 3) := by decide +kernel
theorem dX5_allPassBefore_19 : decode cX5_allPassBefore 19 = .ok (.if_icmp .ge 70, 3) := by decide +kernel
theorem dX5_allPassBefore_22 : decode cX5_allPassBefore 22 = .ok (.aload_n 0, 1) := by decide +kernel
theorem dX5_allPassBefore_23 : decode cX5_allPassBefore 23 = .ok (.getfield 18, 3) := by decide +kernel
theorem dX5_allPassBefore_26 : decode cX5_allPassBefore 26 = .ok (.iload_n 3, 1) := by decide +kernel
theorem dX5_allPassBefore_27 : decode cX5_allPassBefore 27 = .ok (.invokestatic 53, 3) := by decide +kernel
theorem dX5_allPassBefore_30 : decode cX5_allPassBefore 30 = .ok (.ifCond .eq 20, 3) := by decide +kernel
theorem dX5_allPassBefore_33 : decode cX5_allPassBefore 33 = .ok (.iload_n 2, 1) := by decide +kernel
theorem dX5_allPassBefore_34 : decode cX5_allPassBefore 34 = .ok (.aload_n 0, 1) := by decide +kernel
theorem dX5_allPassBefore_35 : decode cX5_allPassBefore 35 = .ok (.getfield 31, 3) := by decide +kernel
theorem dX5_allPassBefore_38 : decode cX5_allPassBefore 38 = .ok (.getfield 83, 3) := by decide +kernel
theorem dX5_allPassBefore_41 : decode cX5_allPassBefore 41 = .ok (.iload_n 3, 1) := by decide +kernel
theorem dX5_allPassBefore_42 : decode cX5_allPassBefore 42 = .ok (.iaload, 1) := by decide +kernel
theorem dX5_allPassBefore_43 : decode cX5_allPassBefore 43 = .ok (.if_icmp .le 7, 3) := by decide +kernel
theorem dX5_allPassBefore_46 : decode cX5_allPassBefore 46 = .ok (.iconst 1, 1) := by decide +kernel
theorem dX5_allPassBefore_47 : decode cX5_allPassBefore 47 = .ok (.goto 4, 3) := by decide +kernel
theorem dX5_allPassBefore_50 : decode cX5_allPassBefore 50 = .ok (.iconst 0, 1) := by decide +kernel
theorem dX5_allPassBefore_51 : decode cX5_allPassBefore 51 = .ok (.istore 4, 2) := by decide +kernel
theorem dX5_allPassBefore_53 : decode cX5_allPassBefore 53 = .ok (.aload_n 0, 1) := by decide +kernel
theorem dX5_allPassBefore_54 : decode cX5_allPassBefore 54 = .ok (.getfield 9, 3) := by decide +kernel
theorem dX5_allPassBefore_57 : decode cX5_allPassBefore 57 = .ok (.iload_n 3, 1) := by decide +kernel
theorem dX5_allPassBefore_58 : decode cX5_allPassBefore 58 = .ok (.invokestatic 53, 3) := by decide +kernel
theorem dX5_allPassBefore_61 : decode cX5_allPassBefore 61 = .ok (.ifCond .eq 22, 3) := by decide +kernel
theorem dX5_allPassBefore_64 : decode cX5_allPassBefore 64 = .ok (.iload 4, 2) := by decide +kernel
theorem dX5_allPassBefore_66 : decode cX5_allPassBefore 66 = .ok (.ifCond .ne 17, 3) := by decide +kernel
theorem dX5_allPassBefore_69 : decode cX5_allPassBefore 69 = .ok (.aload_n 0, 1) := by decide +kernel
theorem dX5_allPassBefore_70 : decode cX5_allPassBefore 70 = .ok (.iload_n 3, 1) := by decide +kernel
theorem dX5_allPassBefore_71 : decode cX5_allPassBefore 71 = .ok (.aload_n 0, 1) := by decide +kernel
theorem dX5_allPassBefore_72 : decode cX5_allPassBefore 72 = .ok (.getfield 9, 3) := by decide +kernel
theorem dX5_allPassBefore_75 : decode cX5_allPassBefore 75 = .ok (.invokevirtual 80, 3) := by decide +kernel
theorem dX5_allPassBefore_78 : decode cX5_allPassBefore 78 = .ok (.ifCond .ne 5, 3) := by decide +kernel
theorem dX5_allPassBefore_81 : decode cX5_allPassBefore 81 = .ok (.iconst 0, 1) := by decide +kernel
theorem dX5_allPassBefore_82 : decode cX5_allPassBefore 82 = .ok (.ireturn, 1) := by decide +kernel
theorem dX5_allPassBefore_83 : decode cX5_allPassBefore 83 = .ok (.iinc 3 1, 3) := by decide +kernel
theorem dX5_allPassBefore_86 : decode cX5_allPassBefore 86 = .ok (.goto (-75), 3) := by decide +kernel
theorem dX5_allPassBefore_89 : decode cX5_allPassBefore 89 = .ok (.iconst 1, 1) := by decide +kernel
theorem dX5_allPassBefore_90 : decode cX5_allPassBefore 90 = .ok (.ireturn, 1) := by decide +kernel
