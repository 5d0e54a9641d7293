theorem dX1_init_0 : decode cX1_init 0 = .ok (.aload_n 0, 1) := by decide +kernel
theorem dX1_init_1 : decode cX1_init 1 = .ok (.invokespecial 3, 3) := by decide +kernel
theorem dX1_init_4 : decode cX1_init 4 = .ok (.aload_n 0, 1) := by decide +kernel
theorem dX1_init_5 : decode cX1_init 5 = .ok (.iconst 5, 1) := by decide +kernel
theorem dX1_init_6 : decode cX1_init 6 = .ok (.newarray .int, 2) := by decide +kernel
theorem dX1_init_8 : decode cX1_init 8 = .ok (.putfield 9, 3) := by decide +kernel
theorem dX1_init_11 : decode cX1_init 11 = .ok (.aload_n 0, 1) := by decide +kernel
theorem dX1_init_12 : decode cX1_init 12 = .ok (.bipush 6, 2) := by decide +kernel
theorem dX1_init_14 : decode cX1_init 14 = .ok (.newarray .int, 2) := by decide +kernel
theorem dX1_init_16 : decode cX1_init 16 = .ok (.putfield 15, 3) := by decide +kernel
theorem dX1_init_19 : decode cX1_init 19 = .ok (.aload_n 0, 1) := by decide +kernel
theorem dX1_init_20 : decode cX1_init 20 = .ok (.bipush 6, 2) := by decide +kernel
theorem dX1_init_22 : decode cX1_init 22 = .ok (.newarray .int, 2) := by decide +kernel
theorem dX1_init_24 : decode cX1_init 24 = .ok (.putfield 18, 3) := by decide +kernel
theorem dX1_init_27 : decode cX1_init 27 = .ok (.aload_n 0, 1) := by decide +kernel
theorem dX1_init_28 : decode cX1_init 28 = .ok (.bipush 6, 2) := by decide +kernel
theorem dX1_init_30 : decode cX1_init 30 = .ok (.newarray .int, 2) := by decide +kernel
theorem dX1_init_32 : decode cX1_init 32 = .ok (.putfield 21, 3) := by decide +kernel
theorem dX1_init_35 : decode cX1_init 35 = .ok (.aload_n 0, 1) := by decide +kernel
theorem dX1_init_36 : decode cX1_init 36 = .ok (.iconst 5, 1) := by decide +kernel
theorem dX1_init_37 : decode cX1_init 37 = .ok (.newarray .int, 2) := by decide +kernel
theorem dX1_init_39 : decode cX1_init 39 = .ok (.putfield 24, 3) := by decide +kernel
theorem dX1_init_42 : decode cX1_init 42 = .ok (.aload_n 0, 1) := by decide +kernel
theorem dX1_init_43 : decode cX1_init 43 = .ok (.iconst 5, 1) := by decide +kernel
theorem dX1_init_44 : decode cX1_init 44 = .ok (.newarray .int, 2) := by decide +kernel
theorem dX1_init_46 : decode cX1_init 46 = .ok (.putfield 27, 3) := by decide +kernel
theorem dX1_init_49 : decode cX1_init 49 = .ok (.aload_n 0, 1) := by decide +kernel
theorem dX1_init_50 : decode cX1_init 50 = .ok (.invokevirtual 30, 3) := by decide +kernel
theorem dX1_init_53 : decode cX1_init 53 = .ok (.return_, 1) := by decide +kernel
theorem dX1_clear_0 : decode cX1_clear 0 = .ok (.aload_n 0, 1) := by decide +kernel
theorem dX1_clear_1 : decode cX1_clear 1 = .ok (.bipush 10, 2) := by decide +kernel
theorem dX1_clear_3 : decode cX1_clear 3 = .ok (.putfield 33, 3) := by decide +kernel
theorem dX1_clear_6 : decode cX1_clear 6 = .ok (.aload_n 0, 1) := by decide +kernel
theorem dX1_clear_7 : decode cX1_clear 7 = .ok (.iconst 0, 1) := by decide +kernel
theorem dX1_clear_8 : decode cX1_clear 8 = .ok (.putfield 37, 3) := by decide +kernel
theorem dX1_clear_11 : decode cX1_clear 11 = .ok (.aload_n 0, 1) := by decide +kernel
theorem dX1_clear_12 : decode cX1_clear 12 = .ok (.iconst 0, 1) := by decide +kernel
theorem dX1_clear_13 : decode cX1_clear 13 = .ok (.putfield 40, 3) := by decide +kernel
theorem dX1_clear_16 : decode cX1_clear 16 = .ok (.aload_n 0, 1) := by decide +kernel
theorem dX1_clear_17 : decode cX1_clear 17 = .ok (.iconst 0, 1) := by decide +kernel
theorem dX1_clear_18 : decode cX1_clear 18 = .ok (.putfield 43, 3) := by decide +kernel
theorem dX1_clear_21 : decode cX1_clear 21 = .ok (.return_, 1) := by decide +kernel
theorem dX1_copyFrom_0 : decode cX1_copyFrom 0 = .ok (.aload_n 0, 1) := by decide +kernel
theorem dX1_copyFrom_1 : decode cX1_copyFrom 1 = .ok (.aload_n 1, 1) := by decide +kernel
theorem dX1_copyFrom_2 : decode cX1_copyFrom 2 = .ok (.getfield 33, 3) := by decide +kernel
theorem dX1_copyFrom_5 : decode cX1_copyFrom 5 = .ok (.putfield 33, 3) := by decide +kernel
theorem dX1_copyFrom_8 : decode cX1_copyFrom 8 = .ok (.aload_n 0, 1) := by decide +kernel
theorem dX1_copyFrom_9 : decode cX1_copyFrom 9 = .ok (.aload_n 1, 1) := by decide +kernel
theorem dX1_copyFrom_10 : decode cX1_copyFrom 10 = .ok (.getfield 37, 3) := by decide +kernel
theorem dX1_copyFrom_13 : decode cX1_copyFrom 13 = .ok (.putfield 37, 3) := by decide +kernel
theorem dX1_copyFrom_16 : decode cX1_copyFrom 16 = .ok (.aload_n 0, 1) := by decide +kernel
theorem dX1_copyFrom_17 : decode cX1_copyFrom 17 = .ok (.aload_n 1, 1) := by decide +kernel
theorem dX1_copyFrom_18 : decode cX1_copyFrom 18 = .ok (.getfield 40, 3) := by decide +kernel
theorem dX1_copyFrom_21 : decode cX1_copyFrom 21 = .ok (.putfield 40, 3) := by decide +kernel
theorem dX1_copyFrom_24 : decode cX1_copyFrom 24 = .ok (.aload_n 0, 1) := by decide +kernel
theorem dX1_copyFrom_25 : decode cX1_copyFrom 25 = .ok (.aload_n 1, 1) := by decide +kernel
theorem dX1_copyFrom_26 : decode cX1_copyFrom 26 = .ok (.getfield 43, 3) := by decide +kernel
theorem dX1_copyFrom_29 : decode cX1_copyFrom 29 = .ok (.putfield 43, 3) := by decide +kernel
theorem dX1_copyFrom_32 : decode cX1_copyFrom 32 = .ok (.aload_n 1, 1) := by decide +kernel
theorem dX1_copyFrom_33 : decode cX1_copyFrom 33 = .ok (.getfield 9, 3) := by decide +kernel
theorem dX1_copyFrom_36 : decode cX1_copyFrom 36 = .ok (.iconst 0, 1) := by decide +kernel
theorem dX1_copyFrom_37 : decode cX1_copyFrom 37 = .ok (.aload_n 0, 1) := by decide +kernel
theorem dX1_copyFrom_38 : decode cX1_copyFrom 38 = .ok (.getfield 9, 3) := by decide +kernel
theorem dX1_copyFrom_41 : decode cX1_copyFrom 41 = .ok (.iconst 0, 1) := by decide +kernel
theorem dX1_copyFrom_42 : decode cX1_copyFrom 42 = .ok (.iconst 5, 1) := by decide +kernel
theorem dX1_copyFrom_43 : decode cX1_copyFrom 43 = .ok (.invokestatic 46, 3) := by decide +kernel
theorem dX1_copyFrom_46 : decode cX1_copyFrom 46 = .ok (.aload_n 1, 1) := by decide +kernel
theorem dX1_copyFrom_47 : decode cX1_copyFrom 47 = .ok (.getfield 15, 3) := by decide +kernel
theorem dX1_copyFrom_50 : decode cX1_copyFrom 50 = .ok (.iconst 0, 1) := by decide +kernel
theorem dX1_copyFrom_51 : decode cX1_copyFrom 51 = .ok (.aload_n 0, 1) := by decide +kernel
theorem dX1_copyFrom_52 : decode cX1_copyFrom 52 = .ok (.getfield 15, 3) := by decide +kernel
theorem dX1_copyFrom_55 : decode cX1_copyFrom 55 = .ok (.iconst 0, 1) := by decide +kernel
theorem dX1_copyFrom_56 : decode cX1_copyFrom 56 = .ok (.bipush 6, 2) := by decide +kernel
theorem dX1_copyFrom_58 : decode cX1_copyFrom 58 = .ok (.invokestatic 46, 3) := by decide +kernel
theorem dX1_copyFrom_61 : decode cX1_copyFrom 61 = .ok (.aload_n 1, 1) := by decide +kernel
theorem dX1_copyFrom_62 : decode cX1_copyFrom 62 = .ok (.getfield 18, 3) := by decide +kernel
theorem dX1_copyFrom_65 : decode cX1_copyFrom 65 = .ok (.iconst 0, 1) := by decide +kernel
theorem dX1_copyFrom_66 : decode cX1_copyFrom 66 = .ok (.aload_n 0, 1) := by decide +kernel
theorem dX1_copyFrom_67 : decode cX1_copyFrom 67 = .ok (.getfield 18, 3) := by decide +kernel
theorem dX1_copyFrom_70 : decode cX1_copyFrom 70 = .ok (.iconst 0, 1) := by decide +kernel
theorem dX1_copyFrom_71 : decode cX1_copyFrom 71 = .ok (.bipush 6, 2) := by decide +kernel
theorem dX1_copyFrom_73 : decode cX1_copyFrom 73 = .ok (.invokestatic 46, 3) := by decide +kernel
theorem dX1_copyFrom_76 : decode cX1_copyFrom 76 = .ok (.aload_n 1, 1) := by decide +kernel
theorem dX1_copyFrom_77 : decode cX1_copyFrom 77 = .ok (.getfield 21, 3) := by decide +kernel
theorem dX1_copyFrom_80 : decode cX1_copyFrom 80 = .ok (.iconst 0, 1) := by decide +kernel
theorem dX1_copyFrom_81 : decode cX1_copyFrom 81 = .ok (.aload_n 0, 1) := by decide +kernel
theorem dX1_copyFrom_82 : decode cX1_copyFrom 82 = .ok (.getfield 21, 3) := by decide +kernel
theorem dX1_copyFrom_85 : decode cX1_copyFrom 85 = .ok (.iconst 0, 1) := by decide +kernel
theorem dX1_copyFrom_86 : decode cX1_copyFrom 86 = .ok (.bipush 6, 2) := by decide +kernel
theorem dX1_copyFrom_88 : decode cX1_copyFrom 88 = .ok (.invokestatic 46, 3) := by decide +kernel
theorem dX1_copyFrom_91 : decode cX1_copyFrom 91 = .ok (.aload_n 1, 1) := by decide +kernel
theorem dX1_copyFrom_92 : decode cX1_copyFrom 92 = .ok (.getfield 24, 3) := by decide +kernel
theorem dX1_copyFrom_95 : decode cX1_copyFrom 95 = .ok (.iconst 0, 1) := by decide +kernel
theorem dX1_copyFrom_96 : decode cX1_copyFrom 96 = .ok (.aload_n 0, 1) := by decide +kernel
theorem dX1_copyFrom_97 : decode cX1_copyFrom 97 = .ok (.getfield 24, 3) := by decide +kernel
theorem dX1_copyFrom_100 : decode cX1_copyFrom 100 = .ok (.iconst 0, 1) := by decide +kernel
theorem dX1_copyFrom_101 : decode cX1_copyFrom 101 = .ok (.iconst 5, 1) := by decide +kernel
theorem dX1_copyFrom_102 : decode cX1_copyFrom 102 = .ok (.invokestatic 46, 3) := by decide +kernel
theorem dX1_copyFrom_105 : decode cX1_copyFrom 105 = .ok (.aload_n 1, 1) := by decide +kernel
theorem dX1_copyFrom_106 : decode cX1_copyFrom 106 = .ok (.getfield 27, 3) := by decide +kernel
theorem dX1_copyFrom_109 : decode cX1_copyFrom 109 = .ok (.iconst 0, 1) := by decide +kernel
theorem dX1_copyFrom_110 : decode cX1_copyFrom 110 = .ok (.aload_n 0, 1) := by decide +kernel
theorem dX1_copyFrom_111 : decode cX1_copyFrom 111 = .ok (.getfield 27, 3) := by decide +kernel
theorem dX1_copyFrom_114 : decode cX1_copyFrom 114 = .ok (.iconst 0, 1) := by decide +kernel
theorem dX1_copyFrom_115 : decode cX1_copyFrom 115 = .ok (.iconst 5, 1) := by decide +kernel
theorem dX1_copyFrom_116 : decode cX1_copyFrom 116 = .ok (.invokestatic 46, 3) := by decide +kernel
theorem dX1_copyFrom_119 : decode cX1_copyFrom 119 = .ok (.return_, 1) := by decide +kernel
theorem dX1_addBridge_0 : decode cX1_addBridge 0 = .ok (.aload_n 0, 1) := by decide +kernel
theorem dX1_addBridge_1 : decode cX1_addBridge 1 = .ok (.getfield 37, 3) := by decide +kernel
theorem dX1_addBridge_4 : decode cX1_addBridge 4 = .ok (.iconst 5, 1) := by decide +kernel
theorem dX1_addBridge_5 : decode cX1_addBridge 5 = .ok (.if_icmp .ge 23, 3) := by decide +kernel
theorem dX1_addBridge_8 : decode cX1_addBridge 8 = .ok (.aload_n 0, 1) := by decide +kernel
theorem dX1_addBridge_9 : decode cX1_addBridge 9 = .ok (.getfield 9, 3) := by decide +kernel
theorem dX1_addBridge_12 : decode cX1_addBridge 12 = .ok (.aload_n 0, 1) := by decide +kernel
theorem dX1_addBridge_13 : decode cX1_addBridge 13 = .ok (.getfield 37, 3) := by decide +kernel
theorem dX1_addBridge_16 : decode cX1_addBridge 16 = .ok (.iload_n 1, 1) := by decide +kernel
theorem dX1_addBridge_17 : decode cX1_addBridge 17 = .ok (.iastore, 1) := by decide +kernel
theorem dX1_addBridge_18 : decode cX1_addBridge 18 = .ok (.aload_n 0, 1) := by decide +kernel
theorem dX1_addBridge_19 : decode cX1_addBridge 19 = .ok (.dup, 1) := by decide +kernel
theorem dX1_addBridge_20 : decode cX1_addBridge 20 = .ok (.getfield 37, 3) := by decide +kernel
theorem dX1_addBridge_23 : decode cX1_addBridge 23 = .ok (.iconst 1, 1) := by decide +kernel
theorem dX1_addBridge_24 : decode cX1_addBridge 24 = .ok (.iadd, 1) := by decide +kernel
theorem dX1_addBridge_25 : decode cX1_addBridge 25 = .ok (.putfield 37, 3) := by decide +kernel
theorem dX1_addBridge_28 : decode cX1_addBridge 28 = .ok (.return_, 1) := by decide +kernel
theorem dX1_addMan_0 : decode cX1_addMan 0 = .ok (.aload_n 0, 1) := by decide +kernel
theorem dX1_addMan_1 : decode cX1_addMan 1 = .ok (.getfield 40, 3) := by decide +kernel
theorem dX1_addMan_4 : decode cX1_addMan 4 = .ok (.bipush 6, 2) := by decide +kernel
theorem dX1_addMan_6 : decode cX1_addMan 6 = .ok (.if_icmp .ge 43, 3) := by decide +kernel
theorem dX1_addMan_9 : decode cX1_addMan 9 = .ok (.aload_n 0, 1) := by decide +kernel
theorem dX1_addMan_10 : decode cX1_addMan 10 = .ok (.getfield 15, 3) := by decide +kernel
theorem dX1_addMan_13 : decode cX1_addMan 13 = .ok (.aload_n 0, 1) := by decide +kernel
theorem dX1_addMan_14 : decode cX1_addMan 14 = .ok (.getfield 40, 3) := by decide +kernel
theorem dX1_addMan_17 : decode cX1_addMan 17 = .ok (.iload_n 1, 1) := by decide +kernel
theorem dX1_addMan_18 : decode cX1_addMan 18 = .ok (.iastore, 1) := by decide +kernel
theorem dX1_addMan_19 : decode cX1_addMan 19 = .ok (.aload_n 0, 1) := by decide +kernel
theorem dX1_addMan_20 : decode cX1_addMan 20 = .ok (.getfield 18, 3) := by decide +kernel
theorem dX1_addMan_23 : decode cX1_addMan 23 = .ok (.aload_n 0, 1) := by decide +kernel
theorem dX1_addMan_24 : decode cX1_addMan 24 = .ok (.getfield 40, 3) := by decide +kernel
theorem dX1_addMan_27 : decode cX1_addMan 27 = .ok (.iload_n 2, 1) := by decide +kernel
theorem dX1_addMan_28 : decode cX1_addMan 28 = .ok (.iastore, 1) := by decide +kernel
theorem dX1_addMan_29 : decode cX1_addMan 29 = .ok (.aload_n 0, 1) := by decide +kernel
theorem dX1_addMan_30 : decode cX1_addMan 30 = .ok (.getfield 21, 3) := by decide +kernel
theorem dX1_addMan_33 : decode cX1_addMan 33 = .ok (.aload_n 0, 1) := by decide +kernel
theorem dX1_addMan_34 : decode cX1_addMan 34 = .ok (.getfield 40, 3) := by decide +kernel
theorem dX1_addMan_37 : decode cX1_addMan 37 = .ok (.iconst 0, 1) := by decide +kernel
theorem dX1_addMan_38 : decode cX1_addMan 38 = .ok (.iastore, 1) := by decide +kernel
theorem dX1_addMan_39 : decode cX1_addMan 39 = .ok (.aload_n 0, 1) := by decide +kernel
theorem dX1_addMan_40 : decode cX1_addMan 40 = .ok (.dup, 1) := by decide +kernel
theorem dX1_addMan_41 : decode cX1_addMan 41 = .ok (.getfield 40, 3) := by decide +kernel
theorem dX1_addMan_44 : decode cX1_addMan 44 = .ok (.iconst 1, 1) := by decide +kernel
theorem dX1_addMan_45 : decode cX1_addMan 45 = .ok (.iadd, 1) := by decide +kernel
theorem dX1_addMan_46 : decode cX1_addMan 46 = .ok (.putfield 40, 3) := by decide +kernel
theorem dX1_addMan_49 : decode cX1_addMan 49 = .ok (.return_, 1) := by decide +kernel
theorem dX1_addOx_0 : decode cX1_addOx 0 = .ok (.aload_n 0, 1) := by decide +kernel
theorem dX1_addOx_1 : decode cX1_addOx 1 = .ok (.getfield 43, 3) := by decide +kernel
theorem dX1_addOx_4 : decode cX1_addOx 4 = .ok (.iconst 5, 1) := by decide +kernel
theorem dX1_addOx_5 : decode cX1_addOx 5 = .ok (.if_icmp .ge 33, 3) := by decide +kernel
theorem dX1_addOx_8 : decode cX1_addOx 8 = .ok (.aload_n 0, 1) := by decide +kernel
theorem dX1_addOx_9 : decode cX1_addOx 9 = .ok (.getfield 24, 3) := by decide +kernel
theorem dX1_addOx_12 : decode cX1_addOx 12 = .ok (.aload_n 0, 1) := by decide +kernel
theorem dX1_addOx_13 : decode cX1_addOx 13 = .ok (.getfield 43, 3) := by decide +kernel
theorem dX1_addOx_16 : decode cX1_addOx 16 = .ok (.iload_n 1, 1) := by decide +kernel
theorem dX1_addOx_17 : decode cX1_addOx 17 = .ok (.iastore, 1) := by decide +kernel
theorem dX1_addOx_18 : decode cX1_addOx 18 = .ok (.aload_n 0, 1) := by decide +kernel
theorem dX1_addOx_19 : decode cX1_addOx 19 = .ok (.getfield 27, 3) := by decide +kernel
theorem dX1_addOx_22 : decode cX1_addOx 22 = .ok (.aload_n 0, 1) := by decide +kernel
theorem dX1_addOx_23 : decode cX1_addOx 23 = .ok (.getfield 43, 3) := by decide +kernel
theorem dX1_addOx_26 : decode cX1_addOx 26 = .ok (.iload_n 2, 1) := by decide +kernel
theorem dX1_addOx_27 : decode cX1_addOx 27 = .ok (.iastore, 1) := by decide +kernel
theorem dX1_addOx_28 : decode cX1_addOx 28 = .ok (.aload_n 0, 1) := by decide +kernel
theorem dX1_addOx_29 : decode cX1_addOx 29 = .ok (.dup, 1) := by decide +kernel
theorem dX1_addOx_30 : decode cX1_addOx 30 = .ok (.getfield 43, 3) := by decide +kernel
theorem dX1_addOx_33 : decode cX1_addOx 33 = .ok (.iconst 1, 1) := by decide +kernel
theorem dX1_addOx_34 : decode cX1_addOx 34 = .ok (.iadd, 1) := by decide +kernel
theorem dX1_addOx_35 : decode cX1_addOx 35 = .ok (.putfield 43, 3) := by decide +kernel
theorem dX1_addOx_38 : decode cX1_addOx 38 = .ok (.return_, 1) := by decide +kernel
theorem dX1_hasBridge_0 : decode cX1_hasBridge 0 = .ok (.iload_n 1, 1) := by decide +kernel
theorem dX1_hasBridge_1 : decode cX1_hasBridge 1 = .ok (.ifCond .lt 15, 3) := by decide +kernel
theorem dX1_hasBridge_4 : decode cX1_hasBridge 4 = .ok (.iload_n 1, 1) := by decide +kernel
theorem dX1_hasBridge_5 : decode cX1_hasBridge 5 = .ok (.aload_n 0, 1) := by decide +kernel
theorem dX1_hasBridge_6 : decode cX1_hasBridge 6 = .ok (.getfield 37, 3) := by decide +kernel
theorem dX1_hasBridge_9 : decode cX1_hasBridge 9 = .ok (.if_icmp .ge 7, 3) := by decide +kernel
theorem dX1_hasBridge_12 : decode cX1_hasBridge 12 = .ok (.iconst 1, 1) := by decide +kernel
theorem dX1_hasBridge_13 : decode cX1_hasBridge 13 = .ok (.goto 4, 3) := by decide +kernel
theorem dX1_hasBridge_16 : decode cX1_hasBridge 16 = .ok (.iconst 0, 1) := by decide +kernel
theorem dX1_hasBridge_17 : decode cX1_hasBridge 17 = .ok (.ireturn, 1) := by decide +kernel
theorem dX1_hasMan_0 : decode cX1_hasMan 0 = .ok (.iload_n 1, 1) := by decide +kernel
theorem dX1_hasMan_1 : decode cX1_hasMan 1 = .ok (.ifCond .lt 15, 3) := by decide +kernel
theorem dX1_hasMan_4 : decode cX1_hasMan 4 = .ok (.iload_n 1, 1) := by decide +kernel
theorem dX1_hasMan_5 : decode cX1_hasMan 5 = .ok (.aload_n 0, 1) := by decide +kernel
theorem dX1_hasMan_6 : decode cX1_hasMan 6 = .ok (.getfield 40, 3) := by decide +kernel
theorem dX1_hasMan_9 : decode cX1_hasMan 9 = .ok (.if_icmp .ge 7, 3) := by decide +kernel
theorem dX1_hasMan_12 : decode cX1_hasMan 12 = .ok (.iconst 1, 1) := by decide +kernel
theorem dX1_hasMan_13 : decode cX1_hasMan 13 = .ok (.goto 4, 3) := by decide +kernel
theorem dX1_hasMan_16 : decode cX1_hasMan 16 = .ok (.iconst 0, 1) := by decide +kernel
theorem dX1_hasMan_17 : decode cX1_hasMan 17 = .ok (.ireturn, 1) := by decide +kernel
theorem dX1_hasOx_0 : decode cX1_hasOx 0 = .ok (.iload_n 1, 1) := by decide +kernel
theorem dX1_hasOx_1 : decode cX1_hasOx 1 = .ok (.ifCond .lt 15, 3) := by decide +kernel
theorem dX1_hasOx_4 : decode cX1_hasOx 4 = .ok (.iload_n 1, 1) := by decide +kernel
theorem dX1_hasOx_5 : decode cX1_hasOx 5 = .ok (.aload_n 0, 1) := by decide +kernel
theorem dX1_hasOx_6 : decode cX1_hasOx 6 = .ok (.getfield 43, 3) := by decide +kernel
theorem dX1_hasOx_9 : decode cX1_hasOx 9 = .ok (.if_icmp .ge 7, 3) := by decide +kernel
theorem dX1_hasOx_12 : decode cX1_hasOx 12 = .ok (.iconst 1, 1) := by decide +kernel
theorem dX1_hasOx_13 : decode cX1_hasOx 13 = .ok (.goto 4, 3) := by decide +kernel
theorem dX1_hasOx_16 : decode cX1_hasOx 16 = .ok (.iconst 0, 1) := by decide +kernel
theorem dX1_hasOx_17 : decode cX1_hasOx 17 = .ok (.ireturn, 1) := by decide +kernel
theorem dX1_arePair_0 : decode cX1_arePair 0 = .ok (.aload_n 0, 1) := by decide +kernel
theorem dX1_arePair_1 : decode cX1_arePair 1 = .ok (.iload_n 1, 1) := by decide +kernel
theorem dX1_arePair_2 : decode cX1_arePair 2 = .ok (.invokevirtual 52, 3) := by decide +kernel
theorem dX1_arePair_5 : decode cX1_arePair 5 = .ok (.ifCond .eq 20, 3) := by decide +kernel
theorem dX1_arePair_8 : decode cX1_arePair 8 = .ok (.aload_n 0, 1) := by decide +kernel
theorem dX1_arePair_9 : decode cX1_arePair 9 = .ok (.iload_n 2, 1) := by decide +kernel
theorem dX1_arePair_10 : decode cX1_arePair 10 = .ok (.invokevirtual 52, 3) := by decide +kernel
theorem dX1_arePair_13 : decode cX1_arePair 13 = .ok (.ifCond .eq 12, 3) := by decide +kernel
theorem dX1_arePair_16 : decode cX1_arePair 16 = .ok (.iload_n 1, 1) := by decide +kernel
theorem dX1_arePair_17 : decode cX1_arePair 17 = .ok (.iload_n 2, 1) := by decide +kernel
theorem dX1_arePair_18 : decode cX1_arePair 18 = .ok (.if_icmp .eq 7, 3) := by decide +kernel
theorem dX1_arePair_21 : decode cX1_arePair 21 = .ok (.iconst 1, 1) := by decide +kernel
theorem dX1_arePair_22 : decode cX1_arePair 22 = .ok (.goto 4, 3) := by decide +kernel
theorem dX1_arePair_25 : decode cX1_arePair 25 = .ok (.iconst 0, 1) := by decide +kernel
theorem dX1_arePair_26 : decode cX1_arePair 26 = .ok (.ireturn, 1) := by decide +kernel
theorem dX1_mayName_0 : decode cX1_mayName 0 = .ok (.iload_n 2, 1) := by decide +kernel
theorem dX1_mayName_1 : decode cX1_mayName 1 = .ok (.iconst (-1), 1) := by decide +kernel
theorem dX1_mayName_2 : decode cX1_mayName 2 = .ok (.if_icmp .ne 11, 3) := by decide +kernel
theorem dX1_mayName_5 : decode cX1_mayName 5 = .ok (.aload_n 0, 1) := by decide +kernel
theorem dX1_mayName_6 : decode cX1_mayName 6 = .ok (.iload_n 1, 1) := by decide +kernel
theorem dX1_mayName_7 : decode cX1_mayName 7 = .ok (.invokevirtual 52, 3) := by decide +kernel
theorem dX1_mayName_10 : decode cX1_mayName 10 = .ok (.goto 9, 3) := by decide +kernel
theorem dX1_mayName_13 : decode cX1_mayName 13 = .ok (.aload_n 0, 1) := by decide +kernel
theorem dX1_mayName_14 : decode cX1_mayName 14 = .ok (.iload_n 1, 1) := by decide +kernel
theorem dX1_mayName_15 : decode cX1_mayName 15 = .ok (.iload_n 2, 1) := by decide +kernel
theorem dX1_mayName_16 : decode cX1_mayName 16 = .ok (.invokevirtual 56, 3) := by decide +kernel
theorem dX1_mayName_19 : decode cX1_mayName 19 = .ok (.ireturn, 1) := by decide +kernel
theorem dX1_everybody_0 : decode cX1_everybody 0 = .ok (.aload_n 0, 1) := by decide +kernel
theorem dX1_everybody_1 : decode cX1_everybody 1 = .ok (.getfield 40, 3) := by decide +kernel
theorem dX1_everybody_4 : decode cX1_everybody 4 = .ok (.invokestatic 60, 3) := by decide +kernel
theorem dX1_everybody_7 : decode cX1_everybody 7 = .ok (.iconst 1, 1) := by decide +kernel
theorem dX1_everybody_8 : decode cX1_everybody 8 = .ok (.isub, 1) := by decide +kernel
theorem dX1_everybody_9 : decode cX1_everybody 9 = .ok (.ireturn, 1) := by decide +kernel
theorem dX1_yearOf_0 : decode cX1_yearOf 0 = .ok (.aload_n 0, 1) := by decide +kernel
theorem dX1_yearOf_1 : decode cX1_yearOf 1 = .ok (.getfield 33, 3) := by decide +kernel
theorem dX1_yearOf_4 : decode cX1_yearOf 4 = .ok (.iconst 1, 1) := by decide +kernel
theorem dX1_yearOf_5 : decode cX1_yearOf 5 = .ok (.if_icmp .ge 7, 3) := by decide +kernel
theorem dX1_yearOf_8 : decode cX1_yearOf 8 = .ok (.iconst 0, 1) := by decide +kernel
theorem dX1_yearOf_9 : decode cX1_yearOf 9 = .ok (.goto 9, 3) := by decide +kernel
theorem dX1_yearOf_12 : decode cX1_yearOf 12 = .ok (.iload_n 1, 1) := by decide +kernel
theorem dX1_yearOf_13 : decode cX1_yearOf 13 = .ok (.aload_n 0, 1) := by decide +kernel
theorem dX1_yearOf_14 : decode cX1_yearOf 14 = .ok (.getfield 33, 3) := by decide +kernel
theorem dX1_yearOf_17 : decode cX1_yearOf 17 = .ok (.idiv, 1) := by decide +kernel
theorem dX1_yearOf_18 : decode cX1_yearOf 18 = .ok (.ireturn, 1) := by decide +kernel
theorem dX1_heavierThan_0 : decode cX1_heavierThan 0 = .ok (.iconst 0, 1) := by decide +kernel
theorem dX1_heavierThan_1 : decode cX1_heavierThan 1 = .ok (.istore_n 2, 1) := by decide +kernel
theorem dX1_heavierThan_2 : decode cX1_heavierThan 2 = .ok (.iconst 0, 1) := by decide +kernel
theorem dX1_heavierThan_3 : decode cX1_heavierThan 3 = .ok (.istore_n 3, 1) := by decide +kernel
theorem dX1_heavierThan_4 : decode cX1_heavierThan 4 = .ok (.iload_n 3, 1) := by decide +kernel
theorem dX1_heavierThan_5 : decode cX1_heavierThan 5 = .ok (.aload_n 0, 1) := by decide +kernel
theorem dX1_heavierThan_6 : decode cX1_heavierThan 6 = .ok (.getfield 40, 3) := by decide +kernel
theorem dX1_heavierThan_9 : decode cX1_heavierThan 9 = .ok (.if_icmp .ge 26, 3) := by decide +kernel
theorem dX1_heavierThan_12 : decode cX1_heavierThan 12 = .ok (.aload_n 0, 1) := by decide +kernel
theorem dX1_heavierThan_13 : decode cX1_heavierThan 13 = .ok (.getfield 15, 3) := by decide +kernel
theorem dX1_heavierThan_16 : decode cX1_heavierThan 16 = .ok (.iload_n 3, 1) := by decide +kernel
theorem dX1_heavierThan_17 : decode cX1_heavierThan 17 = .ok (.iaload, 1) := by decide +kernel
theorem dX1_heavierThan_18 : decode cX1_heavierThan 18 = .ok (.iload_n 1, 1) := by decide +kernel
theorem dX1_heavierThan_19 : decode cX1_heavierThan 19 = .ok (.if_icmp .le 10, 3) := by decide +kernel
theorem dX1_heavierThan_22 : decode cX1_heavierThan 22 = .ok (.iload_n 2, 1) := by decide +kernel
theorem dX1_heavierThan_23 : decode cX1_heavierThan 23 = .ok (.iload_n 3, 1) := by decide +kernel
theorem dX1_heavierThan_24 : decode cX1_heavierThan 24 = .ok (.invokestatic 60, 3) := by decide +kernel
theorem dX1_heavierThan_27 : decode cX1_heavierThan 27 = .ok (.ior, 1) := by decide +kernel
theorem dX1_heavierThan_28 : decode cX1_heavierThan 28 = .ok (.istore_n 2, 1) := by decide +kernel
theorem dX1_heavierThan_29 : decode cX1_heavierThan 29 = .ok (.iinc 3 1, 3) := by decide +kernel
theorem dX1_heavierThan_32 : decode cX1_heavierThan 32 = .ok (.goto (-28), 3) := by decide +kernel
theorem dX1_heavierThan_35 : decode cX1_heavierThan 35 = .ok (.iload_n 2, 1) := by decide +kernel
theorem dX1_heavierThan_36 : decode cX1_heavierThan 36 = .ok (.ireturn, 1) := by decide +kernel
theorem dX1_heaviestOx_0 : decode cX1_heaviestOx 0 = .ok (.iconst 0, 1) := by decide +kernel
theorem dX1_heaviestOx_1 : decode cX1_heaviestOx 1 = .ok (.istore_n 2, 1) := by decide +kernel
theorem dX1_heaviestOx_2 : decode cX1_heaviestOx 2 = .ok (.iconst 0, 1) := by decide +kernel
theorem dX1_heaviestOx_3 : decode cX1_heaviestOx 3 = .ok (.istore_n 3, 1) := by decide +kernel
theorem dX1_heaviestOx_4 : decode cX1_heaviestOx 4 = .ok (.iload_n 3, 1) := by decide +kernel
theorem dX1_heaviestOx_5 : decode cX1_heaviestOx 5 = .ok (.aload_n 0, 1) := by decide +kernel
theorem dX1_heaviestOx_6 : decode cX1_heaviestOx 6 = .ok (.getfield 43, 3) := by decide +kernel
theorem dX1_heaviestOx_9 : decode cX1_heaviestOx 9 = .ok (.if_icmp .ge 28, 3) := by decide +kernel
theorem dX1_heaviestOx_12 : decode cX1_heaviestOx 12 = .ok (.iload_n 1, 1) := by decide +kernel
theorem dX1_heaviestOx_13 : decode cX1_heaviestOx 13 = .ok (.iload_n 3, 1) := by decide +kernel
theorem dX1_heaviestOx_14 : decode cX1_heaviestOx 14 = .ok (.invokestatic 64, 3) := by decide +kernel
theorem dX1_heaviestOx_17 : decode cX1_heaviestOx 17 = .ok (.ifCond .eq 14, 3) := by decide +kernel
theorem dX1_heaviestOx_20 : decode cX1_heaviestOx 20 = .ok (.iload_n 2, 1) := by decide +kernel
theorem dX1_heaviestOx_21 : decode cX1_heaviestOx 21 = .ok (.aload_n 0, 1) := by decide +kernel
theorem dX1_heaviestOx_22 : decode cX1_heaviestOx 22 = .ok (.getfield 24, 3) := by decide +kernel
theorem dX1_heaviestOx_25 : decode cX1_heaviestOx 25 = .ok (.iload_n 3, 1) := by decide +kernel
theorem dX1_heaviestOx_26 : decode cX1_heaviestOx 26 = .ok (.iaload, 1) := by decide +kernel
theorem dX1_heaviestOx_27 : decode cX1_heaviestOx 27 = .ok (.invokestatic 67, 3) := by decide +kernel
theorem dX1_heaviestOx_30 : decode cX1_heaviestOx 30 = .ok (.istore_n 2, 1) := by decide +kernel
theorem dX1_heaviestOx_31 : decode cX1_heaviestOx 31 = .ok (.iinc 3 1, 3) := by decide +kernel
theorem dX1_heaviestOx_34 : decode cX1_heaviestOx 34 = .ok (.goto (-30), 3) := by decide +kernel
theorem dX1_heaviestOx_37 : decode cX1_heaviestOx 37 = .ok (.iload_n 2, 1) := by decide +kernel
theorem dX1_heaviestOx_38 : decode cX1_heaviestOx 38 = .ok (.ireturn, 1) := by decide +kernel
theorem dX1_priceOf_0 : decode cX1_priceOf 0 = .ok (.iconst 0, 1) := by decide +kernel
theorem dX1_priceOf_1 : decode cX1_priceOf 1 = .ok (.istore_n 2, 1) := by decide +kernel
theorem dX1_priceOf_2 : decode cX1_priceOf 2 = .ok (.iconst 0, 1) := by decide +kernel
theorem dX1_priceOf_3 : decode cX1_priceOf 3 = .ok (.istore_n 3, 1) := by decide +kernel
theorem dX1_priceOf_4 : decode cX1_priceOf 4 = .ok (.iload_n 3, 1) := by decide +kernel
theorem dX1_priceOf_5 : decode cX1_priceOf 5 = .ok (.aload_n 0, 1) := by decide +kernel
theorem dX1_priceOf_6 : decode cX1_priceOf 6 = .ok (.getfield 43, 3) := by decide +kernel
theorem dX1_priceOf_9 : decode cX1_priceOf 9 = .ok (.if_icmp .ge 26, 3) := by decide +kernel
theorem dX1_priceOf_12 : decode cX1_priceOf 12 = .ok (.iload_n 1, 1) := by decide +kernel
theorem dX1_priceOf_13 : decode cX1_priceOf 13 = .ok (.iload_n 3, 1) := by decide +kernel
theorem dX1_priceOf_14 : decode cX1_priceOf 14 = .ok (.invokestatic 64, 3) := by decide +kernel
theorem dX1_priceOf_17 : decode cX1_priceOf 17 = .ok (.ifCond .eq 12, 3) := by decide +kernel
theorem dX1_priceOf_20 : decode cX1_priceOf 20 = .ok (.iload_n 2, 1) := by decide +kernel
theorem dX1_priceOf_21 : decode cX1_priceOf 21 = .ok (.aload_n 0, 1) := by decide +kernel
theorem dX1_priceOf_22 : decode cX1_priceOf 22 = .ok (.getfield 27, 3) := by decide +kernel
theorem dX1_priceOf_25 : decode cX1_priceOf 25 = .ok (.iload_n 3, 1) := by decide +kernel
theorem dX1_priceOf_26 : decode cX1_priceOf 26 = .ok (.iaload, 1) := by decide +kernel
theorem dX1_priceOf_27 : decode cX1_priceOf 27 = .ok (.iadd, 1) := by decide +kernel
theorem dX1_priceOf_28 : decode cX1_priceOf 28 = .ok (.istore_n 2, 1) := by decide +kernel
theorem dX1_priceOf_29 : decode cX1_priceOf 29 = .ok (.iinc 3 1, 3) := by decide +kernel
theorem dX1_priceOf_32 : decode cX1_priceOf 32 = .ok (.goto (-28), 3) := by decide +kernel
theorem dX1_priceOf_35 : decode cX1_priceOf 35 = .ok (.iload_n 2, 1) := by decide +kernel
theorem dX1_priceOf_36 : decode cX1_priceOf 36 = .ok (.ireturn, 1) := by decide +kernel
theorem dX1_likeliest_0 : decode cX1_likeliest 0 = .ok (.iconst (-1), 1) := by decide +kernel
theorem dX1_likeliest_1 : decode cX1_likeliest 1 = .ok (.istore_n 2, 1) := by decide +kernel
theorem dX1_likeliest_2 : decode cX1_likeliest 2 = .ok (.iconst 0, 1) := by decide +kernel
theorem dX1_likeliest_3 : decode cX1_likeliest 3 = .ok (.istore_n 3, 1) := by decide +kernel
theorem dX1_likeliest_4 : decode cX1_likeliest 4 = .ok (.iload_n 3, 1) := by decide +kernel
theorem dX1_likeliest_5 : decode cX1_likeliest 5 = .ok (.aload_n 0, 1) := by decide +kernel
theorem dX1_likeliest_6 : decode cX1_likeliest 6 = .ok (.getfield 40, 3) := by decide +kernel
theorem dX1_likeliest_9 : decode cX1_likeliest 9 = .ok (.if_icmp .ge 39, 3) := by decide +kernel
theorem dX1_likeliest_12 : decode cX1_likeliest 12 = .ok (.iload_n 1, 1) := by decide +kernel
theorem dX1_likeliest_13 : decode cX1_likeliest 13 = .ok (.iload_n 3, 1) := by decide +kernel
theorem dX1_likeliest_14 : decode cX1_likeliest 14 = .ok (.invokestatic 64, 3) := by decide +kernel
theorem dX1_likeliest_17 : decode cX1_likeliest 17 = .ok (.ifCond .eq 25, 3) := by decide +kernel
theorem dX1_likeliest_20 : decode cX1_likeliest 20 = .ok (.iload_n 2, 1) := by decide +kernel
theorem dX1_likeliest_21 : decode cX1_likeliest 21 = .ok (.iconst (-1), 1) := by decide +kernel
theorem dX1_likeliest_22 : decode cX1_likeliest 22 = .ok (.if_icmp .eq 18, 3) := by decide +kernel
theorem dX1_likeliest_25 : decode cX1_likeliest 25 = .ok (.aload_n 0, 1) := by decide +kernel
theorem dX1_likeliest_26 : decode cX1_likeliest 26 = .ok (.getfield 18, 3) := by decide +kernel
theorem dX1_likeliest_29 : decode cX1_likeliest 29 = .ok (.iload_n 3, 1) := by decide +kernel
theorem dX1_likeliest_30 : decode cX1_likeliest 30 = .ok (.iaload, 1) := by decide +kernel
theorem dX1_likeliest_31 : decode cX1_likeliest 31 = .ok (.aload_n 0, 1) := by decide +kernel
theorem dX1_likeliest_32 : decode cX1_likeliest 32 = .ok (.getfield 18, 3) := by decide +kernel
theorem dX1_likeliest_35 : decode cX1_likeliest 35 = .ok (.iload_n 2, 1) := by decide +kernel
theorem dX1_likeliest_36 : decode cX1_likeliest 36 = .ok (.iaload, 1) := by decide +kernel
theorem dX1_likeliest_37 : decode cX1_likeliest 37 = .ok (.if_icmp .le 5, 3) := by decide +kernel
theorem dX1_likeliest_40 : decode cX1_likeliest 40 = .ok (.iload_n 3, 1) := by decide +kernel
theorem dX1_likeliest_41 : decode cX1_likeliest 41 = .ok (.istore_n 2, 1) := by decide +kernel
theorem dX1_likeliest_42 : decode cX1_likeliest 42 = .ok (.iinc 3 1, 3) := by decide +kernel
theorem dX1_likeliest_45 : decode cX1_likeliest 45 = .ok (.goto (-41), 3) := by decide +kernel
theorem dX1_likeliest_48 : decode cX1_likeliest 48 = .ok (.iload_n 2, 1) := by decide +kernel
theorem dX1_likeliest_49 : decode cX1_likeliest 49 = .ok (.ireturn, 1) := by decide +kernel
theorem dX1_oddsOf_0 : decode cX1_oddsOf 0 = .ok (.ldc2_w 73, 3) := by decide +kernel
theorem dX1_oddsOf_3 : decode cX1_oddsOf 3 = .ok (.lstore_n 2, 1) := by decide +kernel
theorem dX1_oddsOf_4 : decode cX1_oddsOf 4 = .ok (.iconst 0, 1) := by decide +kernel
theorem dX1_oddsOf_5 : decode cX1_oddsOf 5 = .ok (.istore 4, 2) := by decide +kernel
theorem dX1_oddsOf_7 : decode cX1_oddsOf 7 = .ok (.iload 4, 2) := by decide +kernel
theorem dX1_oddsOf_9 : decode cX1_oddsOf 9 = .ok (.aload_n 0, 1) := by decide +kernel
theorem dX1_oddsOf_10 : decode cX1_oddsOf 10 = .ok (.getfield 40, 3) := by decide +kernel
theorem dX1_oddsOf_13 : decode cX1_oddsOf 13 = .ok (.if_icmp .ge 33, 3) := by decide +kernel
theorem dX1_oddsOf_16 : decode cX1_oddsOf 16 = .ok (.iload_n 1, 1) := by decide +kernel
theorem dX1_oddsOf_17 : decode cX1_oddsOf 17 = .ok (.iload 4, 2) := by decide +kernel
theorem dX1_oddsOf_19 : decode cX1_oddsOf 19 = .ok (.invokestatic 64, 3) := by decide +kernel
theorem dX1_oddsOf_22 : decode cX1_oddsOf 22 = .ok (.ifCond .eq 18, 3) := by decide +kernel
theorem dX1_oddsOf_25 : decode cX1_oddsOf 25 = .ok (.lload_n 2, 1) := by decide +kernel
theorem dX1_oddsOf_26 : decode cX1_oddsOf 26 = .ok (.aload_n 0, 1) := by decide +kernel
theorem dX1_oddsOf_27 : decode cX1_oddsOf 27 = .ok (.getfield 18, 3) := by decide +kernel
theorem dX1_oddsOf_30 : decode cX1_oddsOf 30 = .ok (.iload 4, 2) := by decide +kernel
theorem dX1_oddsOf_32 : decode cX1_oddsOf 32 = .ok (.iaload, 1) := by decide +kernel
theorem dX1_oddsOf_33 : decode cX1_oddsOf 33 = .ok (.i2l, 1) := by decide +kernel
theorem dX1_oddsOf_34 : decode cX1_oddsOf 34 = .ok (.lmul, 1) := by decide +kernel
theorem dX1_oddsOf_35 : decode cX1_oddsOf 35 = .ok (.ldc2_w 75, 3) := by decide +kernel
theorem dX1_oddsOf_38 : decode cX1_oddsOf 38 = .ok (.ldiv, 1) := by decide +kernel
theorem dX1_oddsOf_39 : decode cX1_oddsOf 39 = .ok (.lstore_n 2, 1) := by decide +kernel
theorem dX1_oddsOf_40 : decode cX1_oddsOf 40 = .ok (.iinc 4 1, 3) := by decide +kernel
theorem dX1_oddsOf_43 : decode cX1_oddsOf 43 = .ok (.goto (-36), 3) := by decide +kernel
theorem dX1_oddsOf_46 : decode cX1_oddsOf 46 = .ok (.lload_n 2, 1) := by decide +kernel
theorem dX1_oddsOf_47 : decode cX1_oddsOf 47 = .ok (.l2i, 1) := by decide +kernel
theorem dX1_oddsOf_48 : decode cX1_oddsOf 48 = .ok (.ireturn, 1) := by decide +kernel
theorem dX2_init_0 : decode cX2_init 0 = .ok (.aload_n 0, 1) := by decide +kernel
theorem dX2_init_1 : decode cX2_init 1 = .ok (.invokespecial 3, 3) := by decide +kernel
theorem dX2_init_4 : decode cX2_init 4 = .ok (.aload_n 0, 1) := by decide +kernel
theorem dX2_init_5 : decode cX2_init 5 = .ok (.iconst 0, 1) := by decide +kernel
theorem dX2_init_6 : decode cX2_init 6 = .ok (.putfield 9, 3) := by decide +kernel
theorem dX2_init_9 : decode cX2_init 9 = .ok (.aload_n 0, 1) := by decide +kernel
theorem dX2_init_10 : decode cX2_init 10 = .ok (.bipush 6, 2) := by decide +kernel
theorem dX2_init_12 : decode cX2_init 12 = .ok (.newarray .int, 2) := by decide +kernel
theorem dX2_init_14 : decode cX2_init 14 = .ok (.putfield 15, 3) := by decide +kernel
theorem dX2_init_17 : decode cX2_init 17 = .ok (.aload_n 0, 1) := by decide +kernel
theorem dX2_init_18 : decode cX2_init 18 = .ok (.bipush 6, 2) := by decide +kernel
theorem dX2_init_20 : decode cX2_init 20 = .ok (.newarray .int, 2) := by decide +kernel
theorem dX2_init_22 : decode cX2_init 22 = .ok (.putfield 19, 3) := by decide +kernel
theorem dX2_init_25 : decode cX2_init 25 = .ok (.return_, 1) := by decide +kernel
theorem dX2_add_0 : decode cX2_add 0 = .ok (.aload_n 0, 1) := by decide +kernel
theorem dX2_add_1 : decode cX2_add 1 = .ok (.getfield 9, 3) := by decide +kernel
theorem dX2_add_4 : decode cX2_add 4 = .ok (.bipush 6, 2) := by decide +kernel
theorem dX2_add_6 : decode cX2_add 6 = .ok (.if_icmp .ge 33, 3) := by decide +kernel
theorem dX2_add_9 : decode cX2_add 9 = .ok (.aload_n 0, 1) := by decide +kernel
theorem dX2_add_10 : decode cX2_add 10 = .ok (.getfield 15, 3) := by decide +kernel
theorem dX2_add_13 : decode cX2_add 13 = .ok (.aload_n 0, 1) := by decide +kernel
theorem dX2_add_14 : decode cX2_add 14 = .ok (.getfield 9, 3) := by decide +kernel
theorem dX2_add_17 : decode cX2_add 17 = .ok (.iload_n 1, 1) := by decide +kernel
theorem dX2_add_18 : decode cX2_add 18 = .ok (.iastore, 1) := by decide +kernel
theorem dX2_add_19 : decode cX2_add 19 = .ok (.aload_n 0, 1) := by decide +kernel
theorem dX2_add_20 : decode cX2_add 20 = .ok (.getfield 19, 3) := by decide +kernel
theorem dX2_add_23 : decode cX2_add 23 = .ok (.aload_n 0, 1) := by decide +kernel
theorem dX2_add_24 : decode cX2_add 24 = .ok (.getfield 9, 3) := by decide +kernel
theorem dX2_add_27 : decode cX2_add 27 = .ok (.iload_n 2, 1) := by decide +kernel
theorem dX2_add_28 : decode cX2_add 28 = .ok (.iastore, 1) := by decide +kernel
theorem dX2_add_29 : decode cX2_add 29 = .ok (.aload_n 0, 1) := by decide +kernel
theorem dX2_add_30 : decode cX2_add 30 = .ok (.dup, 1) := by decide +kernel
theorem dX2_add_31 : decode cX2_add 31 = .ok (.getfield 9, 3) := by decide +kernel
theorem dX2_add_34 : decode cX2_add 34 = .ok (.iconst 1, 1) := by decide +kernel
theorem dX2_add_35 : decode cX2_add 35 = .ok (.iadd, 1) := by decide +kernel
theorem dX2_add_36 : decode cX2_add 36 = .ok (.putfield 9, 3) := by decide +kernel
theorem dX2_add_39 : decode cX2_add 39 = .ok (.aload_n 0, 1) := by decide +kernel
theorem dX2_add_40 : decode cX2_add 40 = .ok (.getfield 9, 3) := by decide +kernel
theorem dX2_add_43 : decode cX2_add 43 = .ok (.ireturn, 1) := by decide +kernel
theorem dX2_clear_0 : decode cX2_clear 0 = .ok (.aload_n 0, 1) := by decide +kernel
theorem dX2_clear_1 : decode cX2_clear 1 = .ok (.iconst 0, 1) := by decide +kernel
theorem dX2_clear_2 : decode cX2_clear 2 = .ok (.putfield 9, 3) := by decide +kernel
theorem dX2_clear_5 : decode cX2_clear 5 = .ok (.return_, 1) := by decide +kernel
theorem dX2_allNamed_0 : decode cX2_allNamed 0 = .ok (.iconst 0, 1) := by decide +kernel
theorem dX2_allNamed_1 : decode cX2_allNamed 1 = .ok (.istore_n 1, 1) := by decide +kernel
theorem dX2_allNamed_2 : decode cX2_allNamed 2 = .ok (.iconst 0, 1) := by decide +kernel
theorem dX2_allNamed_3 : decode cX2_allNamed 3 = .ok (.istore_n 2, 1) := by decide +kernel
theorem dX2_allNamed_4 : decode cX2_allNamed 4 = .ok (.iload_n 2, 1) := by decide +kernel
theorem dX2_allNamed_5 : decode cX2_allNamed 5 = .ok (.aload_n 0, 1) := by decide +kernel
theorem dX2_allNamed_6 : decode cX2_allNamed 6 = .ok (.getfield 9, 3) := by decide +kernel
theorem dX2_allNamed_9 : decode cX2_allNamed 9 = .ok (.if_icmp .ge 31, 3) := by decide +kernel
theorem dX2_allNamed_12 : decode cX2_allNamed 12 = .ok (.aload_n 0, 1) := by decide +kernel
theorem dX2_allNamed_13 : decode cX2_allNamed 13 = .ok (.getfield 19, 3) := by decide +kernel
theorem dX2_allNamed_16 : decode cX2_allNamed 16 = .ok (.iload_n 2, 1) := by decide +kernel
theorem dX2_allNamed_17 : decode cX2_allNamed 17 = .ok (.iaload, 1) := by decide +kernel
theorem dX2_allNamed_18 : decode cX2_allNamed 18 = .ok (.iconst (-1), 1) := by decide +kernel
theorem dX2_allNamed_19 : decode cX2_allNamed 19 = .ok (.if_icmp .eq 15, 3) := by decide +kernel
theorem dX2_allNamed_22 : decode cX2_allNamed 22 = .ok (.iload_n 1, 1) := by decide +kernel
theorem dX2_allNamed_23 : decode cX2_allNamed 23 = .ok (.aload_n 0, 1) := by decide +kernel
theorem dX2_allNamed_24 : decode cX2_allNamed 24 = .ok (.getfield 19, 3) := by decide +kernel
theorem dX2_allNamed_27 : decode cX2_allNamed 27 = .ok (.iload_n 2, 1) := by decide +kernel
theorem dX2_allNamed_28 : decode cX2_allNamed 28 = .ok (.iaload, 1) := by decide +kernel
theorem dX2_allNamed_29 : decode cX2_allNamed 29 = .ok (.invokestatic 22, 3) := by decide +kernel
theorem dX2_allNamed_32 : decode cX2_allNamed 32 = .ok (.ior, 1) := by decide +kernel
theorem dX2_allNamed_33 : decode cX2_allNamed 33 = .ok (.istore_n 1, 1) := by decide +kernel
theorem dX2_allNamed_34 : decode cX2_allNamed 34 = .ok (.iinc 2 1, 3) := by decide +kernel
theorem dX2_allNamed_37 : decode cX2_allNamed 37 = .ok (.goto (-33), 3) := by decide +kernel
theorem dX2_allNamed_40 : decode cX2_allNamed 40 = .ok (.iload_n 1, 1) := by decide +kernel
theorem dX2_allNamed_41 : decode cX2_allNamed 41 = .ok (.ireturn, 1) := by decide +kernel
theorem dX2_firstWrong_0 : decode cX2_firstWrong 0 = .ok (.aload_n 0, 1) := by decide +kernel
theorem dX2_firstWrong_1 : decode cX2_firstWrong 1 = .ok (.aload_n 1, 1) := by decide +kernel
theorem dX2_firstWrong_2 : decode cX2_firstWrong 2 = .ok (.iload_n 2, 1) := by decide +kernel
theorem dX2_firstWrong_3 : decode cX2_firstWrong 3 = .ok (.invokevirtual 26, 3) := by decide +kernel
theorem dX2_firstWrong_6 : decode cX2_firstWrong 6 = .ok (.istore_n 3, 1) := by decide +kernel
theorem dX2_firstWrong_7 : decode cX2_firstWrong 7 = .ok (.iload_n 3, 1) := by decide +kernel
theorem dX2_firstWrong_8 : decode cX2_firstWrong 8 = .ok (.iconst (-1), 1) := by decide +kernel
theorem dX2_firstWrong_9 : decode cX2_firstWrong 9 = .ok (.if_icmp .ne 10, 3) := by decide +kernel
theorem dX2_firstWrong_12 : decode cX2_firstWrong 12 = .ok (.aload_n 0, 1) := by decide +kernel
theorem dX2_firstWrong_13 : decode cX2_firstWrong 13 = .ok (.invokevirtual 30, 3) := by decide +kernel
theorem dX2_firstWrong_16 : decode cX2_firstWrong 16 = .ok (.goto 4, 3) := by decide +kernel
theorem dX2_firstWrong_19 : decode cX2_firstWrong 19 = .ok (.iload_n 3, 1) := by decide +kernel
theorem dX2_firstWrong_20 : decode cX2_firstWrong 20 = .ok (.ireturn, 1) := by decide +kernel
theorem dX2_firstEaten_0 : decode cX2_firstEaten 0 = .ok (.aload_n 1, 1) := by decide +kernel
theorem dX2_firstEaten_1 : decode cX2_firstEaten 1 = .ok (.iload_n 2, 1) := by decide +kernel
theorem dX2_firstEaten_2 : decode cX2_firstEaten 2 = .ok (.invokevirtual 34, 3) := by decide +kernel
theorem dX2_firstEaten_5 : decode cX2_firstEaten 5 = .ok (.istore_n 3, 1) := by decide +kernel
theorem dX2_firstEaten_6 : decode cX2_firstEaten 6 = .ok (.iconst 0, 1) := by decide +kernel
theorem dX2_firstEaten_7 : decode cX2_firstEaten 7 = .ok (.istore 4, 2) := by decide +kernel
theorem dX2_firstEaten_9 : decode cX2_firstEaten 9 = .ok (.iload 4, 2) := by decide +kernel
theorem dX2_firstEaten_11 : decode cX2_firstEaten 11 = .ok (.aload_n 0, 1) := by decide +kernel
theorem dX2_firstEaten_12 : decode cX2_firstEaten 12 = .ok (.getfield 9, 3) := by decide +kernel
theorem dX2_firstEaten_15 : decode cX2_firstEaten 15 = .ok (.if_icmp .ge 98, 3) := by decide +kernel
theorem dX2_firstEaten_18 : decode cX2_firstEaten 18 = .ok (.aload_n 0, 1) := by decide +kernel
theorem dX2_firstEaten_19 : decode cX2_firstEaten 19 = .ok (.getfield 19, 3) := by decide +kernel
theorem dX2_firstEaten_22 : decode cX2_firstEaten 22 = .ok (.iload 4, 2) := by decide +kernel
theorem dX2_firstEaten_24 : decode cX2_firstEaten 24 = .ok (.iaload, 1) := by decide +kernel
theorem dX2_firstEaten_25 : decode cX2_firstEaten 25 = .ok (.iconst (-1), 1) := by decide +kernel
theorem dX2_firstEaten_26 : decode cX2_firstEaten 26 = .ok (.if_icmp .ne 18, 3) := by decide +kernel
theorem dX2_firstEaten_29 : decode cX2_firstEaten 29 = .ok (.aload_n 1, 1) := by decide +kernel
theorem dX2_firstEaten_30 : decode cX2_firstEaten 30 = .ok (.iload_n 2, 1) := by decide +kernel
theorem dX2_firstEaten_31 : decode cX2_firstEaten 31 = .ok (.aload_n 0, 1) := by decide +kernel
theorem dX2_firstEaten_32 : decode cX2_firstEaten 32 = .ok (.getfield 15, 3) := by decide +kernel
theorem dX2_firstEaten_35 : decode cX2_firstEaten 35 = .ok (.iload 4, 2) := by decide +kernel
theorem dX2_firstEaten_37 : decode cX2_firstEaten 37 = .ok (.iaload, 1) := by decide +kernel
theorem dX2_firstEaten_38 : decode cX2_firstEaten 38 = .ok (.invokevirtual 39, 3) := by decide +kernel
theorem dX2_firstEaten_41 : decode cX2_firstEaten 41 = .ok (.goto 27, 3) := by decide +kernel
theorem dX2_firstEaten_44 : decode cX2_firstEaten 44 = .ok (.aload_n 1, 1) := by decide +kernel
theorem dX2_firstEaten_45 : decode cX2_firstEaten 45 = .ok (.iload_n 2, 1) := by decide +kernel
theorem dX2_firstEaten_46 : decode cX2_firstEaten 46 = .ok (.aload_n 0, 1) := by decide +kernel
theorem dX2_firstEaten_47 : decode cX2_firstEaten 47 = .ok (.getfield 15, 3) := by decide +kernel
theorem dX2_firstEaten_50 : decode cX2_firstEaten 50 = .ok (.iload 4, 2) := by decide +kernel
theorem dX2_firstEaten_52 : decode cX2_firstEaten 52 = .ok (.iaload, 1) := by decide +kernel
theorem dX2_firstEaten_53 : decode cX2_firstEaten 53 = .ok (.invokevirtual 43, 3) := by decide +kernel
theorem dX2_firstEaten_56 : decode cX2_firstEaten 56 = .ok (.iload_n 3, 1) := by decide +kernel
theorem dX2_firstEaten_57 : decode cX2_firstEaten 57 = .ok (.iand, 1) := by decide +kernel
theorem dX2_firstEaten_58 : decode cX2_firstEaten 58 = .ok (.aload_n 0, 1) := by decide +kernel
theorem dX2_firstEaten_59 : decode cX2_firstEaten 59 = .ok (.getfield 19, 3) := by decide +kernel
theorem dX2_firstEaten_62 : decode cX2_firstEaten 62 = .ok (.iload 4, 2) := by decide +kernel
theorem dX2_firstEaten_64 : decode cX2_firstEaten 64 = .ok (.iaload, 1) := by decide +kernel
theorem dX2_firstEaten_65 : decode cX2_firstEaten 65 = .ok (.invokestatic 47, 3) := by decide +kernel
theorem dX2_firstEaten_68 : decode cX2_firstEaten 68 = .ok (.istore 5, 2) := by decide +kernel
theorem dX2_firstEaten_70 : decode cX2_firstEaten 70 = .ok (.iload_n 3, 1) := by decide +kernel
theorem dX2_firstEaten_71 : decode cX2_firstEaten 71 = .ok (.aload_n 0, 1) := by decide +kernel
theorem dX2_firstEaten_72 : decode cX2_firstEaten 72 = .ok (.getfield 15, 3) := by decide +kernel
theorem dX2_firstEaten_75 : decode cX2_firstEaten 75 = .ok (.iload 4, 2) := by decide +kernel
theorem dX2_firstEaten_77 : decode cX2_firstEaten 77 = .ok (.iaload, 1) := by decide +kernel
theorem dX2_firstEaten_78 : decode cX2_firstEaten 78 = .ok (.invokestatic 47, 3) := by decide +kernel
theorem dX2_firstEaten_81 : decode cX2_firstEaten 81 = .ok (.ifCond .eq 8, 3) := by decide +kernel
theorem dX2_firstEaten_84 : decode cX2_firstEaten 84 = .ok (.iload 5, 2) := by decide +kernel
theorem dX2_firstEaten_86 : decode cX2_firstEaten 86 = .ok (.ifCond .ne 6, 3) := by decide +kernel
theorem dX2_firstEaten_89 : decode cX2_firstEaten 89 = .ok (.iload 4, 2) := by decide +kernel
theorem dX2_firstEaten_91 : decode cX2_firstEaten 91 = .ok (.ireturn, 1) := by decide +kernel
theorem dX2_firstEaten_92 : decode cX2_firstEaten 92 = .ok (.iload_n 3, 1) := by decide +kernel
theorem dX2_firstEaten_93 : decode cX2_firstEaten 93 = .ok (.aload_n 0, 1) := by decide +kernel
theorem dX2_firstEaten_94 : decode cX2_firstEaten 94 = .ok (.getfield 15, 3) := by decide +kernel
theorem dX2_firstEaten_97 : decode cX2_firstEaten 97 = .ok (.iload 4, 2) := by decide +kernel
theorem dX2_firstEaten_99 : decode cX2_firstEaten 99 = .ok (.iaload, 1) := by decide +kernel
theorem dX2_firstEaten_100 : decode cX2_firstEaten 100 = .ok (.invokestatic 22, 3) := by decide +kernel
theorem dX2_firstEaten_103 : decode cX2_firstEaten 103 = .ok (.iconst (-1), 1) := by decide +kernel
theorem dX2_firstEaten_104 : decode cX2_firstEaten 104 = .ok (.ixor, 1) := by decide +kernel
theorem dX2_firstEaten_105 : decode cX2_firstEaten 105 = .ok (.iand, 1) := by decide +kernel
theorem dX2_firstEaten_106 : decode cX2_firstEaten 106 = .ok (.istore_n 3, 1) := by decide +kernel
theorem dX2_firstEaten_107 : decode cX2_firstEaten 107 = .ok (.iinc 4 1, 3) := by decide +kernel
theorem dX2_firstEaten_110 : decode cX2_firstEaten 110 = .ok (.goto (-101), 3) := by decide +kernel
theorem dX2_firstEaten_113 : decode cX2_firstEaten 113 = .ok (.iconst (-1), 1) := by decide +kernel
theorem dX2_firstEaten_114 : decode cX2_firstEaten 114 = .ok (.ireturn, 1) := by decide +kernel
theorem dX2_firstLiar_0 : decode cX2_firstLiar 0 = .ok (.iconst 0, 1) := by decide +kernel
theorem dX2_firstLiar_1 : decode cX2_firstLiar 1 = .ok (.istore_n 1, 1) := by decide +kernel
theorem dX2_firstLiar_2 : decode cX2_firstLiar 2 = .ok (.iconst (-1), 1) := by decide +kernel
theorem dX2_firstLiar_3 : decode cX2_firstLiar 3 = .ok (.istore_n 2, 1) := by decide +kernel
theorem dX2_firstLiar_4 : decode cX2_firstLiar 4 = .ok (.aload_n 0, 1) := by decide +kernel
theorem dX2_firstLiar_5 : decode cX2_firstLiar 5 = .ok (.getfield 9, 3) := by decide +kernel
theorem dX2_firstLiar_8 : decode cX2_firstLiar 8 = .ok (.iconst 1, 1) := by decide +kernel
theorem dX2_firstLiar_9 : decode cX2_firstLiar 9 = .ok (.isub, 1) := by decide +kernel
theorem dX2_firstLiar_10 : decode cX2_firstLiar 10 = .ok (.istore_n 3, 1) := by decide +kernel
theorem dX2_firstLiar_11 : decode cX2_firstLiar 11 = .ok (.iload_n 3, 1) := by decide +kernel
theorem dX2_firstLiar_12 : decode cX2_firstLiar 12 = .ok (.ifCond .lt 46, 3) := by decide +kernel
theorem dX2_firstLiar_15 : decode cX2_firstLiar 15 = .ok (.aload_n 0, 1) := by decide +kernel
theorem dX2_firstLiar_16 : decode cX2_firstLiar 16 = .ok (.getfield 19, 3) := by decide +kernel
theorem dX2_firstLiar_19 : decode cX2_firstLiar 19 = .ok (.iload_n 3, 1) := by decide +kernel
theorem dX2_firstLiar_20 : decode cX2_firstLiar 20 = .ok (.iaload, 1) := by decide +kernel
theorem dX2_firstLiar_21 : decode cX2_firstLiar 21 = .ok (.iconst (-1), 1) := by decide +kernel
theorem dX2_firstLiar_22 : decode cX2_firstLiar 22 = .ok (.if_icmp .eq 18, 3) := by decide +kernel
theorem dX2_firstLiar_25 : decode cX2_firstLiar 25 = .ok (.iload_n 1, 1) := by decide +kernel
theorem dX2_firstLiar_26 : decode cX2_firstLiar 26 = .ok (.aload_n 0, 1) := by decide +kernel
theorem dX2_firstLiar_27 : decode cX2_firstLiar 27 = .ok (.getfield 19, 3) := by decide +kernel
theorem dX2_firstLiar_30 : decode cX2_firstLiar 30 = .ok (.iload_n 3, 1) := by decide +kernel
theorem dX2_firstLiar_31 : decode cX2_firstLiar 31 = .ok (.iaload, 1) := by decide +kernel
theorem dX2_firstLiar_32 : decode cX2_firstLiar 32 = .ok (.invokestatic 47, 3) := by decide +kernel
theorem dX2_firstLiar_35 : decode cX2_firstLiar 35 = .ok (.ifCond .ne 5, 3) := by decide +kernel
theorem dX2_firstLiar_38 : decode cX2_firstLiar 38 = .ok (.iload_n 3, 1) := by decide +kernel
theorem dX2_firstLiar_39 : decode cX2_firstLiar 39 = .ok (.istore_n 2, 1) := by decide +kernel
theorem dX2_firstLiar_40 : decode cX2_firstLiar 40 = .ok (.iload_n 1, 1) := by decide +kernel
theorem dX2_firstLiar_41 : decode cX2_firstLiar 41 = .ok (.aload_n 0, 1) := by decide +kernel
theorem dX2_firstLiar_42 : decode cX2_firstLiar 42 = .ok (.getfield 15, 3) := by decide +kernel
theorem dX2_firstLiar_45 : decode cX2_firstLiar 45 = .ok (.iload_n 3, 1) := by decide +kernel
theorem dX2_firstLiar_46 : decode cX2_firstLiar 46 = .ok (.iaload, 1) := by decide +kernel
theorem dX2_firstLiar_47 : decode cX2_firstLiar 47 = .ok (.invokestatic 22, 3) := by decide +kernel
theorem dX2_firstLiar_50 : decode cX2_firstLiar 50 = .ok (.ior, 1) := by decide +kernel
theorem dX2_firstLiar_51 : decode cX2_firstLiar 51 = .ok (.istore_n 1, 1) := by decide +kernel
theorem dX2_firstLiar_52 : decode cX2_firstLiar 52 = .ok (.iinc 3 (-1), 3) := by decide +kernel
theorem dX2_firstLiar_55 : decode cX2_firstLiar 55 = .ok (.goto (-44), 3) := by decide +kernel
theorem dX2_firstLiar_58 : decode cX2_firstLiar 58 = .ok (.iload_n 2, 1) := by decide +kernel
theorem dX2_firstLiar_59 : decode cX2_firstLiar 59 = .ok (.ireturn, 1) := by decide +kernel
theorem dX4_init_0 : decode cX4_init 0 = .ok (.aload_n 0, 1) := by decide +kernel
theorem dX4_init_1 : decode cX4_init 1 = .ok (.invokespecial 3, 3) := by decide +kernel
theorem dX4_init_4 : decode cX4_init 4 = .ok (.aload_n 0, 1) := by decide +kernel
theorem dX4_init_5 : decode cX4_init 5 = .ok (.iconst 0, 1) := by decide +kernel
theorem dX4_init_6 : decode cX4_init 6 = .ok (.putfield 9, 3) := by decide +kernel
theorem dX4_init_9 : decode cX4_init 9 = .ok (.aload_n 0, 1) := by decide +kernel
theorem dX4_init_10 : decode cX4_init 10 = .ok (.bipush 6, 2) := by decide +kernel
theorem dX4_init_12 : decode cX4_init 12 = .ok (.newarray .int, 2) := by decide +kernel
theorem dX4_init_14 : decode cX4_init 14 = .ok (.putfield 15, 3) := by decide +kernel
theorem dX4_init_17 : decode cX4_init 17 = .ok (.aload_n 0, 1) := by decide +kernel
theorem dX4_init_18 : decode cX4_init 18 = .ok (.bipush 64, 2) := by decide +kernel
theorem dX4_init_20 : decode cX4_init 20 = .ok (.newarray .int, 2) := by decide +kernel
theorem dX4_init_22 : decode cX4_init 22 = .ok (.putfield 19, 3) := by decide +kernel
theorem dX4_init_25 : decode cX4_init 25 = .ok (.return_, 1) := by decide +kernel
theorem dX4_add_0 : decode cX4_add 0 = .ok (.iload_n 2, 1) := by decide +kernel
theorem dX4_add_1 : decode cX4_add 1 = .ok (.ifCond .lt 41, 3) := by decide +kernel
theorem dX4_add_4 : decode cX4_add 4 = .ok (.iload_n 2, 1) := by decide +kernel
theorem dX4_add_5 : decode cX4_add 5 = .ok (.bipush 6, 2) := by decide +kernel
theorem dX4_add_7 : decode cX4_add 7 = .ok (.if_icmp .ge 35, 3) := by decide +kernel
theorem dX4_add_10 : decode cX4_add 10 = .ok (.aload_n 0, 1) := by decide +kernel
theorem dX4_add_11 : decode cX4_add 11 = .ok (.getfield 9, 3) := by decide +kernel
theorem dX4_add_14 : decode cX4_add 14 = .ok (.bipush 20, 2) := by decide +kernel
theorem dX4_add_16 : decode cX4_add 16 = .ok (.if_icmp .ge 26, 3) := by decide +kernel
theorem dX4_add_19 : decode cX4_add 19 = .ok (.aload_n 0, 1) := by decide +kernel
theorem dX4_add_20 : decode cX4_add 20 = .ok (.getfield 15, 3) := by decide +kernel
theorem dX4_add_23 : decode cX4_add 23 = .ok (.iload_n 2, 1) := by decide +kernel
theorem dX4_add_24 : decode cX4_add 24 = .ok (.dup2, 1) := by decide +kernel
theorem dX4_add_25 : decode cX4_add 25 = .ok (.iaload, 1) := by decide +kernel
theorem dX4_add_26 : decode cX4_add 26 = .ok (.iload_n 1, 1) := by decide +kernel
theorem dX4_add_27 : decode cX4_add 27 = .ok (.invokestatic 22, 3) := by decide +kernel
theorem dX4_add_30 : decode cX4_add 30 = .ok (.ior, 1) := by decide +kernel
theorem dX4_add_31 : decode cX4_add 31 = .ok (.iastore, 1) := by decide +kernel
theorem dX4_add_32 : decode cX4_add 32 = .ok (.aload_n 0, 1) := by decide +kernel
theorem dX4_add_33 : decode cX4_add 33 = .ok (.dup, 1) := by decide +kernel
theorem dX4_add_34 : decode cX4_add 34 = .ok (.getfield 9, 3) := by decide +kernel
theorem dX4_add_37 : decode cX4_add 37 = .ok (.iconst 1, 1) := by decide +kernel
theorem dX4_add_38 : decode cX4_add 38 = .ok (.iadd, 1) := by decide +kernel
theorem dX4_add_39 : decode cX4_add 39 = .ok (.putfield 9, 3) := by decide +kernel
theorem dX4_add_42 : decode cX4_add 42 = .ok (.aload_n 0, 1) := by decide +kernel
theorem dX4_add_43 : decode cX4_add 43 = .ok (.getfield 9, 3) := by decide +kernel
theorem dX4_add_46 : decode cX4_add 46 = .ok (.ireturn, 1) := by decide +kernel
theorem dX4_clear_0 : decode cX4_clear 0 = .ok (.aload_n 0, 1) := by decide +kernel
theorem dX4_clear_1 : decode cX4_clear 1 = .ok (.iconst 0, 1) := by decide +kernel
theorem dX4_clear_2 : decode cX4_clear 2 = .ok (.putfield 9, 3) := by decide +kernel
theorem dX4_clear_5 : decode cX4_clear 5 = .ok (.iconst 0, 1) := by decide +kernel
theorem dX4_clear_6 : decode cX4_clear 6 = .ok (.istore_n 1, 1) := by decide +kernel
theorem dX4_clear_7 : decode cX4_clear 7 = .ok (.iload_n 1, 1) := by decide +kernel
theorem dX4_clear_8 : decode cX4_clear 8 = .ok (.bipush 6, 2) := by decide +kernel
theorem dX4_clear_10 : decode cX4_clear 10 = .ok (.if_icmp .ge 16, 3) := by decide +kernel
theorem dX4_clear_13 : decode cX4_clear 13 = .ok (.aload_n 0, 1) := by decide +kernel
theorem dX4_clear_14 : decode cX4_clear 14 = .ok (.getfield 15, 3) := by decide +kernel
theorem dX4_clear_17 : decode cX4_clear 17 = .ok (.iload_n 1, 1) := by decide +kernel
theorem dX4_clear_18 : decode cX4_clear 18 = .ok (.iconst 0, 1) := by decide +kernel
theorem dX4_clear_19 : decode cX4_clear 19 = .ok (.iastore, 1) := by decide +kernel
theorem dX4_clear_20 : decode cX4_clear 20 = .ok (.iinc 1 1, 3) := by decide +kernel
theorem dX4_clear_23 : decode cX4_clear 23 = .ok (.goto (-16), 3) := by decide +kernel
theorem dX4_clear_26 : decode cX4_clear 26 = .ok (.return_, 1) := by decide +kernel
theorem dX4_countOrders_0 : decode cX4_countOrders 0 = .ok (.iload_n 1, 1) := by decide +kernel
theorem dX4_countOrders_1 : decode cX4_countOrders 1 = .ok (.bipush 6, 2) := by decide +kernel
theorem dX4_countOrders_3 : decode cX4_countOrders 3 = .ok (.invokestatic 26, 3) := by decide +kernel
theorem dX4_countOrders_6 : decode cX4_countOrders 6 = .ok (.invokestatic 22, 3) := by decide +kernel
theorem dX4_countOrders_9 : decode cX4_countOrders 9 = .ok (.istore_n 2, 1) := by decide +kernel
theorem dX4_countOrders_10 : decode cX4_countOrders 10 = .ok (.aload_n 0, 1) := by decide +kernel
theorem dX4_countOrders_11 : decode cX4_countOrders 11 = .ok (.getfield 19, 3) := by decide +kernel
theorem dX4_countOrders_14 : decode cX4_countOrders 14 = .ok (.iconst 0, 1) := by decide +kernel
theorem dX4_countOrders_15 : decode cX4_countOrders 15 = .ok (.iconst 1, 1) := by decide +kernel
theorem dX4_countOrders_16 : decode cX4_countOrders 16 = .ok (.iastore, 1) := by decide +kernel
theorem dX4_countOrders_17 : decode cX4_countOrders 17 = .ok (.iconst 1, 1) := by decide +kernel
theorem dX4_countOrders_18 : decode cX4_countOrders 18 = .ok (.istore_n 3, 1) := by decide +kernel
theorem dX4_countOrders_19 : decode cX4_countOrders 19 = .ok (.iload_n 3, 1) := by decide +kernel
theorem dX4_countOrders_20 : decode cX4_countOrders 20 = .ok (.iload_n 2, 1) := by decide +kernel
theorem dX4_countOrders_21 : decode cX4_countOrders 21 = .ok (.if_icmp .ge 80, 3) := by decide +kernel
theorem dX4_countOrders_24 : decode cX4_countOrders 24 = .ok (.aload_n 0, 1) := by decide +kernel
theorem dX4_countOrders_25 : decode cX4_countOrders 25 = .ok (.getfield 19, 3) := by decide +kernel
theorem dX4_countOrders_28 : decode cX4_countOrders 28 = .ok (.iload_n 3, 1) := by decide +kernel
theorem dX4_countOrders_29 : decode cX4_countOrders 29 = .ok (.iconst 0, 1) := by decide +kernel
theorem dX4_countOrders_30 : decode cX4_countOrders 30 = .ok (.iastore, 1) := by decide +kernel
theorem dX4_countOrders_31 : decode cX4_countOrders 31 = .ok (.iconst 0, 1) := by decide +kernel
theorem dX4_countOrders_32 : decode cX4_countOrders 32 = .ok (.istore 4, 2) := by decide +kernel
theorem dX4_countOrders_34 : decode cX4_countOrders 34 = .ok (.iload 4, 2) := by decide +kernel
theorem dX4_countOrders_36 : decode cX4_countOrders 36 = .ok (.bipush 6, 2) := by decide +kernel
theorem dX4_countOrders_38 : decode cX4_countOrders 38 = .ok (.if_icmp .ge 57, 3) := by decide +kernel
theorem dX4_countOrders_41 : decode cX4_countOrders 41 = .ok (.iload_n 3, 1) := by decide +kernel
theorem dX4_countOrders_42 : decode cX4_countOrders 42 = .ok (.iload 4, 2) := by decide +kernel
theorem dX4_countOrders_44 : decode cX4_countOrders 44 = .ok (.invokestatic 22, 3) := by decide +kernel
theorem dX4_countOrders_47 : decode cX4_countOrders 47 = .ok (.iconst (-1), 1) := by decide +kernel
theorem dX4_countOrders_48 : decode cX4_countOrders 48 = .ok (.ixor, 1) := by decide +kernel
theorem dX4_countOrders_49 : decode cX4_countOrders 49 = .ok (.iand, 1) := by decide +kernel
theorem dX4_countOrders_50 : decode cX4_countOrders 50 = .ok (.istore 5, 2) := by decide +kernel
theorem dX4_countOrders_52 : decode cX4_countOrders 52 = .ok (.iload 5, 2) := by decide +kernel
theorem dX4_countOrders_54 : decode cX4_countOrders 54 = .ok (.iload_n 3, 1) := by decide +kernel
theorem dX4_countOrders_55 : decode cX4_countOrders 55 = .ok (.if_icmp .eq 34, 3) := by decide +kernel
theorem dX4_countOrders_58 : decode cX4_countOrders 58 = .ok (.aload_n 0, 1) := by decide +kernel
theorem dX4_countOrders_59 : decode cX4_countOrders 59 = .ok (.getfield 15, 3) := by decide +kernel
theorem dX4_countOrders_62 : decode cX4_countOrders 62 = .ok (.iload 4, 2) := by decide +kernel
theorem dX4_countOrders_64 : decode cX4_countOrders 64 = .ok (.iaload, 1) := by decide +kernel
theorem dX4_countOrders_65 : decode cX4_countOrders 65 = .ok (.iload 5, 2) := by decide +kernel
theorem dX4_countOrders_67 : decode cX4_countOrders 67 = .ok (.iconst (-1), 1) := by decide +kernel
theorem dX4_countOrders_68 : decode cX4_countOrders 68 = .ok (.ixor, 1) := by decide +kernel
theorem dX4_countOrders_69 : decode cX4_countOrders 69 = .ok (.iand, 1) := by decide +kernel
theorem dX4_countOrders_70 : decode cX4_countOrders 70 = .ok (.ifCond .ne 19, 3) := by decide +kernel
theorem dX4_countOrders_73 : decode cX4_countOrders 73 = .ok (.aload_n 0, 1) := by decide +kernel
theorem dX4_countOrders_74 : decode cX4_countOrders 74 = .ok (.getfield 19, 3) := by decide +kernel
theorem dX4_countOrders_77 : decode cX4_countOrders 77 = .ok (.iload_n 3, 1) := by decide +kernel
theorem dX4_countOrders_78 : decode cX4_countOrders 78 = .ok (.dup2, 1) := by decide +kernel
theorem dX4_countOrders_79 : decode cX4_countOrders 79 = .ok (.iaload, 1) := by decide +kernel
theorem dX4_countOrders_80 : decode cX4_countOrders 80 = .ok (.aload_n 0, 1) := by decide +kernel
theorem dX4_countOrders_81 : decode cX4_countOrders 81 = .ok (.getfield 19, 3) := by decide +kernel
theorem dX4_countOrders_84 : decode cX4_countOrders 84 = .ok (.iload 5, 2) := by decide +kernel
theorem dX4_countOrders_86 : decode cX4_countOrders 86 = .ok (.iaload, 1) := by decide +kernel
theorem dX4_countOrders_87 : decode cX4_countOrders 87 = .ok (.iadd, 1) := by decide +kernel
theorem dX4_countOrders_88 : decode cX4_countOrders 88 = .ok (.iastore, 1) := by decide +kernel
theorem dX4_countOrders_89 : decode cX4_countOrders 89 = .ok (.iinc 4 1, 3) := by decide +kernel
theorem dX4_countOrders_92 : decode cX4_countOrders 92 = .ok (.goto (-58), 3) := by decide +kernel
theorem dX4_countOrders_95 : decode cX4_countOrders 95 = .ok (.iinc 3 1, 3) := by decide +kernel
theorem dX4_countOrders_98 : decode cX4_countOrders 98 = .ok (.goto (-79), 3) := by decide +kernel
theorem dX4_countOrders_101 : decode cX4_countOrders 101 = .ok (.aload_n 0, 1) := by decide +kernel
theorem dX4_countOrders_102 : decode cX4_countOrders 102 = .ok (.getfield 19, 3) := by decide +kernel
theorem dX4_countOrders_105 : decode cX4_countOrders 105 = .ok (.iload_n 2, 1) := by decide +kernel
theorem dX4_countOrders_106 : decode cX4_countOrders 106 = .ok (.iconst 1, 1) := by decide +kernel
theorem dX4_countOrders_107 : decode cX4_countOrders 107 = .ok (.isub, 1) := by decide +kernel
theorem dX4_countOrders_108 : decode cX4_countOrders 108 = .ok (.iaload, 1) := by decide +kernel
theorem dX4_countOrders_109 : decode cX4_countOrders 109 = .ok (.ireturn, 1) := by decide +kernel
theorem dX4_alwaysBehind_0 : decode cX4_alwaysBehind 0 = .ok (.iload_n 1, 1) := by decide +kernel
theorem dX4_alwaysBehind_1 : decode cX4_alwaysBehind 1 = .ok (.ifCond .lt 17, 3) := by decide +kernel
theorem dX4_alwaysBehind_4 : decode cX4_alwaysBehind 4 = .ok (.iload_n 1, 1) := by decide +kernel
theorem dX4_alwaysBehind_5 : decode cX4_alwaysBehind 5 = .ok (.bipush 6, 2) := by decide +kernel
theorem dX4_alwaysBehind_7 : decode cX4_alwaysBehind 7 = .ok (.if_icmp .ge 11, 3) := by decide +kernel
theorem dX4_alwaysBehind_10 : decode cX4_alwaysBehind 10 = .ok (.aload_n 0, 1) := by decide +kernel
theorem dX4_alwaysBehind_11 : decode cX4_alwaysBehind 11 = .ok (.iload_n 2, 1) := by decide +kernel
theorem dX4_alwaysBehind_12 : decode cX4_alwaysBehind 12 = .ok (.invokevirtual 32, 3) := by decide +kernel
theorem dX4_alwaysBehind_15 : decode cX4_alwaysBehind 15 = .ok (.ifCond .ne 5, 3) := by decide +kernel
theorem dX4_alwaysBehind_18 : decode cX4_alwaysBehind 18 = .ok (.iconst 0, 1) := by decide +kernel
theorem dX4_alwaysBehind_19 : decode cX4_alwaysBehind 19 = .ok (.ireturn, 1) := by decide +kernel
theorem dX4_alwaysBehind_20 : decode cX4_alwaysBehind 20 = .ok (.iconst 0, 1) := by decide +kernel
theorem dX4_alwaysBehind_21 : decode cX4_alwaysBehind 21 = .ok (.istore_n 3, 1) := by decide +kernel
theorem dX4_alwaysBehind_22 : decode cX4_alwaysBehind 22 = .ok (.aload_n 0, 1) := by decide +kernel
theorem dX4_alwaysBehind_23 : decode cX4_alwaysBehind 23 = .ok (.getfield 15, 3) := by decide +kernel
theorem dX4_alwaysBehind_26 : decode cX4_alwaysBehind 26 = .ok (.iload_n 1, 1) := by decide +kernel
theorem dX4_alwaysBehind_27 : decode cX4_alwaysBehind 27 = .ok (.iaload, 1) := by decide +kernel
theorem dX4_alwaysBehind_28 : decode cX4_alwaysBehind 28 = .ok (.istore 4, 2) := by decide +kernel
theorem dX4_alwaysBehind_30 : decode cX4_alwaysBehind 30 = .ok (.iconst 0, 1) := by decide +kernel
theorem dX4_alwaysBehind_31 : decode cX4_alwaysBehind 31 = .ok (.istore 5, 2) := by decide +kernel
theorem dX4_alwaysBehind_33 : decode cX4_alwaysBehind 33 = .ok (.iload 5, 2) := by decide +kernel
theorem dX4_alwaysBehind_35 : decode cX4_alwaysBehind 35 = .ok (.iload_n 2, 1) := by decide +kernel
theorem dX4_alwaysBehind_36 : decode cX4_alwaysBehind 36 = .ok (.if_icmp .ge 45, 3) := by decide +kernel
theorem dX4_alwaysBehind_39 : decode cX4_alwaysBehind 39 = .ok (.aload_n 0, 1) := by decide +kernel
theorem dX4_alwaysBehind_40 : decode cX4_alwaysBehind 40 = .ok (.getfield 15, 3) := by decide +kernel
theorem dX4_alwaysBehind_43 : decode cX4_alwaysBehind 43 = .ok (.iload_n 1, 1) := by decide +kernel
theorem dX4_alwaysBehind_44 : decode cX4_alwaysBehind 44 = .ok (.iload 4, 2) := by decide +kernel
theorem dX4_alwaysBehind_46 : decode cX4_alwaysBehind 46 = .ok (.iload 5, 2) := by decide +kernel
theorem dX4_alwaysBehind_48 : decode cX4_alwaysBehind 48 = .ok (.invokestatic 22, 3) := by decide +kernel
theorem dX4_alwaysBehind_51 : decode cX4_alwaysBehind 51 = .ok (.ior, 1) := by decide +kernel
theorem dX4_alwaysBehind_52 : decode cX4_alwaysBehind 52 = .ok (.iastore, 1) := by decide +kernel
theorem dX4_alwaysBehind_53 : decode cX4_alwaysBehind 53 = .ok (.iload 5, 2) := by decide +kernel
theorem dX4_alwaysBehind_55 : decode cX4_alwaysBehind 55 = .ok (.iload_n 1, 1) := by decide +kernel
theorem dX4_alwaysBehind_56 : decode cX4_alwaysBehind 56 = .ok (.if_icmp .eq 19, 3) := by decide +kernel
theorem dX4_alwaysBehind_59 : decode cX4_alwaysBehind 59 = .ok (.aload_n 0, 1) := by decide +kernel
theorem dX4_alwaysBehind_60 : decode cX4_alwaysBehind 60 = .ok (.iload_n 2, 1) := by decide +kernel
theorem dX4_alwaysBehind_61 : decode cX4_alwaysBehind 61 = .ok (.invokevirtual 32, 3) := by decide +kernel
theorem dX4_alwaysBehind_64 : decode cX4_alwaysBehind 64 = .ok (.ifCond .ne 11, 3) := by decide +kernel
theorem dX4_alwaysBehind_67 : decode cX4_alwaysBehind 67 = .ok (.iload_n 3, 1) := by decide +kernel
theorem dX4_alwaysBehind_68 : decode cX4_alwaysBehind 68 = .ok (.iload 5, 2) := by decide +kernel
theorem dX4_alwaysBehind_70 : decode cX4_alwaysBehind 70 = .ok (.invokestatic 22, 3) := by decide +kernel
theorem dX4_alwaysBehind_73 : decode cX4_alwaysBehind 73 = .ok (.ior, 1) := by decide +kernel
theorem dX4_alwaysBehind_74 : decode cX4_alwaysBehind 74 = .ok (.istore_n 3, 1) := by decide +kernel
theorem dX4_alwaysBehind_75 : decode cX4_alwaysBehind 75 = .ok (.iinc 5 1, 3) := by decide +kernel
theorem dX4_alwaysBehind_78 : decode cX4_alwaysBehind 78 = .ok (.goto (-45), 3) := by decide +kernel
theorem dX4_alwaysBehind_81 : decode cX4_alwaysBehind 81 = .ok (.aload_n 0, 1) := by decide +kernel
theorem dX4_alwaysBehind_82 : decode cX4_alwaysBehind 82 = .ok (.getfield 15, 3) := by decide +kernel
theorem dX4_alwaysBehind_85 : decode cX4_alwaysBehind 85 = .ok (.iload_n 1, 1) := by decide +kernel
theorem dX4_alwaysBehind_86 : decode cX4_alwaysBehind 86 = .ok (.iload 4, 2) := by decide +kernel
theorem dX4_alwaysBehind_88 : decode cX4_alwaysBehind 88 = .ok (.iastore, 1) := by decide +kernel
theorem dX4_alwaysBehind_89 : decode cX4_alwaysBehind 89 = .ok (.iload_n 3, 1) := by decide +kernel
theorem dX4_alwaysBehind_90 : decode cX4_alwaysBehind 90 = .ok (.ireturn, 1) := by decide +kernel
