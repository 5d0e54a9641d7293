theorem dX7_fault_0 : decode cX7_fault 0 = .ok (.aload_n 0, 1) := by decide +kernel
theorem dX7_fault_1 : decode cX7_fault 1 = .ok (.getfield 47, 3) := by decide +kernel
theorem dX7_fault_4 : decode cX7_fault 4 = .ok (.ireturn, 1) := by decide +kernel
theorem dX7_told_0 : decode cX7_told 0 = .ok (.iload_n 1, 1) := by decide +kernel
theorem dX7_told_1 : decode cX7_told 1 = .ok (.tableswitch 96 0 8 #[51, 56, 61, 66, 71, 76, 81, 86, 91], 51) := by decide +kernel
theorem dX7_told_52 : decode cX7_told 52 = .ok (.aload_n 0, 1) := by decide +kernel
theorem dX7_told_53 : decode cX7_told 53 = .ok (.getfield 7, 3) := by decide +kernel
theorem dX7_told_56 : decode cX7_told 56 = .ok (.ireturn, 1) := by decide +kernel
theorem dX7_told_57 : decode cX7_told 57 = .ok (.aload_n 0, 1) := by decide +kernel
theorem dX7_told_58 : decode cX7_told 58 = .ok (.getfield 105, 3) := by decide +kernel
theorem dX7_told_61 : decode cX7_told 61 = .ok (.ireturn, 1) := by decide +kernel
theorem dX7_told_62 : decode cX7_told 62 = .ok (.aload_n 0, 1) := by decide +kernel
theorem dX7_told_63 : decode cX7_told 63 = .ok (.getfield 102, 3) := by decide +kernel
theorem dX7_told_66 : decode cX7_told 66 = .ok (.ireturn, 1) := by decide +kernel
theorem dX7_told_67 : decode cX7_told 67 = .ok (.aload_n 0, 1) := by decide +kernel
theorem dX7_told_68 : decode cX7_told 68 = .ok (.getfield 223, 3) := by decide +kernel
theorem dX7_told_71 : decode cX7_told 71 = .ok (.ireturn, 1) := by decide +kernel
theorem dX7_told_72 : decode cX7_told 72 = .ok (.aload_n 0, 1) := by decide +kernel
theorem dX7_told_73 : decode cX7_told 73 = .ok (.getfield 119, 3) := by decide +kernel
theorem dX7_told_76 : decode cX7_told 76 = .ok (.ireturn, 1) := by decide +kernel
theorem dX7_told_77 : decode cX7_told 77 = .ok (.aload_n 0, 1) := by decide +kernel
theorem dX7_told_78 : decode cX7_told 78 = .ok (.getfield 229, 3) := by decide +kernel
theorem dX7_told_81 : decode cX7_told 81 = .ok (.ireturn, 1) := by decide +kernel
theorem dX7_told_82 : decode cX7_told 82 = .ok (.aload_n 0, 1) := by decide +kernel
theorem dX7_told_83 : decode cX7_told 83 = .ok (.getfield 226, 3) := by decide +kernel
theorem dX7_told_86 : decode cX7_told 86 = .ok (.ireturn, 1) := by decide +kernel
theorem dX7_told_87 : decode cX7_told 87 = .ok (.aload_n 0, 1) := by decide +kernel
theorem dX7_told_88 : decode cX7_told 88 = .ok (.getfield 232, 3) := by decide +kernel
theorem dX7_told_91 : decode cX7_told 91 = .ok (.ireturn, 1) := by decide +kernel
theorem dX7_told_92 : decode cX7_told 92 = .ok (.aload_n 0, 1) := by decide +kernel
theorem dX7_told_93 : decode cX7_told 93 = .ok (.getfield 235, 3) := by decide +kernel
theorem dX7_told_96 : decode cX7_told 96 = .ok (.ireturn, 1) := by decide +kernel
theorem dX7_told_97 : decode cX7_told 97 = .ok (.ldc 118, 2) := by decide +kernel
theorem dX7_told_99 : decode cX7_told 99 = .ok (.ireturn, 1) := by decide +kernel
theorem dX7_isRemembered_0 : decode cX7_isRemembered 0 = .ok (.aload_n 0, 1) := by decide +kernel
theorem dX7_isRemembered_1 : decode cX7_isRemembered 1 = .ok (.getfield 38, 3) := by decide +kernel
theorem dX7_isRemembered_4 : decode cX7_isRemembered 4 = .ok (.bipush 6, 2) := by decide +kernel
theorem dX7_isRemembered_6 : decode cX7_isRemembered 6 = .ok (.iload_n 1, 1) := by decide +kernel
theorem dX7_isRemembered_7 : decode cX7_isRemembered 7 = .ok (.imul, 1) := by decide +kernel
theorem dX7_isRemembered_8 : decode cX7_isRemembered 8 = .ok (.iload_n 2, 1) := by decide +kernel
theorem dX7_isRemembered_9 : decode cX7_isRemembered 9 = .ok (.iadd, 1) := by decide +kernel
theorem dX7_isRemembered_10 : decode cX7_isRemembered 10 = .ok (.iaload, 1) := by decide +kernel
theorem dX7_isRemembered_11 : decode cX7_isRemembered 11 = .ok (.istore_n 3, 1) := by decide +kernel
theorem dX7_isRemembered_12 : decode cX7_isRemembered 12 = .ok (.iload_n 3, 1) := by decide +kernel
theorem dX7_isRemembered_13 : decode cX7_isRemembered 13 = .ok (.ifCond .lt 31, 3) := by decide +kernel
theorem dX7_isRemembered_16 : decode cX7_isRemembered 16 = .ok (.aload_n 0, 1) := by decide +kernel
theorem dX7_isRemembered_17 : decode cX7_isRemembered 17 = .ok (.getfield 13, 3) := by decide +kernel
theorem dX7_isRemembered_20 : decode cX7_isRemembered 20 = .ok (.iload_n 1, 1) := by decide +kernel
theorem dX7_isRemembered_21 : decode cX7_isRemembered 21 = .ok (.iaload, 1) := by decide +kernel
theorem dX7_isRemembered_22 : decode cX7_isRemembered 22 = .ok (.ifCond .eq 18, 3) := by decide +kernel
theorem dX7_isRemembered_25 : decode cX7_isRemembered 25 = .ok (.aload_n 0, 1) := by decide +kernel
theorem dX7_isRemembered_26 : decode cX7_isRemembered 26 = .ok (.getfield 229, 3) := by decide +kernel
theorem dX7_isRemembered_29 : decode cX7_isRemembered 29 = .ok (.iload_n 3, 1) := by decide +kernel
theorem dX7_isRemembered_30 : decode cX7_isRemembered 30 = .ok (.isub, 1) := by decide +kernel
theorem dX7_isRemembered_31 : decode cX7_isRemembered 31 = .ok (.aload_n 0, 1) := by decide +kernel
theorem dX7_isRemembered_32 : decode cX7_isRemembered 32 = .ok (.getfield 13, 3) := by decide +kernel
theorem dX7_isRemembered_35 : decode cX7_isRemembered 35 = .ok (.iload_n 1, 1) := by decide +kernel
theorem dX7_isRemembered_36 : decode cX7_isRemembered 36 = .ok (.iaload, 1) := by decide +kernel
theorem dX7_isRemembered_37 : decode cX7_isRemembered 37 = .ok (.if_icmp .gt 7, 3) := by decide +kernel
theorem dX7_isRemembered_40 : decode cX7_isRemembered 40 = .ok (.iconst 1, 1) := by decide +kernel
theorem dX7_isRemembered_41 : decode cX7_isRemembered 41 = .ok (.goto 4, 3) := by decide +kernel
theorem dX7_isRemembered_44 : decode cX7_isRemembered 44 = .ok (.iconst 0, 1) := by decide +kernel
theorem dX7_isRemembered_45 : decode cX7_isRemembered 45 = .ok (.ireturn, 1) := by decide +kernel
theorem dX7_rememberedAt_0 : decode cX7_rememberedAt 0 = .ok (.iconst 0, 1) := by decide +kernel
theorem dX7_rememberedAt_1 : decode cX7_rememberedAt 1 = .ok (.istore_n 2, 1) := by decide +kernel
theorem dX7_rememberedAt_2 : decode cX7_rememberedAt 2 = .ok (.iconst 0, 1) := by decide +kernel
theorem dX7_rememberedAt_3 : decode cX7_rememberedAt 3 = .ok (.istore_n 3, 1) := by decide +kernel
theorem dX7_rememberedAt_4 : decode cX7_rememberedAt 4 = .ok (.iload_n 3, 1) := by decide +kernel
theorem dX7_rememberedAt_5 : decode cX7_rememberedAt 5 = .ok (.aload_n 0, 1) := by decide +kernel
theorem dX7_rememberedAt_6 : decode cX7_rememberedAt 6 = .ok (.getfield 102, 3) := by decide +kernel
theorem dX7_rememberedAt_9 : decode cX7_rememberedAt 9 = .ok (.if_icmp .ge 28, 3) := by decide +kernel
theorem dX7_rememberedAt_12 : decode cX7_rememberedAt 12 = .ok (.iload_n 2, 1) := by decide +kernel
theorem dX7_rememberedAt_13 : decode cX7_rememberedAt 13 = .ok (.aload_n 0, 1) := by decide +kernel
theorem dX7_rememberedAt_14 : decode cX7_rememberedAt 14 = .ok (.iload_n 1, 1) := by decide +kernel
theorem dX7_rememberedAt_15 : decode cX7_rememberedAt 15 = .ok (.iload_n 3, 1) := by decide +kernel
theorem dX7_rememberedAt_16 : decode cX7_rememberedAt 16 = .ok (.invokevirtual 238, 3) := by decide +kernel
theorem dX7_rememberedAt_19 : decode cX7_rememberedAt 19 = .ok (.ifCond .eq 9, 3) := by decide +kernel
theorem dX7_rememberedAt_22 : decode cX7_rememberedAt 22 = .ok (.iconst 1, 1) := by decide +kernel
theorem dX7_rememberedAt_23 : decode cX7_rememberedAt 23 = .ok (.iload_n 3, 1) := by decide +kernel
theorem dX7_rememberedAt_24 : decode cX7_rememberedAt 24 = .ok (.ishl, 1) := by decide +kernel
theorem dX7_rememberedAt_25 : decode cX7_rememberedAt 25 = .ok (.goto 4, 3) := by decide +kernel
theorem dX7_rememberedAt_28 : decode cX7_rememberedAt 28 = .ok (.iconst 0, 1) := by decide +kernel
theorem dX7_rememberedAt_29 : decode cX7_rememberedAt 29 = .ok (.ior, 1) := by decide +kernel
theorem dX7_rememberedAt_30 : decode cX7_rememberedAt 30 = .ok (.istore_n 2, 1) := by decide +kernel
theorem dX7_rememberedAt_31 : decode cX7_rememberedAt 31 = .ok (.iinc 3 1, 3) := by decide +kernel
theorem dX7_rememberedAt_34 : decode cX7_rememberedAt 34 = .ok (.goto (-30), 3) := by decide +kernel
theorem dX7_rememberedAt_37 : decode cX7_rememberedAt 37 = .ok (.iload_n 2, 1) := by decide +kernel
theorem dX7_rememberedAt_38 : decode cX7_rememberedAt 38 = .ok (.ireturn, 1) := by decide +kernel
theorem dX7_bridge_0 : decode cX7_bridge 0 = .ok (.aload_n 0, 1) := by decide +kernel
theorem dX7_bridge_1 : decode cX7_bridge 1 = .ok (.iload_n 1, 1) := by decide +kernel
theorem dX7_bridge_2 : decode cX7_bridge 2 = .ok (.invokevirtual 241, 3) := by decide +kernel
theorem dX7_bridge_5 : decode cX7_bridge 5 = .ok (.ifCond .ne 6, 3) := by decide +kernel
theorem dX7_bridge_8 : decode cX7_bridge 8 = .ok (.ldc 244, 2) := by decide +kernel
theorem dX7_bridge_10 : decode cX7_bridge 10 = .ok (.ireturn, 1) := by decide +kernel
theorem dX7_bridge_11 : decode cX7_bridge 11 = .ok (.iload_n 2, 1) := by decide +kernel
theorem dX7_bridge_12 : decode cX7_bridge 12 = .ok (.ifCond .ne 12, 3) := by decide +kernel
theorem dX7_bridge_15 : decode cX7_bridge 15 = .ok (.aload_n 0, 1) := by decide +kernel
theorem dX7_bridge_16 : decode cX7_bridge 16 = .ok (.getfield 13, 3) := by decide +kernel
theorem dX7_bridge_19 : decode cX7_bridge 19 = .ok (.iload_n 1, 1) := by decide +kernel
theorem dX7_bridge_20 : decode cX7_bridge 20 = .ok (.iaload, 1) := by decide +kernel
theorem dX7_bridge_21 : decode cX7_bridge 21 = .ok (.goto 32, 3) := by decide +kernel
theorem dX7_bridge_24 : decode cX7_bridge 24 = .ok (.iload_n 2, 1) := by decide +kernel
theorem dX7_bridge_25 : decode cX7_bridge 25 = .ok (.iconst 1, 1) := by decide +kernel
theorem dX7_bridge_26 : decode cX7_bridge 26 = .ok (.if_icmp .ne 12, 3) := by decide +kernel
theorem dX7_bridge_29 : decode cX7_bridge 29 = .ok (.aload_n 0, 1) := by decide +kernel
theorem dX7_bridge_30 : decode cX7_bridge 30 = .ok (.getfield 32, 3) := by decide +kernel
theorem dX7_bridge_33 : decode cX7_bridge 33 = .ok (.iload_n 1, 1) := by decide +kernel
theorem dX7_bridge_34 : decode cX7_bridge 34 = .ok (.iaload, 1) := by decide +kernel
theorem dX7_bridge_35 : decode cX7_bridge 35 = .ok (.goto 18, 3) := by decide +kernel
theorem dX7_bridge_38 : decode cX7_bridge 38 = .ok (.iload_n 2, 1) := by decide +kernel
theorem dX7_bridge_39 : decode cX7_bridge 39 = .ok (.iconst 2, 1) := by decide +kernel
theorem dX7_bridge_40 : decode cX7_bridge 40 = .ok (.if_icmp .ne 11, 3) := by decide +kernel
theorem dX7_bridge_43 : decode cX7_bridge 43 = .ok (.aload_n 0, 1) := by decide +kernel
theorem dX7_bridge_44 : decode cX7_bridge 44 = .ok (.iload_n 1, 1) := by decide +kernel
theorem dX7_bridge_45 : decode cX7_bridge 45 = .ok (.invokevirtual 245, 3) := by decide +kernel
theorem dX7_bridge_48 : decode cX7_bridge 48 = .ok (.goto 5, 3) := by decide +kernel
theorem dX7_bridge_51 : decode cX7_bridge 51 = .ok (.ldc 118, 2) := by decide +kernel
theorem dX7_bridge_53 : decode cX7_bridge 53 = .ok (.ireturn, 1) := by decide +kernel
theorem dX7_man_0 : decode cX7_man 0 = .ok (.aload_n 0, 1) := by decide +kernel
theorem dX7_man_1 : decode cX7_man 1 = .ok (.iload_n 1, 1) := by decide +kernel
theorem dX7_man_2 : decode cX7_man 2 = .ok (.invokevirtual 112, 3) := by decide +kernel
theorem dX7_man_5 : decode cX7_man 5 = .ok (.ifCond .ne 6, 3) := by decide +kernel
theorem dX7_man_8 : decode cX7_man 8 = .ok (.ldc 244, 2) := by decide +kernel
theorem dX7_man_10 : decode cX7_man 10 = .ok (.ireturn, 1) := by decide +kernel
theorem dX7_man_11 : decode cX7_man 11 = .ok (.iload_n 2, 1) := by decide +kernel
theorem dX7_man_12 : decode cX7_man 12 = .ok (.ifCond .ne 12, 3) := by decide +kernel
theorem dX7_man_15 : decode cX7_man 15 = .ok (.aload_n 0, 1) := by decide +kernel
theorem dX7_man_16 : decode cX7_man 16 = .ok (.getfield 17, 3) := by decide +kernel
theorem dX7_man_19 : decode cX7_man 19 = .ok (.iload_n 1, 1) := by decide +kernel
theorem dX7_man_20 : decode cX7_man 20 = .ok (.iaload, 1) := by decide +kernel
theorem dX7_man_21 : decode cX7_man 21 = .ok (.goto 49, 3) := by decide +kernel
theorem dX7_man_24 : decode cX7_man 24 = .ok (.iload_n 2, 1) := by decide +kernel
theorem dX7_man_25 : decode cX7_man 25 = .ok (.iconst 1, 1) := by decide +kernel
theorem dX7_man_26 : decode cX7_man 26 = .ok (.if_icmp .ne 12, 3) := by decide +kernel
theorem dX7_man_29 : decode cX7_man 29 = .ok (.aload_n 0, 1) := by decide +kernel
theorem dX7_man_30 : decode cX7_man 30 = .ok (.getfield 20, 3) := by decide +kernel
theorem dX7_man_33 : decode cX7_man 33 = .ok (.iload_n 1, 1) := by decide +kernel
theorem dX7_man_34 : decode cX7_man 34 = .ok (.iaload, 1) := by decide +kernel
theorem dX7_man_35 : decode cX7_man 35 = .ok (.goto 35, 3) := by decide +kernel
theorem dX7_man_38 : decode cX7_man 38 = .ok (.iload_n 2, 1) := by decide +kernel
theorem dX7_man_39 : decode cX7_man 39 = .ok (.iconst 2, 1) := by decide +kernel
theorem dX7_man_40 : decode cX7_man 40 = .ok (.if_icmp .ne 14, 3) := by decide +kernel
theorem dX7_man_43 : decode cX7_man 43 = .ok (.aload_n 0, 1) := by decide +kernel
theorem dX7_man_44 : decode cX7_man 44 = .ok (.getfield 226, 3) := by decide +kernel
theorem dX7_man_47 : decode cX7_man 47 = .ok (.iload_n 1, 1) := by decide +kernel
theorem dX7_man_48 : decode cX7_man 48 = .ok (.ishr, 1) := by decide +kernel
theorem dX7_man_49 : decode cX7_man 49 = .ok (.iconst 1, 1) := by decide +kernel
theorem dX7_man_50 : decode cX7_man 50 = .ok (.iand, 1) := by decide +kernel
theorem dX7_man_51 : decode cX7_man 51 = .ok (.goto 19, 3) := by decide +kernel
theorem dX7_man_54 : decode cX7_man 54 = .ok (.iload_n 2, 1) := by decide +kernel
theorem dX7_man_55 : decode cX7_man 55 = .ok (.iconst 3, 1) := by decide +kernel
theorem dX7_man_56 : decode cX7_man 56 = .ok (.if_icmp .ne 12, 3) := by decide +kernel
theorem dX7_man_59 : decode cX7_man 59 = .ok (.aload_n 0, 1) := by decide +kernel
theorem dX7_man_60 : decode cX7_man 60 = .ok (.getfield 29, 3) := by decide +kernel
theorem dX7_man_63 : decode cX7_man 63 = .ok (.iload_n 1, 1) := by decide +kernel
theorem dX7_man_64 : decode cX7_man 64 = .ok (.iaload, 1) := by decide +kernel
theorem dX7_man_65 : decode cX7_man 65 = .ok (.goto 5, 3) := by decide +kernel
theorem dX7_man_68 : decode cX7_man 68 = .ok (.ldc 118, 2) := by decide +kernel
theorem dX7_man_70 : decode cX7_man 70 = .ok (.ireturn, 1) := by decide +kernel
theorem dX7_ox_0 : decode cX7_ox 0 = .ok (.iload_n 1, 1) := by decide +kernel
theorem dX7_ox_1 : decode cX7_ox 1 = .ok (.i2l, 1) := by decide +kernel
theorem dX7_ox_2 : decode cX7_ox 2 = .ok (.lconst 0, 1) := by decide +kernel
theorem dX7_ox_3 : decode cX7_ox 3 = .ok (.aload_n 0, 1) := by decide +kernel
theorem dX7_ox_4 : decode cX7_ox 4 = .ok (.getfield 223, 3) := by decide +kernel
theorem dX7_ox_7 : decode cX7_ox 7 = .ok (.iconst 1, 1) := by decide +kernel
theorem dX7_ox_8 : decode cX7_ox 8 = .ok (.isub, 1) := by decide +kernel
theorem dX7_ox_9 : decode cX7_ox 9 = .ok (.i2l, 1) := by decide +kernel
theorem dX7_ox_10 : decode cX7_ox 10 = .ok (.invokestatic 108, 3) := by decide +kernel
theorem dX7_ox_13 : decode cX7_ox 13 = .ok (.ifCond .ne 6, 3) := by decide +kernel
theorem dX7_ox_16 : decode cX7_ox 16 = .ok (.ldc 244, 2) := by decide +kernel
theorem dX7_ox_18 : decode cX7_ox 18 = .ok (.ireturn, 1) := by decide +kernel
theorem dX7_ox_19 : decode cX7_ox 19 = .ok (.iload_n 2, 1) := by decide +kernel
theorem dX7_ox_20 : decode cX7_ox 20 = .ok (.ifCond .ne 12, 3) := by decide +kernel
theorem dX7_ox_23 : decode cX7_ox 23 = .ok (.aload_n 0, 1) := by decide +kernel
theorem dX7_ox_24 : decode cX7_ox 24 = .ok (.getfield 23, 3) := by decide +kernel
theorem dX7_ox_27 : decode cX7_ox 27 = .ok (.iload_n 1, 1) := by decide +kernel
theorem dX7_ox_28 : decode cX7_ox 28 = .ok (.iaload, 1) := by decide +kernel
theorem dX7_ox_29 : decode cX7_ox 29 = .ok (.goto 19, 3) := by decide +kernel
theorem dX7_ox_32 : decode cX7_ox 32 = .ok (.iload_n 2, 1) := by decide +kernel
theorem dX7_ox_33 : decode cX7_ox 33 = .ok (.iconst 1, 1) := by decide +kernel
theorem dX7_ox_34 : decode cX7_ox 34 = .ok (.if_icmp .ne 12, 3) := by decide +kernel
theorem dX7_ox_37 : decode cX7_ox 37 = .ok (.aload_n 0, 1) := by decide +kernel
theorem dX7_ox_38 : decode cX7_ox 38 = .ok (.getfield 26, 3) := by decide +kernel
theorem dX7_ox_41 : decode cX7_ox 41 = .ok (.iload_n 1, 1) := by decide +kernel
theorem dX7_ox_42 : decode cX7_ox 42 = .ok (.iaload, 1) := by decide +kernel
theorem dX7_ox_43 : decode cX7_ox 43 = .ok (.goto 5, 3) := by decide +kernel
theorem dX7_ox_46 : decode cX7_ox 46 = .ok (.ldc 118, 2) := by decide +kernel
theorem dX7_ox_48 : decode cX7_ox 48 = .ok (.ireturn, 1) := by decide +kernel
theorem dX7_named_0 : decode cX7_named 0 = .ok (.aload_n 0, 1) := by decide +kernel
theorem dX7_named_1 : decode cX7_named 1 = .ok (.iload_n 1, 1) := by decide +kernel
theorem dX7_named_2 : decode cX7_named 2 = .ok (.invokevirtual 241, 3) := by decide +kernel
theorem dX7_named_5 : decode cX7_named 5 = .ok (.ifCond .eq 11, 3) := by decide +kernel
theorem dX7_named_8 : decode cX7_named 8 = .ok (.aload_n 0, 1) := by decide +kernel
theorem dX7_named_9 : decode cX7_named 9 = .ok (.iload_n 2, 1) := by decide +kernel
theorem dX7_named_10 : decode cX7_named 10 = .ok (.invokevirtual 112, 3) := by decide +kernel
theorem dX7_named_13 : decode cX7_named 13 = .ok (.ifCond .ne 6, 3) := by decide +kernel
theorem dX7_named_16 : decode cX7_named 16 = .ok (.ldc 244, 2) := by decide +kernel
theorem dX7_named_18 : decode cX7_named 18 = .ok (.ireturn, 1) := by decide +kernel
theorem dX7_named_19 : decode cX7_named 19 = .ok (.aload_n 0, 1) := by decide +kernel
theorem dX7_named_20 : decode cX7_named 20 = .ok (.getfield 32, 3) := by decide +kernel
theorem dX7_named_23 : decode cX7_named 23 = .ok (.iload_n 1, 1) := by decide +kernel
theorem dX7_named_24 : decode cX7_named 24 = .ok (.iaload, 1) := by decide +kernel
theorem dX7_named_25 : decode cX7_named 25 = .ok (.iload_n 2, 1) := by decide +kernel
theorem dX7_named_26 : decode cX7_named 26 = .ok (.invokestatic 184, 3) := by decide +kernel
theorem dX7_named_29 : decode cX7_named 29 = .ok (.ifCond .eq 17, 3) := by decide +kernel
theorem dX7_named_32 : decode cX7_named 32 = .ok (.aload_n 0, 1) := by decide +kernel
theorem dX7_named_33 : decode cX7_named 33 = .ok (.getfield 35, 3) := by decide +kernel
theorem dX7_named_36 : decode cX7_named 36 = .ok (.bipush 6, 2) := by decide +kernel
theorem dX7_named_38 : decode cX7_named 38 = .ok (.iload_n 1, 1) := by decide +kernel
theorem dX7_named_39 : decode cX7_named 39 = .ok (.imul, 1) := by decide +kernel
theorem dX7_named_40 : decode cX7_named 40 = .ok (.iload_n 2, 1) := by decide +kernel
theorem dX7_named_41 : decode cX7_named 41 = .ok (.iadd, 1) := by decide +kernel
theorem dX7_named_42 : decode cX7_named 42 = .ok (.iaload, 1) := by decide +kernel
theorem dX7_named_43 : decode cX7_named 43 = .ok (.goto 5, 3) := by decide +kernel
theorem dX7_named_46 : decode cX7_named 46 = .ok (.ldc 249, 2) := by decide +kernel
theorem dX7_named_48 : decode cX7_named 48 = .ok (.ireturn, 1) := by decide +kernel
theorem dX7_mayAlone_0 : decode cX7_mayAlone 0 = .ok (.aload_n 0, 1) := by decide +kernel
theorem dX7_mayAlone_1 : decode cX7_mayAlone 1 = .ok (.getfield 41, 3) := by decide +kernel
theorem dX7_mayAlone_4 : decode cX7_mayAlone 4 = .ok (.bipush 6, 2) := by decide +kernel
theorem dX7_mayAlone_6 : decode cX7_mayAlone 6 = .ok (.iload_n 1, 1) := by decide +kernel
theorem dX7_mayAlone_7 : decode cX7_mayAlone 7 = .ok (.imul, 1) := by decide +kernel
theorem dX7_mayAlone_8 : decode cX7_mayAlone 8 = .ok (.iload_n 2, 1) := by decide +kernel
theorem dX7_mayAlone_9 : decode cX7_mayAlone 9 = .ok (.iadd, 1) := by decide +kernel
theorem dX7_mayAlone_10 : decode cX7_mayAlone 10 = .ok (.iaload, 1) := by decide +kernel
theorem dX7_mayAlone_11 : decode cX7_mayAlone 11 = .ok (.aload_n 0, 1) := by decide +kernel
theorem dX7_mayAlone_12 : decode cX7_mayAlone 12 = .ok (.getfield 229, 3) := by decide +kernel
theorem dX7_mayAlone_15 : decode cX7_mayAlone 15 = .ok (.aload_n 0, 1) := by decide +kernel
theorem dX7_mayAlone_16 : decode cX7_mayAlone 16 = .ok (.getfield 7, 3) := by decide +kernel
theorem dX7_mayAlone_19 : decode cX7_mayAlone 19 = .ok (.idiv, 1) := by decide +kernel
theorem dX7_mayAlone_20 : decode cX7_mayAlone 20 = .ok (.if_icmp .eq 7, 3) := by decide +kernel
theorem dX7_mayAlone_23 : decode cX7_mayAlone 23 = .ok (.iconst 1, 1) := by decide +kernel
theorem dX7_mayAlone_24 : decode cX7_mayAlone 24 = .ok (.goto 4, 3) := by decide +kernel
theorem dX7_mayAlone_27 : decode cX7_mayAlone 27 = .ok (.iconst 0, 1) := by decide +kernel
theorem dX7_mayAlone_28 : decode cX7_mayAlone 28 = .ok (.istore_n 3, 1) := by decide +kernel
theorem dX7_mayAlone_29 : decode cX7_mayAlone 29 = .ok (.iconst 0, 1) := by decide +kernel
theorem dX7_mayAlone_30 : decode cX7_mayAlone 30 = .ok (.istore 4, 2) := by decide +kernel
theorem dX7_mayAlone_32 : decode cX7_mayAlone 32 = .ok (.iload 4, 2) := by decide +kernel
theorem dX7_mayAlone_34 : decode cX7_mayAlone 34 = .ok (.aload_n 0, 1) := by decide +kernel
theorem dX7_mayAlone_35 : decode cX7_mayAlone 35 = .ok (.getfield 102, 3) := by decide +kernel
theorem dX7_mayAlone_38 : decode cX7_mayAlone 38 = .ok (.if_icmp .ge 53, 3) := by decide +kernel
theorem dX7_mayAlone_41 : decode cX7_mayAlone 41 = .ok (.iload_n 3, 1) := by decide +kernel
theorem dX7_mayAlone_42 : decode cX7_mayAlone 42 = .ok (.ifCond .eq 41, 3) := by decide +kernel
theorem dX7_mayAlone_45 : decode cX7_mayAlone 45 = .ok (.iload 4, 2) := by decide +kernel
theorem dX7_mayAlone_47 : decode cX7_mayAlone 47 = .ok (.iload_n 2, 1) := by decide +kernel
theorem dX7_mayAlone_48 : decode cX7_mayAlone 48 = .ok (.if_icmp .eq 31, 3) := by decide +kernel
theorem dX7_mayAlone_51 : decode cX7_mayAlone 51 = .ok (.aload_n 0, 1) := by decide +kernel
theorem dX7_mayAlone_52 : decode cX7_mayAlone 52 = .ok (.getfield 226, 3) := by decide +kernel
theorem dX7_mayAlone_55 : decode cX7_mayAlone 55 = .ok (.iload 4, 2) := by decide +kernel
theorem dX7_mayAlone_57 : decode cX7_mayAlone 57 = .ok (.invokestatic 184, 3) := by decide +kernel
theorem dX7_mayAlone_60 : decode cX7_mayAlone 60 = .ok (.ifCond .eq 19, 3) := by decide +kernel
theorem dX7_mayAlone_63 : decode cX7_mayAlone 63 = .ok (.aload_n 0, 1) := by decide +kernel
theorem dX7_mayAlone_64 : decode cX7_mayAlone 64 = .ok (.getfield 17, 3) := by decide +kernel
theorem dX7_mayAlone_67 : decode cX7_mayAlone 67 = .ok (.iload 4, 2) := by decide +kernel
theorem dX7_mayAlone_69 : decode cX7_mayAlone 69 = .ok (.iaload, 1) := by decide +kernel
theorem dX7_mayAlone_70 : decode cX7_mayAlone 70 = .ok (.aload_n 0, 1) := by decide +kernel
theorem dX7_mayAlone_71 : decode cX7_mayAlone 71 = .ok (.getfield 17, 3) := by decide +kernel
theorem dX7_mayAlone_74 : decode cX7_mayAlone 74 = .ok (.iload_n 2, 1) := by decide +kernel
theorem dX7_mayAlone_75 : decode cX7_mayAlone 75 = .ok (.iaload, 1) := by decide +kernel
theorem dX7_mayAlone_76 : decode cX7_mayAlone 76 = .ok (.if_icmp .ge 7, 3) := by decide +kernel
theorem dX7_mayAlone_79 : decode cX7_mayAlone 79 = .ok (.iconst 1, 1) := by decide +kernel
theorem dX7_mayAlone_80 : decode cX7_mayAlone 80 = .ok (.goto 4, 3) := by decide +kernel
theorem dX7_mayAlone_83 : decode cX7_mayAlone 83 = .ok (.iconst 0, 1) := by decide +kernel
theorem dX7_mayAlone_84 : decode cX7_mayAlone 84 = .ok (.istore_n 3, 1) := by decide +kernel
theorem dX7_mayAlone_85 : decode cX7_mayAlone 85 = .ok (.iinc 4 1, 3) := by decide +kernel
theorem dX7_mayAlone_88 : decode cX7_mayAlone 88 = .ok (.goto (-56), 3) := by decide +kernel
theorem dX7_mayAlone_91 : decode cX7_mayAlone 91 = .ok (.iload_n 3, 1) := by decide +kernel
theorem dX7_mayAlone_92 : decode cX7_mayAlone 92 = .ok (.ireturn, 1) := by decide +kernel
theorem dX7_mayName_0 : decode cX7_mayName 0 = .ok (.aload_n 0, 1) := by decide +kernel
theorem dX7_mayName_1 : decode cX7_mayName 1 = .ok (.getfield 17, 3) := by decide +kernel
theorem dX7_mayName_4 : decode cX7_mayName 4 = .ok (.iload_n 3, 1) := by decide +kernel
theorem dX7_mayName_5 : decode cX7_mayName 5 = .ok (.iaload, 1) := by decide +kernel
theorem dX7_mayName_6 : decode cX7_mayName 6 = .ok (.aload_n 0, 1) := by decide +kernel
theorem dX7_mayName_7 : decode cX7_mayName 7 = .ok (.getfield 17, 3) := by decide +kernel
theorem dX7_mayName_10 : decode cX7_mayName 10 = .ok (.iload_n 2, 1) := by decide +kernel
theorem dX7_mayName_11 : decode cX7_mayName 11 = .ok (.iaload, 1) := by decide +kernel
theorem dX7_mayName_12 : decode cX7_mayName 12 = .ok (.if_icmp .le 40, 3) := by decide +kernel
theorem dX7_mayName_15 : decode cX7_mayName 15 = .ok (.aload_n 0, 1) := by decide +kernel
theorem dX7_mayName_16 : decode cX7_mayName 16 = .ok (.getfield 226, 3) := by decide +kernel
theorem dX7_mayName_19 : decode cX7_mayName 19 = .ok (.iload_n 3, 1) := by decide +kernel
theorem dX7_mayName_20 : decode cX7_mayName 20 = .ok (.invokestatic 184, 3) := by decide +kernel
theorem dX7_mayName_23 : decode cX7_mayName 23 = .ok (.ifCond .eq 29, 3) := by decide +kernel
theorem dX7_mayName_26 : decode cX7_mayName 26 = .ok (.aload_n 0, 1) := by decide +kernel
theorem dX7_mayName_27 : decode cX7_mayName 27 = .ok (.getfield 32, 3) := by decide +kernel
theorem dX7_mayName_30 : decode cX7_mayName 30 = .ok (.iload_n 1, 1) := by decide +kernel
theorem dX7_mayName_31 : decode cX7_mayName 31 = .ok (.iaload, 1) := by decide +kernel
theorem dX7_mayName_32 : decode cX7_mayName 32 = .ok (.iload_n 3, 1) := by decide +kernel
theorem dX7_mayName_33 : decode cX7_mayName 33 = .ok (.invokestatic 184, 3) := by decide +kernel
theorem dX7_mayName_36 : decode cX7_mayName 36 = .ok (.ifCond .ne 16, 3) := by decide +kernel
theorem dX7_mayName_39 : decode cX7_mayName 39 = .ok (.aload_n 0, 1) := by decide +kernel
theorem dX7_mayName_40 : decode cX7_mayName 40 = .ok (.iload_n 1, 1) := by decide +kernel
theorem dX7_mayName_41 : decode cX7_mayName 41 = .ok (.iload_n 2, 1) := by decide +kernel
theorem dX7_mayName_42 : decode cX7_mayName 42 = .ok (.invokevirtual 238, 3) := by decide +kernel
theorem dX7_mayName_45 : decode cX7_mayName 45 = .ok (.ifCond .ne 7, 3) := by decide +kernel
theorem dX7_mayName_48 : decode cX7_mayName 48 = .ok (.iconst 1, 1) := by decide +kernel
theorem dX7_mayName_49 : decode cX7_mayName 49 = .ok (.goto 4, 3) := by decide +kernel
theorem dX7_mayName_52 : decode cX7_mayName 52 = .ok (.iconst 0, 1) := by decide +kernel
theorem dX7_mayName_53 : decode cX7_mayName 53 = .ok (.ireturn, 1) := by decide +kernel
theorem dX7_isLetGo_0 : decode cX7_isLetGo 0 = .ok (.iload_n 3, 1) := by decide +kernel
theorem dX7_isLetGo_1 : decode cX7_isLetGo 1 = .ok (.iconst (-1), 1) := by decide +kernel
theorem dX7_isLetGo_2 : decode cX7_isLetGo 2 = .ok (.if_icmp .ne 12, 3) := by decide +kernel
theorem dX7_isLetGo_5 : decode cX7_isLetGo 5 = .ok (.aload_n 0, 1) := by decide +kernel
theorem dX7_isLetGo_6 : decode cX7_isLetGo 6 = .ok (.iload_n 1, 1) := by decide +kernel
theorem dX7_isLetGo_7 : decode cX7_isLetGo 7 = .ok (.iload_n 2, 1) := by decide +kernel
theorem dX7_isLetGo_8 : decode cX7_isLetGo 8 = .ok (.invokevirtual 250, 3) := by decide +kernel
theorem dX7_isLetGo_11 : decode cX7_isLetGo 11 = .ok (.goto 10, 3) := by decide +kernel
theorem dX7_isLetGo_14 : decode cX7_isLetGo 14 = .ok (.aload_n 0, 1) := by decide +kernel
theorem dX7_isLetGo_15 : decode cX7_isLetGo 15 = .ok (.iload_n 1, 1) := by decide +kernel
theorem dX7_isLetGo_16 : decode cX7_isLetGo 16 = .ok (.iload_n 2, 1) := by decide +kernel
theorem dX7_isLetGo_17 : decode cX7_isLetGo 17 = .ok (.iload_n 3, 1) := by decide +kernel
theorem dX7_isLetGo_18 : decode cX7_isLetGo 18 = .ok (.invokevirtual 253, 3) := by decide +kernel
theorem dX7_isLetGo_21 : decode cX7_isLetGo 21 = .ok (.ireturn, 1) := by decide +kernel
theorem dX7_canCross_0 : decode cX7_canCross 0 = .ok (.aload_n 0, 1) := by decide +kernel
theorem dX7_canCross_1 : decode cX7_canCross 1 = .ok (.getfield 226, 3) := by decide +kernel
theorem dX7_canCross_4 : decode cX7_canCross 4 = .ok (.iload_n 2, 1) := by decide +kernel
theorem dX7_canCross_5 : decode cX7_canCross 5 = .ok (.invokestatic 184, 3) := by decide +kernel
theorem dX7_canCross_8 : decode cX7_canCross 8 = .ok (.ifCond .eq 38, 3) := by decide +kernel
theorem dX7_canCross_11 : decode cX7_canCross 11 = .ok (.aload_n 0, 1) := by decide +kernel
theorem dX7_canCross_12 : decode cX7_canCross 12 = .ok (.getfield 32, 3) := by decide +kernel
theorem dX7_canCross_15 : decode cX7_canCross 15 = .ok (.iload_n 1, 1) := by decide +kernel
theorem dX7_canCross_16 : decode cX7_canCross 16 = .ok (.iaload, 1) := by decide +kernel
theorem dX7_canCross_17 : decode cX7_canCross 17 = .ok (.iload_n 2, 1) := by decide +kernel
theorem dX7_canCross_18 : decode cX7_canCross 18 = .ok (.invokestatic 184, 3) := by decide +kernel
theorem dX7_canCross_21 : decode cX7_canCross 21 = .ok (.ifCond .ne 25, 3) := by decide +kernel
theorem dX7_canCross_24 : decode cX7_canCross 24 = .ok (.iload_n 3, 1) := by decide +kernel
theorem dX7_canCross_25 : decode cX7_canCross 25 = .ok (.iconst (-1), 1) := by decide +kernel
theorem dX7_canCross_26 : decode cX7_canCross 26 = .ok (.if_icmp .eq 16, 3) := by decide +kernel
theorem dX7_canCross_29 : decode cX7_canCross 29 = .ok (.aload_n 0, 1) := by decide +kernel
theorem dX7_canCross_30 : decode cX7_canCross 30 = .ok (.getfield 29, 3) := by decide +kernel
theorem dX7_canCross_33 : decode cX7_canCross 33 = .ok (.iload_n 2, 1) := by decide +kernel
theorem dX7_canCross_34 : decode cX7_canCross 34 = .ok (.iaload, 1) := by decide +kernel
theorem dX7_canCross_35 : decode cX7_canCross 35 = .ok (.iload_n 3, 1) := by decide +kernel
theorem dX7_canCross_36 : decode cX7_canCross 36 = .ok (.invokestatic 184, 3) := by decide +kernel
theorem dX7_canCross_39 : decode cX7_canCross 39 = .ok (.ifCond .eq 7, 3) := by decide +kernel
theorem dX7_canCross_42 : decode cX7_canCross 42 = .ok (.iconst 1, 1) := by decide +kernel
theorem dX7_canCross_43 : decode cX7_canCross 43 = .ok (.goto 4, 3) := by decide +kernel
theorem dX7_canCross_46 : decode cX7_canCross 46 = .ok (.iconst 0, 1) := by decide +kernel
theorem dX7_canCross_47 : decode cX7_canCross 47 = .ok (.ireturn, 1) := by decide +kernel
theorem dX7_crossNow_0 : decode cX7_crossNow 0 = .ok (.aload_n 0, 1) := by decide +kernel
theorem dX7_crossNow_1 : decode cX7_crossNow 1 = .ok (.iload_n 1, 1) := by decide +kernel
theorem dX7_crossNow_2 : decode cX7_crossNow 2 = .ok (.iload_n 2, 1) := by decide +kernel
theorem dX7_crossNow_3 : decode cX7_crossNow 3 = .ok (.iload_n 3, 1) := by decide +kernel
theorem dX7_crossNow_4 : decode cX7_crossNow 4 = .ok (.invokevirtual 257, 3) := by decide +kernel
theorem dX7_crossNow_7 : decode cX7_crossNow 7 = .ok (.ifCond .ne 19, 3) := by decide +kernel
theorem dX7_crossNow_10 : decode cX7_crossNow 10 = .ok (.aload_n 0, 1) := by decide +kernel
theorem dX7_crossNow_11 : decode cX7_crossNow 11 = .ok (.dup, 1) := by decide +kernel
theorem dX7_crossNow_12 : decode cX7_crossNow 12 = .ok (.getfield 226, 3) := by decide +kernel
theorem dX7_crossNow_15 : decode cX7_crossNow 15 = .ok (.iconst 1, 1) := by decide +kernel
theorem dX7_crossNow_16 : decode cX7_crossNow 16 = .ok (.iload_n 2, 1) := by decide +kernel
theorem dX7_crossNow_17 : decode cX7_crossNow 17 = .ok (.ishl, 1) := by decide +kernel
theorem dX7_crossNow_18 : decode cX7_crossNow 18 = .ok (.iconst (-1), 1) := by decide +kernel
theorem dX7_crossNow_19 : decode cX7_crossNow 19 = .ok (.ixor, 1) := by decide +kernel
theorem dX7_crossNow_20 : decode cX7_crossNow 20 = .ok (.iand, 1) := by decide +kernel
theorem dX7_crossNow_21 : decode cX7_crossNow 21 = .ok (.putfield 226, 3) := by decide +kernel
theorem dX7_crossNow_24 : decode cX7_crossNow 24 = .ok (.iconst 0, 1) := by decide +kernel
theorem dX7_crossNow_25 : decode cX7_crossNow 25 = .ok (.ireturn, 1) := by decide +kernel
theorem dX7_crossNow_26 : decode cX7_crossNow 26 = .ok (.aload_n 0, 1) := by decide +kernel
theorem dX7_crossNow_27 : decode cX7_crossNow 27 = .ok (.getfield 32, 3) := by decide +kernel
theorem dX7_crossNow_30 : decode cX7_crossNow 30 = .ok (.iload_n 1, 1) := by decide +kernel
theorem dX7_crossNow_31 : decode cX7_crossNow 31 = .ok (.dup2, 1) := by decide +kernel
theorem dX7_crossNow_32 : decode cX7_crossNow 32 = .ok (.iaload, 1) := by decide +kernel
theorem dX7_crossNow_33 : decode cX7_crossNow 33 = .ok (.iconst 1, 1) := by decide +kernel
theorem dX7_crossNow_34 : decode cX7_crossNow 34 = .ok (.iload_n 2, 1) := by decide +kernel
theorem dX7_crossNow_35 : decode cX7_crossNow 35 = .ok (.ishl, 1) := by decide +kernel
theorem dX7_crossNow_36 : decode cX7_crossNow 36 = .ok (.ior, 1) := by decide +kernel
theorem dX7_crossNow_37 : decode cX7_crossNow 37 = .ok (.iastore, 1) := by decide +kernel
theorem dX7_crossNow_38 : decode cX7_crossNow 38 = .ok (.aload_n 0, 1) := by decide +kernel
theorem dX7_crossNow_39 : decode cX7_crossNow 39 = .ok (.getfield 35, 3) := by decide +kernel
theorem dX7_crossNow_42 : decode cX7_crossNow 42 = .ok (.bipush 6, 2) := by decide +kernel
theorem dX7_crossNow_44 : decode cX7_crossNow 44 = .ok (.iload_n 1, 1) := by decide +kernel
theorem dX7_crossNow_45 : decode cX7_crossNow 45 = .ok (.imul, 1) := by decide +kernel
theorem dX7_crossNow_46 : decode cX7_crossNow 46 = .ok (.iload_n 2, 1) := by decide +kernel
theorem dX7_crossNow_47 : decode cX7_crossNow 47 = .ok (.iadd, 1) := by decide +kernel
theorem dX7_crossNow_48 : decode cX7_crossNow 48 = .ok (.iload_n 3, 1) := by decide +kernel
theorem dX7_crossNow_49 : decode cX7_crossNow 49 = .ok (.iastore, 1) := by decide +kernel
theorem dX7_crossNow_50 : decode cX7_crossNow 50 = .ok (.aload_n 0, 1) := by decide +kernel
theorem dX7_crossNow_51 : decode cX7_crossNow 51 = .ok (.getfield 41, 3) := by decide +kernel
theorem dX7_crossNow_54 : decode cX7_crossNow 54 = .ok (.bipush 6, 2) := by decide +kernel
theorem dX7_crossNow_56 : decode cX7_crossNow 56 = .ok (.iload_n 1, 1) := by decide +kernel
theorem dX7_crossNow_57 : decode cX7_crossNow 57 = .ok (.imul, 1) := by decide +kernel
theorem dX7_crossNow_58 : decode cX7_crossNow 58 = .ok (.iload_n 2, 1) := by decide +kernel
theorem dX7_crossNow_59 : decode cX7_crossNow 59 = .ok (.iadd, 1) := by decide +kernel
theorem dX7_crossNow_60 : decode cX7_crossNow 60 = .ok (.iload_n 3, 1) := by decide +kernel
theorem dX7_crossNow_61 : decode cX7_crossNow 61 = .ok (.iconst (-1), 1) := by decide +kernel
theorem dX7_crossNow_62 : decode cX7_crossNow 62 = .ok (.if_icmp .ne 15, 3) := by decide +kernel
theorem dX7_crossNow_65 : decode cX7_crossNow 65 = .ok (.aload_n 0, 1) := by decide +kernel
theorem dX7_crossNow_66 : decode cX7_crossNow 66 = .ok (.getfield 229, 3) := by decide +kernel
theorem dX7_crossNow_69 : decode cX7_crossNow 69 = .ok (.aload_n 0, 1) := by decide +kernel
theorem dX7_crossNow_70 : decode cX7_crossNow 70 = .ok (.getfield 7, 3) := by decide +kernel
theorem dX7_crossNow_73 : decode cX7_crossNow 73 = .ok (.idiv, 1) := by decide +kernel
theorem dX7_crossNow_74 : decode cX7_crossNow 74 = .ok (.goto 14, 3) := by decide +kernel
theorem dX7_crossNow_77 : decode cX7_crossNow 77 = .ok (.aload_n 0, 1) := by decide +kernel
theorem dX7_crossNow_78 : decode cX7_crossNow 78 = .ok (.getfield 41, 3) := by decide +kernel
theorem dX7_crossNow_81 : decode cX7_crossNow 81 = .ok (.bipush 6, 2) := by decide +kernel
theorem dX7_crossNow_83 : decode cX7_crossNow 83 = .ok (.iload_n 1, 1) := by decide +kernel
theorem dX7_crossNow_84 : decode cX7_crossNow 84 = .ok (.imul, 1) := by decide +kernel
theorem dX7_crossNow_85 : decode cX7_crossNow 85 = .ok (.iload_n 2, 1) := by decide +kernel
theorem dX7_crossNow_86 : decode cX7_crossNow 86 = .ok (.iadd, 1) := by decide +kernel
theorem dX7_crossNow_87 : decode cX7_crossNow 87 = .ok (.iaload, 1) := by decide +kernel
theorem dX7_crossNow_88 : decode cX7_crossNow 88 = .ok (.iastore, 1) := by decide +kernel
theorem dX7_crossNow_89 : decode cX7_crossNow 89 = .ok (.iconst 1, 1) := by decide +kernel
theorem dX7_crossNow_90 : decode cX7_crossNow 90 = .ok (.ireturn, 1) := by decide +kernel
theorem dX7_cross_0 : decode cX7_cross 0 = .ok (.aload_n 0, 1) := by decide +kernel
theorem dX7_cross_1 : decode cX7_cross 1 = .ok (.iload_n 1, 1) := by decide +kernel
theorem dX7_cross_2 : decode cX7_cross 2 = .ok (.invokevirtual 241, 3) := by decide +kernel
theorem dX7_cross_5 : decode cX7_cross 5 = .ok (.ifCond .eq 24, 3) := by decide +kernel
theorem dX7_cross_8 : decode cX7_cross 8 = .ok (.aload_n 0, 1) := by decide +kernel
theorem dX7_cross_9 : decode cX7_cross 9 = .ok (.iload_n 2, 1) := by decide +kernel
theorem dX7_cross_10 : decode cX7_cross 10 = .ok (.invokevirtual 112, 3) := by decide +kernel
theorem dX7_cross_13 : decode cX7_cross 13 = .ok (.ifCond .eq 16, 3) := by decide +kernel
theorem dX7_cross_16 : decode cX7_cross 16 = .ok (.aload_n 0, 1) := by decide +kernel
theorem dX7_cross_17 : decode cX7_cross 17 = .ok (.iload_n 3, 1) := by decide +kernel
theorem dX7_cross_18 : decode cX7_cross 18 = .ok (.invokevirtual 260, 3) := by decide +kernel
theorem dX7_cross_21 : decode cX7_cross 21 = .ok (.ifCond .eq 8, 3) := by decide +kernel
theorem dX7_cross_24 : decode cX7_cross 24 = .ok (.iload_n 2, 1) := by decide +kernel
theorem dX7_cross_25 : decode cX7_cross 25 = .ok (.iload_n 3, 1) := by decide +kernel
theorem dX7_cross_26 : decode cX7_cross 26 = .ok (.if_icmp .ne 6, 3) := by decide +kernel
theorem dX7_cross_29 : decode cX7_cross 29 = .ok (.ldc 244, 2) := by decide +kernel
theorem dX7_cross_31 : decode cX7_cross 31 = .ok (.ireturn, 1) := by decide +kernel
theorem dX7_cross_32 : decode cX7_cross 32 = .ok (.aload_n 0, 1) := by decide +kernel
theorem dX7_cross_33 : decode cX7_cross 33 = .ok (.iload_n 1, 1) := by decide +kernel
theorem dX7_cross_34 : decode cX7_cross 34 = .ok (.iload_n 2, 1) := by decide +kernel
theorem dX7_cross_35 : decode cX7_cross 35 = .ok (.iload_n 3, 1) := by decide +kernel
theorem dX7_cross_36 : decode cX7_cross 36 = .ok (.invokevirtual 263, 3) := by decide +kernel
theorem dX7_cross_39 : decode cX7_cross 39 = .ok (.ifCond .eq 13, 3) := by decide +kernel
theorem dX7_cross_42 : decode cX7_cross 42 = .ok (.aload_n 0, 1) := by decide +kernel
theorem dX7_cross_43 : decode cX7_cross 43 = .ok (.iload_n 1, 1) := by decide +kernel
theorem dX7_cross_44 : decode cX7_cross 44 = .ok (.iload_n 2, 1) := by decide +kernel
theorem dX7_cross_45 : decode cX7_cross 45 = .ok (.iload_n 3, 1) := by decide +kernel
theorem dX7_cross_46 : decode cX7_cross 46 = .ok (.invokevirtual 266, 3) := by decide +kernel
theorem dX7_cross_49 : decode cX7_cross 49 = .ok (.goto 5, 3) := by decide +kernel
theorem dX7_cross_52 : decode cX7_cross 52 = .ok (.ldc 249, 2) := by decide +kernel
theorem dX7_cross_54 : decode cX7_cross 54 = .ok (.ireturn, 1) := by decide +kernel
theorem dX7_evening_0 : decode cX7_evening 0 = .ok (.iconst 0, 1) := by decide +kernel
theorem dX7_evening_1 : decode cX7_evening 1 = .ok (.istore_n 1, 1) := by decide +kernel
theorem dX7_evening_2 : decode cX7_evening 2 = .ok (.iconst 0, 1) := by decide +kernel
theorem dX7_evening_3 : decode cX7_evening 3 = .ok (.istore_n 2, 1) := by decide +kernel
theorem dX7_evening_4 : decode cX7_evening 4 = .ok (.iload_n 2, 1) := by decide +kernel
theorem dX7_evening_5 : decode cX7_evening 5 = .ok (.aload_n 0, 1) := by decide +kernel
theorem dX7_evening_6 : decode cX7_evening 6 = .ok (.getfield 105, 3) := by decide +kernel
theorem dX7_evening_9 : decode cX7_evening 9 = .ok (.if_icmp .ge 92, 3) := by decide +kernel
theorem dX7_evening_12 : decode cX7_evening 12 = .ok (.iconst 0, 1) := by decide +kernel
theorem dX7_evening_13 : decode cX7_evening 13 = .ok (.istore_n 3, 1) := by decide +kernel
theorem dX7_evening_14 : decode cX7_evening 14 = .ok (.iload_n 3, 1) := by decide +kernel
theorem dX7_evening_15 : decode cX7_evening 15 = .ok (.aload_n 0, 1) := by decide +kernel
theorem dX7_evening_16 : decode cX7_evening 16 = .ok (.getfield 102, 3) := by decide +kernel
theorem dX7_evening_19 : decode cX7_evening 19 = .ok (.if_icmp .ge 76, 3) := by decide +kernel
theorem dX7_evening_22 : decode cX7_evening 22 = .ok (.aload_n 0, 1) := by decide +kernel
theorem dX7_evening_23 : decode cX7_evening 23 = .ok (.getfield 35, 3) := by decide +kernel
theorem dX7_evening_26 : decode cX7_evening 26 = .ok (.bipush 6, 2) := by decide +kernel
theorem dX7_evening_28 : decode cX7_evening 28 = .ok (.iload_n 2, 1) := by decide +kernel
theorem dX7_evening_29 : decode cX7_evening 29 = .ok (.imul, 1) := by decide +kernel
theorem dX7_evening_30 : decode cX7_evening 30 = .ok (.iload_n 3, 1) := by decide +kernel
theorem dX7_evening_31 : decode cX7_evening 31 = .ok (.iadd, 1) := by decide +kernel
theorem dX7_evening_32 : decode cX7_evening 32 = .ok (.iaload, 1) := by decide +kernel
theorem dX7_evening_33 : decode cX7_evening 33 = .ok (.istore 4, 2) := by decide +kernel
theorem dX7_evening_35 : decode cX7_evening 35 = .ok (.aload_n 0, 1) := by decide +kernel
theorem dX7_evening_36 : decode cX7_evening 36 = .ok (.getfield 32, 3) := by decide +kernel
theorem dX7_evening_39 : decode cX7_evening 39 = .ok (.iload_n 2, 1) := by decide +kernel
theorem dX7_evening_40 : decode cX7_evening 40 = .ok (.iaload, 1) := by decide +kernel
theorem dX7_evening_41 : decode cX7_evening 41 = .ok (.iload_n 3, 1) := by decide +kernel
theorem dX7_evening_42 : decode cX7_evening 42 = .ok (.invokestatic 184, 3) := by decide +kernel
theorem dX7_evening_45 : decode cX7_evening 45 = .ok (.ifCond .eq 44, 3) := by decide +kernel
theorem dX7_evening_48 : decode cX7_evening 48 = .ok (.iload 4, 2) := by decide +kernel
theorem dX7_evening_50 : decode cX7_evening 50 = .ok (.iconst (-1), 1) := by decide +kernel
theorem dX7_evening_51 : decode cX7_evening 51 = .ok (.if_icmp .eq 38, 3) := by decide +kernel
theorem dX7_evening_54 : decode cX7_evening 54 = .ok (.aload_n 0, 1) := by decide +kernel
theorem dX7_evening_55 : decode cX7_evening 55 = .ok (.getfield 32, 3) := by decide +kernel
theorem dX7_evening_58 : decode cX7_evening 58 = .ok (.iload_n 2, 1) := by decide +kernel
theorem dX7_evening_59 : decode cX7_evening 59 = .ok (.iaload, 1) := by decide +kernel
theorem dX7_evening_60 : decode cX7_evening 60 = .ok (.iload 4, 2) := by decide +kernel
theorem dX7_evening_62 : decode cX7_evening 62 = .ok (.invokestatic 184, 3) := by decide +kernel
theorem dX7_evening_65 : decode cX7_evening 65 = .ok (.ifCond .ne 24, 3) := by decide +kernel
theorem dX7_evening_68 : decode cX7_evening 68 = .ok (.iload_n 1, 1) := by decide +kernel
theorem dX7_evening_69 : decode cX7_evening 69 = .ok (.iconst 1, 1) := by decide +kernel
theorem dX7_evening_70 : decode cX7_evening 70 = .ok (.iload_n 3, 1) := by decide +kernel
theorem dX7_evening_71 : decode cX7_evening 71 = .ok (.ishl, 1) := by decide +kernel
theorem dX7_evening_72 : decode cX7_evening 72 = .ok (.ior, 1) := by decide +kernel
theorem dX7_evening_73 : decode cX7_evening 73 = .ok (.istore_n 1, 1) := by decide +kernel
theorem dX7_evening_74 : decode cX7_evening 74 = .ok (.aload_n 0, 1) := by decide +kernel
theorem dX7_evening_75 : decode cX7_evening 75 = .ok (.getfield 38, 3) := by decide +kernel
theorem dX7_evening_78 : decode cX7_evening 78 = .ok (.bipush 6, 2) := by decide +kernel
theorem dX7_evening_80 : decode cX7_evening 80 = .ok (.iload_n 2, 1) := by decide +kernel
theorem dX7_evening_81 : decode cX7_evening 81 = .ok (.imul, 1) := by decide +kernel
theorem dX7_evening_82 : decode cX7_evening 82 = .ok (.iload_n 3, 1) := by decide +kernel
theorem dX7_evening_83 : decode cX7_evening 83 = .ok (.iadd, 1) := by decide +kernel
theorem dX7_evening_84 : decode cX7_evening 84 = .ok (.aload_n 0, 1) := by decide +kernel
theorem dX7_evening_85 : decode cX7_evening 85 = .ok (.getfield 229, 3) := by decide +kernel
theorem dX7_evening_88 : decode cX7_evening 88 = .ok (.iastore, 1) := by decide +kernel
theorem dX7_evening_89 : decode cX7_evening 89 = .ok (.iinc 3 1, 3) := by decide +kernel
theorem dX7_evening_92 : decode cX7_evening 92 = .ok (.goto (-78), 3) := by decide +kernel
theorem dX7_evening_95 : decode cX7_evening 95 = .ok (.iinc 2 1, 3) := by decide +kernel
theorem dX7_evening_98 : decode cX7_evening 98 = .ok (.goto (-94), 3) := by decide +kernel
theorem dX7_evening_101 : decode cX7_evening 101 = .ok (.aload_n 0, 1) := by decide +kernel
theorem dX7_evening_102 : decode cX7_evening 102 = .ok (.dup, 1) := by decide +kernel
theorem dX7_evening_103 : decode cX7_evening 103 = .ok (.getfield 229, 3) := by decide +kernel
theorem dX7_evening_106 : decode cX7_evening 106 = .ok (.iconst 1, 1) := by decide +kernel
theorem dX7_evening_107 : decode cX7_evening 107 = .ok (.iadd, 1) := by decide +kernel
theorem dX7_evening_108 : decode cX7_evening 108 = .ok (.putfield 229, 3) := by decide +kernel
theorem dX7_evening_111 : decode cX7_evening 111 = .ok (.iconst 0, 1) := by decide +kernel
theorem dX7_evening_112 : decode cX7_evening 112 = .ok (.istore_n 2, 1) := by decide +kernel
theorem dX7_evening_113 : decode cX7_evening 113 = .ok (.iload_n 2, 1) := by decide +kernel
theorem dX7_evening_114 : decode cX7_evening 114 = .ok (.aload_n 0, 1) := by decide +kernel
theorem dX7_evening_115 : decode cX7_evening 115 = .ok (.getfield 105, 3) := by decide +kernel
theorem dX7_evening_118 : decode cX7_evening 118 = .ok (.if_icmp .ge 16, 3) := by decide +kernel
theorem dX7_evening_121 : decode cX7_evening 121 = .ok (.aload_n 0, 1) := by decide +kernel
theorem dX7_evening_122 : decode cX7_evening 122 = .ok (.getfield 32, 3) := by decide +kernel
theorem dX7_evening_125 : decode cX7_evening 125 = .ok (.iload_n 2, 1) := by decide +kernel
theorem dX7_evening_126 : decode cX7_evening 126 = .ok (.iconst 0, 1) := by decide +kernel
theorem dX7_evening_127 : decode cX7_evening 127 = .ok (.iastore, 1) := by decide +kernel
theorem dX7_evening_128 : decode cX7_evening 128 = .ok (.iinc 2 1, 3) := by decide +kernel
theorem dX7_evening_131 : decode cX7_evening 131 = .ok (.goto (-18), 3) := by decide +kernel
theorem dX7_evening_134 : decode cX7_evening 134 = .ok (.iload_n 1, 1) := by decide +kernel
theorem dX7_evening_135 : decode cX7_evening 135 = .ok (.ireturn, 1) := by decide +kernel
theorem dX7_know_0 : decode cX7_know 0 = .ok (.aload_n 0, 1) := by decide +kernel
theorem dX7_know_1 : decode cX7_know 1 = .ok (.iload_n 1, 1) := by decide +kernel
theorem dX7_know_2 : decode cX7_know 2 = .ok (.invokevirtual 112, 3) := by decide +kernel
theorem dX7_know_5 : decode cX7_know 5 = .ok (.ifCond .eq 16, 3) := by decide +kernel
theorem dX7_know_8 : decode cX7_know 8 = .ok (.aload_n 0, 1) := by decide +kernel
theorem dX7_know_9 : decode cX7_know 9 = .ok (.iload_n 2, 1) := by decide +kernel
theorem dX7_know_10 : decode cX7_know 10 = .ok (.invokevirtual 112, 3) := by decide +kernel
theorem dX7_know_13 : decode cX7_know 13 = .ok (.ifCond .eq 8, 3) := by decide +kernel
theorem dX7_know_16 : decode cX7_know 16 = .ok (.iload_n 1, 1) := by decide +kernel
theorem dX7_know_17 : decode cX7_know 17 = .ok (.iload_n 2, 1) := by decide +kernel
theorem dX7_know_18 : decode cX7_know 18 = .ok (.if_icmp .ne 6, 3) := by decide +kernel
theorem dX7_know_21 : decode cX7_know 21 = .ok (.ldc 244, 2) := by decide +kernel
theorem dX7_know_23 : decode cX7_know 23 = .ok (.ireturn, 1) := by decide +kernel
theorem dX7_know_24 : decode cX7_know 24 = .ok (.aload_n 0, 1) := by decide +kernel
theorem dX7_know_25 : decode cX7_know 25 = .ok (.getfield 29, 3) := by decide +kernel
theorem dX7_know_28 : decode cX7_know 28 = .ok (.iload_n 1, 1) := by decide +kernel
theorem dX7_know_29 : decode cX7_know 29 = .ok (.iaload, 1) := by decide +kernel
theorem dX7_know_30 : decode cX7_know 30 = .ok (.iload_n 2, 1) := by decide +kernel
theorem dX7_know_31 : decode cX7_know 31 = .ok (.ishr, 1) := by decide +kernel
theorem dX7_know_32 : decode cX7_know 32 = .ok (.iconst 1, 1) := by decide +kernel
theorem dX7_know_33 : decode cX7_know 33 = .ok (.iand, 1) := by decide +kernel
theorem dX7_know_34 : decode cX7_know 34 = .ok (.istore 4, 2) := by decide +kernel
theorem dX7_know_36 : decode cX7_know 36 = .ok (.aload_n 0, 1) := by decide +kernel
theorem dX7_know_37 : decode cX7_know 37 = .ok (.getfield 29, 3) := by decide +kernel
theorem dX7_know_40 : decode cX7_know 40 = .ok (.iload_n 1, 1) := by decide +kernel
theorem dX7_know_41 : decode cX7_know 41 = .ok (.iload_n 3, 1) := by decide +kernel
theorem dX7_know_42 : decode cX7_know 42 = .ok (.ifCond .eq 16, 3) := by decide +kernel
theorem dX7_know_45 : decode cX7_know 45 = .ok (.aload_n 0, 1) := by decide +kernel
theorem dX7_know_46 : decode cX7_know 46 = .ok (.getfield 29, 3) := by decide +kernel
theorem dX7_know_49 : decode cX7_know 49 = .ok (.iload_n 1, 1) := by decide +kernel
theorem dX7_know_50 : decode cX7_know 50 = .ok (.iaload, 1) := by decide +kernel
theorem dX7_know_51 : decode cX7_know 51 = .ok (.iconst 1, 1) := by decide +kernel
theorem dX7_know_52 : decode cX7_know 52 = .ok (.iload_n 2, 1) := by decide +kernel
theorem dX7_know_53 : decode cX7_know 53 = .ok (.ishl, 1) := by decide +kernel
theorem dX7_know_54 : decode cX7_know 54 = .ok (.ior, 1) := by decide +kernel
theorem dX7_know_55 : decode cX7_know 55 = .ok (.goto 15, 3) := by decide +kernel
theorem dX7_know_58 : decode cX7_know 58 = .ok (.aload_n 0, 1) := by decide +kernel
theorem dX7_know_59 : decode cX7_know 59 = .ok (.getfield 29, 3) := by decide +kernel
theorem dX7_know_62 : decode cX7_know 62 = .ok (.iload_n 1, 1) := by decide +kernel
theorem dX7_know_63 : decode cX7_know 63 = .ok (.iaload, 1) := by decide +kernel
theorem dX7_know_64 : decode cX7_know 64 = .ok (.iconst 1, 1) := by decide +kernel
theorem dX7_know_65 : decode cX7_know 65 = .ok (.iload_n 2, 1) := by decide +kernel
theorem dX7_know_66 : decode cX7_know 66 = .ok (.ishl, 1) := by decide +kernel
theorem dX7_know_67 : decode cX7_know 67 = .ok (.iconst (-1), 1) := by decide +kernel
theorem dX7_know_68 : decode cX7_know 68 = .ok (.ixor, 1) := by decide +kernel
theorem dX7_know_69 : decode cX7_know 69 = .ok (.iand, 1) := by decide +kernel
theorem dX7_know_70 : decode cX7_know 70 = .ok (.iastore, 1) := by decide +kernel
theorem dX7_know_71 : decode cX7_know 71 = .ok (.iload 4, 2) := by decide +kernel
theorem dX7_know_73 : decode cX7_know 73 = .ok (.ireturn, 1) := by decide +kernel
theorem dX7_draw_0 : decode cX7_draw 0 = .ok (.aload_n 0, 1) := by decide +kernel
theorem dX7_draw_1 : decode cX7_draw 1 = .ok (.aload_n 0, 1) := by decide +kernel
theorem dX7_draw_2 : decode cX7_draw 2 = .ok (.getfield 270, 3) := by decide +kernel
theorem dX7_draw_5 : decode cX7_draw 5 = .ok (.i2l, 1) := by decide +kernel
theorem dX7_draw_6 : decode cX7_draw 6 = .ok (.ldc2_w 273, 3) := by decide +kernel
theorem dX7_draw_9 : decode cX7_draw 9 = .ok (.lmul, 1) := by decide +kernel
theorem dX7_draw_10 : decode cX7_draw 10 = .ok (.ldc2_w 275, 3) := by decide +kernel
theorem dX7_draw_13 : decode cX7_draw 13 = .ok (.ladd, 1) := by decide +kernel
theorem dX7_draw_14 : decode cX7_draw 14 = .ok (.ldc2_w 277, 3) := by decide +kernel
theorem dX7_draw_17 : decode cX7_draw 17 = .ok (.lrem, 1) := by decide +kernel
theorem dX7_draw_18 : decode cX7_draw 18 = .ok (.l2i, 1) := by decide +kernel
theorem dX7_draw_19 : decode cX7_draw 19 = .ok (.putfield 270, 3) := by decide +kernel
theorem dX7_draw_22 : decode cX7_draw 22 = .ok (.aload_n 0, 1) := by decide +kernel
theorem dX7_draw_23 : decode cX7_draw 23 = .ok (.getfield 270, 3) := by decide +kernel
theorem dX7_draw_26 : decode cX7_draw 26 = .ok (.ldc_w 279, 3) := by decide +kernel
theorem dX7_draw_29 : decode cX7_draw 29 = .ok (.idiv, 1) := by decide +kernel
theorem dX7_draw_30 : decode cX7_draw 30 = .ok (.iload_n 1, 1) := by decide +kernel
theorem dX7_draw_31 : decode cX7_draw 31 = .ok (.irem, 1) := by decide +kernel
theorem dX7_draw_32 : decode cX7_draw 32 = .ok (.ireturn, 1) := by decide +kernel
theorem dX7_dayNow_0 : decode cX7_dayNow 0 = .ok (.iconst 0, 1) := by decide +kernel
theorem dX7_dayNow_1 : decode cX7_dayNow 1 = .ok (.istore_n 1, 1) := by decide +kernel
theorem dX7_dayNow_2 : decode cX7_dayNow 2 = .ok (.iload_n 1, 1) := by decide +kernel
theorem dX7_dayNow_3 : decode cX7_dayNow 3 = .ok (.aload_n 0, 1) := by decide +kernel
theorem dX7_dayNow_4 : decode cX7_dayNow 4 = .ok (.getfield 102, 3) := by decide +kernel
theorem dX7_dayNow_7 : decode cX7_dayNow 7 = .ok (.if_icmp .ge 100, 3) := by decide +kernel
theorem dX7_dayNow_10 : decode cX7_dayNow 10 = .ok (.aload_n 0, 1) := by decide +kernel
theorem dX7_dayNow_11 : decode cX7_dayNow 11 = .ok (.getfield 226, 3) := by decide +kernel
theorem dX7_dayNow_14 : decode cX7_dayNow 14 = .ok (.iload_n 1, 1) := by decide +kernel
theorem dX7_dayNow_15 : decode cX7_dayNow 15 = .ok (.invokestatic 184, 3) := by decide +kernel
theorem dX7_dayNow_18 : decode cX7_dayNow 18 = .ok (.ifCond .eq 83, 3) := by decide +kernel
theorem dX7_dayNow_21 : decode cX7_dayNow 21 = .ok (.aload_n 0, 1) := by decide +kernel
theorem dX7_dayNow_22 : decode cX7_dayNow 22 = .ok (.bipush 100, 2) := by decide +kernel
theorem dX7_dayNow_24 : decode cX7_dayNow 24 = .ok (.invokevirtual 280, 3) := by decide +kernel
theorem dX7_dayNow_27 : decode cX7_dayNow 27 = .ok (.aload_n 0, 1) := by decide +kernel
theorem dX7_dayNow_28 : decode cX7_dayNow 28 = .ok (.getfield 20, 3) := by decide +kernel
theorem dX7_dayNow_31 : decode cX7_dayNow 31 = .ok (.iload_n 1, 1) := by decide +kernel
theorem dX7_dayNow_32 : decode cX7_dayNow 32 = .ok (.iaload, 1) := by decide +kernel
theorem dX7_dayNow_33 : decode cX7_dayNow 33 = .ok (.if_icmp .ge 68, 3) := by decide +kernel
theorem dX7_dayNow_36 : decode cX7_dayNow 36 = .ok (.aload_n 0, 1) := by decide +kernel
theorem dX7_dayNow_37 : decode cX7_dayNow 37 = .ok (.aload_n 0, 1) := by decide +kernel
theorem dX7_dayNow_38 : decode cX7_dayNow 38 = .ok (.getfield 105, 3) := by decide +kernel
theorem dX7_dayNow_41 : decode cX7_dayNow 41 = .ok (.invokevirtual 280, 3) := by decide +kernel
theorem dX7_dayNow_44 : decode cX7_dayNow 44 = .ok (.istore_n 2, 1) := by decide +kernel
theorem dX7_dayNow_45 : decode cX7_dayNow 45 = .ok (.aload_n 0, 1) := by decide +kernel
theorem dX7_dayNow_46 : decode cX7_dayNow 46 = .ok (.aload_n 0, 1) := by decide +kernel
theorem dX7_dayNow_47 : decode cX7_dayNow 47 = .ok (.getfield 102, 3) := by decide +kernel
theorem dX7_dayNow_50 : decode cX7_dayNow 50 = .ok (.invokevirtual 280, 3) := by decide +kernel
theorem dX7_dayNow_53 : decode cX7_dayNow 53 = .ok (.istore_n 3, 1) := by decide +kernel
theorem dX7_dayNow_54 : decode cX7_dayNow 54 = .ok (.aload_n 0, 1) := by decide +kernel
theorem dX7_dayNow_55 : decode cX7_dayNow 55 = .ok (.getfield 29, 3) := by decide +kernel
theorem dX7_dayNow_58 : decode cX7_dayNow 58 = .ok (.iload_n 1, 1) := by decide +kernel
theorem dX7_dayNow_59 : decode cX7_dayNow 59 = .ok (.iaload, 1) := by decide +kernel
theorem dX7_dayNow_60 : decode cX7_dayNow 60 = .ok (.iload_n 3, 1) := by decide +kernel
theorem dX7_dayNow_61 : decode cX7_dayNow 61 = .ok (.invokestatic 184, 3) := by decide +kernel
theorem dX7_dayNow_64 : decode cX7_dayNow 64 = .ok (.ifCond .eq 7, 3) := by decide +kernel
theorem dX7_dayNow_67 : decode cX7_dayNow 67 = .ok (.iload_n 3, 1) := by decide +kernel
theorem dX7_dayNow_68 : decode cX7_dayNow 68 = .ok (.goto 4, 3) := by decide +kernel
theorem dX7_dayNow_71 : decode cX7_dayNow 71 = .ok (.iconst (-1), 1) := by decide +kernel
theorem dX7_dayNow_72 : decode cX7_dayNow 72 = .ok (.istore 4, 2) := by decide +kernel
theorem dX7_dayNow_74 : decode cX7_dayNow 74 = .ok (.aload_n 0, 1) := by decide +kernel
theorem dX7_dayNow_75 : decode cX7_dayNow 75 = .ok (.getfield 32, 3) := by decide +kernel
theorem dX7_dayNow_78 : decode cX7_dayNow 78 = .ok (.iload_n 2, 1) := by decide +kernel
theorem dX7_dayNow_79 : decode cX7_dayNow 79 = .ok (.iaload, 1) := by decide +kernel
theorem dX7_dayNow_80 : decode cX7_dayNow 80 = .ok (.iload_n 1, 1) := by decide +kernel
theorem dX7_dayNow_81 : decode cX7_dayNow 81 = .ok (.invokestatic 184, 3) := by decide +kernel
theorem dX7_dayNow_84 : decode cX7_dayNow 84 = .ok (.ifCond .eq 7, 3) := by decide +kernel
theorem dX7_dayNow_87 : decode cX7_dayNow 87 = .ok (.iconst 0, 1) := by decide +kernel
theorem dX7_dayNow_88 : decode cX7_dayNow 88 = .ok (.goto 11, 3) := by decide +kernel
theorem dX7_dayNow_91 : decode cX7_dayNow 91 = .ok (.aload_n 0, 1) := by decide +kernel
theorem dX7_dayNow_92 : decode cX7_dayNow 92 = .ok (.iload_n 2, 1) := by decide +kernel
theorem dX7_dayNow_93 : decode cX7_dayNow 93 = .ok (.iload_n 1, 1) := by decide +kernel
theorem dX7_dayNow_94 : decode cX7_dayNow 94 = .ok (.iload 4, 2) := by decide +kernel
theorem dX7_dayNow_96 : decode cX7_dayNow 96 = .ok (.invokevirtual 266, 3) := by decide +kernel
theorem dX7_dayNow_99 : decode cX7_dayNow 99 = .ok (.istore 5, 2) := by decide +kernel
theorem dX7_dayNow_101 : decode cX7_dayNow 101 = .ok (.iinc 1 1, 3) := by decide +kernel
theorem dX7_dayNow_104 : decode cX7_dayNow 104 = .ok (.goto (-102), 3) := by decide +kernel
theorem dX7_dayNow_107 : decode cX7_dayNow 107 = .ok (.aload_n 0, 1) := by decide +kernel
theorem dX7_dayNow_108 : decode cX7_dayNow 108 = .ok (.invokevirtual 283, 3) := by decide +kernel
theorem dX7_dayNow_111 : decode cX7_dayNow 111 = .ok (.istore_n 1, 1) := by decide +kernel
theorem dX7_dayNow_112 : decode cX7_dayNow 112 = .ok (.return_, 1) := by decide +kernel
theorem dX7_drift_0 : decode cX7_drift 0 = .ok (.iload_n 1, 1) := by decide +kernel
theorem dX7_drift_1 : decode cX7_drift 1 = .ok (.i2l, 1) := by decide +kernel
theorem dX7_drift_2 : decode cX7_drift 2 = .ok (.lconst 1, 1) := by decide +kernel
theorem dX7_drift_3 : decode cX7_drift 3 = .ok (.ldc2_w 286, 3) := by decide +kernel
theorem dX7_drift_6 : decode cX7_drift 6 = .ok (.invokestatic 108, 3) := by decide +kernel
theorem dX7_drift_9 : decode cX7_drift 9 = .ok (.ifCond .ne 6, 3) := by decide +kernel
theorem dX7_drift_12 : decode cX7_drift 12 = .ok (.ldc 118, 2) := by decide +kernel
theorem dX7_drift_14 : decode cX7_drift 14 = .ok (.ireturn, 1) := by decide +kernel
theorem dX7_drift_15 : decode cX7_drift 15 = .ok (.aload_n 0, 1) := by decide +kernel
theorem dX7_drift_16 : decode cX7_drift 16 = .ok (.getfield 105, 3) := by decide +kernel
theorem dX7_drift_19 : decode cX7_drift 19 = .ok (.ifCond .eq 10, 3) := by decide +kernel
theorem dX7_drift_22 : decode cX7_drift 22 = .ok (.aload_n 0, 1) := by decide +kernel
theorem dX7_drift_23 : decode cX7_drift 23 = .ok (.getfield 102, 3) := by decide +kernel
theorem dX7_drift_26 : decode cX7_drift 26 = .ok (.ifCond .ne 6, 3) := by decide +kernel
theorem dX7_drift_29 : decode cX7_drift 29 = .ok (.ldc 249, 2) := by decide +kernel
theorem dX7_drift_31 : decode cX7_drift 31 = .ok (.ireturn, 1) := by decide +kernel
theorem dX7_drift_32 : decode cX7_drift 32 = .ok (.iconst 0, 1) := by decide +kernel
theorem dX7_drift_33 : decode cX7_drift 33 = .ok (.istore_n 2, 1) := by decide +kernel
theorem dX7_drift_34 : decode cX7_drift 34 = .ok (.iload_n 2, 1) := by decide +kernel
theorem dX7_drift_35 : decode cX7_drift 35 = .ok (.iload_n 1, 1) := by decide +kernel
theorem dX7_drift_36 : decode cX7_drift 36 = .ok (.if_icmp .ge 13, 3) := by decide +kernel
theorem dX7_drift_39 : decode cX7_drift 39 = .ok (.aload_n 0, 1) := by decide +kernel
theorem dX7_drift_40 : decode cX7_drift 40 = .ok (.invokevirtual 288, 3) := by decide +kernel
theorem dX7_drift_43 : decode cX7_drift 43 = .ok (.iinc 2 1, 3) := by decide +kernel
theorem dX7_drift_46 : decode cX7_drift 46 = .ok (.goto (-12), 3) := by decide +kernel
theorem dX7_drift_49 : decode cX7_drift 49 = .ok (.aload_n 0, 1) := by decide +kernel
theorem dX7_drift_50 : decode cX7_drift 50 = .ok (.getfield 226, 3) := by decide +kernel
theorem dX7_drift_53 : decode cX7_drift 53 = .ok (.ireturn, 1) := by decide +kernel
theorem dX7_candidates_0 : decode cX7_candidates 0 = .ok (.aload_n 0, 1) := by decide +kernel
theorem dX7_candidates_1 : decode cX7_candidates 1 = .ok (.getfield 226, 3) := by decide +kernel
theorem dX7_candidates_4 : decode cX7_candidates 4 = .ok (.aload_n 0, 1) := by decide +kernel
theorem dX7_candidates_5 : decode cX7_candidates 5 = .ok (.getfield 32, 3) := by decide +kernel
theorem dX7_candidates_8 : decode cX7_candidates 8 = .ok (.iload_n 1, 1) := by decide +kernel
theorem dX7_candidates_9 : decode cX7_candidates 9 = .ok (.iaload, 1) := by decide +kernel
theorem dX7_candidates_10 : decode cX7_candidates 10 = .ok (.iconst (-1), 1) := by decide +kernel
theorem dX7_candidates_11 : decode cX7_candidates 11 = .ok (.ixor, 1) := by decide +kernel
theorem dX7_candidates_12 : decode cX7_candidates 12 = .ok (.iand, 1) := by decide +kernel
theorem dX7_candidates_13 : decode cX7_candidates 13 = .ok (.ireturn, 1) := by decide +kernel
theorem dX7_supports_0 : decode cX7_supports 0 = .ok (.iconst 0, 1) := by decide +kernel
theorem dX7_supports_1 : decode cX7_supports 1 = .ok (.istore 4, 2) := by decide +kernel
theorem dX7_supports_3 : decode cX7_supports 3 = .ok (.iconst 0, 1) := by decide +kernel
theorem dX7_supports_4 : decode cX7_supports 4 = .ok (.istore 5, 2) := by decide +kernel
theorem dX7_supports_6 : decode cX7_supports 6 = .ok (.iload 5, 2) := by decide +kernel
theorem dX7_supports_8 : decode cX7_supports 8 = .ok (.aload_n 0, 1) := by decide +kernel
theorem dX7_supports_9 : decode cX7_supports 9 = .ok (.getfield 102, 3) := by decide +kernel
theorem dX7_supports_12 : decode cX7_supports 12 = .ok (.if_icmp .ge 56, 3) := by decide +kernel
theorem dX7_supports_15 : decode cX7_supports 15 = .ok (.iload 4, 2) := by decide +kernel
theorem dX7_supports_17 : decode cX7_supports 17 = .ok (.iload_n 3, 1) := by decide +kernel
theorem dX7_supports_18 : decode cX7_supports 18 = .ok (.iload 5, 2) := by decide +kernel
theorem dX7_supports_20 : decode cX7_supports 20 = .ok (.invokestatic 184, 3) := by decide +kernel
theorem dX7_supports_23 : decode cX7_supports 23 = .ok (.ifCond .eq 35, 3) := by decide +kernel
theorem dX7_supports_26 : decode cX7_supports 26 = .ok (.aload_n 0, 1) := by decide +kernel
theorem dX7_supports_27 : decode cX7_supports 27 = .ok (.getfield 29, 3) := by decide +kernel
theorem dX7_supports_30 : decode cX7_supports 30 = .ok (.iload_n 2, 1) := by decide +kernel
theorem dX7_supports_31 : decode cX7_supports 31 = .ok (.iaload, 1) := by decide +kernel
theorem dX7_supports_32 : decode cX7_supports 32 = .ok (.iload 5, 2) := by decide +kernel
theorem dX7_supports_34 : decode cX7_supports 34 = .ok (.invokestatic 184, 3) := by decide +kernel
theorem dX7_supports_37 : decode cX7_supports 37 = .ok (.ifCond .eq 21, 3) := by decide +kernel
theorem dX7_supports_40 : decode cX7_supports 40 = .ok (.aload_n 0, 1) := by decide +kernel
theorem dX7_supports_41 : decode cX7_supports 41 = .ok (.iload_n 1, 1) := by decide +kernel
theorem dX7_supports_42 : decode cX7_supports 42 = .ok (.iload_n 2, 1) := by decide +kernel
theorem dX7_supports_43 : decode cX7_supports 43 = .ok (.iload 5, 2) := by decide +kernel
theorem dX7_supports_45 : decode cX7_supports 45 = .ok (.invokevirtual 253, 3) := by decide +kernel
theorem dX7_supports_48 : decode cX7_supports 48 = .ok (.ifCond .eq 10, 3) := by decide +kernel
theorem dX7_supports_51 : decode cX7_supports 51 = .ok (.iconst 1, 1) := by decide +kernel
theorem dX7_supports_52 : decode cX7_supports 52 = .ok (.iload 5, 2) := by decide +kernel
theorem dX7_supports_54 : decode cX7_supports 54 = .ok (.ishl, 1) := by decide +kernel
theorem dX7_supports_55 : decode cX7_supports 55 = .ok (.goto 4, 3) := by decide +kernel
theorem dX7_supports_58 : decode cX7_supports 58 = .ok (.iconst 0, 1) := by decide +kernel
theorem dX7_supports_59 : decode cX7_supports 59 = .ok (.ior, 1) := by decide +kernel
theorem dX7_supports_60 : decode cX7_supports 60 = .ok (.istore 4, 2) := by decide +kernel
theorem dX7_supports_62 : decode cX7_supports 62 = .ok (.iinc 5 1, 3) := by decide +kernel
theorem dX7_supports_65 : decode cX7_supports 65 = .ok (.goto (-59), 3) := by decide +kernel
theorem dX7_supports_68 : decode cX7_supports 68 = .ok (.iload 4, 2) := by decide +kernel
theorem dX7_supports_70 : decode cX7_supports 70 = .ok (.ireturn, 1) := by decide +kernel
theorem dX7_isSupported_0 : decode cX7_isSupported 0 = .ok (.aload_n 0, 1) := by decide +kernel
theorem dX7_isSupported_1 : decode cX7_isSupported 1 = .ok (.iload_n 1, 1) := by decide +kernel
theorem dX7_isSupported_2 : decode cX7_isSupported 2 = .ok (.iload_n 2, 1) := by decide +kernel
theorem dX7_isSupported_3 : decode cX7_isSupported 3 = .ok (.invokevirtual 250, 3) := by decide +kernel
theorem dX7_isSupported_6 : decode cX7_isSupported 6 = .ok (.ifCond .ne 13, 3) := by decide +kernel
theorem dX7_isSupported_9 : decode cX7_isSupported 9 = .ok (.aload_n 0, 1) := by decide +kernel
theorem dX7_isSupported_10 : decode cX7_isSupported 10 = .ok (.iload_n 1, 1) := by decide +kernel
theorem dX7_isSupported_11 : decode cX7_isSupported 11 = .ok (.iload_n 2, 1) := by decide +kernel
theorem dX7_isSupported_12 : decode cX7_isSupported 12 = .ok (.iload_n 3, 1) := by decide +kernel
theorem dX7_isSupported_13 : decode cX7_isSupported 13 = .ok (.invokevirtual 291, 3) := by decide +kernel
theorem dX7_isSupported_16 : decode cX7_isSupported 16 = .ok (.ifCond .eq 7, 3) := by decide +kernel
theorem dX7_isSupported_19 : decode cX7_isSupported 19 = .ok (.iconst 1, 1) := by decide +kernel
theorem dX7_isSupported_20 : decode cX7_isSupported 20 = .ok (.goto 4, 3) := by decide +kernel
theorem dX7_isSupported_23 : decode cX7_isSupported 23 = .ok (.iconst 0, 1) := by decide +kernel
theorem dX7_isSupported_24 : decode cX7_isSupported 24 = .ok (.ireturn, 1) := by decide +kernel
theorem dX7_isWhole_0 : decode cX7_isWhole 0 = .ok (.iconst 1, 1) := by decide +kernel
theorem dX7_isWhole_1 : decode cX7_isWhole 1 = .ok (.istore_n 3, 1) := by decide +kernel
theorem dX7_isWhole_2 : decode cX7_isWhole 2 = .ok (.iconst 0, 1) := by decide +kernel
theorem dX7_isWhole_3 : decode cX7_isWhole 3 = .ok (.istore 4, 2) := by decide +kernel
theorem dX7_isWhole_5 : decode cX7_isWhole 5 = .ok (.iload 4, 2) := by decide +kernel
theorem dX7_isWhole_7 : decode cX7_isWhole 7 = .ok (.aload_n 0, 1) := by decide +kernel
theorem dX7_isWhole_8 : decode cX7_isWhole 8 = .ok (.getfield 102, 3) := by decide +kernel
theorem dX7_isWhole_11 : decode cX7_isWhole 11 = .ok (.if_icmp .ge 39, 3) := by decide +kernel
theorem dX7_isWhole_14 : decode cX7_isWhole 14 = .ok (.iload_n 3, 1) := by decide +kernel
theorem dX7_isWhole_15 : decode cX7_isWhole 15 = .ok (.ifCond .eq 27, 3) := by decide +kernel
theorem dX7_isWhole_18 : decode cX7_isWhole 18 = .ok (.iload_n 2, 1) := by decide +kernel
theorem dX7_isWhole_19 : decode cX7_isWhole 19 = .ok (.iload 4, 2) := by decide +kernel
theorem dX7_isWhole_21 : decode cX7_isWhole 21 = .ok (.invokestatic 184, 3) := by decide +kernel
theorem dX7_isWhole_24 : decode cX7_isWhole 24 = .ok (.ifCond .eq 14, 3) := by decide +kernel
theorem dX7_isWhole_27 : decode cX7_isWhole 27 = .ok (.aload_n 0, 1) := by decide +kernel
theorem dX7_isWhole_28 : decode cX7_isWhole 28 = .ok (.iload_n 1, 1) := by decide +kernel
theorem dX7_isWhole_29 : decode cX7_isWhole 29 = .ok (.iload 4, 2) := by decide +kernel
theorem dX7_isWhole_31 : decode cX7_isWhole 31 = .ok (.iload_n 2, 1) := by decide +kernel
theorem dX7_isWhole_32 : decode cX7_isWhole 32 = .ok (.invokevirtual 294, 3) := by decide +kernel
theorem dX7_isWhole_35 : decode cX7_isWhole 35 = .ok (.ifCond .eq 7, 3) := by decide +kernel
theorem dX7_isWhole_38 : decode cX7_isWhole 38 = .ok (.iconst 1, 1) := by decide +kernel
theorem dX7_isWhole_39 : decode cX7_isWhole 39 = .ok (.goto 4, 3) := by decide +kernel
theorem dX7_isWhole_42 : decode cX7_isWhole 42 = .ok (.iconst 0, 1) := by decide +kernel
theorem dX7_isWhole_43 : decode cX7_isWhole 43 = .ok (.istore_n 3, 1) := by decide +kernel
theorem dX7_isWhole_44 : decode cX7_isWhole 44 = .ok (.iinc 4 1, 3) := by decide +kernel
theorem dX7_isWhole_47 : decode cX7_isWhole 47 = .ok (.goto (-42), 3) := by decide +kernel
theorem dX7_isWhole_50 : decode cX7_isWhole 50 = .ok (.iload_n 3, 1) := by decide +kernel
theorem dX7_isWhole_51 : decode cX7_isWhole 51 = .ok (.ireturn, 1) := by decide +kernel
theorem dX7_mostOf_0 : decode cX7_mostOf 0 = .ok (.aload_n 0, 1) := by decide +kernel
theorem dX7_mostOf_1 : decode cX7_mostOf 1 = .ok (.iload_n 1, 1) := by decide +kernel
theorem dX7_mostOf_2 : decode cX7_mostOf 2 = .ok (.invokevirtual 297, 3) := by decide +kernel
theorem dX7_mostOf_5 : decode cX7_mostOf 5 = .ok (.istore_n 2, 1) := by decide +kernel
theorem dX7_mostOf_6 : decode cX7_mostOf 6 = .ok (.aload_n 0, 1) := by decide +kernel
theorem dX7_mostOf_7 : decode cX7_mostOf 7 = .ok (.iload_n 1, 1) := by decide +kernel
theorem dX7_mostOf_8 : decode cX7_mostOf 8 = .ok (.iload_n 2, 1) := by decide +kernel
theorem dX7_mostOf_9 : decode cX7_mostOf 9 = .ok (.invokevirtual 300, 3) := by decide +kernel
theorem dX7_mostOf_12 : decode cX7_mostOf 12 = .ok (.ifCond .ne 61, 3) := by decide +kernel
theorem dX7_mostOf_15 : decode cX7_mostOf 15 = .ok (.iload_n 2, 1) := by decide +kernel
theorem dX7_mostOf_16 : decode cX7_mostOf 16 = .ok (.istore_n 3, 1) := by decide +kernel
theorem dX7_mostOf_17 : decode cX7_mostOf 17 = .ok (.iconst 0, 1) := by decide +kernel
theorem dX7_mostOf_18 : decode cX7_mostOf 18 = .ok (.istore 4, 2) := by decide +kernel
theorem dX7_mostOf_20 : decode cX7_mostOf 20 = .ok (.iload 4, 2) := by decide +kernel
theorem dX7_mostOf_22 : decode cX7_mostOf 22 = .ok (.aload_n 0, 1) := by decide +kernel
theorem dX7_mostOf_23 : decode cX7_mostOf 23 = .ok (.getfield 102, 3) := by decide +kernel
theorem dX7_mostOf_26 : decode cX7_mostOf 26 = .ok (.if_icmp .ge 42, 3) := by decide +kernel
theorem dX7_mostOf_29 : decode cX7_mostOf 29 = .ok (.iload_n 2, 1) := by decide +kernel
theorem dX7_mostOf_30 : decode cX7_mostOf 30 = .ok (.iload 4, 2) := by decide +kernel
theorem dX7_mostOf_32 : decode cX7_mostOf 32 = .ok (.invokestatic 184, 3) := by decide +kernel
theorem dX7_mostOf_35 : decode cX7_mostOf 35 = .ok (.ifCond .eq 25, 3) := by decide +kernel
theorem dX7_mostOf_38 : decode cX7_mostOf 38 = .ok (.aload_n 0, 1) := by decide +kernel
theorem dX7_mostOf_39 : decode cX7_mostOf 39 = .ok (.iload_n 1, 1) := by decide +kernel
theorem dX7_mostOf_40 : decode cX7_mostOf 40 = .ok (.iload 4, 2) := by decide +kernel
theorem dX7_mostOf_42 : decode cX7_mostOf 42 = .ok (.iload_n 2, 1) := by decide +kernel
theorem dX7_mostOf_43 : decode cX7_mostOf 43 = .ok (.invokevirtual 294, 3) := by decide +kernel
theorem dX7_mostOf_46 : decode cX7_mostOf 46 = .ok (.ifCond .ne 14, 3) := by decide +kernel
theorem dX7_mostOf_49 : decode cX7_mostOf 49 = .ok (.iload_n 3, 1) := by decide +kernel
theorem dX7_mostOf_50 : decode cX7_mostOf 50 = .ok (.iconst 1, 1) := by decide +kernel
theorem dX7_mostOf_51 : decode cX7_mostOf 51 = .ok (.iload 4, 2) := by decide +kernel
theorem dX7_mostOf_53 : decode cX7_mostOf 53 = .ok (.ishl, 1) := by decide +kernel
theorem dX7_mostOf_54 : decode cX7_mostOf 54 = .ok (.iconst (-1), 1) := by decide +kernel
theorem dX7_mostOf_55 : decode cX7_mostOf 55 = .ok (.ixor, 1) := by decide +kernel
theorem dX7_mostOf_56 : decode cX7_mostOf 56 = .ok (.iand, 1) := by decide +kernel
theorem dX7_mostOf_57 : decode cX7_mostOf 57 = .ok (.goto 4, 3) := by decide +kernel
theorem dX7_mostOf_60 : decode cX7_mostOf 60 = .ok (.iload_n 3, 1) := by decide +kernel
theorem dX7_mostOf_61 : decode cX7_mostOf 61 = .ok (.istore_n 3, 1) := by decide +kernel
theorem dX7_mostOf_62 : decode cX7_mostOf 62 = .ok (.iinc 4 1, 3) := by decide +kernel
theorem dX7_mostOf_65 : decode cX7_mostOf 65 = .ok (.goto (-45), 3) := by decide +kernel
theorem dX7_mostOf_68 : decode cX7_mostOf 68 = .ok (.iload_n 3, 1) := by decide +kernel
theorem dX7_mostOf_69 : decode cX7_mostOf 69 = .ok (.istore_n 2, 1) := by decide +kernel
theorem dX7_mostOf_70 : decode cX7_mostOf 70 = .ok (.goto (-64), 3) := by decide +kernel
theorem dX7_mostOf_73 : decode cX7_mostOf 73 = .ok (.iload_n 2, 1) := by decide +kernel
theorem dX7_mostOf_74 : decode cX7_mostOf 74 = .ok (.ireturn, 1) := by decide +kernel
theorem dX7_findRow_0 : decode cX7_findRow 0 = .ok (.aload_n 0, 1) := by decide +kernel
theorem dX7_findRow_1 : decode cX7_findRow 1 = .ok (.iload_n 1, 1) := by decide +kernel
theorem dX7_findRow_2 : decode cX7_findRow 2 = .ok (.invokevirtual 303, 3) := by decide +kernel
theorem dX7_findRow_5 : decode cX7_findRow 5 = .ok (.istore_n 2, 1) := by decide +kernel
theorem dX7_findRow_6 : decode cX7_findRow 6 = .ok (.iconst 0, 1) := by decide +kernel
theorem dX7_findRow_7 : decode cX7_findRow 7 = .ok (.istore_n 3, 1) := by decide +kernel
theorem dX7_findRow_8 : decode cX7_findRow 8 = .ok (.iload_n 2, 1) := by decide +kernel
theorem dX7_findRow_9 : decode cX7_findRow 9 = .ok (.ifCond .eq 154, 3) := by decide +kernel
theorem dX7_findRow_12 : decode cX7_findRow 12 = .ok (.iconst 0, 1) := by decide +kernel
theorem dX7_findRow_13 : decode cX7_findRow 13 = .ok (.istore 4, 2) := by decide +kernel
theorem dX7_findRow_15 : decode cX7_findRow 15 = .ok (.iload_n 2, 1) := by decide +kernel
theorem dX7_findRow_16 : decode cX7_findRow 16 = .ok (.bipush (-2), 2) := by decide +kernel
theorem dX7_findRow_18 : decode cX7_findRow 18 = .ok (.iand, 1) := by decide +kernel
theorem dX7_findRow_19 : decode cX7_findRow 19 = .ok (.istore 5, 2) := by decide +kernel
theorem dX7_findRow_21 : decode cX7_findRow 21 = .ok (.iload_n 2, 1) := by decide +kernel
theorem dX7_findRow_22 : decode cX7_findRow 22 = .ok (.iload 4, 2) := by decide +kernel
theorem dX7_findRow_24 : decode cX7_findRow 24 = .ok (.invokestatic 184, 3) := by decide +kernel
theorem dX7_findRow_27 : decode cX7_findRow 27 = .ok (.ifCond .eq 25, 3) := by decide +kernel
theorem dX7_findRow_30 : decode cX7_findRow 30 = .ok (.aload_n 0, 1) := by decide +kernel
theorem dX7_findRow_31 : decode cX7_findRow 31 = .ok (.iload_n 1, 1) := by decide +kernel
theorem dX7_findRow_32 : decode cX7_findRow 32 = .ok (.iload 4, 2) := by decide +kernel
theorem dX7_findRow_34 : decode cX7_findRow 34 = .ok (.iload 5, 2) := by decide +kernel
theorem dX7_findRow_36 : decode cX7_findRow 36 = .ok (.invokevirtual 294, 3) := by decide +kernel
theorem dX7_findRow_39 : decode cX7_findRow 39 = .ok (.ifCond .eq 13, 3) := by decide +kernel
theorem dX7_findRow_42 : decode cX7_findRow 42 = .ok (.aload_n 0, 1) := by decide +kernel
theorem dX7_findRow_43 : decode cX7_findRow 43 = .ok (.iload_n 1, 1) := by decide +kernel
theorem dX7_findRow_44 : decode cX7_findRow 44 = .ok (.iload 5, 2) := by decide +kernel
theorem dX7_findRow_46 : decode cX7_findRow 46 = .ok (.invokevirtual 300, 3) := by decide +kernel
theorem dX7_findRow_49 : decode cX7_findRow 49 = .ok (.ifCond .ne 19, 3) := by decide +kernel
theorem dX7_findRow_52 : decode cX7_findRow 52 = .ok (.iinc 4 1, 3) := by decide +kernel
theorem dX7_findRow_55 : decode cX7_findRow 55 = .ok (.iload_n 2, 1) := by decide +kernel
theorem dX7_findRow_56 : decode cX7_findRow 56 = .ok (.iconst 1, 1) := by decide +kernel
theorem dX7_findRow_57 : decode cX7_findRow 57 = .ok (.iload 4, 2) := by decide +kernel
theorem dX7_findRow_59 : decode cX7_findRow 59 = .ok (.ishl, 1) := by decide +kernel
theorem dX7_findRow_60 : decode cX7_findRow 60 = .ok (.iconst (-1), 1) := by decide +kernel
theorem dX7_findRow_61 : decode cX7_findRow 61 = .ok (.ixor, 1) := by decide +kernel
theorem dX7_findRow_62 : decode cX7_findRow 62 = .ok (.iand, 1) := by decide +kernel
theorem dX7_findRow_63 : decode cX7_findRow 63 = .ok (.istore 5, 2) := by decide +kernel
theorem dX7_findRow_65 : decode cX7_findRow 65 = .ok (.goto (-44), 3) := by decide +kernel
theorem dX7_findRow_68 : decode cX7_findRow 68 = .ok (.aload_n 0, 1) := by decide +kernel
theorem dX7_findRow_69 : decode cX7_findRow 69 = .ok (.getfield 68, 3) := by decide +kernel
theorem dX7_findRow_72 : decode cX7_findRow 72 = .ok (.iload_n 3, 1) := by decide +kernel
theorem dX7_findRow_73 : decode cX7_findRow 73 = .ok (.iload 4, 2) := by decide +kernel
theorem dX7_findRow_75 : decode cX7_findRow 75 = .ok (.iastore, 1) := by decide +kernel
theorem dX7_findRow_76 : decode cX7_findRow 76 = .ok (.aload_n 0, 1) := by decide +kernel
theorem dX7_findRow_77 : decode cX7_findRow 77 = .ok (.iload_n 1, 1) := by decide +kernel
theorem dX7_findRow_78 : decode cX7_findRow 78 = .ok (.iload 4, 2) := by decide +kernel
theorem dX7_findRow_80 : decode cX7_findRow 80 = .ok (.invokevirtual 250, 3) := by decide +kernel
theorem dX7_findRow_83 : decode cX7_findRow 83 = .ok (.ifCond .eq 7, 3) := by decide +kernel
theorem dX7_findRow_86 : decode cX7_findRow 86 = .ok (.iconst 0, 1) := by decide +kernel
theorem dX7_findRow_87 : decode cX7_findRow 87 = .ok (.goto 12, 3) := by decide +kernel
theorem dX7_findRow_90 : decode cX7_findRow 90 = .ok (.aload_n 0, 1) := by decide +kernel
theorem dX7_findRow_91 : decode cX7_findRow 91 = .ok (.iload_n 1, 1) := by decide +kernel
theorem dX7_findRow_92 : decode cX7_findRow 92 = .ok (.iload 4, 2) := by decide +kernel
theorem dX7_findRow_94 : decode cX7_findRow 94 = .ok (.iload 5, 2) := by decide +kernel
theorem dX7_findRow_96 : decode cX7_findRow 96 = .ok (.invokevirtual 291, 3) := by decide +kernel
theorem dX7_findRow_99 : decode cX7_findRow 99 = .ok (.istore 6, 2) := by decide +kernel
theorem dX7_findRow_101 : decode cX7_findRow 101 = .ok (.aload_n 0, 1) := by decide +kernel
theorem dX7_findRow_102 : decode cX7_findRow 102 = .ok (.getfield 71, 3) := by decide +kernel
theorem dX7_findRow_105 : decode cX7_findRow 105 = .ok (.iload_n 3, 1) := by decide +kernel
theorem dX7_findRow_106 : decode cX7_findRow 106 = .ok (.iconst (-1), 1) := by decide +kernel
theorem dX7_findRow_107 : decode cX7_findRow 107 = .ok (.iastore, 1) := by decide +kernel
theorem dX7_findRow_108 : decode cX7_findRow 108 = .ok (.aload_n 0, 1) := by decide +kernel
theorem dX7_findRow_109 : decode cX7_findRow 109 = .ok (.getfield 102, 3) := by decide +kernel
theorem dX7_findRow_112 : decode cX7_findRow 112 = .ok (.iconst 1, 1) := by decide +kernel
theorem dX7_findRow_113 : decode cX7_findRow 113 = .ok (.isub, 1) := by decide +kernel
theorem dX7_findRow_114 : decode cX7_findRow 114 = .ok (.istore 7, 2) := by decide +kernel
theorem dX7_findRow_116 : decode cX7_findRow 116 = .ok (.iload 7, 2) := by decide +kernel
theorem dX7_findRow_118 : decode cX7_findRow 118 = .ok (.ifCond .lt 36, 3) := by decide +kernel
theorem dX7_findRow_121 : decode cX7_findRow 121 = .ok (.aload_n 0, 1) := by decide +kernel
theorem dX7_findRow_122 : decode cX7_findRow 122 = .ok (.getfield 71, 3) := by decide +kernel
theorem dX7_findRow_125 : decode cX7_findRow 125 = .ok (.iload_n 3, 1) := by decide +kernel
theorem dX7_findRow_126 : decode cX7_findRow 126 = .ok (.iload 6, 2) := by decide +kernel
theorem dX7_findRow_128 : decode cX7_findRow 128 = .ok (.iload 7, 2) := by decide +kernel
theorem dX7_findRow_130 : decode cX7_findRow 130 = .ok (.invokestatic 184, 3) := by decide +kernel
theorem dX7_findRow_133 : decode cX7_findRow 133 = .ok (.ifCond .eq 8, 3) := by decide +kernel
theorem dX7_findRow_136 : decode cX7_findRow 136 = .ok (.iload 7, 2) := by decide +kernel
theorem dX7_findRow_138 : decode cX7_findRow 138 = .ok (.goto 9, 3) := by decide +kernel
theorem dX7_findRow_141 : decode cX7_findRow 141 = .ok (.aload_n 0, 1) := by decide +kernel
theorem dX7_findRow_142 : decode cX7_findRow 142 = .ok (.getfield 71, 3) := by decide +kernel
theorem dX7_findRow_145 : decode cX7_findRow 145 = .ok (.iload_n 3, 1) := by decide +kernel
theorem dX7_findRow_146 : decode cX7_findRow 146 = .ok (.iaload, 1) := by decide +kernel
theorem dX7_findRow_147 : decode cX7_findRow 147 = .ok (.iastore, 1) := by decide +kernel
theorem dX7_findRow_148 : decode cX7_findRow 148 = .ok (.iinc 7 (-1), 3) := by decide +kernel
theorem dX7_findRow_151 : decode cX7_findRow 151 = .ok (.goto (-35), 3) := by decide +kernel
theorem dX7_findRow_154 : decode cX7_findRow 154 = .ok (.iinc 3 1, 3) := by decide +kernel
theorem dX7_findRow_157 : decode cX7_findRow 157 = .ok (.iload 5, 2) := by decide +kernel
theorem dX7_findRow_159 : decode cX7_findRow 159 = .ok (.istore_n 2, 1) := by decide +kernel
theorem dX7_findRow_160 : decode cX7_findRow 160 = .ok (.goto (-152), 3) := by decide +kernel
theorem dX7_findRow_163 : decode cX7_findRow 163 = .ok (.iload_n 3, 1) := by decide +kernel
theorem dX7_findRow_164 : decode cX7_findRow 164 = .ok (.ireturn, 1) := by decide +kernel
theorem dX7_most_0 : decode cX7_most 0 = .ok (.aload_n 0, 1) := by decide +kernel
theorem dX7_most_1 : decode cX7_most 1 = .ok (.iload_n 1, 1) := by decide +kernel
theorem dX7_most_2 : decode cX7_most 2 = .ok (.invokevirtual 241, 3) := by decide +kernel
theorem dX7_most_5 : decode cX7_most 5 = .ok (.ifCond .ne 6, 3) := by decide +kernel
theorem dX7_most_8 : decode cX7_most 8 = .ok (.ldc 244, 2) := by decide +kernel
theorem dX7_most_10 : decode cX7_most 10 = .ok (.ireturn, 1) := by decide +kernel
theorem dX7_most_11 : decode cX7_most 11 = .ok (.aload_n 0, 1) := by decide +kernel
theorem dX7_most_12 : decode cX7_most 12 = .ok (.iload_n 1, 1) := by decide +kernel
theorem dX7_most_13 : decode cX7_most 13 = .ok (.invokevirtual 306, 3) := by decide +kernel
theorem dX7_most_16 : decode cX7_most 16 = .ok (.istore_n 3, 1) := by decide +kernel
theorem dX7_most_17 : decode cX7_most 17 = .ok (.iload_n 2, 1) := by decide +kernel
theorem dX7_most_18 : decode cX7_most 18 = .ok (.iconst (-1), 1) := by decide +kernel
theorem dX7_most_19 : decode cX7_most 19 = .ok (.if_icmp .ne 7, 3) := by decide +kernel
theorem dX7_most_22 : decode cX7_most 22 = .ok (.iload_n 3, 1) := by decide +kernel
theorem dX7_most_23 : decode cX7_most 23 = .ok (.goto 26, 3) := by decide +kernel
theorem dX7_most_26 : decode cX7_most 26 = .ok (.iload_n 2, 1) := by decide +kernel
theorem dX7_most_27 : decode cX7_most 27 = .ok (.i2l, 1) := by decide +kernel
theorem dX7_most_28 : decode cX7_most 28 = .ok (.lconst 0, 1) := by decide +kernel
theorem dX7_most_29 : decode cX7_most 29 = .ok (.iload_n 3, 1) := by decide +kernel
theorem dX7_most_30 : decode cX7_most 30 = .ok (.iconst 1, 1) := by decide +kernel
theorem dX7_most_31 : decode cX7_most 31 = .ok (.isub, 1) := by decide +kernel
theorem dX7_most_32 : decode cX7_most 32 = .ok (.i2l, 1) := by decide +kernel
theorem dX7_most_33 : decode cX7_most 33 = .ok (.invokestatic 108, 3) := by decide +kernel
theorem dX7_most_36 : decode cX7_most 36 = .ok (.ifCond .eq 12, 3) := by decide +kernel
theorem dX7_most_39 : decode cX7_most 39 = .ok (.aload_n 0, 1) := by decide +kernel
theorem dX7_most_40 : decode cX7_most 40 = .ok (.getfield 68, 3) := by decide +kernel
theorem dX7_most_43 : decode cX7_most 43 = .ok (.iload_n 2, 1) := by decide +kernel
theorem dX7_most_44 : decode cX7_most 44 = .ok (.iaload, 1) := by decide +kernel
theorem dX7_most_45 : decode cX7_most 45 = .ok (.goto 4, 3) := by decide +kernel
theorem dX7_most_48 : decode cX7_most 48 = .ok (.iconst (-1), 1) := by decide +kernel
theorem dX7_most_49 : decode cX7_most 49 = .ok (.ireturn, 1) := by decide +kernel
theorem dX7_names_0 : decode cX7_names 0 = .ok (.aload_n 0, 1) := by decide +kernel
theorem dX7_names_1 : decode cX7_names 1 = .ok (.iload_n 1, 1) := by decide +kernel
theorem dX7_names_2 : decode cX7_names 2 = .ok (.invokevirtual 241, 3) := by decide +kernel
theorem dX7_names_5 : decode cX7_names 5 = .ok (.ifCond .ne 6, 3) := by decide +kernel
theorem dX7_names_8 : decode cX7_names 8 = .ok (.ldc 244, 2) := by decide +kernel
theorem dX7_names_10 : decode cX7_names 10 = .ok (.ireturn, 1) := by decide +kernel
theorem dX7_names_11 : decode cX7_names 11 = .ok (.aload_n 0, 1) := by decide +kernel
theorem dX7_names_12 : decode cX7_names 12 = .ok (.iload_n 1, 1) := by decide +kernel
theorem dX7_names_13 : decode cX7_names 13 = .ok (.invokevirtual 306, 3) := by decide +kernel
theorem dX7_names_16 : decode cX7_names 16 = .ok (.istore_n 3, 1) := by decide +kernel
theorem dX7_names_17 : decode cX7_names 17 = .ok (.iload_n 2, 1) := by decide +kernel
theorem dX7_names_18 : decode cX7_names 18 = .ok (.i2l, 1) := by decide +kernel
theorem dX7_names_19 : decode cX7_names 19 = .ok (.lconst 0, 1) := by decide +kernel
theorem dX7_names_20 : decode cX7_names 20 = .ok (.iload_n 3, 1) := by decide +kernel
theorem dX7_names_21 : decode cX7_names 21 = .ok (.iconst 1, 1) := by decide +kernel
theorem dX7_names_22 : decode cX7_names 22 = .ok (.isub, 1) := by decide +kernel
theorem dX7_names_23 : decode cX7_names 23 = .ok (.i2l, 1) := by decide +kernel
theorem dX7_names_24 : decode cX7_names 24 = .ok (.invokestatic 108, 3) := by decide +kernel
theorem dX7_names_27 : decode cX7_names 27 = .ok (.ifCond .eq 12, 3) := by decide +kernel
theorem dX7_names_30 : decode cX7_names 30 = .ok (.aload_n 0, 1) := by decide +kernel
theorem dX7_names_31 : decode cX7_names 31 = .ok (.getfield 71, 3) := by decide +kernel
theorem dX7_names_34 : decode cX7_names 34 = .ok (.iload_n 2, 1) := by decide +kernel
theorem dX7_names_35 : decode cX7_names 35 = .ok (.iaload, 1) := by decide +kernel
theorem dX7_names_36 : decode cX7_names 36 = .ok (.goto 5, 3) := by decide +kernel
theorem dX7_names_39 : decode cX7_names 39 = .ok (.ldc 118, 2) := by decide +kernel
theorem dX7_names_41 : decode cX7_names 41 = .ok (.ireturn, 1) := by decide +kernel
theorem dX7_couldName_0 : decode cX7_couldName 0 = .ok (.iconst 0, 1) := by decide +kernel
theorem dX7_couldName_1 : decode cX7_couldName 1 = .ok (.istore 4, 2) := by decide +kernel
theorem dX7_couldName_3 : decode cX7_couldName 3 = .ok (.iconst 0, 1) := by decide +kernel
theorem dX7_couldName_4 : decode cX7_couldName 4 = .ok (.istore 5, 2) := by decide +kernel
theorem dX7_couldName_6 : decode cX7_couldName 6 = .ok (.iload 5, 2) := by decide +kernel
theorem dX7_couldName_8 : decode cX7_couldName 8 = .ok (.aload_n 0, 1) := by decide +kernel
theorem dX7_couldName_9 : decode cX7_couldName 9 = .ok (.getfield 102, 3) := by decide +kernel
theorem dX7_couldName_12 : decode cX7_couldName 12 = .ok (.if_icmp .ge 41, 3) := by decide +kernel
theorem dX7_couldName_15 : decode cX7_couldName 15 = .ok (.iload 4, 2) := by decide +kernel
theorem dX7_couldName_17 : decode cX7_couldName 17 = .ok (.ifCond .ne 23, 3) := by decide +kernel
theorem dX7_couldName_20 : decode cX7_couldName 20 = .ok (.iload_n 3, 1) := by decide +kernel
theorem dX7_couldName_21 : decode cX7_couldName 21 = .ok (.iload 5, 2) := by decide +kernel
theorem dX7_couldName_23 : decode cX7_couldName 23 = .ok (.invokestatic 184, 3) := by decide +kernel
theorem dX7_couldName_26 : decode cX7_couldName 26 = .ok (.ifCond .eq 18, 3) := by decide +kernel
theorem dX7_couldName_29 : decode cX7_couldName 29 = .ok (.aload_n 0, 1) := by decide +kernel
theorem dX7_couldName_30 : decode cX7_couldName 30 = .ok (.iload_n 1, 1) := by decide +kernel
theorem dX7_couldName_31 : decode cX7_couldName 31 = .ok (.iload_n 2, 1) := by decide +kernel
theorem dX7_couldName_32 : decode cX7_couldName 32 = .ok (.iload 5, 2) := by decide +kernel
theorem dX7_couldName_34 : decode cX7_couldName 34 = .ok (.invokevirtual 253, 3) := by decide +kernel
theorem dX7_couldName_37 : decode cX7_couldName 37 = .ok (.ifCond .eq 7, 3) := by decide +kernel
theorem dX7_couldName_40 : decode cX7_couldName 40 = .ok (.iconst 1, 1) := by decide +kernel
theorem dX7_couldName_41 : decode cX7_couldName 41 = .ok (.goto 4, 3) := by decide +kernel
theorem dX7_couldName_44 : decode cX7_couldName 44 = .ok (.iconst 0, 1) := by decide +kernel
theorem dX7_couldName_45 : decode cX7_couldName 45 = .ok (.istore 4, 2) := by decide +kernel
theorem dX7_couldName_47 : decode cX7_couldName 47 = .ok (.iinc 5 1, 3) := by decide +kernel
theorem dX7_couldName_50 : decode cX7_couldName 50 = .ok (.goto (-44), 3) := by decide +kernel
theorem dX7_couldName_53 : decode cX7_couldName 53 = .ok (.iload 4, 2) := by decide +kernel
theorem dX7_couldName_55 : decode cX7_couldName 55 = .ok (.ireturn, 1) := by decide +kernel
theorem dX7_tellings_0 : decode cX7_tellings 0 = .ok (.aload_n 0, 1) := by decide +kernel
theorem dX7_tellings_1 : decode cX7_tellings 1 = .ok (.iload_n 1, 1) := by decide +kernel
theorem dX7_tellings_2 : decode cX7_tellings 2 = .ok (.invokevirtual 241, 3) := by decide +kernel
theorem dX7_tellings_5 : decode cX7_tellings 5 = .ok (.ifCond .ne 6, 3) := by decide +kernel
theorem dX7_tellings_8 : decode cX7_tellings 8 = .ok (.ldc 244, 2) := by decide +kernel
theorem dX7_tellings_10 : decode cX7_tellings 10 = .ok (.ireturn, 1) := by decide +kernel
theorem dX7_tellings_11 : decode cX7_tellings 11 = .ok (.aload_n 0, 1) := by decide +kernel
theorem dX7_tellings_12 : decode cX7_tellings 12 = .ok (.iload_n 1, 1) := by decide +kernel
theorem dX7_tellings_13 : decode cX7_tellings 13 = .ok (.invokevirtual 297, 3) := by decide +kernel
theorem dX7_tellings_16 : decode cX7_tellings 16 = .ok (.istore_n 2, 1) := by decide +kernel
theorem dX7_tellings_17 : decode cX7_tellings 17 = .ok (.iconst 0, 1) := by decide +kernel
theorem dX7_tellings_18 : decode cX7_tellings 18 = .ok (.istore_n 3, 1) := by decide +kernel
theorem dX7_tellings_19 : decode cX7_tellings 19 = .ok (.iconst 0, 1) := by decide +kernel
theorem dX7_tellings_20 : decode cX7_tellings 20 = .ok (.istore 4, 2) := by decide +kernel
theorem dX7_tellings_22 : decode cX7_tellings 22 = .ok (.iload 4, 2) := by decide +kernel
theorem dX7_tellings_24 : decode cX7_tellings 24 = .ok (.aload_n 0, 1) := by decide +kernel
theorem dX7_tellings_25 : decode cX7_tellings 25 = .ok (.getfield 102, 3) := by decide +kernel
theorem dX7_tellings_28 : decode cX7_tellings 28 = .ok (.if_icmp .ge 45, 3) := by decide +kernel
theorem dX7_tellings_31 : decode cX7_tellings 31 = .ok (.iload_n 2, 1) := by decide +kernel
theorem dX7_tellings_32 : decode cX7_tellings 32 = .ok (.iload 4, 2) := by decide +kernel
theorem dX7_tellings_34 : decode cX7_tellings 34 = .ok (.invokestatic 184, 3) := by decide +kernel
theorem dX7_tellings_37 : decode cX7_tellings 37 = .ok (.ifCond .eq 30, 3) := by decide +kernel
theorem dX7_tellings_40 : decode cX7_tellings 40 = .ok (.aload_n 0, 1) := by decide +kernel
theorem dX7_tellings_41 : decode cX7_tellings 41 = .ok (.iload_n 1, 1) := by decide +kernel
theorem dX7_tellings_42 : decode cX7_tellings 42 = .ok (.iload 4, 2) := by decide +kernel
theorem dX7_tellings_44 : decode cX7_tellings 44 = .ok (.iload_n 2, 1) := by decide +kernel
theorem dX7_tellings_45 : decode cX7_tellings 45 = .ok (.invokevirtual 294, 3) := by decide +kernel
theorem dX7_tellings_48 : decode cX7_tellings 48 = .ok (.ifCond .ne 19, 3) := by decide +kernel
theorem dX7_tellings_51 : decode cX7_tellings 51 = .ok (.aload_n 0, 1) := by decide +kernel
theorem dX7_tellings_52 : decode cX7_tellings 52 = .ok (.iload_n 1, 1) := by decide +kernel
theorem dX7_tellings_53 : decode cX7_tellings 53 = .ok (.iload 4, 2) := by decide +kernel
theorem dX7_tellings_55 : decode cX7_tellings 55 = .ok (.iload_n 2, 1) := by decide +kernel
theorem dX7_tellings_56 : decode cX7_tellings 56 = .ok (.invokevirtual 309, 3) := by decide +kernel
theorem dX7_tellings_59 : decode cX7_tellings 59 = .ok (.ifCond .ne 5, 3) := by decide +kernel
theorem dX7_tellings_62 : decode cX7_tellings 62 = .ok (.iconst (-1), 1) := by decide +kernel
theorem dX7_tellings_63 : decode cX7_tellings 63 = .ok (.ireturn, 1) := by decide +kernel
theorem dX7_tellings_64 : decode cX7_tellings 64 = .ok (.iinc 3 1, 3) := by decide +kernel
theorem dX7_tellings_67 : decode cX7_tellings 67 = .ok (.iinc 4 1, 3) := by decide +kernel
theorem dX7_tellings_70 : decode cX7_tellings 70 = .ok (.goto (-48), 3) := by decide +kernel
theorem dX7_tellings_73 : decode cX7_tellings 73 = .ok (.iload_n 3, 1) := by decide +kernel
theorem dX7_tellings_74 : decode cX7_tellings 74 = .ok (.ireturn, 1) := by decide +kernel
