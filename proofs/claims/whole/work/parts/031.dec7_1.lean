theorem dX7_put_1 : decode cX7_put 1 = .ok (.invokestatic 193, 3) := by decide +kernel
theorem dX7_put_4 : decode cX7_put 4 = .ok (.ifCond .ne 10, 3) := by decide +kernel
theorem dX7_put_7 : decode cX7_put 7 = .ok (.aload_n 0, 1) := by decide +kernel
theorem dX7_put_8 : decode cX7_put 8 = .ok (.ldc 68, 2) := by decide +kernel
theorem dX7_put_10 : decode cX7_put 10 = .ok (.invokevirtual 69, 3) := by decide +kernel
theorem dX7_put_13 : decode cX7_put 13 = .ok (.ireturn, 1) := by decide +kernel
theorem dX7_put_14 : decode cX7_put 14 = .ok (.aload_n 0, 1) := by decide +kernel
theorem dX7_put_15 : decode cX7_put 15 = .ok (.getfield 55, 3) := by decide +kernel
theorem dX7_put_18 : decode cX7_put 18 = .ok (.iload_n 1, 1) := by decide +kernel
theorem dX7_put_19 : decode cX7_put 19 = .ok (.aaload, 1) := by decide +kernel
theorem dX7_put_20 : decode cX7_put 20 = .ok (.astore 4, 2) := by decide +kernel
theorem dX7_put_22 : decode cX7_put 22 = .ok (.aload 4, 2) := by decide +kernel
theorem dX7_put_24 : decode cX7_put 24 = .ok (.getfield 196, 3) := by decide +kernel
theorem dX7_put_27 : decode cX7_put 27 = .ok (.ifCond .ne 10, 3) := by decide +kernel
theorem dX7_put_30 : decode cX7_put 30 = .ok (.aload_n 0, 1) := by decide +kernel
theorem dX7_put_31 : decode cX7_put 31 = .ok (.ldc 199, 2) := by decide +kernel
theorem dX7_put_33 : decode cX7_put 33 = .ok (.invokevirtual 69, 3) := by decide +kernel
theorem dX7_put_36 : decode cX7_put 36 = .ok (.ireturn, 1) := by decide +kernel
theorem dX7_put_37 : decode cX7_put 37 = .ok (.iload_n 2, 1) := by decide +kernel
theorem dX7_put_38 : decode cX7_put 38 = .ok (.ifCond .lt 12, 3) := by decide +kernel
theorem dX7_put_41 : decode cX7_put 41 = .ok (.iload_n 2, 1) := by decide +kernel
theorem dX7_put_42 : decode cX7_put 42 = .ok (.aload 4, 2) := by decide +kernel
theorem dX7_put_44 : decode cX7_put 44 = .ok (.getfield 204, 3) := by decide +kernel
theorem dX7_put_47 : decode cX7_put 47 = .ok (.if_icmp .lt 10, 3) := by decide +kernel
theorem dX7_put_50 : decode cX7_put 50 = .ok (.aload_n 0, 1) := by decide +kernel
theorem dX7_put_51 : decode cX7_put 51 = .ok (.ldc 68, 2) := by decide +kernel
theorem dX7_put_53 : decode cX7_put 53 = .ok (.invokevirtual 69, 3) := by decide +kernel
theorem dX7_put_56 : decode cX7_put 56 = .ok (.ireturn, 1) := by decide +kernel
theorem dX7_put_57 : decode cX7_put 57 = .ok (.aload 4, 2) := by decide +kernel
theorem dX7_put_59 : decode cX7_put 59 = .ok (.getfield 269, 3) := by decide +kernel
theorem dX7_put_62 : decode cX7_put 62 = .ok (.iload_n 2, 1) := by decide +kernel
theorem dX7_put_63 : decode cX7_put 63 = .ok (.aload 4, 2) := by decide +kernel
theorem dX7_put_65 : decode cX7_put 65 = .ok (.iload_n 3, 1) := by decide +kernel
theorem dX7_put_66 : decode cX7_put 66 = .ok (.invokevirtual 289, 3) := by decide +kernel
theorem dX7_put_69 : decode cX7_put 69 = .ok (.iastore, 1) := by decide +kernel
theorem dX7_put_70 : decode cX7_put 70 = .ok (.iconst 0, 1) := by decide +kernel
theorem dX7_put_71 : decode cX7_put 71 = .ok (.ireturn, 1) := by decide +kernel
theorem dX7_copy_0 : decode cX7_copy 0 = .ok (.iload_n 1, 1) := by decide +kernel
theorem dX7_copy_1 : decode cX7_copy 1 = .ok (.invokestatic 193, 3) := by decide +kernel
theorem dX7_copy_4 : decode cX7_copy 4 = .ok (.ifCond .eq 10, 3) := by decide +kernel
theorem dX7_copy_7 : decode cX7_copy 7 = .ok (.iload_n 3, 1) := by decide +kernel
theorem dX7_copy_8 : decode cX7_copy 8 = .ok (.invokestatic 193, 3) := by decide +kernel
theorem dX7_copy_11 : decode cX7_copy 11 = .ok (.ifCond .ne 10, 3) := by decide +kernel
theorem dX7_copy_14 : decode cX7_copy 14 = .ok (.aload_n 0, 1) := by decide +kernel
theorem dX7_copy_15 : decode cX7_copy 15 = .ok (.ldc 68, 2) := by decide +kernel
theorem dX7_copy_17 : decode cX7_copy 17 = .ok (.invokevirtual 69, 3) := by decide +kernel
theorem dX7_copy_20 : decode cX7_copy 20 = .ok (.ireturn, 1) := by decide +kernel
theorem dX7_copy_21 : decode cX7_copy 21 = .ok (.aload_n 0, 1) := by decide +kernel
theorem dX7_copy_22 : decode cX7_copy 22 = .ok (.getfield 55, 3) := by decide +kernel
theorem dX7_copy_25 : decode cX7_copy 25 = .ok (.iload_n 1, 1) := by decide +kernel
theorem dX7_copy_26 : decode cX7_copy 26 = .ok (.aaload, 1) := by decide +kernel
theorem dX7_copy_27 : decode cX7_copy 27 = .ok (.astore 6, 2) := by decide +kernel
theorem dX7_copy_29 : decode cX7_copy 29 = .ok (.aload_n 0, 1) := by decide +kernel
theorem dX7_copy_30 : decode cX7_copy 30 = .ok (.getfield 55, 3) := by decide +kernel
theorem dX7_copy_33 : decode cX7_copy 33 = .ok (.iload_n 3, 1) := by decide +kernel
theorem dX7_copy_34 : decode cX7_copy 34 = .ok (.aaload, 1) := by decide +kernel
theorem dX7_copy_35 : decode cX7_copy 35 = .ok (.astore 7, 2) := by decide +kernel
theorem dX7_copy_37 : decode cX7_copy 37 = .ok (.aload 6, 2) := by decide +kernel
theorem dX7_copy_39 : decode cX7_copy 39 = .ok (.getfield 196, 3) := by decide +kernel
theorem dX7_copy_42 : decode cX7_copy 42 = .ok (.ifCond .eq 11, 3) := by decide +kernel
theorem dX7_copy_45 : decode cX7_copy 45 = .ok (.aload 7, 2) := by decide +kernel
theorem dX7_copy_47 : decode cX7_copy 47 = .ok (.getfield 196, 3) := by decide +kernel
theorem dX7_copy_50 : decode cX7_copy 50 = .ok (.ifCond .ne 10, 3) := by decide +kernel
theorem dX7_copy_53 : decode cX7_copy 53 = .ok (.aload_n 0, 1) := by decide +kernel
theorem dX7_copy_54 : decode cX7_copy 54 = .ok (.ldc 199, 2) := by decide +kernel
theorem dX7_copy_56 : decode cX7_copy 56 = .ok (.invokevirtual 69, 3) := by decide +kernel
theorem dX7_copy_59 : decode cX7_copy 59 = .ok (.ireturn, 1) := by decide +kernel
theorem dX7_copy_60 : decode cX7_copy 60 = .ok (.aload 6, 2) := by decide +kernel
theorem dX7_copy_62 : decode cX7_copy 62 = .ok (.getfield 196, 3) := by decide +kernel
theorem dX7_copy_65 : decode cX7_copy 65 = .ok (.aload 7, 2) := by decide +kernel
theorem dX7_copy_67 : decode cX7_copy 67 = .ok (.getfield 196, 3) := by decide +kernel
theorem dX7_copy_70 : decode cX7_copy 70 = .ok (.if_icmp .eq 10, 3) := by decide +kernel
theorem dX7_copy_73 : decode cX7_copy 73 = .ok (.aload_n 0, 1) := by decide +kernel
theorem dX7_copy_74 : decode cX7_copy 74 = .ok (.ldc 118, 2) := by decide +kernel
theorem dX7_copy_76 : decode cX7_copy 76 = .ok (.invokevirtual 69, 3) := by decide +kernel
theorem dX7_copy_79 : decode cX7_copy 79 = .ok (.ireturn, 1) := by decide +kernel
theorem dX7_copy_80 : decode cX7_copy 80 = .ok (.aload 6, 2) := by decide +kernel
theorem dX7_copy_82 : decode cX7_copy 82 = .ok (.iload_n 2, 1) := by decide +kernel
theorem dX7_copy_83 : decode cX7_copy 83 = .ok (.iload 5, 2) := by decide +kernel
theorem dX7_copy_85 : decode cX7_copy 85 = .ok (.invokevirtual 292, 3) := by decide +kernel
theorem dX7_copy_88 : decode cX7_copy 88 = .ok (.ifCond .eq 15, 3) := by decide +kernel
theorem dX7_copy_91 : decode cX7_copy 91 = .ok (.aload 7, 2) := by decide +kernel
theorem dX7_copy_93 : decode cX7_copy 93 = .ok (.iload 4, 2) := by decide +kernel
theorem dX7_copy_95 : decode cX7_copy 95 = .ok (.iload 5, 2) := by decide +kernel
theorem dX7_copy_97 : decode cX7_copy 97 = .ok (.invokevirtual 292, 3) := by decide +kernel
theorem dX7_copy_100 : decode cX7_copy 100 = .ok (.ifCond .ne 10, 3) := by decide +kernel
theorem dX7_copy_103 : decode cX7_copy 103 = .ok (.aload_n 0, 1) := by decide +kernel
theorem dX7_copy_104 : decode cX7_copy 104 = .ok (.ldc 68, 2) := by decide +kernel
theorem dX7_copy_106 : decode cX7_copy 106 = .ok (.invokevirtual 69, 3) := by decide +kernel
theorem dX7_copy_109 : decode cX7_copy 109 = .ok (.ireturn, 1) := by decide +kernel
theorem dX7_copy_110 : decode cX7_copy 110 = .ok (.aload 6, 2) := by decide +kernel
theorem dX7_copy_112 : decode cX7_copy 112 = .ok (.getfield 269, 3) := by decide +kernel
theorem dX7_copy_115 : decode cX7_copy 115 = .ok (.iload_n 2, 1) := by decide +kernel
theorem dX7_copy_116 : decode cX7_copy 116 = .ok (.aload 7, 2) := by decide +kernel
theorem dX7_copy_118 : decode cX7_copy 118 = .ok (.getfield 269, 3) := by decide +kernel
theorem dX7_copy_121 : decode cX7_copy 121 = .ok (.iload 4, 2) := by decide +kernel
theorem dX7_copy_123 : decode cX7_copy 123 = .ok (.iload 5, 2) := by decide +kernel
theorem dX7_copy_125 : decode cX7_copy 125 = .ok (.invokestatic 219, 3) := by decide +kernel
theorem dX7_copy_128 : decode cX7_copy 128 = .ok (.iload 5, 2) := by decide +kernel
theorem dX7_copy_130 : decode cX7_copy 130 = .ok (.ireturn, 1) := by decide +kernel
theorem dX7_undo_0 : decode cX7_undo 0 = .ok (.aload_n 0, 1) := by decide +kernel
theorem dX7_undo_1 : decode cX7_undo 1 = .ok (.getfield 62, 3) := by decide +kernel
theorem dX7_undo_4 : decode cX7_undo 4 = .ok (.invokevirtual 295, 3) := by decide +kernel
theorem dX7_undo_7 : decode cX7_undo 7 = .ok (.astore_n 1, 1) := by decide +kernel
theorem dX7_undo_8 : decode cX7_undo 8 = .ok (.aload_n 1, 1) := by decide +kernel
theorem dX7_undo_9 : decode cX7_undo 9 = .ok (.ifnonnull 10, 3) := by decide +kernel
theorem dX7_undo_12 : decode cX7_undo 12 = .ok (.aload_n 0, 1) := by decide +kernel
theorem dX7_undo_13 : decode cX7_undo 13 = .ok (.ldc 184, 2) := by decide +kernel
theorem dX7_undo_15 : decode cX7_undo 15 = .ok (.invokevirtual 69, 3) := by decide +kernel
theorem dX7_undo_18 : decode cX7_undo 18 = .ok (.ireturn, 1) := by decide +kernel
theorem dX7_undo_19 : decode cX7_undo 19 = .ok (.aload_n 0, 1) := by decide +kernel
theorem dX7_undo_20 : decode cX7_undo 20 = .ok (.aload_n 1, 1) := by decide +kernel
theorem dX7_undo_21 : decode cX7_undo 21 = .ok (.invokevirtual 299, 3) := by decide +kernel
theorem dX7_undo_24 : decode cX7_undo 24 = .ok (.aload_n 0, 1) := by decide +kernel
theorem dX7_undo_25 : decode cX7_undo 25 = .ok (.invokevirtual 303, 3) := by decide +kernel
theorem dX7_undo_28 : decode cX7_undo 28 = .ok (.aload_n 0, 1) := by decide +kernel
theorem dX7_undo_29 : decode cX7_undo 29 = .ok (.getfield 62, 3) := by decide +kernel
theorem dX7_undo_32 : decode cX7_undo 32 = .ok (.getfield 306, 3) := by decide +kernel
theorem dX7_undo_35 : decode cX7_undo 35 = .ok (.ireturn, 1) := by decide +kernel
theorem dX7_all_0 : decode cX7_all 0 = .ok (.iload_n 1, 1) := by decide +kernel
theorem dX7_all_1 : decode cX7_all 1 = .ok (.tableswitch 84 0 6 #[43, 48, 53, 58, 63, 71, 79], 43) := by decide +kernel
theorem dX7_all_44 : decode cX7_all 44 = .ok (.aload_n 0, 1) := by decide +kernel
theorem dX7_all_45 : decode cX7_all 45 = .ok (.getfield 89, 3) := by decide +kernel
theorem dX7_all_48 : decode cX7_all 48 = .ok (.ireturn, 1) := by decide +kernel
theorem dX7_all_49 : decode cX7_all 49 = .ok (.aload_n 0, 1) := by decide +kernel
theorem dX7_all_50 : decode cX7_all 50 = .ok (.invokevirtual 307, 3) := by decide +kernel
theorem dX7_all_53 : decode cX7_all 53 = .ok (.ireturn, 1) := by decide +kernel
theorem dX7_all_54 : decode cX7_all 54 = .ok (.aload_n 0, 1) := by decide +kernel
theorem dX7_all_55 : decode cX7_all 55 = .ok (.getfield 211, 3) := by decide +kernel
theorem dX7_all_58 : decode cX7_all 58 = .ok (.ireturn, 1) := by decide +kernel
theorem dX7_all_59 : decode cX7_all 59 = .ok (.aload_n 0, 1) := by decide +kernel
theorem dX7_all_60 : decode cX7_all 60 = .ok (.getfield 231, 3) := by decide +kernel
theorem dX7_all_63 : decode cX7_all 63 = .ok (.ireturn, 1) := by decide +kernel
theorem dX7_all_64 : decode cX7_all 64 = .ok (.aload_n 0, 1) := by decide +kernel
theorem dX7_all_65 : decode cX7_all 65 = .ok (.getfield 35, 3) := by decide +kernel
theorem dX7_all_68 : decode cX7_all 68 = .ok (.getfield 251, 3) := by decide +kernel
theorem dX7_all_71 : decode cX7_all 71 = .ok (.ireturn, 1) := by decide +kernel
theorem dX7_all_72 : decode cX7_all 72 = .ok (.aload_n 0, 1) := by decide +kernel
theorem dX7_all_73 : decode cX7_all 73 = .ok (.getfield 10, 3) := by decide +kernel
theorem dX7_all_76 : decode cX7_all 76 = .ok (.getfield 73, 3) := by decide +kernel
theorem dX7_all_79 : decode cX7_all 79 = .ok (.ireturn, 1) := by decide +kernel
theorem dX7_all_80 : decode cX7_all 80 = .ok (.aload_n 0, 1) := by decide +kernel
theorem dX7_all_81 : decode cX7_all 81 = .ok (.getfield 310, 3) := by decide +kernel
theorem dX7_all_84 : decode cX7_all 84 = .ok (.ireturn, 1) := by decide +kernel
theorem dX7_all_85 : decode cX7_all 85 = .ok (.aload_n 0, 1) := by decide +kernel
theorem dX7_all_86 : decode cX7_all 86 = .ok (.ldc 68, 2) := by decide +kernel
theorem dX7_all_88 : decode cX7_all 88 = .ok (.invokevirtual 69, 3) := by decide +kernel
theorem dX7_all_91 : decode cX7_all 91 = .ok (.ireturn, 1) := by decide +kernel
theorem dX7_refuse_0 : decode cX7_refuse 0 = .ok (.aload_n 0, 1) := by decide +kernel
theorem dX7_refuse_1 : decode cX7_refuse 1 = .ok (.dup, 1) := by decide +kernel
theorem dX7_refuse_2 : decode cX7_refuse 2 = .ok (.getfield 310, 3) := by decide +kernel
theorem dX7_refuse_5 : decode cX7_refuse 5 = .ok (.iconst 1, 1) := by decide +kernel
theorem dX7_refuse_6 : decode cX7_refuse 6 = .ok (.iadd, 1) := by decide +kernel
theorem dX7_refuse_7 : decode cX7_refuse 7 = .ok (.putfield 310, 3) := by decide +kernel
theorem dX7_refuse_10 : decode cX7_refuse 10 = .ok (.iload_n 1, 1) := by decide +kernel
theorem dX7_refuse_11 : decode cX7_refuse 11 = .ok (.ireturn, 1) := by decide +kernel
theorem dX7_isLight_0 : decode cX7_isLight 0 = .ok (.iload_n 1, 1) := by decide +kernel
theorem dX7_isLight_1 : decode cX7_isLight 1 = .ok (.ifCond .lt 15, 3) := by decide +kernel
theorem dX7_isLight_4 : decode cX7_isLight 4 = .ok (.iload_n 1, 1) := by decide +kernel
theorem dX7_isLight_5 : decode cX7_isLight 5 = .ok (.aload_n 0, 1) := by decide +kernel
theorem dX7_isLight_6 : decode cX7_isLight 6 = .ok (.getfield 89, 3) := by decide +kernel
theorem dX7_isLight_9 : decode cX7_isLight 9 = .ok (.if_icmp .ge 7, 3) := by decide +kernel
theorem dX7_isLight_12 : decode cX7_isLight 12 = .ok (.iconst 1, 1) := by decide +kernel
theorem dX7_isLight_13 : decode cX7_isLight 13 = .ok (.goto 4, 3) := by decide +kernel
theorem dX7_isLight_16 : decode cX7_isLight 16 = .ok (.iconst 0, 1) := by decide +kernel
theorem dX7_isLight_17 : decode cX7_isLight 17 = .ok (.ireturn, 1) := by decide +kernel
theorem dX7_isKind_0 : decode cX7_isKind 0 = .ok (.iload_n 0, 1) := by decide +kernel
theorem dX7_isKind_1 : decode cX7_isKind 1 = .ok (.ifCond .lt 12, 3) := by decide +kernel
theorem dX7_isKind_4 : decode cX7_isKind 4 = .ok (.iload_n 0, 1) := by decide +kernel
theorem dX7_isKind_5 : decode cX7_isKind 5 = .ok (.iconst 3, 1) := by decide +kernel
theorem dX7_isKind_6 : decode cX7_isKind 6 = .ok (.if_icmp .gt 7, 3) := by decide +kernel
theorem dX7_isKind_9 : decode cX7_isKind 9 = .ok (.iconst 1, 1) := by decide +kernel
theorem dX7_isKind_10 : decode cX7_isKind 10 = .ok (.goto 4, 3) := by decide +kernel
theorem dX7_isKind_13 : decode cX7_isKind 13 = .ok (.iconst 0, 1) := by decide +kernel
theorem dX7_isKind_14 : decode cX7_isKind 14 = .ok (.ireturn, 1) := by decide +kernel
theorem dX7_isCell_0 : decode cX7_isCell 0 = .ok (.iload_n 0, 1) := by decide +kernel
theorem dX7_isCell_1 : decode cX7_isCell 1 = .ok (.ifCond .lt 14, 3) := by decide +kernel
theorem dX7_isCell_4 : decode cX7_isCell 4 = .ok (.iload_n 0, 1) := by decide +kernel
theorem dX7_isCell_5 : decode cX7_isCell 5 = .ok (.sipush 256, 3) := by decide +kernel
theorem dX7_isCell_8 : decode cX7_isCell 8 = .ok (.if_icmp .ge 7, 3) := by decide +kernel
theorem dX7_isCell_11 : decode cX7_isCell 11 = .ok (.iconst 1, 1) := by decide +kernel
theorem dX7_isCell_12 : decode cX7_isCell 12 = .ok (.goto 4, 3) := by decide +kernel
theorem dX7_isCell_15 : decode cX7_isCell 15 = .ok (.iconst 0, 1) := by decide +kernel
theorem dX7_isCell_16 : decode cX7_isCell 16 = .ok (.ireturn, 1) := by decide +kernel
theorem dX7_isDirection_0 : decode cX7_isDirection 0 = .ok (.iload_n 0, 1) := by decide +kernel
theorem dX7_isDirection_1 : decode cX7_isDirection 1 = .ok (.ifCond .lt 13, 3) := by decide +kernel
theorem dX7_isDirection_4 : decode cX7_isDirection 4 = .ok (.iload_n 0, 1) := by decide +kernel
theorem dX7_isDirection_5 : decode cX7_isDirection 5 = .ok (.bipush 15, 2) := by decide +kernel
theorem dX7_isDirection_7 : decode cX7_isDirection 7 = .ok (.if_icmp .gt 7, 3) := by decide +kernel
theorem dX7_isDirection_10 : decode cX7_isDirection 10 = .ok (.iconst 1, 1) := by decide +kernel
theorem dX7_isDirection_11 : decode cX7_isDirection 11 = .ok (.goto 4, 3) := by decide +kernel
theorem dX7_isDirection_14 : decode cX7_isDirection 14 = .ok (.iconst 0, 1) := by decide +kernel
theorem dX7_isDirection_15 : decode cX7_isDirection 15 = .ok (.ireturn, 1) := by decide +kernel
theorem dX7_isDay_0 : decode cX7_isDay 0 = .ok (.iload_n 0, 1) := by decide +kernel
theorem dX7_isDay_1 : decode cX7_isDay 1 = .ok (.ifCond .lt 13, 3) := by decide +kernel
theorem dX7_isDay_4 : decode cX7_isDay 4 = .ok (.iload_n 0, 1) := by decide +kernel
theorem dX7_isDay_5 : decode cX7_isDay 5 = .ok (.bipush 20, 2) := by decide +kernel
theorem dX7_isDay_7 : decode cX7_isDay 7 = .ok (.if_icmp .ge 7, 3) := by decide +kernel
theorem dX7_isDay_10 : decode cX7_isDay 10 = .ok (.iconst 1, 1) := by decide +kernel
theorem dX7_isDay_11 : decode cX7_isDay 11 = .ok (.goto 4, 3) := by decide +kernel
theorem dX7_isDay_14 : decode cX7_isDay 14 = .ok (.iconst 0, 1) := by decide +kernel
theorem dX7_isDay_15 : decode cX7_isDay 15 = .ok (.ireturn, 1) := by decide +kernel
theorem dX7_isHour_0 : decode cX7_isHour 0 = .ok (.iload_n 0, 1) := by decide +kernel
theorem dX7_isHour_1 : decode cX7_isHour 1 = .ok (.ifCond .lt 14, 3) := by decide +kernel
theorem dX7_isHour_4 : decode cX7_isHour 4 = .ok (.iload_n 0, 1) := by decide +kernel
theorem dX7_isHour_5 : decode cX7_isHour 5 = .ok (.sipush 999, 3) := by decide +kernel
theorem dX7_isHour_8 : decode cX7_isHour 8 = .ok (.if_icmp .gt 7, 3) := by decide +kernel
theorem dX7_isHour_11 : decode cX7_isHour 11 = .ok (.iconst 1, 1) := by decide +kernel
theorem dX7_isHour_12 : decode cX7_isHour 12 = .ok (.goto 4, 3) := by decide +kernel
theorem dX7_isHour_15 : decode cX7_isHour 15 = .ok (.iconst 0, 1) := by decide +kernel
theorem dX7_isHour_16 : decode cX7_isHour 16 = .ok (.ireturn, 1) := by decide +kernel
theorem dX7_isSheet_0 : decode cX7_isSheet 0 = .ok (.iload_n 0, 1) := by decide +kernel
theorem dX7_isSheet_1 : decode cX7_isSheet 1 = .ok (.ifCond .lt 12, 3) := by decide +kernel
theorem dX7_isSheet_4 : decode cX7_isSheet 4 = .ok (.iload_n 0, 1) := by decide +kernel
theorem dX7_isSheet_5 : decode cX7_isSheet 5 = .ok (.iconst 4, 1) := by decide +kernel
theorem dX7_isSheet_6 : decode cX7_isSheet 6 = .ok (.if_icmp .ge 7, 3) := by decide +kernel
theorem dX7_isSheet_9 : decode cX7_isSheet 9 = .ok (.iconst 1, 1) := by decide +kernel
theorem dX7_isSheet_10 : decode cX7_isSheet 10 = .ok (.goto 4, 3) := by decide +kernel
theorem dX7_isSheet_13 : decode cX7_isSheet 13 = .ok (.iconst 0, 1) := by decide +kernel
theorem dX7_isSheet_14 : decode cX7_isSheet 14 = .ok (.ireturn, 1) := by decide +kernel
theorem dX7_allLights_0 : decode cX7_allLights 0 = .ok (.iconst 1, 1) := by decide +kernel
theorem dX7_allLights_1 : decode cX7_allLights 1 = .ok (.aload_n 0, 1) := by decide +kernel
theorem dX7_allLights_2 : decode cX7_allLights 2 = .ok (.getfield 89, 3) := by decide +kernel
theorem dX7_allLights_5 : decode cX7_allLights 5 = .ok (.ishl, 1) := by decide +kernel
theorem dX7_allLights_6 : decode cX7_allLights 6 = .ok (.iconst 1, 1) := by decide +kernel
theorem dX7_allLights_7 : decode cX7_allLights 7 = .ok (.isub, 1) := by decide +kernel
theorem dX7_allLights_8 : decode cX7_allLights 8 = .ok (.ireturn, 1) := by decide +kernel
theorem dX7_countRocks_0 : decode cX7_countRocks 0 = .ok (.iconst 0, 1) := by decide +kernel
theorem dX7_countRocks_1 : decode cX7_countRocks 1 = .ok (.istore_n 1, 1) := by decide +kernel
theorem dX7_countRocks_2 : decode cX7_countRocks 2 = .ok (.iconst 0, 1) := by decide +kernel
theorem dX7_countRocks_3 : decode cX7_countRocks 3 = .ok (.istore_n 2, 1) := by decide +kernel
theorem dX7_countRocks_4 : decode cX7_countRocks 4 = .ok (.iload_n 2, 1) := by decide +kernel
theorem dX7_countRocks_5 : decode cX7_countRocks 5 = .ok (.aload_n 0, 1) := by decide +kernel
theorem dX7_countRocks_6 : decode cX7_countRocks 6 = .ok (.getfield 89, 3) := by decide +kernel
theorem dX7_countRocks_9 : decode cX7_countRocks 9 = .ok (.if_icmp .ge 24, 3) := by decide +kernel
theorem dX7_countRocks_12 : decode cX7_countRocks 12 = .ok (.aload_n 0, 1) := by decide +kernel
theorem dX7_countRocks_13 : decode cX7_countRocks 13 = .ok (.getfield 18, 3) := by decide +kernel
theorem dX7_countRocks_16 : decode cX7_countRocks 16 = .ok (.iload_n 2, 1) := by decide +kernel
theorem dX7_countRocks_17 : decode cX7_countRocks 17 = .ok (.aaload, 1) := by decide +kernel
theorem dX7_countRocks_18 : decode cX7_countRocks 18 = .ok (.invokevirtual 259, 3) := by decide +kernel
theorem dX7_countRocks_21 : decode cX7_countRocks 21 = .ok (.ifCond .eq 6, 3) := by decide +kernel
theorem dX7_countRocks_24 : decode cX7_countRocks 24 = .ok (.iinc 1 1, 3) := by decide +kernel
theorem dX7_countRocks_27 : decode cX7_countRocks 27 = .ok (.iinc 2 1, 3) := by decide +kernel
theorem dX7_countRocks_30 : decode cX7_countRocks 30 = .ok (.goto (-26), 3) := by decide +kernel
theorem dX7_countRocks_33 : decode cX7_countRocks 33 = .ok (.iload_n 1, 1) := by decide +kernel
theorem dX7_countRocks_34 : decode cX7_countRocks 34 = .ok (.ireturn, 1) := by decide +kernel
theorem dX7_isUnder_0 : decode cX7_isUnder 0 = .ok (.iload_n 0, 1) := by decide +kernel
theorem dX7_isUnder_1 : decode cX7_isUnder 1 = .ok (.istore_n 2, 1) := by decide +kernel
theorem dX7_isUnder_2 : decode cX7_isUnder 2 = .ok (.iconst 0, 1) := by decide +kernel
theorem dX7_isUnder_3 : decode cX7_isUnder 3 = .ok (.istore_n 3, 1) := by decide +kernel
theorem dX7_isUnder_4 : decode cX7_isUnder 4 = .ok (.iload_n 3, 1) := by decide +kernel
theorem dX7_isUnder_5 : decode cX7_isUnder 5 = .ok (.getstatic 313, 3) := by decide +kernel
theorem dX7_isUnder_8 : decode cX7_isUnder 8 = .ok (.arraylength, 1) := by decide +kernel
theorem dX7_isUnder_9 : decode cX7_isUnder 9 = .ok (.if_icmp .ge 26, 3) := by decide +kernel
theorem dX7_isUnder_12 : decode cX7_isUnder 12 = .ok (.iload_n 2, 1) := by decide +kernel
theorem dX7_isUnder_13 : decode cX7_isUnder 13 = .ok (.ifCond .lt 22, 3) := by decide +kernel
theorem dX7_isUnder_16 : decode cX7_isUnder 16 = .ok (.iload_n 2, 1) := by decide +kernel
theorem dX7_isUnder_17 : decode cX7_isUnder 17 = .ok (.iload_n 1, 1) := by decide +kernel
theorem dX7_isUnder_18 : decode cX7_isUnder 18 = .ok (.if_icmp .ne 5, 3) := by decide +kernel
theorem dX7_isUnder_21 : decode cX7_isUnder 21 = .ok (.iconst 1, 1) := by decide +kernel
theorem dX7_isUnder_22 : decode cX7_isUnder 22 = .ok (.ireturn, 1) := by decide +kernel
theorem dX7_isUnder_23 : decode cX7_isUnder 23 = .ok (.getstatic 313, 3) := by decide +kernel
theorem dX7_isUnder_26 : decode cX7_isUnder 26 = .ok (.iload_n 2, 1) := by decide +kernel
theorem dX7_isUnder_27 : decode cX7_isUnder 27 = .ok (.iaload, 1) := by decide +kernel
theorem dX7_isUnder_28 : decode cX7_isUnder 28 = .ok (.istore_n 2, 1) := by decide +kernel
theorem dX7_isUnder_29 : decode cX7_isUnder 29 = .ok (.iinc 3 1, 3) := by decide +kernel
theorem dX7_isUnder_32 : decode cX7_isUnder 32 = .ok (.goto (-28), 3) := by decide +kernel
theorem dX7_isUnder_35 : decode cX7_isUnder 35 = .ok (.iconst 0, 1) := by decide +kernel
theorem dX7_isUnder_36 : decode cX7_isUnder 36 = .ok (.ireturn, 1) := by decide +kernel
theorem dX7_turnedOver_0 : decode cX7_turnedOver 0 = .ok (.iload_n 1, 1) := by decide +kernel
theorem dX7_turnedOver_1 : decode cX7_turnedOver 1 = .ok (.iload_n 0, 1) := by decide +kernel
theorem dX7_turnedOver_2 : decode cX7_turnedOver 2 = .ok (.isub, 1) := by decide +kernel
theorem dX7_turnedOver_3 : decode cX7_turnedOver 3 = .ok (.bipush 15, 2) := by decide +kernel
theorem dX7_turnedOver_5 : decode cX7_turnedOver 5 = .ok (.iand, 1) := by decide +kernel
theorem dX7_turnedOver_6 : decode cX7_turnedOver 6 = .ok (.istore_n 2, 1) := by decide +kernel
theorem dX7_turnedOver_7 : decode cX7_turnedOver 7 = .ok (.iconst 0, 1) := by decide +kernel
theorem dX7_turnedOver_8 : decode cX7_turnedOver 8 = .ok (.istore_n 3, 1) := by decide +kernel
theorem dX7_turnedOver_9 : decode cX7_turnedOver 9 = .ok (.iconst 0, 1) := by decide +kernel
theorem dX7_turnedOver_10 : decode cX7_turnedOver 10 = .ok (.istore 4, 2) := by decide +kernel
theorem dX7_turnedOver_12 : decode cX7_turnedOver 12 = .ok (.iload 4, 2) := by decide +kernel
theorem dX7_turnedOver_14 : decode cX7_turnedOver 14 = .ok (.iload_n 2, 1) := by decide +kernel
theorem dX7_turnedOver_15 : decode cX7_turnedOver 15 = .ok (.if_icmp .gt 21, 3) := by decide +kernel
theorem dX7_turnedOver_18 : decode cX7_turnedOver 18 = .ok (.iload_n 3, 1) := by decide +kernel
theorem dX7_turnedOver_19 : decode cX7_turnedOver 19 = .ok (.iconst 1, 1) := by decide +kernel
theorem dX7_turnedOver_20 : decode cX7_turnedOver 20 = .ok (.iload_n 0, 1) := by decide +kernel
theorem dX7_turnedOver_21 : decode cX7_turnedOver 21 = .ok (.iload 4, 2) := by decide +kernel
theorem dX7_turnedOver_23 : decode cX7_turnedOver 23 = .ok (.iadd, 1) := by decide +kernel
theorem dX7_turnedOver_24 : decode cX7_turnedOver 24 = .ok (.bipush 15, 2) := by decide +kernel
theorem dX7_turnedOver_26 : decode cX7_turnedOver 26 = .ok (.iand, 1) := by decide +kernel
theorem dX7_turnedOver_27 : decode cX7_turnedOver 27 = .ok (.ishl, 1) := by decide +kernel
theorem dX7_turnedOver_28 : decode cX7_turnedOver 28 = .ok (.ior, 1) := by decide +kernel
theorem dX7_turnedOver_29 : decode cX7_turnedOver 29 = .ok (.istore_n 3, 1) := by decide +kernel
theorem dX7_turnedOver_30 : decode cX7_turnedOver 30 = .ok (.iinc 4 1, 3) := by decide +kernel
theorem dX7_turnedOver_33 : decode cX7_turnedOver 33 = .ok (.goto (-21), 3) := by decide +kernel
theorem dX7_turnedOver_36 : decode cX7_turnedOver 36 = .ok (.iload_n 3, 1) := by decide +kernel
theorem dX7_turnedOver_37 : decode cX7_turnedOver 37 = .ok (.ireturn, 1) := by decide +kernel
theorem dX7_directionOf_0 : decode cX7_directionOf 0 = .ok (.iload_n 1, 1) := by decide +kernel
theorem dX7_directionOf_1 : decode cX7_directionOf 1 = .ok (.bipush 15, 2) := by decide +kernel
theorem dX7_directionOf_3 : decode cX7_directionOf 3 = .ok (.iand, 1) := by decide +kernel
theorem dX7_directionOf_4 : decode cX7_directionOf 4 = .ok (.iload_n 0, 1) := by decide +kernel
theorem dX7_directionOf_5 : decode cX7_directionOf 5 = .ok (.bipush 15, 2) := by decide +kernel
theorem dX7_directionOf_7 : decode cX7_directionOf 7 = .ok (.iand, 1) := by decide +kernel
theorem dX7_directionOf_8 : decode cX7_directionOf 8 = .ok (.isub, 1) := by decide +kernel
theorem dX7_directionOf_9 : decode cX7_directionOf 9 = .ok (.istore_n 2, 1) := by decide +kernel
theorem dX7_directionOf_10 : decode cX7_directionOf 10 = .ok (.iload_n 1, 1) := by decide +kernel
theorem dX7_directionOf_11 : decode cX7_directionOf 11 = .ok (.iconst 4, 1) := by decide +kernel
theorem dX7_directionOf_12 : decode cX7_directionOf 12 = .ok (.ishr, 1) := by decide +kernel
theorem dX7_directionOf_13 : decode cX7_directionOf 13 = .ok (.iload_n 0, 1) := by decide +kernel
theorem dX7_directionOf_14 : decode cX7_directionOf 14 = .ok (.iconst 4, 1) := by decide +kernel
theorem dX7_directionOf_15 : decode cX7_directionOf 15 = .ok (.ishr, 1) := by decide +kernel
theorem dX7_directionOf_16 : decode cX7_directionOf 16 = .ok (.isub, 1) := by decide +kernel
theorem dX7_directionOf_17 : decode cX7_directionOf 17 = .ok (.istore_n 3, 1) := by decide +kernel
theorem dX7_directionOf_18 : decode cX7_directionOf 18 = .ok (.iload_n 2, 1) := by decide +kernel
theorem dX7_directionOf_19 : decode cX7_directionOf 19 = .ok (.ifCond .gt 11, 3) := by decide +kernel
theorem dX7_directionOf_22 : decode cX7_directionOf 22 = .ok (.iload_n 2, 1) := by decide +kernel
theorem dX7_directionOf_23 : decode cX7_directionOf 23 = .ok (.ifCond .ne 11, 3) := by decide +kernel
theorem dX7_directionOf_26 : decode cX7_directionOf 26 = .ok (.iload_n 3, 1) := by decide +kernel
theorem dX7_directionOf_27 : decode cX7_directionOf 27 = .ok (.ifCond .le 7, 3) := by decide +kernel
theorem dX7_directionOf_30 : decode cX7_directionOf 30 = .ok (.iconst 1, 1) := by decide +kernel
theorem dX7_directionOf_31 : decode cX7_directionOf 31 = .ok (.goto 4, 3) := by decide +kernel
theorem dX7_directionOf_34 : decode cX7_directionOf 34 = .ok (.iconst 0, 1) := by decide +kernel
theorem dX7_directionOf_35 : decode cX7_directionOf 35 = .ok (.istore 4, 2) := by decide +kernel
theorem dX7_directionOf_37 : decode cX7_directionOf 37 = .ok (.iload 4, 2) := by decide +kernel
theorem dX7_directionOf_39 : decode cX7_directionOf 39 = .ok (.ifCond .ne 9, 3) := by decide +kernel
theorem dX7_directionOf_42 : decode cX7_directionOf 42 = .ok (.iload_n 2, 1) := by decide +kernel
theorem dX7_directionOf_43 : decode cX7_directionOf 43 = .ok (.ineg, 1) := by decide +kernel
theorem dX7_directionOf_44 : decode cX7_directionOf 44 = .ok (.istore_n 2, 1) := by decide +kernel
theorem dX7_directionOf_45 : decode cX7_directionOf 45 = .ok (.iload_n 3, 1) := by decide +kernel
theorem dX7_directionOf_46 : decode cX7_directionOf 46 = .ok (.ineg, 1) := by decide +kernel
theorem dX7_directionOf_47 : decode cX7_directionOf 47 = .ok (.istore_n 3, 1) := by decide +kernel
theorem dX7_directionOf_48 : decode cX7_directionOf 48 = .ok (.iconst 0, 1) := by decide +kernel
theorem dX7_directionOf_49 : decode cX7_directionOf 49 = .ok (.istore 5, 2) := by decide +kernel
theorem dX7_directionOf_51 : decode cX7_directionOf 51 = .ok (.iconst 1, 1) := by decide +kernel
theorem dX7_directionOf_52 : decode cX7_directionOf 52 = .ok (.istore 6, 2) := by decide +kernel
theorem dX7_directionOf_54 : decode cX7_directionOf 54 = .ok (.iload 6, 2) := by decide +kernel
theorem dX7_directionOf_56 : decode cX7_directionOf 56 = .ok (.getstatic 316, 3) := by decide +kernel
theorem dX7_directionOf_59 : decode cX7_directionOf 59 = .ok (.arraylength, 1) := by decide +kernel
theorem dX7_directionOf_60 : decode cX7_directionOf 60 = .ok (.if_icmp .ge 32, 3) := by decide +kernel
theorem dX7_directionOf_63 : decode cX7_directionOf 63 = .ok (.getstatic 316, 3) := by decide +kernel
theorem dX7_directionOf_66 : decode cX7_directionOf 66 = .ok (.iload 6, 2) := by decide +kernel
theorem dX7_directionOf_68 : decode cX7_directionOf 68 = .ok (.iaload, 1) := by decide +kernel
theorem dX7_directionOf_69 : decode cX7_directionOf 69 = .ok (.iload_n 3, 1) := by decide +kernel
theorem dX7_directionOf_70 : decode cX7_directionOf 70 = .ok (.imul, 1) := by decide +kernel
theorem dX7_directionOf_71 : decode cX7_directionOf 71 = .ok (.getstatic 319, 3) := by decide +kernel
theorem dX7_directionOf_74 : decode cX7_directionOf 74 = .ok (.iload 6, 2) := by decide +kernel
theorem dX7_directionOf_76 : decode cX7_directionOf 76 = .ok (.iaload, 1) := by decide +kernel
theorem dX7_directionOf_77 : decode cX7_directionOf 77 = .ok (.iload_n 2, 1) := by decide +kernel
theorem dX7_directionOf_78 : decode cX7_directionOf 78 = .ok (.imul, 1) := by decide +kernel
theorem dX7_directionOf_79 : decode cX7_directionOf 79 = .ok (.if_icmp .gt 7, 3) := by decide +kernel
theorem dX7_directionOf_82 : decode cX7_directionOf 82 = .ok (.iload 6, 2) := by decide +kernel
theorem dX7_directionOf_84 : decode cX7_directionOf 84 = .ok (.istore 5, 2) := by decide +kernel
theorem dX7_directionOf_86 : decode cX7_directionOf 86 = .ok (.iinc 6 1, 3) := by decide +kernel
theorem dX7_directionOf_89 : decode cX7_directionOf 89 = .ok (.goto (-35), 3) := by decide +kernel
theorem dX7_directionOf_92 : decode cX7_directionOf 92 = .ok (.iload 4, 2) := by decide +kernel
theorem dX7_directionOf_94 : decode cX7_directionOf 94 = .ok (.ifCond .eq 8, 3) := by decide +kernel
theorem dX7_directionOf_97 : decode cX7_directionOf 97 = .ok (.iload 5, 2) := by decide +kernel
theorem dX7_directionOf_99 : decode cX7_directionOf 99 = .ok (.goto 8, 3) := by decide +kernel
theorem dX7_directionOf_102 : decode cX7_directionOf 102 = .ok (.iload 5, 2) := by decide +kernel
theorem dX7_directionOf_104 : decode cX7_directionOf 104 = .ok (.bipush 8, 2) := by decide +kernel
theorem dX7_directionOf_106 : decode cX7_directionOf 106 = .ok (.iadd, 1) := by decide +kernel
theorem dX7_directionOf_107 : decode cX7_directionOf 107 = .ok (.ireturn, 1) := by decide +kernel
theorem dX7_reachOf_0 : decode cX7_reachOf 0 = .ok (.iconst 0, 1) := by decide +kernel
theorem dX7_reachOf_1 : decode cX7_reachOf 1 = .ok (.aload_n 1, 1) := by decide +kernel
theorem dX7_reachOf_2 : decode cX7_reachOf 2 = .ok (.getfield 122, 3) := by decide +kernel
theorem dX7_reachOf_5 : decode cX7_reachOf 5 = .ok (.aload_n 0, 1) := by decide +kernel
theorem dX7_reachOf_6 : decode cX7_reachOf 6 = .ok (.getfield 171, 3) := by decide +kernel
theorem dX7_reachOf_9 : decode cX7_reachOf 9 = .ok (.isub, 1) := by decide +kernel
theorem dX7_reachOf_10 : decode cX7_reachOf 10 = .ok (.invokestatic 188, 3) := by decide +kernel
theorem dX7_reachOf_13 : decode cX7_reachOf 13 = .ok (.ireturn, 1) := by decide +kernel
theorem dX7_isWithin_0 : decode cX7_isWithin 0 = .ok (.iload_n 1, 1) := by decide +kernel
theorem dX7_isWithin_1 : decode cX7_isWithin 1 = .ok (.bipush 15, 2) := by decide +kernel
theorem dX7_isWithin_3 : decode cX7_isWithin 3 = .ok (.iand, 1) := by decide +kernel
theorem dX7_isWithin_4 : decode cX7_isWithin 4 = .ok (.iload_n 2, 1) := by decide +kernel
theorem dX7_isWithin_5 : decode cX7_isWithin 5 = .ok (.bipush 15, 2) := by decide +kernel
theorem dX7_isWithin_7 : decode cX7_isWithin 7 = .ok (.iand, 1) := by decide +kernel
theorem dX7_isWithin_8 : decode cX7_isWithin 8 = .ok (.isub, 1) := by decide +kernel
theorem dX7_isWithin_9 : decode cX7_isWithin 9 = .ok (.istore_n 3, 1) := by decide +kernel
theorem dX7_isWithin_10 : decode cX7_isWithin 10 = .ok (.iload_n 1, 1) := by decide +kernel
theorem dX7_isWithin_11 : decode cX7_isWithin 11 = .ok (.iconst 4, 1) := by decide +kernel
theorem dX7_isWithin_12 : decode cX7_isWithin 12 = .ok (.ishr, 1) := by decide +kernel
theorem dX7_isWithin_13 : decode cX7_isWithin 13 = .ok (.iload_n 2, 1) := by decide +kernel
theorem dX7_isWithin_14 : decode cX7_isWithin 14 = .ok (.iconst 4, 1) := by decide +kernel
theorem dX7_isWithin_15 : decode cX7_isWithin 15 = .ok (.ishr, 1) := by decide +kernel
theorem dX7_isWithin_16 : decode cX7_isWithin 16 = .ok (.isub, 1) := by decide +kernel
theorem dX7_isWithin_17 : decode cX7_isWithin 17 = .ok (.istore 4, 2) := by decide +kernel
theorem dX7_isWithin_19 : decode cX7_isWithin 19 = .ok (.iload_n 3, 1) := by decide +kernel
theorem dX7_isWithin_20 : decode cX7_isWithin 20 = .ok (.iload_n 3, 1) := by decide +kernel
theorem dX7_isWithin_21 : decode cX7_isWithin 21 = .ok (.imul, 1) := by decide +kernel
theorem dX7_isWithin_22 : decode cX7_isWithin 22 = .ok (.iload 4, 2) := by decide +kernel
theorem dX7_isWithin_24 : decode cX7_isWithin 24 = .ok (.iload 4, 2) := by decide +kernel
theorem dX7_isWithin_26 : decode cX7_isWithin 26 = .ok (.imul, 1) := by decide +kernel
theorem dX7_isWithin_27 : decode cX7_isWithin 27 = .ok (.iadd, 1) := by decide +kernel
theorem dX7_isWithin_28 : decode cX7_isWithin 28 = .ok (.iload_n 0, 1) := by decide +kernel
theorem dX7_isWithin_29 : decode cX7_isWithin 29 = .ok (.iload_n 0, 1) := by decide +kernel
theorem dX7_isWithin_30 : decode cX7_isWithin 30 = .ok (.imul, 1) := by decide +kernel
theorem dX7_isWithin_31 : decode cX7_isWithin 31 = .ok (.if_icmp .gt 7, 3) := by decide +kernel
theorem dX7_isWithin_34 : decode cX7_isWithin 34 = .ok (.iconst 1, 1) := by decide +kernel
theorem dX7_isWithin_35 : decode cX7_isWithin 35 = .ok (.goto 4, 3) := by decide +kernel
theorem dX7_isWithin_38 : decode cX7_isWithin 38 = .ok (.iconst 0, 1) := by decide +kernel
theorem dX7_isWithin_39 : decode cX7_isWithin 39 = .ok (.ireturn, 1) := by decide +kernel
theorem dX7_colourIn_0 : decode cX7_colourIn 0 = .ok (.iload_n 1, 1) := by decide +kernel
theorem dX7_colourIn_1 : decode cX7_colourIn 1 = .ok (.aload_n 0, 1) := by decide +kernel
theorem dX7_colourIn_2 : decode cX7_colourIn 2 = .ok (.getfield 119, 3) := by decide +kernel
theorem dX7_colourIn_5 : decode cX7_colourIn 5 = .ok (.if_icmp .ne 8, 3) := by decide +kernel
theorem dX7_colourIn_8 : decode cX7_colourIn 8 = .ok (.aload_n 0, 1) := by decide +kernel
theorem dX7_colourIn_9 : decode cX7_colourIn 9 = .ok (.getfield 125, 3) := by decide +kernel
theorem dX7_colourIn_12 : decode cX7_colourIn 12 = .ok (.ireturn, 1) := by decide +kernel
theorem dX7_colourIn_13 : decode cX7_colourIn 13 = .ok (.aload_n 0, 1) := by decide +kernel
theorem dX7_colourIn_14 : decode cX7_colourIn 14 = .ok (.aload_n 0, 1) := by decide +kernel
theorem dX7_colourIn_15 : decode cX7_colourIn 15 = .ok (.getfield 119, 3) := by decide +kernel
theorem dX7_colourIn_18 : decode cX7_colourIn 18 = .ok (.iload_n 1, 1) := by decide +kernel
theorem dX7_colourIn_19 : decode cX7_colourIn 19 = .ok (.invokestatic 161, 3) := by decide +kernel
theorem dX7_colourIn_22 : decode cX7_colourIn 22 = .ok (.invokevirtual 322, 3) := by decide +kernel
theorem dX7_colourIn_25 : decode cX7_colourIn 25 = .ok (.ireturn, 1) := by decide +kernel
theorem dX7_seenFrom_0 : decode cX7_seenFrom 0 = .ok (.iconst 0, 1) := by decide +kernel
theorem dX7_seenFrom_1 : decode cX7_seenFrom 1 = .ok (.istore_n 2, 1) := by decide +kernel
theorem dX7_seenFrom_2 : decode cX7_seenFrom 2 = .ok (.iconst 0, 1) := by decide +kernel
theorem dX7_seenFrom_3 : decode cX7_seenFrom 3 = .ok (.istore_n 3, 1) := by decide +kernel
theorem dX7_seenFrom_4 : decode cX7_seenFrom 4 = .ok (.iload_n 3, 1) := by decide +kernel
theorem dX7_seenFrom_5 : decode cX7_seenFrom 5 = .ok (.aload_n 0, 1) := by decide +kernel
theorem dX7_seenFrom_6 : decode cX7_seenFrom 6 = .ok (.getfield 89, 3) := by decide +kernel
theorem dX7_seenFrom_9 : decode cX7_seenFrom 9 = .ok (.if_icmp .ge 69, 3) := by decide +kernel
theorem dX7_seenFrom_12 : decode cX7_seenFrom 12 = .ok (.aload_n 0, 1) := by decide +kernel
theorem dX7_seenFrom_13 : decode cX7_seenFrom 13 = .ok (.getfield 18, 3) := by decide +kernel
theorem dX7_seenFrom_16 : decode cX7_seenFrom 16 = .ok (.iload_n 3, 1) := by decide +kernel
theorem dX7_seenFrom_17 : decode cX7_seenFrom 17 = .ok (.aaload, 1) := by decide +kernel
theorem dX7_seenFrom_18 : decode cX7_seenFrom 18 = .ok (.astore 4, 2) := by decide +kernel
theorem dX7_seenFrom_20 : decode cX7_seenFrom 20 = .ok (.aload_n 0, 1) := by decide +kernel
theorem dX7_seenFrom_21 : decode cX7_seenFrom 21 = .ok (.aload 4, 2) := by decide +kernel
theorem dX7_seenFrom_23 : decode cX7_seenFrom 23 = .ok (.invokevirtual 325, 3) := by decide +kernel
theorem dX7_seenFrom_26 : decode cX7_seenFrom 26 = .ok (.iload_n 1, 1) := by decide +kernel
theorem dX7_seenFrom_27 : decode cX7_seenFrom 27 = .ok (.aload 4, 2) := by decide +kernel
theorem dX7_seenFrom_29 : decode cX7_seenFrom 29 = .ok (.getfield 119, 3) := by decide +kernel
theorem dX7_seenFrom_32 : decode cX7_seenFrom 32 = .ok (.invokestatic 329, 3) := by decide +kernel
theorem dX7_seenFrom_35 : decode cX7_seenFrom 35 = .ok (.ifCond .eq 37, 3) := by decide +kernel
theorem dX7_seenFrom_38 : decode cX7_seenFrom 38 = .ok (.aload 4, 2) := by decide +kernel
theorem dX7_seenFrom_40 : decode cX7_seenFrom 40 = .ok (.iload_n 1, 1) := by decide +kernel
theorem dX7_seenFrom_41 : decode cX7_seenFrom 41 = .ok (.invokestatic 164, 3) := by decide +kernel
theorem dX7_seenFrom_44 : decode cX7_seenFrom 44 = .ok (.iconst 3, 1) := by decide +kernel
theorem dX7_seenFrom_45 : decode cX7_seenFrom 45 = .ok (.if_icmp .eq 27, 3) := by decide +kernel
theorem dX7_seenFrom_48 : decode cX7_seenFrom 48 = .ok (.aload_n 0, 1) := by decide +kernel
theorem dX7_seenFrom_49 : decode cX7_seenFrom 49 = .ok (.getfield 35, 3) := by decide +kernel
theorem dX7_seenFrom_52 : decode cX7_seenFrom 52 = .ok (.iload_n 3, 1) := by decide +kernel
theorem dX7_seenFrom_53 : decode cX7_seenFrom 53 = .ok (.aload_n 0, 1) := by decide +kernel
theorem dX7_seenFrom_54 : decode cX7_seenFrom 54 = .ok (.getfield 177, 3) := by decide +kernel
theorem dX7_seenFrom_57 : decode cX7_seenFrom 57 = .ok (.sipush 999, 3) := by decide +kernel
theorem dX7_seenFrom_60 : decode cX7_seenFrom 60 = .ok (.invokevirtual 255, 3) := by decide +kernel
theorem dX7_seenFrom_63 : decode cX7_seenFrom 63 = .ok (.ifCond .ne 9, 3) := by decide +kernel
theorem dX7_seenFrom_66 : decode cX7_seenFrom 66 = .ok (.iload_n 2, 1) := by decide +kernel
theorem dX7_seenFrom_67 : decode cX7_seenFrom 67 = .ok (.iconst 1, 1) := by decide +kernel
theorem dX7_seenFrom_68 : decode cX7_seenFrom 68 = .ok (.iload_n 3, 1) := by decide +kernel
theorem dX7_seenFrom_69 : decode cX7_seenFrom 69 = .ok (.ishl, 1) := by decide +kernel
theorem dX7_seenFrom_70 : decode cX7_seenFrom 70 = .ok (.ior, 1) := by decide +kernel
theorem dX7_seenFrom_71 : decode cX7_seenFrom 71 = .ok (.istore_n 2, 1) := by decide +kernel
theorem dX7_seenFrom_72 : decode cX7_seenFrom 72 = .ok (.iinc 3 1, 3) := by decide +kernel
theorem dX7_seenFrom_75 : decode cX7_seenFrom 75 = .ok (.goto (-71), 3) := by decide +kernel
theorem dX7_seenFrom_78 : decode cX7_seenFrom 78 = .ok (.iload_n 2, 1) := by decide +kernel
theorem dX7_seenFrom_79 : decode cX7_seenFrom 79 = .ok (.ireturn, 1) := by decide +kernel
theorem dX7_mostAlike_0 : decode cX7_mostAlike 0 = .ok (.iconst 0, 1) := by decide +kernel
theorem dX7_mostAlike_1 : decode cX7_mostAlike 1 = .ok (.istore_n 2, 1) := by decide +kernel
theorem dX7_mostAlike_2 : decode cX7_mostAlike 2 = .ok (.iconst 0, 1) := by decide +kernel
theorem dX7_mostAlike_3 : decode cX7_mostAlike 3 = .ok (.istore_n 3, 1) := by decide +kernel
theorem dX7_mostAlike_4 : decode cX7_mostAlike 4 = .ok (.iload_n 3, 1) := by decide +kernel
theorem dX7_mostAlike_5 : decode cX7_mostAlike 5 = .ok (.aload_n 0, 1) := by decide +kernel
theorem dX7_mostAlike_6 : decode cX7_mostAlike 6 = .ok (.getfield 128, 3) := by decide +kernel
theorem dX7_mostAlike_9 : decode cX7_mostAlike 9 = .ok (.if_icmp .ge 68, 3) := by decide +kernel
theorem dX7_mostAlike_12 : decode cX7_mostAlike 12 = .ok (.iconst 0, 1) := by decide +kernel
theorem dX7_mostAlike_13 : decode cX7_mostAlike 13 = .ok (.istore 4, 2) := by decide +kernel
theorem dX7_mostAlike_15 : decode cX7_mostAlike 15 = .ok (.iload 4, 2) := by decide +kernel
theorem dX7_mostAlike_17 : decode cX7_mostAlike 17 = .ok (.aload_n 1, 1) := by decide +kernel
theorem dX7_mostAlike_18 : decode cX7_mostAlike 18 = .ok (.getfield 128, 3) := by decide +kernel
theorem dX7_mostAlike_21 : decode cX7_mostAlike 21 = .ok (.if_icmp .ge 50, 3) := by decide +kernel
theorem dX7_mostAlike_24 : decode cX7_mostAlike 24 = .ok (.aload_n 0, 1) := by decide +kernel
theorem dX7_mostAlike_25 : decode cX7_mostAlike 25 = .ok (.getfield 332, 3) := by decide +kernel
theorem dX7_mostAlike_28 : decode cX7_mostAlike 28 = .ok (.iload_n 3, 1) := by decide +kernel
theorem dX7_mostAlike_29 : decode cX7_mostAlike 29 = .ok (.laload, 1) := by decide +kernel
theorem dX7_mostAlike_30 : decode cX7_mostAlike 30 = .ok (.aload_n 1, 1) := by decide +kernel
theorem dX7_mostAlike_31 : decode cX7_mostAlike 31 = .ok (.getfield 332, 3) := by decide +kernel
theorem dX7_mostAlike_34 : decode cX7_mostAlike 34 = .ok (.iload 4, 2) := by decide +kernel
theorem dX7_mostAlike_36 : decode cX7_mostAlike 36 = .ok (.laload, 1) := by decide +kernel
theorem dX7_mostAlike_37 : decode cX7_mostAlike 37 = .ok (.lxor, 1) := by decide +kernel
theorem dX7_mostAlike_38 : decode cX7_mostAlike 38 = .ok (.lstore 5, 2) := by decide +kernel
theorem dX7_mostAlike_40 : decode cX7_mostAlike 40 = .ok (.lload 5, 2) := by decide +kernel
theorem dX7_mostAlike_42 : decode cX7_mostAlike 42 = .ok (.lconst 0, 1) := by decide +kernel
theorem dX7_mostAlike_43 : decode cX7_mostAlike 43 = .ok (.lcmp, 1) := by decide +kernel
theorem dX7_mostAlike_44 : decode cX7_mostAlike 44 = .ok (.ifCond .ne 5, 3) := by decide +kernel
theorem dX7_mostAlike_47 : decode cX7_mostAlike 47 = .ok (.iconst (-1), 1) := by decide +kernel
theorem dX7_mostAlike_48 : decode cX7_mostAlike 48 = .ok (.ireturn, 1) := by decide +kernel
theorem dX7_mostAlike_49 : decode cX7_mostAlike 49 = .ok (.iload_n 2, 1) := by decide +kernel
theorem dX7_mostAlike_50 : decode cX7_mostAlike 50 = .ok (.lload 5, 2) := by decide +kernel
theorem dX7_mostAlike_52 : decode cX7_mostAlike 52 = .ok (.lload 5, 2) := by decide +kernel
theorem dX7_mostAlike_54 : decode cX7_mostAlike 54 = .ok (.lneg, 1) := by decide +kernel
theorem dX7_mostAlike_55 : decode cX7_mostAlike 55 = .ok (.land, 1) := by decide +kernel
theorem dX7_mostAlike_56 : decode cX7_mostAlike 56 = .ok (.lconst 1, 1) := by decide +kernel
theorem dX7_mostAlike_57 : decode cX7_mostAlike 57 = .ok (.lsub, 1) := by decide +kernel
theorem dX7_mostAlike_58 : decode cX7_mostAlike 58 = .ok (.invokestatic 135, 3) := by decide +kernel
theorem dX7_mostAlike_61 : decode cX7_mostAlike 61 = .ok (.invokestatic 188, 3) := by decide +kernel
theorem dX7_mostAlike_64 : decode cX7_mostAlike 64 = .ok (.istore_n 2, 1) := by decide +kernel
theorem dX7_mostAlike_65 : decode cX7_mostAlike 65 = .ok (.iinc 4 1, 3) := by decide +kernel
theorem dX7_mostAlike_68 : decode cX7_mostAlike 68 = .ok (.goto (-53), 3) := by decide +kernel
theorem dX7_mostAlike_71 : decode cX7_mostAlike 71 = .ok (.iinc 3 1, 3) := by decide +kernel
theorem dX7_mostAlike_74 : decode cX7_mostAlike 74 = .ok (.goto (-70), 3) := by decide +kernel
theorem dX7_mostAlike_77 : decode cX7_mostAlike 77 = .ok (.iload_n 2, 1) := by decide +kernel
theorem dX7_mostAlike_78 : decode cX7_mostAlike 78 = .ok (.ireturn, 1) := by decide +kernel
theorem dX7_findFix_0 : decode cX7_findFix 0 = .ok (.aload_n 0, 1) := by decide +kernel
theorem dX7_findFix_1 : decode cX7_findFix 1 = .ok (.getfield 336, 3) := by decide +kernel
theorem dX7_findFix_4 : decode cX7_findFix 4 = .ok (.ifCond .eq 4, 3) := by decide +kernel
theorem dX7_findFix_7 : decode cX7_findFix 7 = .ok (.return_, 1) := by decide +kernel
theorem dX7_findFix_8 : decode cX7_findFix 8 = .ok (.iconst 0, 1) := by decide +kernel
theorem dX7_findFix_9 : decode cX7_findFix 9 = .ok (.istore_n 1, 1) := by decide +kernel
theorem dX7_findFix_10 : decode cX7_findFix 10 = .ok (.iload_n 1, 1) := by decide +kernel
theorem dX7_findFix_11 : decode cX7_findFix 11 = .ok (.sipush 256, 3) := by decide +kernel
theorem dX7_findFix_14 : decode cX7_findFix 14 = .ok (.if_icmp .ge 20, 3) := by decide +kernel
theorem dX7_findFix_17 : decode cX7_findFix 17 = .ok (.aload_n 0, 1) := by decide +kernel
theorem dX7_findFix_18 : decode cX7_findFix 18 = .ok (.getfield 49, 3) := by decide +kernel
theorem dX7_findFix_21 : decode cX7_findFix 21 = .ok (.iload_n 1, 1) := by decide +kernel
theorem dX7_findFix_22 : decode cX7_findFix 22 = .ok (.aload_n 0, 1) := by decide +kernel
theorem dX7_findFix_23 : decode cX7_findFix 23 = .ok (.iload_n 1, 1) := by decide +kernel
theorem dX7_findFix_24 : decode cX7_findFix 24 = .ok (.invokevirtual 340, 3) := by decide +kernel
theorem dX7_findFix_27 : decode cX7_findFix 27 = .ok (.bastore, 1) := by decide +kernel
theorem dX7_findFix_28 : decode cX7_findFix 28 = .ok (.iinc 1 1, 3) := by decide +kernel
theorem dX7_findFix_31 : decode cX7_findFix 31 = .ok (.goto (-21), 3) := by decide +kernel
theorem dX7_findFix_34 : decode cX7_findFix 34 = .ok (.aload_n 0, 1) := by decide +kernel
theorem dX7_findFix_35 : decode cX7_findFix 35 = .ok (.iconst 1, 1) := by decide +kernel
theorem dX7_findFix_36 : decode cX7_findFix 36 = .ok (.putfield 336, 3) := by decide +kernel
theorem dX7_findFix_39 : decode cX7_findFix 39 = .ok (.return_, 1) := by decide +kernel
theorem dX7_holdsForAll_0 : decode cX7_holdsForAll 0 = .ok (.iconst 0, 1) := by decide +kernel
theorem dX7_holdsForAll_1 : decode cX7_holdsForAll 1 = .ok (.istore_n 2, 1) := by decide +kernel
theorem dX7_holdsForAll_2 : decode cX7_holdsForAll 2 = .ok (.iload_n 2, 1) := by decide +kernel
theorem dX7_holdsForAll_3 : decode cX7_holdsForAll 3 = .ok (.aload_n 0, 1) := by decide +kernel
theorem dX7_holdsForAll_4 : decode cX7_holdsForAll 4 = .ok (.getfield 211, 3) := by decide +kernel
theorem dX7_holdsForAll_7 : decode cX7_holdsForAll 7 = .ok (.if_icmp .ge 43, 3) := by decide +kernel
theorem dX7_holdsForAll_10 : decode cX7_holdsForAll 10 = .ok (.aload_n 0, 1) := by decide +kernel
theorem dX7_holdsForAll_11 : decode cX7_holdsForAll 11 = .ok (.iload_n 1, 1) := by decide +kernel
theorem dX7_holdsForAll_12 : decode cX7_holdsForAll 12 = .ok (.aload_n 0, 1) := by decide +kernel
theorem dX7_holdsForAll_13 : decode cX7_holdsForAll 13 = .ok (.getfield 18, 3) := by decide +kernel
theorem dX7_holdsForAll_16 : decode cX7_holdsForAll 16 = .ok (.aload_n 0, 1) := by decide +kernel
theorem dX7_holdsForAll_17 : decode cX7_holdsForAll 17 = .ok (.getfield 22, 3) := by decide +kernel
theorem dX7_holdsForAll_20 : decode cX7_holdsForAll 20 = .ok (.iload_n 2, 1) := by decide +kernel
theorem dX7_holdsForAll_21 : decode cX7_holdsForAll 21 = .ok (.iaload, 1) := by decide +kernel
theorem dX7_holdsForAll_22 : decode cX7_holdsForAll 22 = .ok (.bipush 16, 2) := by decide +kernel
theorem dX7_holdsForAll_24 : decode cX7_holdsForAll 24 = .ok (.ishr, 1) := by decide +kernel
theorem dX7_holdsForAll_25 : decode cX7_holdsForAll 25 = .ok (.aaload, 1) := by decide +kernel
theorem dX7_holdsForAll_26 : decode cX7_holdsForAll 26 = .ok (.aload_n 0, 1) := by decide +kernel
theorem dX7_holdsForAll_27 : decode cX7_holdsForAll 27 = .ok (.getfield 22, 3) := by decide +kernel
theorem dX7_holdsForAll_30 : decode cX7_holdsForAll 30 = .ok (.iload_n 2, 1) := by decide +kernel
theorem dX7_holdsForAll_31 : decode cX7_holdsForAll 31 = .ok (.iaload, 1) := by decide +kernel
theorem dX7_holdsForAll_32 : decode cX7_holdsForAll 32 = .ok (.ldc_w 343, 3) := by decide +kernel
theorem dX7_holdsForAll_35 : decode cX7_holdsForAll 35 = .ok (.iand, 1) := by decide +kernel
theorem dX7_holdsForAll_36 : decode cX7_holdsForAll 36 = .ok (.invokevirtual 344, 3) := by decide +kernel
theorem dX7_holdsForAll_39 : decode cX7_holdsForAll 39 = .ok (.ifCond .ne 5, 3) := by decide +kernel
theorem dX7_holdsForAll_42 : decode cX7_holdsForAll 42 = .ok (.iconst 0, 1) := by decide +kernel
theorem dX7_holdsForAll_43 : decode cX7_holdsForAll 43 = .ok (.ireturn, 1) := by decide +kernel
theorem dX7_holdsForAll_44 : decode cX7_holdsForAll 44 = .ok (.iinc 2 1, 3) := by decide +kernel
theorem dX7_holdsForAll_47 : decode cX7_holdsForAll 47 = .ok (.goto (-45), 3) := by decide +kernel
theorem dX7_holdsForAll_50 : decode cX7_holdsForAll 50 = .ok (.iconst 1, 1) := by decide +kernel
theorem dX7_holdsForAll_51 : decode cX7_holdsForAll 51 = .ok (.ireturn, 1) := by decide +kernel
theorem dX7_holdsFor_0 : decode cX7_holdsFor 0 = .ok (.aload_n 0, 1) := by decide +kernel
theorem dX7_holdsFor_1 : decode cX7_holdsFor 1 = .ok (.aload_n 2, 1) := by decide +kernel
theorem dX7_holdsFor_2 : decode cX7_holdsFor 2 = .ok (.invokevirtual 325, 3) := by decide +kernel
theorem dX7_holdsFor_5 : decode cX7_holdsFor 5 = .ok (.istore 4, 2) := by decide +kernel
theorem dX7_holdsFor_7 : decode cX7_holdsFor 7 = .ok (.aload_n 2, 1) := by decide +kernel
theorem dX7_holdsFor_8 : decode cX7_holdsFor 8 = .ok (.getfield 119, 3) := by decide +kernel
theorem dX7_holdsFor_11 : decode cX7_holdsFor 11 = .ok (.bipush 15, 2) := by decide +kernel
theorem dX7_holdsFor_13 : decode cX7_holdsFor 13 = .ok (.iand, 1) := by decide +kernel
theorem dX7_holdsFor_14 : decode cX7_holdsFor 14 = .ok (.istore 5, 2) := by decide +kernel
theorem dX7_holdsFor_16 : decode cX7_holdsFor 16 = .ok (.aload_n 2, 1) := by decide +kernel
theorem dX7_holdsFor_17 : decode cX7_holdsFor 17 = .ok (.getfield 119, 3) := by decide +kernel
theorem dX7_holdsFor_20 : decode cX7_holdsFor 20 = .ok (.iconst 4, 1) := by decide +kernel
theorem dX7_holdsFor_21 : decode cX7_holdsFor 21 = .ok (.ishr, 1) := by decide +kernel
theorem dX7_holdsFor_22 : decode cX7_holdsFor 22 = .ok (.istore 6, 2) := by decide +kernel
theorem dX7_holdsFor_24 : decode cX7_holdsFor 24 = .ok (.bipush 15, 2) := by decide +kernel
theorem dX7_holdsFor_26 : decode cX7_holdsFor 26 = .ok (.iload 5, 2) := by decide +kernel
theorem dX7_holdsFor_28 : decode cX7_holdsFor 28 = .ok (.aload_n 2, 1) := by decide +kernel
theorem dX7_holdsFor_29 : decode cX7_holdsFor 29 = .ok (.getfield 144, 3) := by decide +kernel
theorem dX7_holdsFor_32 : decode cX7_holdsFor 32 = .ok (.iadd, 1) := by decide +kernel
theorem dX7_holdsFor_33 : decode cX7_holdsFor 33 = .ok (.invokestatic 348, 3) := by decide +kernel
theorem dX7_holdsFor_36 : decode cX7_holdsFor 36 = .ok (.istore 7, 2) := by decide +kernel
theorem dX7_holdsFor_38 : decode cX7_holdsFor 38 = .ok (.bipush 15, 2) := by decide +kernel
theorem dX7_holdsFor_40 : decode cX7_holdsFor 40 = .ok (.iload 6, 2) := by decide +kernel
theorem dX7_holdsFor_42 : decode cX7_holdsFor 42 = .ok (.aload_n 2, 1) := by decide +kernel
theorem dX7_holdsFor_43 : decode cX7_holdsFor 43 = .ok (.getfield 144, 3) := by decide +kernel
theorem dX7_holdsFor_46 : decode cX7_holdsFor 46 = .ok (.iadd, 1) := by decide +kernel
theorem dX7_holdsFor_47 : decode cX7_holdsFor 47 = .ok (.invokestatic 348, 3) := by decide +kernel
theorem dX7_holdsFor_50 : decode cX7_holdsFor 50 = .ok (.istore 8, 2) := by decide +kernel
theorem dX7_holdsFor_52 : decode cX7_holdsFor 52 = .ok (.iconst 0, 1) := by decide +kernel
theorem dX7_holdsFor_53 : decode cX7_holdsFor 53 = .ok (.iload 6, 2) := by decide +kernel
theorem dX7_holdsFor_55 : decode cX7_holdsFor 55 = .ok (.aload_n 2, 1) := by decide +kernel
theorem dX7_holdsFor_56 : decode cX7_holdsFor 56 = .ok (.getfield 144, 3) := by decide +kernel
theorem dX7_holdsFor_59 : decode cX7_holdsFor 59 = .ok (.isub, 1) := by decide +kernel
theorem dX7_holdsFor_60 : decode cX7_holdsFor 60 = .ok (.invokestatic 188, 3) := by decide +kernel
theorem dX7_holdsFor_63 : decode cX7_holdsFor 63 = .ok (.istore 9, 2) := by decide +kernel
theorem dX7_holdsFor_65 : decode cX7_holdsFor 65 = .ok (.iload 9, 2) := by decide +kernel
theorem dX7_holdsFor_67 : decode cX7_holdsFor 67 = .ok (.iload 8, 2) := by decide +kernel
theorem dX7_holdsFor_69 : decode cX7_holdsFor 69 = .ok (.if_icmp .gt 68, 3) := by decide +kernel
theorem dX7_holdsFor_72 : decode cX7_holdsFor 72 = .ok (.iconst 0, 1) := by decide +kernel
theorem dX7_holdsFor_73 : decode cX7_holdsFor 73 = .ok (.iload 5, 2) := by decide +kernel
theorem dX7_holdsFor_75 : decode cX7_holdsFor 75 = .ok (.aload_n 2, 1) := by decide +kernel
theorem dX7_holdsFor_76 : decode cX7_holdsFor 76 = .ok (.getfield 144, 3) := by decide +kernel
theorem dX7_holdsFor_79 : decode cX7_holdsFor 79 = .ok (.isub, 1) := by decide +kernel
theorem dX7_holdsFor_80 : decode cX7_holdsFor 80 = .ok (.invokestatic 188, 3) := by decide +kernel
theorem dX7_holdsFor_83 : decode cX7_holdsFor 83 = .ok (.istore 10, 2) := by decide +kernel
theorem dX7_holdsFor_85 : decode cX7_holdsFor 85 = .ok (.iload 10, 2) := by decide +kernel
theorem dX7_holdsFor_87 : decode cX7_holdsFor 87 = .ok (.iload 7, 2) := by decide +kernel
theorem dX7_holdsFor_89 : decode cX7_holdsFor 89 = .ok (.if_icmp .gt 42, 3) := by decide +kernel
theorem dX7_holdsFor_92 : decode cX7_holdsFor 92 = .ok (.iload 9, 2) := by decide +kernel
theorem dX7_holdsFor_94 : decode cX7_holdsFor 94 = .ok (.bipush 16, 2) := by decide +kernel
theorem dX7_holdsFor_96 : decode cX7_holdsFor 96 = .ok (.imul, 1) := by decide +kernel
theorem dX7_holdsFor_97 : decode cX7_holdsFor 97 = .ok (.iload 10, 2) := by decide +kernel
theorem dX7_holdsFor_99 : decode cX7_holdsFor 99 = .ok (.iadd, 1) := by decide +kernel
theorem dX7_holdsFor_100 : decode cX7_holdsFor 100 = .ok (.istore 11, 2) := by decide +kernel
theorem dX7_holdsFor_102 : decode cX7_holdsFor 102 = .ok (.iload 4, 2) := by decide +kernel
theorem dX7_holdsFor_104 : decode cX7_holdsFor 104 = .ok (.iload_n 1, 1) := by decide +kernel
theorem dX7_holdsFor_105 : decode cX7_holdsFor 105 = .ok (.iload 11, 2) := by decide +kernel
theorem dX7_holdsFor_107 : decode cX7_holdsFor 107 = .ok (.invokestatic 329, 3) := by decide +kernel
theorem dX7_holdsFor_110 : decode cX7_holdsFor 110 = .ok (.ifCond .eq 15, 3) := by decide +kernel
theorem dX7_holdsFor_113 : decode cX7_holdsFor 113 = .ok (.iload_n 3, 1) := by decide +kernel
theorem dX7_holdsFor_114 : decode cX7_holdsFor 114 = .ok (.iload_n 1, 1) := by decide +kernel
theorem dX7_holdsFor_115 : decode cX7_holdsFor 115 = .ok (.iload 11, 2) := by decide +kernel
theorem dX7_holdsFor_117 : decode cX7_holdsFor 117 = .ok (.invokestatic 351, 3) := by decide +kernel
theorem dX7_holdsFor_120 : decode cX7_holdsFor 120 = .ok (.ifCond .eq 5, 3) := by decide +kernel
theorem dX7_holdsFor_123 : decode cX7_holdsFor 123 = .ok (.iconst 1, 1) := by decide +kernel
theorem dX7_holdsFor_124 : decode cX7_holdsFor 124 = .ok (.ireturn, 1) := by decide +kernel
theorem dX7_holdsFor_125 : decode cX7_holdsFor 125 = .ok (.iinc 10 1, 3) := by decide +kernel
theorem dX7_holdsFor_128 : decode cX7_holdsFor 128 = .ok (.goto (-43), 3) := by decide +kernel
theorem dX7_holdsFor_131 : decode cX7_holdsFor 131 = .ok (.iinc 9 1, 3) := by decide +kernel
theorem dX7_holdsFor_134 : decode cX7_holdsFor 134 = .ok (.goto (-69), 3) := by decide +kernel
theorem dX7_holdsFor_137 : decode cX7_holdsFor 137 = .ok (.iconst 0, 1) := by decide +kernel
theorem dX7_holdsFor_138 : decode cX7_holdsFor 138 = .ok (.ireturn, 1) := by decide +kernel
theorem dX7_liesIn_0 : decode cX7_liesIn 0 = .ok (.iload_n 1, 1) := by decide +kernel
theorem dX7_liesIn_1 : decode cX7_liesIn 1 = .ok (.iload_n 2, 1) := by decide +kernel
theorem dX7_liesIn_2 : decode cX7_liesIn 2 = .ok (.if_icmp .eq 16, 3) := by decide +kernel
theorem dX7_liesIn_5 : decode cX7_liesIn 5 = .ok (.iload_n 0, 1) := by decide +kernel
theorem dX7_liesIn_6 : decode cX7_liesIn 6 = .ok (.iload_n 1, 1) := by decide +kernel
theorem dX7_liesIn_7 : decode cX7_liesIn 7 = .ok (.iload_n 2, 1) := by decide +kernel
theorem dX7_liesIn_8 : decode cX7_liesIn 8 = .ok (.invokestatic 161, 3) := by decide +kernel
theorem dX7_liesIn_11 : decode cX7_liesIn 11 = .ok (.ishr, 1) := by decide +kernel
theorem dX7_liesIn_12 : decode cX7_liesIn 12 = .ok (.iconst 1, 1) := by decide +kernel
theorem dX7_liesIn_13 : decode cX7_liesIn 13 = .ok (.iand, 1) := by decide +kernel
theorem dX7_liesIn_14 : decode cX7_liesIn 14 = .ok (.iconst 1, 1) := by decide +kernel
theorem dX7_liesIn_15 : decode cX7_liesIn 15 = .ok (.if_icmp .ne 7, 3) := by decide +kernel
theorem dX7_liesIn_18 : decode cX7_liesIn 18 = .ok (.iconst 1, 1) := by decide +kernel
theorem dX7_liesIn_19 : decode cX7_liesIn 19 = .ok (.goto 4, 3) := by decide +kernel
theorem dX7_liesIn_22 : decode cX7_liesIn 22 = .ok (.iconst 0, 1) := by decide +kernel
theorem dX7_liesIn_23 : decode cX7_liesIn 23 = .ok (.ireturn, 1) := by decide +kernel
theorem dX7_placeInFairway_0 : decode cX7_placeInFairway 0 = .ok (.iconst 0, 1) := by decide +kernel
theorem dX7_placeInFairway_1 : decode cX7_placeInFairway 1 = .ok (.istore_n 2, 1) := by decide +kernel
theorem dX7_placeInFairway_2 : decode cX7_placeInFairway 2 = .ok (.iload_n 2, 1) := by decide +kernel
theorem dX7_placeInFairway_3 : decode cX7_placeInFairway 3 = .ok (.aload_n 0, 1) := by decide +kernel
theorem dX7_placeInFairway_4 : decode cX7_placeInFairway 4 = .ok (.getfield 231, 3) := by decide +kernel
theorem dX7_placeInFairway_7 : decode cX7_placeInFairway 7 = .ok (.if_icmp .ge 21, 3) := by decide +kernel
theorem dX7_placeInFairway_10 : decode cX7_placeInFairway 10 = .ok (.aload_n 0, 1) := by decide +kernel
theorem dX7_placeInFairway_11 : decode cX7_placeInFairway 11 = .ok (.getfield 26, 3) := by decide +kernel
theorem dX7_placeInFairway_14 : decode cX7_placeInFairway 14 = .ok (.iload_n 2, 1) := by decide +kernel
theorem dX7_placeInFairway_15 : decode cX7_placeInFairway 15 = .ok (.iaload, 1) := by decide +kernel
theorem dX7_placeInFairway_16 : decode cX7_placeInFairway 16 = .ok (.iload_n 1, 1) := by decide +kernel
theorem dX7_placeInFairway_17 : decode cX7_placeInFairway 17 = .ok (.if_icmp .ne 5, 3) := by decide +kernel
theorem dX7_placeInFairway_20 : decode cX7_placeInFairway 20 = .ok (.iload_n 2, 1) := by decide +kernel
theorem dX7_placeInFairway_21 : decode cX7_placeInFairway 21 = .ok (.ireturn, 1) := by decide +kernel
theorem dX7_placeInFairway_22 : decode cX7_placeInFairway 22 = .ok (.iinc 2 1, 3) := by decide +kernel
theorem dX7_placeInFairway_25 : decode cX7_placeInFairway 25 = .ok (.goto (-23), 3) := by decide +kernel
theorem dX7_placeInFairway_28 : decode cX7_placeInFairway 28 = .ok (.iconst (-1), 1) := by decide +kernel
theorem dX7_placeInFairway_29 : decode cX7_placeInFairway 29 = .ok (.ireturn, 1) := by decide +kernel
theorem dX7_setFairway_0 : decode cX7_setFairway 0 = .ok (.aload_n 0, 1) := by decide +kernel
theorem dX7_setFairway_1 : decode cX7_setFairway 1 = .ok (.iload_n 1, 1) := by decide +kernel
theorem dX7_setFairway_2 : decode cX7_setFairway 2 = .ok (.invokevirtual 228, 3) := by decide +kernel
theorem dX7_setFairway_5 : decode cX7_setFairway 5 = .ok (.istore_n 3, 1) := by decide +kernel
theorem dX7_setFairway_6 : decode cX7_setFairway 6 = .ok (.iload_n 2, 1) := by decide +kernel
theorem dX7_setFairway_7 : decode cX7_setFairway 7 = .ok (.ifCond .eq 36, 3) := by decide +kernel
theorem dX7_setFairway_10 : decode cX7_setFairway 10 = .ok (.iload_n 3, 1) := by decide +kernel
theorem dX7_setFairway_11 : decode cX7_setFairway 11 = .ok (.ifCond .ge 32, 3) := by decide +kernel
theorem dX7_setFairway_14 : decode cX7_setFairway 14 = .ok (.aload_n 0, 1) := by decide +kernel
theorem dX7_setFairway_15 : decode cX7_setFairway 15 = .ok (.getfield 231, 3) := by decide +kernel
theorem dX7_setFairway_18 : decode cX7_setFairway 18 = .ok (.bipush 12, 2) := by decide +kernel
theorem dX7_setFairway_20 : decode cX7_setFairway 20 = .ok (.if_icmp .ge 23, 3) := by decide +kernel
theorem dX7_setFairway_23 : decode cX7_setFairway 23 = .ok (.aload_n 0, 1) := by decide +kernel
theorem dX7_setFairway_24 : decode cX7_setFairway 24 = .ok (.getfield 26, 3) := by decide +kernel
theorem dX7_setFairway_27 : decode cX7_setFairway 27 = .ok (.aload_n 0, 1) := by decide +kernel
theorem dX7_setFairway_28 : decode cX7_setFairway 28 = .ok (.getfield 231, 3) := by decide +kernel
theorem dX7_setFairway_31 : decode cX7_setFairway 31 = .ok (.iload_n 1, 1) := by decide +kernel
theorem dX7_setFairway_32 : decode cX7_setFairway 32 = .ok (.iastore, 1) := by decide +kernel
theorem dX7_setFairway_33 : decode cX7_setFairway 33 = .ok (.aload_n 0, 1) := by decide +kernel
theorem dX7_setFairway_34 : decode cX7_setFairway 34 = .ok (.dup, 1) := by decide +kernel
theorem dX7_setFairway_35 : decode cX7_setFairway 35 = .ok (.getfield 231, 3) := by decide +kernel
theorem dX7_setFairway_38 : decode cX7_setFairway 38 = .ok (.iconst 1, 1) := by decide +kernel
theorem dX7_setFairway_39 : decode cX7_setFairway 39 = .ok (.iadd, 1) := by decide +kernel
theorem dX7_setFairway_40 : decode cX7_setFairway 40 = .ok (.putfield 231, 3) := by decide +kernel
theorem dX7_setFairway_43 : decode cX7_setFairway 43 = .ok (.iload_n 2, 1) := by decide +kernel
theorem dX7_setFairway_44 : decode cX7_setFairway 44 = .ok (.ifCond .ne 32, 3) := by decide +kernel
theorem dX7_setFairway_47 : decode cX7_setFairway 47 = .ok (.iload_n 3, 1) := by decide +kernel
theorem dX7_setFairway_48 : decode cX7_setFairway 48 = .ok (.ifCond .lt 28, 3) := by decide +kernel
theorem dX7_setFairway_51 : decode cX7_setFairway 51 = .ok (.aload_n 0, 1) := by decide +kernel
theorem dX7_setFairway_52 : decode cX7_setFairway 52 = .ok (.dup, 1) := by decide +kernel
theorem dX7_setFairway_53 : decode cX7_setFairway 53 = .ok (.getfield 231, 3) := by decide +kernel
theorem dX7_setFairway_56 : decode cX7_setFairway 56 = .ok (.iconst 1, 1) := by decide +kernel
theorem dX7_setFairway_57 : decode cX7_setFairway 57 = .ok (.isub, 1) := by decide +kernel
theorem dX7_setFairway_58 : decode cX7_setFairway 58 = .ok (.putfield 231, 3) := by decide +kernel
theorem dX7_setFairway_61 : decode cX7_setFairway 61 = .ok (.aload_n 0, 1) := by decide +kernel
theorem dX7_setFairway_62 : decode cX7_setFairway 62 = .ok (.getfield 26, 3) := by decide +kernel
theorem dX7_setFairway_65 : decode cX7_setFairway 65 = .ok (.iload_n 3, 1) := by decide +kernel
theorem dX7_setFairway_66 : decode cX7_setFairway 66 = .ok (.aload_n 0, 1) := by decide +kernel
theorem dX7_setFairway_67 : decode cX7_setFairway 67 = .ok (.getfield 26, 3) := by decide +kernel
theorem dX7_setFairway_70 : decode cX7_setFairway 70 = .ok (.aload_n 0, 1) := by decide +kernel
theorem dX7_setFairway_71 : decode cX7_setFairway 71 = .ok (.getfield 231, 3) := by decide +kernel
theorem dX7_setFairway_74 : decode cX7_setFairway 74 = .ok (.iaload, 1) := by decide +kernel
theorem dX7_setFairway_75 : decode cX7_setFairway 75 = .ok (.iastore, 1) := by decide +kernel
theorem dX7_setFairway_76 : decode cX7_setFairway 76 = .ok (.return_, 1) := by decide +kernel
theorem dX7_lightsFairway_0 : decode cX7_lightsFairway 0 = .ok (.iconst 0, 1) := by decide +kernel
theorem dX7_lightsFairway_1 : decode cX7_lightsFairway 1 = .ok (.istore_n 2, 1) := by decide +kernel
theorem dX7_lightsFairway_2 : decode cX7_lightsFairway 2 = .ok (.iload_n 2, 1) := by decide +kernel
theorem dX7_lightsFairway_3 : decode cX7_lightsFairway 3 = .ok (.aload_n 0, 1) := by decide +kernel
theorem dX7_lightsFairway_4 : decode cX7_lightsFairway 4 = .ok (.getfield 231, 3) := by decide +kernel
theorem dX7_lightsFairway_7 : decode cX7_lightsFairway 7 = .ok (.if_icmp .ge 26, 3) := by decide +kernel
theorem dX7_lightsFairway_10 : decode cX7_lightsFairway 10 = .ok (.iload_n 1, 1) := by decide +kernel
theorem dX7_lightsFairway_11 : decode cX7_lightsFairway 11 = .ok (.aload_n 0, 1) := by decide +kernel
theorem dX7_lightsFairway_12 : decode cX7_lightsFairway 12 = .ok (.getfield 29, 3) := by decide +kernel
theorem dX7_lightsFairway_15 : decode cX7_lightsFairway 15 = .ok (.iload_n 2, 1) := by decide +kernel
theorem dX7_lightsFairway_16 : decode cX7_lightsFairway 16 = .ok (.iaload, 1) := by decide +kernel
theorem dX7_lightsFairway_17 : decode cX7_lightsFairway 17 = .ok (.iand, 1) := by decide +kernel
theorem dX7_lightsFairway_18 : decode cX7_lightsFairway 18 = .ok (.invokestatic 238, 3) := by decide +kernel
theorem dX7_lightsFairway_21 : decode cX7_lightsFairway 21 = .ok (.iconst 2, 1) := by decide +kernel
theorem dX7_lightsFairway_22 : decode cX7_lightsFairway 22 = .ok (.if_icmp .ge 5, 3) := by decide +kernel
theorem dX7_lightsFairway_25 : decode cX7_lightsFairway 25 = .ok (.iconst 0, 1) := by decide +kernel
theorem dX7_lightsFairway_26 : decode cX7_lightsFairway 26 = .ok (.ireturn, 1) := by decide +kernel
theorem dX7_lightsFairway_27 : decode cX7_lightsFairway 27 = .ok (.iinc 2 1, 3) := by decide +kernel
theorem dX7_lightsFairway_30 : decode cX7_lightsFairway 30 = .ok (.goto (-28), 3) := by decide +kernel
theorem dX7_lightsFairway_33 : decode cX7_lightsFairway 33 = .ok (.iconst 1, 1) := by decide +kernel
theorem dX7_lightsFairway_34 : decode cX7_lightsFairway 34 = .ok (.ireturn, 1) := by decide +kernel
theorem dX7_findLandings_0 : decode cX7_findLandings 0 = .ok (.aload_n 0, 1) := by decide +kernel
theorem dX7_findLandings_1 : decode cX7_findLandings 1 = .ok (.getfield 354, 3) := by decide +kernel
theorem dX7_findLandings_4 : decode cX7_findLandings 4 = .ok (.ifCond .ne 31, 3) := by decide +kernel
theorem dX7_findLandings_7 : decode cX7_findLandings 7 = .ok (.aload_n 0, 1) := by decide +kernel
theorem dX7_findLandings_8 : decode cX7_findLandings 8 = .ok (.getfield 45, 3) := by decide +kernel
theorem dX7_findLandings_11 : decode cX7_findLandings 11 = .ok (.aload_n 0, 1) := by decide +kernel
theorem dX7_findLandings_12 : decode cX7_findLandings 12 = .ok (.getfield 18, 3) := by decide +kernel
theorem dX7_findLandings_15 : decode cX7_findLandings 15 = .ok (.aload_n 0, 1) := by decide +kernel
theorem dX7_findLandings_16 : decode cX7_findLandings 16 = .ok (.getfield 89, 3) := by decide +kernel
theorem dX7_findLandings_19 : decode cX7_findLandings 19 = .ok (.aload_n 0, 1) := by decide +kernel
theorem dX7_findLandings_20 : decode cX7_findLandings 20 = .ok (.getfield 39, 3) := by decide +kernel
theorem dX7_findLandings_23 : decode cX7_findLandings 23 = .ok (.aload_n 0, 1) := by decide +kernel
theorem dX7_findLandings_24 : decode cX7_findLandings 24 = .ok (.getfield 177, 3) := by decide +kernel
theorem dX7_findLandings_27 : decode cX7_findLandings 27 = .ok (.invokevirtual 357, 3) := by decide +kernel
theorem dX7_findLandings_30 : decode cX7_findLandings 30 = .ok (.aload_n 0, 1) := by decide +kernel
theorem dX7_findLandings_31 : decode cX7_findLandings 31 = .ok (.iconst 1, 1) := by decide +kernel
theorem dX7_findLandings_32 : decode cX7_findLandings 32 = .ok (.putfield 354, 3) := by decide +kernel
theorem dX7_findLandings_35 : decode cX7_findLandings 35 = .ok (.return_, 1) := by decide +kernel
theorem dX7_firstWrong_0 : decode cX7_firstWrong 0 = .ok (.iconst 0, 1) := by decide +kernel
theorem dX7_firstWrong_1 : decode cX7_firstWrong 1 = .ok (.istore_n 2, 1) := by decide +kernel
theorem dX7_firstWrong_2 : decode cX7_firstWrong 2 = .ok (.iconst 0, 1) := by decide +kernel
theorem dX7_firstWrong_3 : decode cX7_firstWrong 3 = .ok (.istore_n 3, 1) := by decide +kernel
theorem dX7_firstWrong_4 : decode cX7_firstWrong 4 = .ok (.iconst 0, 1) := by decide +kernel
theorem dX7_firstWrong_5 : decode cX7_firstWrong 5 = .ok (.istore 4, 2) := by decide +kernel
theorem dX7_firstWrong_7 : decode cX7_firstWrong 7 = .ok (.iload 4, 2) := by decide +kernel
theorem dX7_firstWrong_9 : decode cX7_firstWrong 9 = .ok (.aload_n 1, 1) := by decide +kernel
theorem dX7_firstWrong_10 : decode cX7_firstWrong 10 = .ok (.getfield 204, 3) := by decide +kernel
theorem dX7_firstWrong_13 : decode cX7_firstWrong 13 = .ok (.if_icmp .ge 138, 3) := by decide +kernel
theorem dX7_firstWrong_16 : decode cX7_firstWrong 16 = .ok (.aload_n 0, 1) := by decide +kernel
theorem dX7_firstWrong_17 : decode cX7_firstWrong 17 = .ok (.getfield 177, 3) := by decide +kernel
theorem dX7_firstWrong_20 : decode cX7_firstWrong 20 = .ok (.iload 4, 2) := by decide +kernel
theorem dX7_firstWrong_22 : decode cX7_firstWrong 22 = .ok (.iadd, 1) := by decide +kernel
theorem dX7_firstWrong_23 : decode cX7_firstWrong 23 = .ok (.bipush 20, 2) := by decide +kernel
theorem dX7_firstWrong_25 : decode cX7_firstWrong 25 = .ok (.if_icmp .ge 126, 3) := by decide +kernel
theorem dX7_firstWrong_28 : decode cX7_firstWrong 28 = .ok (.aload_n 1, 1) := by decide +kernel
theorem dX7_firstWrong_29 : decode cX7_firstWrong 29 = .ok (.getfield 269, 3) := by decide +kernel
theorem dX7_firstWrong_32 : decode cX7_firstWrong 32 = .ok (.iload 4, 2) := by decide +kernel
theorem dX7_firstWrong_34 : decode cX7_firstWrong 34 = .ok (.iaload, 1) := by decide +kernel
theorem dX7_firstWrong_35 : decode cX7_firstWrong 35 = .ok (.istore 5, 2) := by decide +kernel
theorem dX7_firstWrong_37 : decode cX7_firstWrong 37 = .ok (.iload 5, 2) := by decide +kernel
theorem dX7_firstWrong_39 : decode cX7_firstWrong 39 = .ok (.iconst (-1), 1) := by decide +kernel
theorem dX7_firstWrong_40 : decode cX7_firstWrong 40 = .ok (.if_icmp .ne 6, 3) := by decide +kernel
theorem dX7_firstWrong_43 : decode cX7_firstWrong 43 = .ok (.goto 102, 3) := by decide +kernel
theorem dX7_firstWrong_46 : decode cX7_firstWrong 46 = .ok (.aload_n 0, 1) := by decide +kernel
theorem dX7_firstWrong_47 : decode cX7_firstWrong 47 = .ok (.iload 5, 2) := by decide +kernel
theorem dX7_firstWrong_49 : decode cX7_firstWrong 49 = .ok (.invokevirtual 108, 3) := by decide +kernel
theorem dX7_firstWrong_52 : decode cX7_firstWrong 52 = .ok (.ifCond .eq 45, 3) := by decide +kernel
theorem dX7_firstWrong_55 : decode cX7_firstWrong 55 = .ok (.aload_n 0, 1) := by decide +kernel
theorem dX7_firstWrong_56 : decode cX7_firstWrong 56 = .ok (.getfield 18, 3) := by decide +kernel
theorem dX7_firstWrong_59 : decode cX7_firstWrong 59 = .ok (.iload 5, 2) := by decide +kernel
theorem dX7_firstWrong_61 : decode cX7_firstWrong 61 = .ok (.aaload, 1) := by decide +kernel
theorem dX7_firstWrong_62 : decode cX7_firstWrong 62 = .ok (.invokevirtual 259, 3) := by decide +kernel
theorem dX7_firstWrong_65 : decode cX7_firstWrong 65 = .ok (.ifCond .eq 32, 3) := by decide +kernel
theorem dX7_firstWrong_68 : decode cX7_firstWrong 68 = .ok (.aload_n 0, 1) := by decide +kernel
theorem dX7_firstWrong_69 : decode cX7_firstWrong 69 = .ok (.getfield 18, 3) := by decide +kernel
theorem dX7_firstWrong_72 : decode cX7_firstWrong 72 = .ok (.iload 5, 2) := by decide +kernel
theorem dX7_firstWrong_74 : decode cX7_firstWrong 74 = .ok (.aaload, 1) := by decide +kernel
theorem dX7_firstWrong_75 : decode cX7_firstWrong 75 = .ok (.aload_n 0, 1) := by decide +kernel
theorem dX7_firstWrong_76 : decode cX7_firstWrong 76 = .ok (.getfield 39, 3) := by decide +kernel
theorem dX7_firstWrong_79 : decode cX7_firstWrong 79 = .ok (.aload_n 0, 1) := by decide +kernel
theorem dX7_firstWrong_80 : decode cX7_firstWrong 80 = .ok (.getfield 177, 3) := by decide +kernel
theorem dX7_firstWrong_83 : decode cX7_firstWrong 83 = .ok (.iload 4, 2) := by decide +kernel
theorem dX7_firstWrong_85 : decode cX7_firstWrong 85 = .ok (.iadd, 1) := by decide +kernel
theorem dX7_firstWrong_86 : decode cX7_firstWrong 86 = .ok (.iaload, 1) := by decide +kernel
theorem dX7_firstWrong_87 : decode cX7_firstWrong 87 = .ok (.invokevirtual 361, 3) := by decide +kernel
theorem dX7_firstWrong_90 : decode cX7_firstWrong 90 = .ok (.ifCond .eq 7, 3) := by decide +kernel
theorem dX7_firstWrong_93 : decode cX7_firstWrong 93 = .ok (.iconst 1, 1) := by decide +kernel
theorem dX7_firstWrong_94 : decode cX7_firstWrong 94 = .ok (.goto 4, 3) := by decide +kernel
theorem dX7_firstWrong_97 : decode cX7_firstWrong 97 = .ok (.iconst 0, 1) := by decide +kernel
theorem dX7_firstWrong_98 : decode cX7_firstWrong 98 = .ok (.istore 6, 2) := by decide +kernel
theorem dX7_firstWrong_100 : decode cX7_firstWrong 100 = .ok (.iload 6, 2) := by decide +kernel
theorem dX7_firstWrong_102 : decode cX7_firstWrong 102 = .ok (.ifCond .eq 13, 3) := by decide +kernel
theorem dX7_firstWrong_105 : decode cX7_firstWrong 105 = .ok (.iload_n 2, 1) := by decide +kernel
theorem dX7_firstWrong_106 : decode cX7_firstWrong 106 = .ok (.iload 5, 2) := by decide +kernel
theorem dX7_firstWrong_108 : decode cX7_firstWrong 108 = .ok (.ishr, 1) := by decide +kernel
theorem dX7_firstWrong_109 : decode cX7_firstWrong 109 = .ok (.iconst 1, 1) := by decide +kernel
theorem dX7_firstWrong_110 : decode cX7_firstWrong 110 = .ok (.iand, 1) := by decide +kernel
theorem dX7_firstWrong_111 : decode cX7_firstWrong 111 = .ok (.iconst 1, 1) := by decide +kernel
theorem dX7_firstWrong_112 : decode cX7_firstWrong 112 = .ok (.if_icmp .ne 6, 3) := by decide +kernel
theorem dX7_firstWrong_115 : decode cX7_firstWrong 115 = .ok (.iload 4, 2) := by decide +kernel
theorem dX7_firstWrong_117 : decode cX7_firstWrong 117 = .ok (.ireturn, 1) := by decide +kernel
theorem dX7_firstWrong_118 : decode cX7_firstWrong 118 = .ok (.iload_n 2, 1) := by decide +kernel
theorem dX7_firstWrong_119 : decode cX7_firstWrong 119 = .ok (.iconst 1, 1) := by decide +kernel
theorem dX7_firstWrong_120 : decode cX7_firstWrong 120 = .ok (.iload 5, 2) := by decide +kernel
theorem dX7_firstWrong_122 : decode cX7_firstWrong 122 = .ok (.ishl, 1) := by decide +kernel
theorem dX7_firstWrong_123 : decode cX7_firstWrong 123 = .ok (.ior, 1) := by decide +kernel
theorem dX7_firstWrong_124 : decode cX7_firstWrong 124 = .ok (.istore_n 2, 1) := by decide +kernel
theorem dX7_firstWrong_125 : decode cX7_firstWrong 125 = .ok (.iload_n 3, 1) := by decide +kernel
theorem dX7_firstWrong_126 : decode cX7_firstWrong 126 = .ok (.aload_n 0, 1) := by decide +kernel
theorem dX7_firstWrong_127 : decode cX7_firstWrong 127 = .ok (.getfield 18, 3) := by decide +kernel
theorem dX7_firstWrong_130 : decode cX7_firstWrong 130 = .ok (.iload 5, 2) := by decide +kernel
theorem dX7_firstWrong_132 : decode cX7_firstWrong 132 = .ok (.aaload, 1) := by decide +kernel
theorem dX7_firstWrong_133 : decode cX7_firstWrong 133 = .ok (.aload_n 0, 1) := by decide +kernel
theorem dX7_firstWrong_134 : decode cX7_firstWrong 134 = .ok (.getfield 177, 3) := by decide +kernel
theorem dX7_firstWrong_137 : decode cX7_firstWrong 137 = .ok (.iload 4, 2) := by decide +kernel
theorem dX7_firstWrong_139 : decode cX7_firstWrong 139 = .ok (.iadd, 1) := by decide +kernel
theorem dX7_firstWrong_140 : decode cX7_firstWrong 140 = .ok (.invokevirtual 364, 3) := by decide +kernel
theorem dX7_firstWrong_143 : decode cX7_firstWrong 143 = .ok (.iadd, 1) := by decide +kernel
theorem dX7_firstWrong_144 : decode cX7_firstWrong 144 = .ok (.istore_n 3, 1) := by decide +kernel
theorem dX7_firstWrong_145 : decode cX7_firstWrong 145 = .ok (.iinc 4 1, 3) := by decide +kernel
theorem dX7_firstWrong_148 : decode cX7_firstWrong 148 = .ok (.goto (-141), 3) := by decide +kernel
theorem dX7_firstWrong_151 : decode cX7_firstWrong 151 = .ok (.iconst 0, 1) := by decide +kernel
theorem dX7_firstWrong_152 : decode cX7_firstWrong 152 = .ok (.istore 4, 2) := by decide +kernel
theorem dX7_firstWrong_154 : decode cX7_firstWrong 154 = .ok (.iload 4, 2) := by decide +kernel
theorem dX7_firstWrong_156 : decode cX7_firstWrong 156 = .ok (.aload_n 0, 1) := by decide +kernel
theorem dX7_firstWrong_157 : decode cX7_firstWrong 157 = .ok (.getfield 89, 3) := by decide +kernel
theorem dX7_firstWrong_160 : decode cX7_firstWrong 160 = .ok (.if_icmp .ge 46, 3) := by decide +kernel
theorem dX7_firstWrong_163 : decode cX7_firstWrong 163 = .ok (.aload_n 0, 1) := by decide +kernel
theorem dX7_firstWrong_164 : decode cX7_firstWrong 164 = .ok (.getfield 18, 3) := by decide +kernel
theorem dX7_firstWrong_167 : decode cX7_firstWrong 167 = .ok (.iload 4, 2) := by decide +kernel
theorem dX7_firstWrong_169 : decode cX7_firstWrong 169 = .ok (.aaload, 1) := by decide +kernel
theorem dX7_firstWrong_170 : decode cX7_firstWrong 170 = .ok (.invokevirtual 259, 3) := by decide +kernel
theorem dX7_firstWrong_173 : decode cX7_firstWrong 173 = .ok (.ifCond .eq 27, 3) := by decide +kernel
theorem dX7_firstWrong_176 : decode cX7_firstWrong 176 = .ok (.iload_n 2, 1) := by decide +kernel
theorem dX7_firstWrong_177 : decode cX7_firstWrong 177 = .ok (.iload 4, 2) := by decide +kernel
theorem dX7_firstWrong_179 : decode cX7_firstWrong 179 = .ok (.ishr, 1) := by decide +kernel
theorem dX7_firstWrong_180 : decode cX7_firstWrong 180 = .ok (.iconst 1, 1) := by decide +kernel
theorem dX7_firstWrong_181 : decode cX7_firstWrong 181 = .ok (.iand, 1) := by decide +kernel
theorem dX7_firstWrong_182 : decode cX7_firstWrong 182 = .ok (.ifCond .ne 18, 3) := by decide +kernel
theorem dX7_firstWrong_185 : decode cX7_firstWrong 185 = .ok (.iload_n 3, 1) := by decide +kernel
theorem dX7_firstWrong_186 : decode cX7_firstWrong 186 = .ok (.aload_n 0, 1) := by decide +kernel
theorem dX7_firstWrong_187 : decode cX7_firstWrong 187 = .ok (.getfield 18, 3) := by decide +kernel
theorem dX7_firstWrong_190 : decode cX7_firstWrong 190 = .ok (.iload 4, 2) := by decide +kernel
theorem dX7_firstWrong_192 : decode cX7_firstWrong 192 = .ok (.aaload, 1) := by decide +kernel
theorem dX7_firstWrong_193 : decode cX7_firstWrong 193 = .ok (.bipush 20, 2) := by decide +kernel
theorem dX7_firstWrong_195 : decode cX7_firstWrong 195 = .ok (.invokevirtual 364, 3) := by decide +kernel
theorem dX7_firstWrong_198 : decode cX7_firstWrong 198 = .ok (.iadd, 1) := by decide +kernel
theorem dX7_firstWrong_199 : decode cX7_firstWrong 199 = .ok (.istore_n 3, 1) := by decide +kernel
theorem dX7_firstWrong_200 : decode cX7_firstWrong 200 = .ok (.iinc 4 1, 3) := by decide +kernel
theorem dX7_firstWrong_203 : decode cX7_firstWrong 203 = .ok (.goto (-49), 3) := by decide +kernel
theorem dX7_firstWrong_206 : decode cX7_firstWrong 206 = .ok (.iload_n 3, 1) := by decide +kernel
theorem dX7_firstWrong_207 : decode cX7_firstWrong 207 = .ok (.aload_n 0, 1) := by decide +kernel
theorem dX7_firstWrong_208 : decode cX7_firstWrong 208 = .ok (.getfield 45, 3) := by decide +kernel
theorem dX7_firstWrong_211 : decode cX7_firstWrong 211 = .ok (.getfield 275, 3) := by decide +kernel
theorem dX7_firstWrong_214 : decode cX7_firstWrong 214 = .ok (.if_icmp .le 10, 3) := by decide +kernel
theorem dX7_firstWrong_217 : decode cX7_firstWrong 217 = .ok (.aload_n 1, 1) := by decide +kernel
theorem dX7_firstWrong_218 : decode cX7_firstWrong 218 = .ok (.getfield 204, 3) := by decide +kernel
theorem dX7_firstWrong_221 : decode cX7_firstWrong 221 = .ok (.goto 4, 3) := by decide +kernel
theorem dX7_firstWrong_224 : decode cX7_firstWrong 224 = .ok (.iconst (-1), 1) := by decide +kernel
theorem dX7_firstWrong_225 : decode cX7_firstWrong 225 = .ok (.ireturn, 1) := by decide +kernel
theorem dX7_remember_0 : decode cX7_remember 0 = .ok (.aload_n 0, 1) := by decide +kernel
theorem dX7_remember_1 : decode cX7_remember 1 = .ok (.invokevirtual 303, 3) := by decide +kernel
theorem dX7_remember_4 : decode cX7_remember 4 = .ok (.aload_n 0, 1) := by decide +kernel
theorem dX7_remember_5 : decode cX7_remember 5 = .ok (.getfield 62, 3) := by decide +kernel
theorem dX7_remember_8 : decode cX7_remember 8 = .ok (.invokevirtual 367, 3) := by decide +kernel
theorem dX7_remember_11 : decode cX7_remember 11 = .ok (.astore 4, 2) := by decide +kernel
theorem dX7_remember_13 : decode cX7_remember 13 = .ok (.aload 4, 2) := by decide +kernel
theorem dX7_remember_15 : decode cX7_remember 15 = .ok (.iload_n 1, 1) := by decide +kernel
theorem dX7_remember_16 : decode cX7_remember 16 = .ok (.putfield 370, 3) := by decide +kernel
theorem dX7_remember_19 : decode cX7_remember 19 = .ok (.aload 4, 2) := by decide +kernel
theorem dX7_remember_21 : decode cX7_remember 21 = .ok (.iload_n 2, 1) := by decide +kernel
theorem dX7_remember_22 : decode cX7_remember 22 = .ok (.putfield 373, 3) := by decide +kernel
theorem dX7_remember_25 : decode cX7_remember 25 = .ok (.aload 4, 2) := by decide +kernel
theorem dX7_remember_27 : decode cX7_remember 27 = .ok (.iload_n 3, 1) := by decide +kernel
theorem dX7_remember_28 : decode cX7_remember 28 = .ok (.putfield 376, 3) := by decide +kernel
theorem dX7_remember_31 : decode cX7_remember 31 = .ok (.aload 4, 2) := by decide +kernel
theorem dX7_remember_33 : decode cX7_remember 33 = .ok (.areturn, 1) := by decide +kernel
theorem dX7_forgetFound_0 : decode cX7_forgetFound 0 = .ok (.aload_n 0, 1) := by decide +kernel
theorem dX7_forgetFound_1 : decode cX7_forgetFound 1 = .ok (.iconst 0, 1) := by decide +kernel
theorem dX7_forgetFound_2 : decode cX7_forgetFound 2 = .ok (.putfield 336, 3) := by decide +kernel
theorem dX7_forgetFound_5 : decode cX7_forgetFound 5 = .ok (.aload_n 0, 1) := by decide +kernel
theorem dX7_forgetFound_6 : decode cX7_forgetFound 6 = .ok (.iconst 0, 1) := by decide +kernel
theorem dX7_forgetFound_7 : decode cX7_forgetFound 7 = .ok (.putfield 354, 3) := by decide +kernel
theorem dX7_forgetFound_10 : decode cX7_forgetFound 10 = .ok (.return_, 1) := by decide +kernel
theorem dX7_oneLess_0 : decode cX7_oneLess 0 = .ok (.iconst 0, 1) := by decide +kernel
theorem dX7_oneLess_1 : decode cX7_oneLess 1 = .ok (.iload_n 0, 1) := by decide +kernel
theorem dX7_oneLess_2 : decode cX7_oneLess 2 = .ok (.iconst 1, 1) := by decide +kernel
theorem dX7_oneLess_3 : decode cX7_oneLess 3 = .ok (.isub, 1) := by decide +kernel
theorem dX7_oneLess_4 : decode cX7_oneLess 4 = .ok (.invokestatic 188, 3) := by decide +kernel
theorem dX7_oneLess_7 : decode cX7_oneLess 7 = .ok (.ireturn, 1) := by decide +kernel
theorem dX7_takeBack_0 : decode cX7_takeBack 0 = .ok (.aload_n 1, 1) := by decide +kernel
theorem dX7_takeBack_1 : decode cX7_takeBack 1 = .ok (.getfield 370, 3) := by decide +kernel
theorem dX7_takeBack_4 : decode cX7_takeBack 4 = .ok (.tableswitch 291 0 11 #[64, 78, 108, 127, 138, 149, 163, 191, 215, 235, 254, 273], 64) := by decide +kernel
theorem dX7_takeBack_68 : decode cX7_takeBack 68 = .ok (.aload_n 0, 1) := by decide +kernel
theorem dX7_takeBack_69 : decode cX7_takeBack 69 = .ok (.aload_n 0, 1) := by decide +kernel
theorem dX7_takeBack_70 : decode cX7_takeBack 70 = .ok (.getfield 89, 3) := by decide +kernel
theorem dX7_takeBack_73 : decode cX7_takeBack 73 = .ok (.invokestatic 379, 3) := by decide +kernel
theorem dX7_takeBack_76 : decode cX7_takeBack 76 = .ok (.putfield 89, 3) := by decide +kernel
theorem dX7_takeBack_79 : decode cX7_takeBack 79 = .ok (.goto 216, 3) := by decide +kernel
theorem dX7_takeBack_82 : decode cX7_takeBack 82 = .ok (.aload_n 0, 1) := by decide +kernel
theorem dX7_takeBack_83 : decode cX7_takeBack 83 = .ok (.getfield 18, 3) := by decide +kernel
theorem dX7_takeBack_86 : decode cX7_takeBack 86 = .ok (.aload_n 1, 1) := by decide +kernel
theorem dX7_takeBack_87 : decode cX7_takeBack 87 = .ok (.getfield 373, 3) := by decide +kernel
theorem dX7_takeBack_90 : decode cX7_takeBack 90 = .ok (.aaload, 1) := by decide +kernel
theorem dX7_takeBack_91 : decode cX7_takeBack 91 = .ok (.aload_n 0, 1) := by decide +kernel
theorem dX7_takeBack_92 : decode cX7_takeBack 92 = .ok (.getfield 18, 3) := by decide +kernel
theorem dX7_takeBack_95 : decode cX7_takeBack 95 = .ok (.aload_n 1, 1) := by decide +kernel
theorem dX7_takeBack_96 : decode cX7_takeBack 96 = .ok (.getfield 373, 3) := by decide +kernel
theorem dX7_takeBack_99 : decode cX7_takeBack 99 = .ok (.aaload, 1) := by decide +kernel
theorem dX7_takeBack_100 : decode cX7_takeBack 100 = .ok (.getfield 141, 3) := by decide +kernel
theorem dX7_takeBack_103 : decode cX7_takeBack 103 = .ok (.invokestatic 379, 3) := by decide +kernel
theorem dX7_takeBack_106 : decode cX7_takeBack 106 = .ok (.putfield 141, 3) := by decide +kernel
theorem dX7_takeBack_109 : decode cX7_takeBack 109 = .ok (.goto 186, 3) := by decide +kernel
theorem dX7_takeBack_112 : decode cX7_takeBack 112 = .ok (.aload_n 0, 1) := by decide +kernel
theorem dX7_takeBack_113 : decode cX7_takeBack 113 = .ok (.getfield 18, 3) := by decide +kernel
theorem dX7_takeBack_116 : decode cX7_takeBack 116 = .ok (.aload_n 1, 1) := by decide +kernel
theorem dX7_takeBack_117 : decode cX7_takeBack 117 = .ok (.getfield 373, 3) := by decide +kernel
theorem dX7_takeBack_120 : decode cX7_takeBack 120 = .ok (.aaload, 1) := by decide +kernel
theorem dX7_takeBack_121 : decode cX7_takeBack 121 = .ok (.aload_n 1, 1) := by decide +kernel
theorem dX7_takeBack_122 : decode cX7_takeBack 122 = .ok (.getfield 376, 3) := by decide +kernel
theorem dX7_takeBack_125 : decode cX7_takeBack 125 = .ok (.putfield 144, 3) := by decide +kernel
theorem dX7_takeBack_128 : decode cX7_takeBack 128 = .ok (.goto 167, 3) := by decide +kernel
theorem dX7_takeBack_131 : decode cX7_takeBack 131 = .ok (.aload_n 0, 1) := by decide +kernel
theorem dX7_takeBack_132 : decode cX7_takeBack 132 = .ok (.aload_n 1, 1) := by decide +kernel
theorem dX7_takeBack_133 : decode cX7_takeBack 133 = .ok (.getfield 376, 3) := by decide +kernel
theorem dX7_takeBack_136 : decode cX7_takeBack 136 = .ok (.putfield 171, 3) := by decide +kernel
theorem dX7_takeBack_139 : decode cX7_takeBack 139 = .ok (.goto 156, 3) := by decide +kernel
theorem dX7_takeBack_142 : decode cX7_takeBack 142 = .ok (.aload_n 0, 1) := by decide +kernel
theorem dX7_takeBack_143 : decode cX7_takeBack 143 = .ok (.aload_n 1, 1) := by decide +kernel
theorem dX7_takeBack_144 : decode cX7_takeBack 144 = .ok (.getfield 376, 3) := by decide +kernel
theorem dX7_takeBack_147 : decode cX7_takeBack 147 = .ok (.putfield 177, 3) := by decide +kernel
theorem dX7_takeBack_150 : decode cX7_takeBack 150 = .ok (.goto 145, 3) := by decide +kernel
theorem dX7_takeBack_153 : decode cX7_takeBack 153 = .ok (.aload_n 0, 1) := by decide +kernel
theorem dX7_takeBack_154 : decode cX7_takeBack 154 = .ok (.aload_n 0, 1) := by decide +kernel
theorem dX7_takeBack_155 : decode cX7_takeBack 155 = .ok (.getfield 211, 3) := by decide +kernel
theorem dX7_takeBack_158 : decode cX7_takeBack 158 = .ok (.invokestatic 379, 3) := by decide +kernel
theorem dX7_takeBack_161 : decode cX7_takeBack 161 = .ok (.putfield 211, 3) := by decide +kernel
theorem dX7_takeBack_164 : decode cX7_takeBack 164 = .ok (.goto 131, 3) := by decide +kernel
theorem dX7_takeBack_167 : decode cX7_takeBack 167 = .ok (.aload_n 0, 1) := by decide +kernel
theorem dX7_takeBack_168 : decode cX7_takeBack 168 = .ok (.aload_n 1, 1) := by decide +kernel
theorem dX7_takeBack_169 : decode cX7_takeBack 169 = .ok (.getfield 376, 3) := by decide +kernel
theorem dX7_takeBack_172 : decode cX7_takeBack 172 = .ok (.putfield 211, 3) := by decide +kernel
theorem dX7_takeBack_175 : decode cX7_takeBack 175 = .ok (.aload_n 1, 1) := by decide +kernel
theorem dX7_takeBack_176 : decode cX7_takeBack 176 = .ok (.getfield 214, 3) := by decide +kernel
theorem dX7_takeBack_179 : decode cX7_takeBack 179 = .ok (.iconst 0, 1) := by decide +kernel
theorem dX7_takeBack_180 : decode cX7_takeBack 180 = .ok (.aload_n 0, 1) := by decide +kernel
theorem dX7_takeBack_181 : decode cX7_takeBack 181 = .ok (.getfield 22, 3) := by decide +kernel
theorem dX7_takeBack_184 : decode cX7_takeBack 184 = .ok (.iconst 0, 1) := by decide +kernel
theorem dX7_takeBack_185 : decode cX7_takeBack 185 = .ok (.aload_n 0, 1) := by decide +kernel
theorem dX7_takeBack_186 : decode cX7_takeBack 186 = .ok (.getfield 211, 3) := by decide +kernel
theorem dX7_takeBack_189 : decode cX7_takeBack 189 = .ok (.invokestatic 219, 3) := by decide +kernel
theorem dX7_takeBack_192 : decode cX7_takeBack 192 = .ok (.goto 103, 3) := by decide +kernel
theorem dX7_takeBack_195 : decode cX7_takeBack 195 = .ok (.aload_n 0, 1) := by decide +kernel
theorem dX7_takeBack_196 : decode cX7_takeBack 196 = .ok (.aload_n 1, 1) := by decide +kernel
theorem dX7_takeBack_197 : decode cX7_takeBack 197 = .ok (.getfield 373, 3) := by decide +kernel
theorem dX7_takeBack_200 : decode cX7_takeBack 200 = .ok (.aload_n 1, 1) := by decide +kernel
theorem dX7_takeBack_201 : decode cX7_takeBack 201 = .ok (.getfield 376, 3) := by decide +kernel
theorem dX7_takeBack_204 : decode cX7_takeBack 204 = .ok (.iconst 1, 1) := by decide +kernel
theorem dX7_takeBack_205 : decode cX7_takeBack 205 = .ok (.if_icmp .ne 7, 3) := by decide +kernel
theorem dX7_takeBack_208 : decode cX7_takeBack 208 = .ok (.iconst 1, 1) := by decide +kernel
theorem dX7_takeBack_209 : decode cX7_takeBack 209 = .ok (.goto 4, 3) := by decide +kernel
theorem dX7_takeBack_212 : decode cX7_takeBack 212 = .ok (.iconst 0, 1) := by decide +kernel
theorem dX7_takeBack_213 : decode cX7_takeBack 213 = .ok (.invokevirtual 234, 3) := by decide +kernel
theorem dX7_takeBack_216 : decode cX7_takeBack 216 = .ok (.goto 79, 3) := by decide +kernel
theorem dX7_takeBack_219 : decode cX7_takeBack 219 = .ok (.aload_n 0, 1) := by decide +kernel
theorem dX7_takeBack_220 : decode cX7_takeBack 220 = .ok (.getfield 35, 3) := by decide +kernel
theorem dX7_takeBack_223 : decode cX7_takeBack 223 = .ok (.aload_n 0, 1) := by decide +kernel
theorem dX7_takeBack_224 : decode cX7_takeBack 224 = .ok (.getfield 35, 3) := by decide +kernel
theorem dX7_takeBack_227 : decode cX7_takeBack 227 = .ok (.getfield 251, 3) := by decide +kernel
theorem dX7_takeBack_230 : decode cX7_takeBack 230 = .ok (.invokestatic 379, 3) := by decide +kernel
theorem dX7_takeBack_233 : decode cX7_takeBack 233 = .ok (.putfield 251, 3) := by decide +kernel
theorem dX7_takeBack_236 : decode cX7_takeBack 236 = .ok (.goto 59, 3) := by decide +kernel
theorem dX7_takeBack_239 : decode cX7_takeBack 239 = .ok (.aload_n 0, 1) := by decide +kernel
theorem dX7_takeBack_240 : decode cX7_takeBack 240 = .ok (.getfield 18, 3) := by decide +kernel
theorem dX7_takeBack_243 : decode cX7_takeBack 243 = .ok (.aload_n 1, 1) := by decide +kernel
theorem dX7_takeBack_244 : decode cX7_takeBack 244 = .ok (.getfield 373, 3) := by decide +kernel
theorem dX7_takeBack_247 : decode cX7_takeBack 247 = .ok (.aaload, 1) := by decide +kernel
theorem dX7_takeBack_248 : decode cX7_takeBack 248 = .ok (.aload_n 1, 1) := by decide +kernel
theorem dX7_takeBack_249 : decode cX7_takeBack 249 = .ok (.getfield 376, 3) := by decide +kernel
theorem dX7_takeBack_252 : decode cX7_takeBack 252 = .ok (.putfield 263, 3) := by decide +kernel
theorem dX7_takeBack_255 : decode cX7_takeBack 255 = .ok (.goto 40, 3) := by decide +kernel
theorem dX7_takeBack_258 : decode cX7_takeBack 258 = .ok (.aload_n 0, 1) := by decide +kernel
theorem dX7_takeBack_259 : decode cX7_takeBack 259 = .ok (.getfield 18, 3) := by decide +kernel
theorem dX7_takeBack_262 : decode cX7_takeBack 262 = .ok (.aload_n 1, 1) := by decide +kernel
theorem dX7_takeBack_263 : decode cX7_takeBack 263 = .ok (.getfield 373, 3) := by decide +kernel
theorem dX7_takeBack_266 : decode cX7_takeBack 266 = .ok (.aaload, 1) := by decide +kernel
theorem dX7_takeBack_267 : decode cX7_takeBack 267 = .ok (.aload_n 1, 1) := by decide +kernel
theorem dX7_takeBack_268 : decode cX7_takeBack 268 = .ok (.getfield 376, 3) := by decide +kernel
theorem dX7_takeBack_271 : decode cX7_takeBack 271 = .ok (.putfield 266, 3) := by decide +kernel
theorem dX7_takeBack_274 : decode cX7_takeBack 274 = .ok (.goto 21, 3) := by decide +kernel
theorem dX7_takeBack_277 : decode cX7_takeBack 277 = .ok (.aload_n 1, 1) := by decide +kernel
theorem dX7_takeBack_278 : decode cX7_takeBack 278 = .ok (.getfield 214, 3) := by decide +kernel
theorem dX7_takeBack_281 : decode cX7_takeBack 281 = .ok (.iconst 0, 1) := by decide +kernel
theorem dX7_takeBack_282 : decode cX7_takeBack 282 = .ok (.aload_n 0, 1) := by decide +kernel
theorem dX7_takeBack_283 : decode cX7_takeBack 283 = .ok (.getfield 39, 3) := by decide +kernel
theorem dX7_takeBack_286 : decode cX7_takeBack 286 = .ok (.iconst 0, 1) := by decide +kernel
theorem dX7_takeBack_287 : decode cX7_takeBack 287 = .ok (.bipush 20, 2) := by decide +kernel
theorem dX7_takeBack_289 : decode cX7_takeBack 289 = .ok (.invokestatic 219, 3) := by decide +kernel
theorem dX7_takeBack_292 : decode cX7_takeBack 292 = .ok (.goto 3, 3) := by decide +kernel
theorem dX7_takeBack_295 : decode cX7_takeBack 295 = .ok (.return_, 1) := by decide +kernel
