theorem dX8_seas_50 : decode cX8_seas 50 = .ok (.iaload, 1) := by decide +kernel
theorem dX8_seas_51 : decode cX8_seas 51 = .ok (.if_icmp .ge 48, 3) := by decide +kernel
theorem dX8_seas_54 : decode cX8_seas 54 = .ok (.aload_n 0, 1) := by decide +kernel
theorem dX8_seas_55 : decode cX8_seas 55 = .ok (.getfield 25, 3) := by decide +kernel
theorem dX8_seas_58 : decode cX8_seas 58 = .ok (.bipush 30, 2) := by decide +kernel
theorem dX8_seas_60 : decode cX8_seas 60 = .ok (.iload_n 1, 1) := by decide +kernel
theorem dX8_seas_61 : decode cX8_seas 61 = .ok (.imul, 1) := by decide +kernel
theorem dX8_seas_62 : decode cX8_seas 62 = .ok (.iload_n 3, 1) := by decide +kernel
theorem dX8_seas_63 : decode cX8_seas 63 = .ok (.iadd, 1) := by decide +kernel
theorem dX8_seas_64 : decode cX8_seas 64 = .ok (.iaload, 1) := by decide +kernel
theorem dX8_seas_65 : decode cX8_seas 65 = .ok (.istore 4, 2) := by decide +kernel
theorem dX8_seas_67 : decode cX8_seas 67 = .ok (.iload 4, 2) := by decide +kernel
theorem dX8_seas_69 : decode cX8_seas 69 = .ok (.iconst 0, 1) := by decide +kernel
theorem dX8_seas_70 : decode cX8_seas 70 = .ok (.bipush 9, 2) := by decide +kernel
theorem dX8_seas_72 : decode cX8_seas 72 = .ok (.invokestatic 41, 3) := by decide +kernel
theorem dX8_seas_75 : decode cX8_seas 75 = .ok (.ifCond .eq 18, 3) := by decide +kernel
theorem dX8_seas_78 : decode cX8_seas 78 = .ok (.aload_n 0, 1) := by decide +kernel
theorem dX8_seas_79 : decode cX8_seas 79 = .ok (.getfield 9, 3) := by decide +kernel
theorem dX8_seas_82 : decode cX8_seas 82 = .ok (.sipush 366, 3) := by decide +kernel
theorem dX8_seas_85 : decode cX8_seas 85 = .ok (.iload_n 3, 1) := by decide +kernel
theorem dX8_seas_86 : decode cX8_seas 86 = .ok (.iadd, 1) := by decide +kernel
theorem dX8_seas_87 : decode cX8_seas 87 = .ok (.iload 4, 2) := by decide +kernel
theorem dX8_seas_89 : decode cX8_seas 89 = .ok (.iastore, 1) := by decide +kernel
theorem dX8_seas_90 : decode cX8_seas 90 = .ok (.iinc 2 1, 3) := by decide +kernel
theorem dX8_seas_93 : decode cX8_seas 93 = .ok (.iinc 3 1, 3) := by decide +kernel
theorem dX8_seas_96 : decode cX8_seas 96 = .ok (.goto (-58), 3) := by decide +kernel
theorem dX8_seas_99 : decode cX8_seas 99 = .ok (.iload_n 2, 1) := by decide +kernel
theorem dX8_seas_100 : decode cX8_seas 100 = .ok (.ireturn, 1) := by decide +kernel
theorem dX8_overdueOf_0 : decode cX8_overdueOf 0 = .ok (.iconst 0, 1) := by decide +kernel
theorem dX8_overdueOf_1 : decode cX8_overdueOf 1 = .ok (.iload_n 2, 1) := by decide +kernel
theorem dX8_overdueOf_2 : decode cX8_overdueOf 2 = .ok (.aload_n 0, 1) := by decide +kernel
theorem dX8_overdueOf_3 : decode cX8_overdueOf 3 = .ok (.getfield 9, 3) := by decide +kernel
theorem dX8_overdueOf_6 : decode cX8_overdueOf 6 = .ok (.iload_n 1, 1) := by decide +kernel
theorem dX8_overdueOf_7 : decode cX8_overdueOf 7 = .ok (.bipush 8, 2) := by decide +kernel
theorem dX8_overdueOf_9 : decode cX8_overdueOf 9 = .ok (.invokestatic 45, 3) := by decide +kernel
theorem dX8_overdueOf_12 : decode cX8_overdueOf 12 = .ok (.iaload, 1) := by decide +kernel
theorem dX8_overdueOf_13 : decode cX8_overdueOf 13 = .ok (.isub, 1) := by decide +kernel
theorem dX8_overdueOf_14 : decode cX8_overdueOf 14 = .ok (.bipush 10, 2) := by decide +kernel
theorem dX8_overdueOf_16 : decode cX8_overdueOf 16 = .ok (.isub, 1) := by decide +kernel
theorem dX8_overdueOf_17 : decode cX8_overdueOf 17 = .ok (.invokestatic 157, 3) := by decide +kernel
theorem dX8_overdueOf_20 : decode cX8_overdueOf 20 = .ok (.ireturn, 1) := by decide +kernel
theorem dX8_isLandable_0 : decode cX8_isLandable 0 = .ok (.aload_n 0, 1) := by decide +kernel
theorem dX8_isLandable_1 : decode cX8_isLandable 1 = .ok (.iload_n 1, 1) := by decide +kernel
theorem dX8_isLandable_2 : decode cX8_isLandable 2 = .ok (.invokevirtual 120, 3) := by decide +kernel
theorem dX8_isLandable_5 : decode cX8_isLandable 5 = .ok (.ifCond .eq 39, 3) := by decide +kernel
theorem dX8_isLandable_8 : decode cX8_isLandable 8 = .ok (.aload_n 0, 1) := by decide +kernel
theorem dX8_isLandable_9 : decode cX8_isLandable 9 = .ok (.iload_n 1, 1) := by decide +kernel
theorem dX8_isLandable_10 : decode cX8_isLandable 10 = .ok (.invokevirtual 193, 3) := by decide +kernel
theorem dX8_isLandable_13 : decode cX8_isLandable 13 = .ok (.ifCond .eq 31, 3) := by decide +kernel
theorem dX8_isLandable_16 : decode cX8_isLandable 16 = .ok (.aload_n 0, 1) := by decide +kernel
theorem dX8_isLandable_17 : decode cX8_isLandable 17 = .ok (.getfield 9, 3) := by decide +kernel
theorem dX8_isLandable_20 : decode cX8_isLandable 20 = .ok (.sipush 366, 3) := by decide +kernel
theorem dX8_isLandable_23 : decode cX8_isLandable 23 = .ok (.iload_n 2, 1) := by decide +kernel
theorem dX8_isLandable_24 : decode cX8_isLandable 24 = .ok (.iadd, 1) := by decide +kernel
theorem dX8_isLandable_25 : decode cX8_isLandable 25 = .ok (.iaload, 1) := by decide +kernel
theorem dX8_isLandable_26 : decode cX8_isLandable 26 = .ok (.aload_n 0, 1) := by decide +kernel
theorem dX8_isLandable_27 : decode cX8_isLandable 27 = .ok (.getfield 9, 3) := by decide +kernel
theorem dX8_isLandable_30 : decode cX8_isLandable 30 = .ok (.iload_n 1, 1) := by decide +kernel
theorem dX8_isLandable_31 : decode cX8_isLandable 31 = .ok (.bipush 9, 2) := by decide +kernel
theorem dX8_isLandable_33 : decode cX8_isLandable 33 = .ok (.invokestatic 45, 3) := by decide +kernel
theorem dX8_isLandable_36 : decode cX8_isLandable 36 = .ok (.iaload, 1) := by decide +kernel
theorem dX8_isLandable_37 : decode cX8_isLandable 37 = .ok (.if_icmp .gt 7, 3) := by decide +kernel
theorem dX8_isLandable_40 : decode cX8_isLandable 40 = .ok (.iconst 1, 1) := by decide +kernel
theorem dX8_isLandable_41 : decode cX8_isLandable 41 = .ok (.goto 4, 3) := by decide +kernel
theorem dX8_isLandable_44 : decode cX8_isLandable 44 = .ok (.iconst 0, 1) := by decide +kernel
theorem dX8_isLandable_45 : decode cX8_isLandable 45 = .ok (.ireturn, 1) := by decide +kernel
theorem dX8_restOf_0 : decode cX8_restOf 0 = .ok (.iconst 0, 1) := by decide +kernel
theorem dX8_restOf_1 : decode cX8_restOf 1 = .ok (.istore_n 2, 1) := by decide +kernel
theorem dX8_restOf_2 : decode cX8_restOf 2 = .ok (.iconst 0, 1) := by decide +kernel
theorem dX8_restOf_3 : decode cX8_restOf 3 = .ok (.istore_n 3, 1) := by decide +kernel
theorem dX8_restOf_4 : decode cX8_restOf 4 = .ok (.iload_n 3, 1) := by decide +kernel
theorem dX8_restOf_5 : decode cX8_restOf 5 = .ok (.aload_n 0, 1) := by decide +kernel
theorem dX8_restOf_6 : decode cX8_restOf 6 = .ok (.getfield 9, 3) := by decide +kernel
theorem dX8_restOf_9 : decode cX8_restOf 9 = .ok (.iconst 0, 1) := by decide +kernel
theorem dX8_restOf_10 : decode cX8_restOf 10 = .ok (.iaload, 1) := by decide +kernel
theorem dX8_restOf_11 : decode cX8_restOf 11 = .ok (.if_icmp .ge 39, 3) := by decide +kernel
theorem dX8_restOf_14 : decode cX8_restOf 14 = .ok (.iload_n 2, 1) := by decide +kernel
theorem dX8_restOf_15 : decode cX8_restOf 15 = .ok (.aload_n 0, 1) := by decide +kernel
theorem dX8_restOf_16 : decode cX8_restOf 16 = .ok (.iload_n 3, 1) := by decide +kernel
theorem dX8_restOf_17 : decode cX8_restOf 17 = .ok (.invokevirtual 193, 3) := by decide +kernel
theorem dX8_restOf_20 : decode cX8_restOf 20 = .ok (.ifCond .eq 21, 3) := by decide +kernel
theorem dX8_restOf_23 : decode cX8_restOf 23 = .ok (.iload_n 1, 1) := by decide +kernel
theorem dX8_restOf_24 : decode cX8_restOf 24 = .ok (.iload_n 3, 1) := by decide +kernel
theorem dX8_restOf_25 : decode cX8_restOf 25 = .ok (.ishr, 1) := by decide +kernel
theorem dX8_restOf_26 : decode cX8_restOf 26 = .ok (.iconst 1, 1) := by decide +kernel
theorem dX8_restOf_27 : decode cX8_restOf 27 = .ok (.iand, 1) := by decide +kernel
theorem dX8_restOf_28 : decode cX8_restOf 28 = .ok (.ifCond .ne 13, 3) := by decide +kernel
theorem dX8_restOf_31 : decode cX8_restOf 31 = .ok (.aload_n 0, 1) := by decide +kernel
theorem dX8_restOf_32 : decode cX8_restOf 32 = .ok (.iload_n 3, 1) := by decide +kernel
theorem dX8_restOf_33 : decode cX8_restOf 33 = .ok (.bipush 20, 2) := by decide +kernel
theorem dX8_restOf_35 : decode cX8_restOf 35 = .ok (.invokevirtual 200, 3) := by decide +kernel
theorem dX8_restOf_38 : decode cX8_restOf 38 = .ok (.goto 4, 3) := by decide +kernel
theorem dX8_restOf_41 : decode cX8_restOf 41 = .ok (.iconst 0, 1) := by decide +kernel
theorem dX8_restOf_42 : decode cX8_restOf 42 = .ok (.iadd, 1) := by decide +kernel
theorem dX8_restOf_43 : decode cX8_restOf 43 = .ok (.istore_n 2, 1) := by decide +kernel
theorem dX8_restOf_44 : decode cX8_restOf 44 = .ok (.iinc 3 1, 3) := by decide +kernel
theorem dX8_restOf_47 : decode cX8_restOf 47 = .ok (.goto (-43), 3) := by decide +kernel
theorem dX8_restOf_50 : decode cX8_restOf 50 = .ok (.iload_n 2, 1) := by decide +kernel
theorem dX8_restOf_51 : decode cX8_restOf 51 = .ok (.ireturn, 1) := by decide +kernel
theorem dX8_byLanding_0 : decode cX8_byLanding 0 = .ok (.aload_n 0, 1) := by decide +kernel
theorem dX8_byLanding_1 : decode cX8_byLanding 1 = .ok (.iload_n 1, 1) := by decide +kernel
theorem dX8_byLanding_2 : decode cX8_byLanding 2 = .ok (.iload_n 2, 1) := by decide +kernel
theorem dX8_byLanding_3 : decode cX8_byLanding 3 = .ok (.invokevirtual 200, 3) := by decide +kernel
theorem dX8_byLanding_6 : decode cX8_byLanding 6 = .ok (.aload_n 0, 1) := by decide +kernel
theorem dX8_byLanding_7 : decode cX8_byLanding 7 = .ok (.getfield 31, 3) := by decide +kernel
theorem dX8_byLanding_10 : decode cX8_byLanding 10 = .ok (.sipush 1024, 3) := by decide +kernel
theorem dX8_byLanding_13 : decode cX8_byLanding 13 = .ok (.iload_n 2, 1) := by decide +kernel
theorem dX8_byLanding_14 : decode cX8_byLanding 14 = .ok (.iconst 1, 1) := by decide +kernel
theorem dX8_byLanding_15 : decode cX8_byLanding 15 = .ok (.iadd, 1) := by decide +kernel
theorem dX8_byLanding_16 : decode cX8_byLanding 16 = .ok (.imul, 1) := by decide +kernel
theorem dX8_byLanding_17 : decode cX8_byLanding 17 = .ok (.iload_n 3, 1) := by decide +kernel
theorem dX8_byLanding_18 : decode cX8_byLanding 18 = .ok (.iconst 1, 1) := by decide +kernel
theorem dX8_byLanding_19 : decode cX8_byLanding 19 = .ok (.iload_n 1, 1) := by decide +kernel
theorem dX8_byLanding_20 : decode cX8_byLanding 20 = .ok (.ishl, 1) := by decide +kernel
theorem dX8_byLanding_21 : decode cX8_byLanding 21 = .ok (.ior, 1) := by decide +kernel
theorem dX8_byLanding_22 : decode cX8_byLanding 22 = .ok (.iadd, 1) := by decide +kernel
theorem dX8_byLanding_23 : decode cX8_byLanding 23 = .ok (.iaload, 1) := by decide +kernel
theorem dX8_byLanding_24 : decode cX8_byLanding 24 = .ok (.iadd, 1) := by decide +kernel
theorem dX8_byLanding_25 : decode cX8_byLanding 25 = .ok (.ireturn, 1) := by decide +kernel
theorem dX8_findLandings_0 : decode cX8_findLandings 0 = .ok (.iconst 1, 1) := by decide +kernel
theorem dX8_findLandings_1 : decode cX8_findLandings 1 = .ok (.aload_n 0, 1) := by decide +kernel
theorem dX8_findLandings_2 : decode cX8_findLandings 2 = .ok (.getfield 9, 3) := by decide +kernel
theorem dX8_findLandings_5 : decode cX8_findLandings 5 = .ok (.iconst 0, 1) := by decide +kernel
theorem dX8_findLandings_6 : decode cX8_findLandings 6 = .ok (.iaload, 1) := by decide +kernel
theorem dX8_findLandings_7 : decode cX8_findLandings 7 = .ok (.ishl, 1) := by decide +kernel
theorem dX8_findLandings_8 : decode cX8_findLandings 8 = .ok (.istore_n 1, 1) := by decide +kernel
theorem dX8_findLandings_9 : decode cX8_findLandings 9 = .ok (.iconst 0, 1) := by decide +kernel
theorem dX8_findLandings_10 : decode cX8_findLandings 10 = .ok (.istore_n 2, 1) := by decide +kernel
theorem dX8_findLandings_11 : decode cX8_findLandings 11 = .ok (.iload_n 2, 1) := by decide +kernel
theorem dX8_findLandings_12 : decode cX8_findLandings 12 = .ok (.iload_n 1, 1) := by decide +kernel
theorem dX8_findLandings_13 : decode cX8_findLandings 13 = .ok (.if_icmp .ge 24, 3) := by decide +kernel
theorem dX8_findLandings_16 : decode cX8_findLandings 16 = .ok (.aload_n 0, 1) := by decide +kernel
theorem dX8_findLandings_17 : decode cX8_findLandings 17 = .ok (.getfield 31, 3) := by decide +kernel
theorem dX8_findLandings_20 : decode cX8_findLandings 20 = .ok (.sipush 20480, 3) := by decide +kernel
theorem dX8_findLandings_23 : decode cX8_findLandings 23 = .ok (.iload_n 2, 1) := by decide +kernel
theorem dX8_findLandings_24 : decode cX8_findLandings 24 = .ok (.iadd, 1) := by decide +kernel
theorem dX8_findLandings_25 : decode cX8_findLandings 25 = .ok (.aload_n 0, 1) := by decide +kernel
theorem dX8_findLandings_26 : decode cX8_findLandings 26 = .ok (.iload_n 2, 1) := by decide +kernel
theorem dX8_findLandings_27 : decode cX8_findLandings 27 = .ok (.invokevirtual 203, 3) := by decide +kernel
theorem dX8_findLandings_30 : decode cX8_findLandings 30 = .ok (.iastore, 1) := by decide +kernel
theorem dX8_findLandings_31 : decode cX8_findLandings 31 = .ok (.iinc 2 1, 3) := by decide +kernel
theorem dX8_findLandings_34 : decode cX8_findLandings 34 = .ok (.goto (-23), 3) := by decide +kernel
theorem dX8_findLandings_37 : decode cX8_findLandings 37 = .ok (.bipush 19, 2) := by decide +kernel
theorem dX8_findLandings_39 : decode cX8_findLandings 39 = .ok (.istore_n 2, 1) := by decide +kernel
theorem dX8_findLandings_40 : decode cX8_findLandings 40 = .ok (.iload_n 2, 1) := by decide +kernel
theorem dX8_findLandings_41 : decode cX8_findLandings 41 = .ok (.aload_n 0, 1) := by decide +kernel
theorem dX8_findLandings_42 : decode cX8_findLandings 42 = .ok (.getfield 9, 3) := by decide +kernel
theorem dX8_findLandings_45 : decode cX8_findLandings 45 = .ok (.iconst 5, 1) := by decide +kernel
theorem dX8_findLandings_46 : decode cX8_findLandings 46 = .ok (.iaload, 1) := by decide +kernel
theorem dX8_findLandings_47 : decode cX8_findLandings 47 = .ok (.if_icmp .lt 106, 3) := by decide +kernel
theorem dX8_findLandings_50 : decode cX8_findLandings 50 = .ok (.iconst 0, 1) := by decide +kernel
theorem dX8_findLandings_51 : decode cX8_findLandings 51 = .ok (.istore_n 3, 1) := by decide +kernel
theorem dX8_findLandings_52 : decode cX8_findLandings 52 = .ok (.iload_n 3, 1) := by decide +kernel
theorem dX8_findLandings_53 : decode cX8_findLandings 53 = .ok (.iload_n 1, 1) := by decide +kernel
theorem dX8_findLandings_54 : decode cX8_findLandings 54 = .ok (.if_icmp .ge 93, 3) := by decide +kernel
theorem dX8_findLandings_57 : decode cX8_findLandings 57 = .ok (.aload_n 0, 1) := by decide +kernel
theorem dX8_findLandings_58 : decode cX8_findLandings 58 = .ok (.getfield 31, 3) := by decide +kernel
theorem dX8_findLandings_61 : decode cX8_findLandings 61 = .ok (.sipush 1024, 3) := by decide +kernel
theorem dX8_findLandings_64 : decode cX8_findLandings 64 = .ok (.iload_n 2, 1) := by decide +kernel
theorem dX8_findLandings_65 : decode cX8_findLandings 65 = .ok (.iconst 1, 1) := by decide +kernel
theorem dX8_findLandings_66 : decode cX8_findLandings 66 = .ok (.iadd, 1) := by decide +kernel
theorem dX8_findLandings_67 : decode cX8_findLandings 67 = .ok (.imul, 1) := by decide +kernel
theorem dX8_findLandings_68 : decode cX8_findLandings 68 = .ok (.iload_n 3, 1) := by decide +kernel
theorem dX8_findLandings_69 : decode cX8_findLandings 69 = .ok (.iadd, 1) := by decide +kernel
theorem dX8_findLandings_70 : decode cX8_findLandings 70 = .ok (.iaload, 1) := by decide +kernel
theorem dX8_findLandings_71 : decode cX8_findLandings 71 = .ok (.istore 4, 2) := by decide +kernel
theorem dX8_findLandings_73 : decode cX8_findLandings 73 = .ok (.iconst 0, 1) := by decide +kernel
theorem dX8_findLandings_74 : decode cX8_findLandings 74 = .ok (.istore 5, 2) := by decide +kernel
theorem dX8_findLandings_76 : decode cX8_findLandings 76 = .ok (.iload 5, 2) := by decide +kernel
theorem dX8_findLandings_78 : decode cX8_findLandings 78 = .ok (.aload_n 0, 1) := by decide +kernel
theorem dX8_findLandings_79 : decode cX8_findLandings 79 = .ok (.getfield 9, 3) := by decide +kernel
theorem dX8_findLandings_82 : decode cX8_findLandings 82 = .ok (.iconst 0, 1) := by decide +kernel
theorem dX8_findLandings_83 : decode cX8_findLandings 83 = .ok (.iaload, 1) := by decide +kernel
theorem dX8_findLandings_84 : decode cX8_findLandings 84 = .ok (.if_icmp .ge 43, 3) := by decide +kernel
theorem dX8_findLandings_87 : decode cX8_findLandings 87 = .ok (.iload_n 3, 1) := by decide +kernel
theorem dX8_findLandings_88 : decode cX8_findLandings 88 = .ok (.iload 5, 2) := by decide +kernel
theorem dX8_findLandings_90 : decode cX8_findLandings 90 = .ok (.ishr, 1) := by decide +kernel
theorem dX8_findLandings_91 : decode cX8_findLandings 91 = .ok (.iconst 1, 1) := by decide +kernel
theorem dX8_findLandings_92 : decode cX8_findLandings 92 = .ok (.iand, 1) := by decide +kernel
theorem dX8_findLandings_93 : decode cX8_findLandings 93 = .ok (.ifCond .ne 28, 3) := by decide +kernel
theorem dX8_findLandings_96 : decode cX8_findLandings 96 = .ok (.aload_n 0, 1) := by decide +kernel
theorem dX8_findLandings_97 : decode cX8_findLandings 97 = .ok (.iload 5, 2) := by decide +kernel
theorem dX8_findLandings_99 : decode cX8_findLandings 99 = .ok (.iload_n 2, 1) := by decide +kernel
theorem dX8_findLandings_100 : decode cX8_findLandings 100 = .ok (.invokevirtual 206, 3) := by decide +kernel
theorem dX8_findLandings_103 : decode cX8_findLandings 103 = .ok (.ifCond .eq 18, 3) := by decide +kernel
theorem dX8_findLandings_106 : decode cX8_findLandings 106 = .ok (.iload 4, 2) := by decide +kernel
theorem dX8_findLandings_108 : decode cX8_findLandings 108 = .ok (.aload_n 0, 1) := by decide +kernel
theorem dX8_findLandings_109 : decode cX8_findLandings 109 = .ok (.iload 5, 2) := by decide +kernel
theorem dX8_findLandings_111 : decode cX8_findLandings 111 = .ok (.iload_n 2, 1) := by decide +kernel
theorem dX8_findLandings_112 : decode cX8_findLandings 112 = .ok (.iload_n 3, 1) := by decide +kernel
theorem dX8_findLandings_113 : decode cX8_findLandings 113 = .ok (.invokevirtual 209, 3) := by decide +kernel
theorem dX8_findLandings_116 : decode cX8_findLandings 116 = .ok (.invokestatic 184, 3) := by decide +kernel
theorem dX8_findLandings_119 : decode cX8_findLandings 119 = .ok (.istore 4, 2) := by decide +kernel
theorem dX8_findLandings_121 : decode cX8_findLandings 121 = .ok (.iinc 5 1, 3) := by decide +kernel
theorem dX8_findLandings_124 : decode cX8_findLandings 124 = .ok (.goto (-48), 3) := by decide +kernel
theorem dX8_findLandings_127 : decode cX8_findLandings 127 = .ok (.aload_n 0, 1) := by decide +kernel
theorem dX8_findLandings_128 : decode cX8_findLandings 128 = .ok (.getfield 31, 3) := by decide +kernel
theorem dX8_findLandings_131 : decode cX8_findLandings 131 = .ok (.sipush 1024, 3) := by decide +kernel
theorem dX8_findLandings_134 : decode cX8_findLandings 134 = .ok (.iload_n 2, 1) := by decide +kernel
theorem dX8_findLandings_135 : decode cX8_findLandings 135 = .ok (.imul, 1) := by decide +kernel
theorem dX8_findLandings_136 : decode cX8_findLandings 136 = .ok (.iload_n 3, 1) := by decide +kernel
theorem dX8_findLandings_137 : decode cX8_findLandings 137 = .ok (.iadd, 1) := by decide +kernel
theorem dX8_findLandings_138 : decode cX8_findLandings 138 = .ok (.iload 4, 2) := by decide +kernel
theorem dX8_findLandings_140 : decode cX8_findLandings 140 = .ok (.iastore, 1) := by decide +kernel
theorem dX8_findLandings_141 : decode cX8_findLandings 141 = .ok (.iinc 3 1, 3) := by decide +kernel
theorem dX8_findLandings_144 : decode cX8_findLandings 144 = .ok (.goto (-92), 3) := by decide +kernel
theorem dX8_findLandings_147 : decode cX8_findLandings 147 = .ok (.iinc 2 (-1), 3) := by decide +kernel
theorem dX8_findLandings_150 : decode cX8_findLandings 150 = .ok (.goto (-110), 3) := by decide +kernel
theorem dX8_findLandings_153 : decode cX8_findLandings 153 = .ok (.return_, 1) := by decide +kernel
theorem dX8_overdue_0 : decode cX8_overdue 0 = .ok (.aload_n 0, 1) := by decide +kernel
theorem dX8_overdue_1 : decode cX8_overdue 1 = .ok (.invokevirtual 212, 3) := by decide +kernel
theorem dX8_overdue_4 : decode cX8_overdue 4 = .ok (.aload_n 0, 1) := by decide +kernel
theorem dX8_overdue_5 : decode cX8_overdue 5 = .ok (.getfield 31, 3) := by decide +kernel
theorem dX8_overdue_8 : decode cX8_overdue 8 = .ok (.sipush 1024, 3) := by decide +kernel
theorem dX8_overdue_11 : decode cX8_overdue 11 = .ok (.aload_n 0, 1) := by decide +kernel
theorem dX8_overdue_12 : decode cX8_overdue 12 = .ok (.getfield 9, 3) := by decide +kernel
theorem dX8_overdue_15 : decode cX8_overdue 15 = .ok (.iconst 5, 1) := by decide +kernel
theorem dX8_overdue_16 : decode cX8_overdue 16 = .ok (.iaload, 1) := by decide +kernel
theorem dX8_overdue_17 : decode cX8_overdue 17 = .ok (.imul, 1) := by decide +kernel
theorem dX8_overdue_18 : decode cX8_overdue 18 = .ok (.iaload, 1) := by decide +kernel
theorem dX8_overdue_19 : decode cX8_overdue 19 = .ok (.ireturn, 1) := by decide +kernel
theorem dX8_firstOn_0 : decode cX8_firstOn 0 = .ok (.aload_n 0, 1) := by decide +kernel
theorem dX8_firstOn_1 : decode cX8_firstOn 1 = .ok (.getfield 31, 3) := by decide +kernel
theorem dX8_firstOn_4 : decode cX8_firstOn 4 = .ok (.sipush 1024, 3) := by decide +kernel
theorem dX8_firstOn_7 : decode cX8_firstOn 7 = .ok (.iload_n 1, 1) := by decide +kernel
theorem dX8_firstOn_8 : decode cX8_firstOn 8 = .ok (.imul, 1) := by decide +kernel
theorem dX8_firstOn_9 : decode cX8_firstOn 9 = .ok (.iload_n 2, 1) := by decide +kernel
theorem dX8_firstOn_10 : decode cX8_firstOn 10 = .ok (.iadd, 1) := by decide +kernel
theorem dX8_firstOn_11 : decode cX8_firstOn 11 = .ok (.iaload, 1) := by decide +kernel
theorem dX8_firstOn_12 : decode cX8_firstOn 12 = .ok (.istore_n 3, 1) := by decide +kernel
theorem dX8_firstOn_13 : decode cX8_firstOn 13 = .ok (.aload_n 0, 1) := by decide +kernel
theorem dX8_firstOn_14 : decode cX8_firstOn 14 = .ok (.getfield 31, 3) := by decide +kernel
theorem dX8_firstOn_17 : decode cX8_firstOn 17 = .ok (.sipush 1024, 3) := by decide +kernel
theorem dX8_firstOn_20 : decode cX8_firstOn 20 = .ok (.iload_n 1, 1) := by decide +kernel
theorem dX8_firstOn_21 : decode cX8_firstOn 21 = .ok (.iconst 1, 1) := by decide +kernel
theorem dX8_firstOn_22 : decode cX8_firstOn 22 = .ok (.iadd, 1) := by decide +kernel
theorem dX8_firstOn_23 : decode cX8_firstOn 23 = .ok (.imul, 1) := by decide +kernel
theorem dX8_firstOn_24 : decode cX8_firstOn 24 = .ok (.iload_n 2, 1) := by decide +kernel
theorem dX8_firstOn_25 : decode cX8_firstOn 25 = .ok (.iadd, 1) := by decide +kernel
theorem dX8_firstOn_26 : decode cX8_firstOn 26 = .ok (.iaload, 1) := by decide +kernel
theorem dX8_firstOn_27 : decode cX8_firstOn 27 = .ok (.iload_n 3, 1) := by decide +kernel
theorem dX8_firstOn_28 : decode cX8_firstOn 28 = .ok (.if_icmp .ne 5, 3) := by decide +kernel
theorem dX8_firstOn_31 : decode cX8_firstOn 31 = .ok (.iconst (-1), 1) := by decide +kernel
theorem dX8_firstOn_32 : decode cX8_firstOn 32 = .ok (.ireturn, 1) := by decide +kernel
theorem dX8_firstOn_33 : decode cX8_firstOn 33 = .ok (.iconst 0, 1) := by decide +kernel
theorem dX8_firstOn_34 : decode cX8_firstOn 34 = .ok (.istore 4, 2) := by decide +kernel
theorem dX8_firstOn_36 : decode cX8_firstOn 36 = .ok (.iload_n 2, 1) := by decide +kernel
theorem dX8_firstOn_37 : decode cX8_firstOn 37 = .ok (.iload 4, 2) := by decide +kernel
theorem dX8_firstOn_39 : decode cX8_firstOn 39 = .ok (.ishr, 1) := by decide +kernel
theorem dX8_firstOn_40 : decode cX8_firstOn 40 = .ok (.iconst 1, 1) := by decide +kernel
theorem dX8_firstOn_41 : decode cX8_firstOn 41 = .ok (.iand, 1) := by decide +kernel
theorem dX8_firstOn_42 : decode cX8_firstOn 42 = .ok (.iconst 1, 1) := by decide +kernel
theorem dX8_firstOn_43 : decode cX8_firstOn 43 = .ok (.if_icmp .eq 25, 3) := by decide +kernel
theorem dX8_firstOn_46 : decode cX8_firstOn 46 = .ok (.aload_n 0, 1) := by decide +kernel
theorem dX8_firstOn_47 : decode cX8_firstOn 47 = .ok (.iload 4, 2) := by decide +kernel
theorem dX8_firstOn_49 : decode cX8_firstOn 49 = .ok (.iload_n 1, 1) := by decide +kernel
theorem dX8_firstOn_50 : decode cX8_firstOn 50 = .ok (.invokevirtual 206, 3) := by decide +kernel
theorem dX8_firstOn_53 : decode cX8_firstOn 53 = .ok (.ifCond .eq 15, 3) := by decide +kernel
theorem dX8_firstOn_56 : decode cX8_firstOn 56 = .ok (.aload_n 0, 1) := by decide +kernel
theorem dX8_firstOn_57 : decode cX8_firstOn 57 = .ok (.iload 4, 2) := by decide +kernel
theorem dX8_firstOn_59 : decode cX8_firstOn 59 = .ok (.iload_n 1, 1) := by decide +kernel
theorem dX8_firstOn_60 : decode cX8_firstOn 60 = .ok (.iload_n 2, 1) := by decide +kernel
theorem dX8_firstOn_61 : decode cX8_firstOn 61 = .ok (.invokevirtual 209, 3) := by decide +kernel
theorem dX8_firstOn_64 : decode cX8_firstOn 64 = .ok (.iload_n 3, 1) := by decide +kernel
theorem dX8_firstOn_65 : decode cX8_firstOn 65 = .ok (.if_icmp .eq 9, 3) := by decide +kernel
theorem dX8_firstOn_68 : decode cX8_firstOn 68 = .ok (.iinc 4 1, 3) := by decide +kernel
theorem dX8_firstOn_71 : decode cX8_firstOn 71 = .ok (.goto (-35), 3) := by decide +kernel
theorem dX8_firstOn_74 : decode cX8_firstOn 74 = .ok (.iload 4, 2) := by decide +kernel
theorem dX8_firstOn_76 : decode cX8_firstOn 76 = .ok (.ireturn, 1) := by decide +kernel
theorem dX8_landing_0 : decode cX8_landing 0 = .ok (.iload_n 1, 1) := by decide +kernel
theorem dX8_landing_1 : decode cX8_landing 1 = .ok (.iconst 0, 1) := by decide +kernel
theorem dX8_landing_2 : decode cX8_landing 2 = .ok (.bipush 19, 2) := by decide +kernel
theorem dX8_landing_4 : decode cX8_landing 4 = .ok (.invokestatic 41, 3) := by decide +kernel
theorem dX8_landing_7 : decode cX8_landing 7 = .ok (.ifCond .ne 10, 3) := by decide +kernel
theorem dX8_landing_10 : decode cX8_landing 10 = .ok (.aload_n 0, 1) := by decide +kernel
theorem dX8_landing_11 : decode cX8_landing 11 = .ok (.ldc 57, 2) := by decide +kernel
theorem dX8_landing_13 : decode cX8_landing 13 = .ok (.invokevirtual 53, 3) := by decide +kernel
theorem dX8_landing_16 : decode cX8_landing 16 = .ok (.ireturn, 1) := by decide +kernel
theorem dX8_landing_17 : decode cX8_landing 17 = .ok (.aload_n 0, 1) := by decide +kernel
theorem dX8_landing_18 : decode cX8_landing 18 = .ok (.invokevirtual 212, 3) := by decide +kernel
theorem dX8_landing_21 : decode cX8_landing 21 = .ok (.iconst 0, 1) := by decide +kernel
theorem dX8_landing_22 : decode cX8_landing 22 = .ok (.istore_n 2, 1) := by decide +kernel
theorem dX8_landing_23 : decode cX8_landing 23 = .ok (.iconst (-1), 1) := by decide +kernel
theorem dX8_landing_24 : decode cX8_landing 24 = .ok (.istore_n 3, 1) := by decide +kernel
theorem dX8_landing_25 : decode cX8_landing 25 = .ok (.aload_n 0, 1) := by decide +kernel
theorem dX8_landing_26 : decode cX8_landing 26 = .ok (.getfield 9, 3) := by decide +kernel
theorem dX8_landing_29 : decode cX8_landing 29 = .ok (.iconst 5, 1) := by decide +kernel
theorem dX8_landing_30 : decode cX8_landing 30 = .ok (.iaload, 1) := by decide +kernel
theorem dX8_landing_31 : decode cX8_landing 31 = .ok (.istore 4, 2) := by decide +kernel
theorem dX8_landing_33 : decode cX8_landing 33 = .ok (.iload 4, 2) := by decide +kernel
theorem dX8_landing_35 : decode cX8_landing 35 = .ok (.iload_n 1, 1) := by decide +kernel
theorem dX8_landing_36 : decode cX8_landing 36 = .ok (.if_icmp .gt 31, 3) := by decide +kernel
theorem dX8_landing_39 : decode cX8_landing 39 = .ok (.aload_n 0, 1) := by decide +kernel
theorem dX8_landing_40 : decode cX8_landing 40 = .ok (.iload 4, 2) := by decide +kernel
theorem dX8_landing_42 : decode cX8_landing 42 = .ok (.iload_n 2, 1) := by decide +kernel
theorem dX8_landing_43 : decode cX8_landing 43 = .ok (.invokevirtual 215, 3) := by decide +kernel
theorem dX8_landing_46 : decode cX8_landing 46 = .ok (.istore_n 3, 1) := by decide +kernel
theorem dX8_landing_47 : decode cX8_landing 47 = .ok (.iload_n 2, 1) := by decide +kernel
theorem dX8_landing_48 : decode cX8_landing 48 = .ok (.iload_n 3, 1) := by decide +kernel
theorem dX8_landing_49 : decode cX8_landing 49 = .ok (.ifCond .ge 7, 3) := by decide +kernel
theorem dX8_landing_52 : decode cX8_landing 52 = .ok (.iconst 0, 1) := by decide +kernel
theorem dX8_landing_53 : decode cX8_landing 53 = .ok (.goto 6, 3) := by decide +kernel
theorem dX8_landing_56 : decode cX8_landing 56 = .ok (.iconst 1, 1) := by decide +kernel
theorem dX8_landing_57 : decode cX8_landing 57 = .ok (.iload_n 3, 1) := by decide +kernel
theorem dX8_landing_58 : decode cX8_landing 58 = .ok (.ishl, 1) := by decide +kernel
theorem dX8_landing_59 : decode cX8_landing 59 = .ok (.ior, 1) := by decide +kernel
theorem dX8_landing_60 : decode cX8_landing 60 = .ok (.istore_n 2, 1) := by decide +kernel
theorem dX8_landing_61 : decode cX8_landing 61 = .ok (.iinc 4 1, 3) := by decide +kernel
theorem dX8_landing_64 : decode cX8_landing 64 = .ok (.goto (-31), 3) := by decide +kernel
theorem dX8_landing_67 : decode cX8_landing 67 = .ok (.iload_n 3, 1) := by decide +kernel
theorem dX8_landing_68 : decode cX8_landing 68 = .ok (.ifCond .ge 12, 3) := by decide +kernel
theorem dX8_landing_71 : decode cX8_landing 71 = .ok (.aload_n 0, 1) := by decide +kernel
theorem dX8_landing_72 : decode cX8_landing 72 = .ok (.ldc 52, 2) := by decide +kernel
theorem dX8_landing_74 : decode cX8_landing 74 = .ok (.invokevirtual 53, 3) := by decide +kernel
theorem dX8_landing_77 : decode cX8_landing 77 = .ok (.goto 4, 3) := by decide +kernel
theorem dX8_landing_80 : decode cX8_landing 80 = .ok (.iload_n 3, 1) := by decide +kernel
theorem dX8_landing_81 : decode cX8_landing 81 = .ok (.ireturn, 1) := by decide +kernel
theorem dX8_proves_0 : decode cX8_proves 0 = .ok (.iload_n 1, 1) := by decide +kernel
theorem dX8_proves_1 : decode cX8_proves 1 = .ok (.invokestatic 177, 3) := by decide +kernel
theorem dX8_proves_4 : decode cX8_proves 4 = .ok (.ifCond .ne 10, 3) := by decide +kernel
theorem dX8_proves_7 : decode cX8_proves 7 = .ok (.aload_n 0, 1) := by decide +kernel
theorem dX8_proves_8 : decode cX8_proves 8 = .ok (.ldc 57, 2) := by decide +kernel
theorem dX8_proves_10 : decode cX8_proves 10 = .ok (.invokevirtual 53, 3) := by decide +kernel
theorem dX8_proves_13 : decode cX8_proves 13 = .ok (.ireturn, 1) := by decide +kernel
theorem dX8_proves_14 : decode cX8_proves 14 = .ok (.aload_n 0, 1) := by decide +kernel
theorem dX8_proves_15 : decode cX8_proves 15 = .ok (.getfield 19, 3) := by decide +kernel
theorem dX8_proves_18 : decode cX8_proves 18 = .ok (.iload_n 1, 1) := by decide +kernel
theorem dX8_proves_19 : decode cX8_proves 19 = .ok (.iaload, 1) := by decide +kernel
theorem dX8_proves_20 : decode cX8_proves 20 = .ok (.ifCond .ne 10, 3) := by decide +kernel
theorem dX8_proves_23 : decode cX8_proves 23 = .ok (.aload_n 0, 1) := by decide +kernel
theorem dX8_proves_24 : decode cX8_proves 24 = .ok (.ldc 180, 2) := by decide +kernel
theorem dX8_proves_26 : decode cX8_proves 26 = .ok (.invokevirtual 53, 3) := by decide +kernel
theorem dX8_proves_29 : decode cX8_proves 29 = .ok (.ireturn, 1) := by decide +kernel
theorem dX8_proves_30 : decode cX8_proves 30 = .ok (.aload_n 0, 1) := by decide +kernel
theorem dX8_proves_31 : decode cX8_proves 31 = .ok (.getfield 22, 3) := by decide +kernel
theorem dX8_proves_34 : decode cX8_proves 34 = .ok (.iload_n 1, 1) := by decide +kernel
theorem dX8_proves_35 : decode cX8_proves 35 = .ok (.iaload, 1) := by decide +kernel
theorem dX8_proves_36 : decode cX8_proves 36 = .ok (.bipush 20, 2) := by decide +kernel
theorem dX8_proves_38 : decode cX8_proves 38 = .ok (.aload_n 0, 1) := by decide +kernel
theorem dX8_proves_39 : decode cX8_proves 39 = .ok (.getfield 9, 3) := by decide +kernel
theorem dX8_proves_42 : decode cX8_proves 42 = .ok (.iconst 5, 1) := by decide +kernel
theorem dX8_proves_43 : decode cX8_proves 43 = .ok (.iaload, 1) := by decide +kernel
theorem dX8_proves_44 : decode cX8_proves 44 = .ok (.isub, 1) := by decide +kernel
theorem dX8_proves_45 : decode cX8_proves 45 = .ok (.if_icmp .eq 10, 3) := by decide +kernel
theorem dX8_proves_48 : decode cX8_proves 48 = .ok (.aload_n 0, 1) := by decide +kernel
theorem dX8_proves_49 : decode cX8_proves 49 = .ok (.ldc 147, 2) := by decide +kernel
theorem dX8_proves_51 : decode cX8_proves 51 = .ok (.invokevirtual 53, 3) := by decide +kernel
theorem dX8_proves_54 : decode cX8_proves 54 = .ok (.ireturn, 1) := by decide +kernel
theorem dX8_proves_55 : decode cX8_proves 55 = .ok (.aload_n 0, 1) := by decide +kernel
theorem dX8_proves_56 : decode cX8_proves 56 = .ok (.invokevirtual 212, 3) := by decide +kernel
theorem dX8_proves_59 : decode cX8_proves 59 = .ok (.iconst 0, 1) := by decide +kernel
theorem dX8_proves_60 : decode cX8_proves 60 = .ok (.istore_n 2, 1) := by decide +kernel
theorem dX8_proves_61 : decode cX8_proves 61 = .ok (.iconst 0, 1) := by decide +kernel
theorem dX8_proves_62 : decode cX8_proves 62 = .ok (.istore_n 3, 1) := by decide +kernel
theorem dX8_proves_63 : decode cX8_proves 63 = .ok (.iconst 0, 1) := by decide +kernel
theorem dX8_proves_64 : decode cX8_proves 64 = .ok (.istore 4, 2) := by decide +kernel
theorem dX8_proves_66 : decode cX8_proves 66 = .ok (.iload 4, 2) := by decide +kernel
theorem dX8_proves_68 : decode cX8_proves 68 = .ok (.aload_n 0, 1) := by decide +kernel
theorem dX8_proves_69 : decode cX8_proves 69 = .ok (.getfield 22, 3) := by decide +kernel
theorem dX8_proves_72 : decode cX8_proves 72 = .ok (.iload_n 1, 1) := by decide +kernel
theorem dX8_proves_73 : decode cX8_proves 73 = .ok (.iaload, 1) := by decide +kernel
theorem dX8_proves_74 : decode cX8_proves 74 = .ok (.if_icmp .ge 85, 3) := by decide +kernel
theorem dX8_proves_77 : decode cX8_proves 77 = .ok (.aload_n 0, 1) := by decide +kernel
theorem dX8_proves_78 : decode cX8_proves 78 = .ok (.getfield 25, 3) := by decide +kernel
theorem dX8_proves_81 : decode cX8_proves 81 = .ok (.bipush 30, 2) := by decide +kernel
theorem dX8_proves_83 : decode cX8_proves 83 = .ok (.iload_n 1, 1) := by decide +kernel
theorem dX8_proves_84 : decode cX8_proves 84 = .ok (.imul, 1) := by decide +kernel
theorem dX8_proves_85 : decode cX8_proves 85 = .ok (.iload 4, 2) := by decide +kernel
theorem dX8_proves_87 : decode cX8_proves 87 = .ok (.iadd, 1) := by decide +kernel
theorem dX8_proves_88 : decode cX8_proves 88 = .ok (.iaload, 1) := by decide +kernel
theorem dX8_proves_89 : decode cX8_proves 89 = .ok (.istore 5, 2) := by decide +kernel
theorem dX8_proves_91 : decode cX8_proves 91 = .ok (.aload_n 0, 1) := by decide +kernel
theorem dX8_proves_92 : decode cX8_proves 92 = .ok (.getfield 9, 3) := by decide +kernel
theorem dX8_proves_95 : decode cX8_proves 95 = .ok (.iconst 5, 1) := by decide +kernel
theorem dX8_proves_96 : decode cX8_proves 96 = .ok (.iaload, 1) := by decide +kernel
theorem dX8_proves_97 : decode cX8_proves 97 = .ok (.iload 4, 2) := by decide +kernel
theorem dX8_proves_99 : decode cX8_proves 99 = .ok (.iadd, 1) := by decide +kernel
theorem dX8_proves_100 : decode cX8_proves 100 = .ok (.istore 6, 2) := by decide +kernel
theorem dX8_proves_102 : decode cX8_proves 102 = .ok (.iload 5, 2) := by decide +kernel
theorem dX8_proves_104 : decode cX8_proves 104 = .ok (.iconst (-1), 1) := by decide +kernel
theorem dX8_proves_105 : decode cX8_proves 105 = .ok (.if_icmp .ne 6, 3) := by decide +kernel
theorem dX8_proves_108 : decode cX8_proves 108 = .ok (.goto 45, 3) := by decide +kernel
theorem dX8_proves_111 : decode cX8_proves 111 = .ok (.aload_n 0, 1) := by decide +kernel
theorem dX8_proves_112 : decode cX8_proves 112 = .ok (.iload 5, 2) := by decide +kernel
theorem dX8_proves_114 : decode cX8_proves 114 = .ok (.iload 6, 2) := by decide +kernel
theorem dX8_proves_116 : decode cX8_proves 116 = .ok (.invokevirtual 206, 3) := by decide +kernel
theorem dX8_proves_119 : decode cX8_proves 119 = .ok (.ifCond .eq 13, 3) := by decide +kernel
theorem dX8_proves_122 : decode cX8_proves 122 = .ok (.iload_n 2, 1) := by decide +kernel
theorem dX8_proves_123 : decode cX8_proves 123 = .ok (.iload 5, 2) := by decide +kernel
theorem dX8_proves_125 : decode cX8_proves 125 = .ok (.ishr, 1) := by decide +kernel
theorem dX8_proves_126 : decode cX8_proves 126 = .ok (.iconst 1, 1) := by decide +kernel
theorem dX8_proves_127 : decode cX8_proves 127 = .ok (.iand, 1) := by decide +kernel
theorem dX8_proves_128 : decode cX8_proves 128 = .ok (.iconst 1, 1) := by decide +kernel
theorem dX8_proves_129 : decode cX8_proves 129 = .ok (.if_icmp .ne 6, 3) := by decide +kernel
theorem dX8_proves_132 : decode cX8_proves 132 = .ok (.iload 4, 2) := by decide +kernel
theorem dX8_proves_134 : decode cX8_proves 134 = .ok (.ireturn, 1) := by decide +kernel
theorem dX8_proves_135 : decode cX8_proves 135 = .ok (.iload_n 2, 1) := by decide +kernel
theorem dX8_proves_136 : decode cX8_proves 136 = .ok (.iconst 1, 1) := by decide +kernel
theorem dX8_proves_137 : decode cX8_proves 137 = .ok (.iload 5, 2) := by decide +kernel
theorem dX8_proves_139 : decode cX8_proves 139 = .ok (.ishl, 1) := by decide +kernel
theorem dX8_proves_140 : decode cX8_proves 140 = .ok (.ior, 1) := by decide +kernel
theorem dX8_proves_141 : decode cX8_proves 141 = .ok (.istore_n 2, 1) := by decide +kernel
theorem dX8_proves_142 : decode cX8_proves 142 = .ok (.iload_n 3, 1) := by decide +kernel
theorem dX8_proves_143 : decode cX8_proves 143 = .ok (.aload_n 0, 1) := by decide +kernel
theorem dX8_proves_144 : decode cX8_proves 144 = .ok (.iload 5, 2) := by decide +kernel
theorem dX8_proves_146 : decode cX8_proves 146 = .ok (.iload 6, 2) := by decide +kernel
theorem dX8_proves_148 : decode cX8_proves 148 = .ok (.invokevirtual 200, 3) := by decide +kernel
theorem dX8_proves_151 : decode cX8_proves 151 = .ok (.iadd, 1) := by decide +kernel
theorem dX8_proves_152 : decode cX8_proves 152 = .ok (.istore_n 3, 1) := by decide +kernel
theorem dX8_proves_153 : decode cX8_proves 153 = .ok (.iinc 4 1, 3) := by decide +kernel
theorem dX8_proves_156 : decode cX8_proves 156 = .ok (.goto (-90), 3) := by decide +kernel
theorem dX8_proves_159 : decode cX8_proves 159 = .ok (.iload_n 3, 1) := by decide +kernel
theorem dX8_proves_160 : decode cX8_proves 160 = .ok (.aload_n 0, 1) := by decide +kernel
theorem dX8_proves_161 : decode cX8_proves 161 = .ok (.iload_n 2, 1) := by decide +kernel
theorem dX8_proves_162 : decode cX8_proves 162 = .ok (.invokevirtual 203, 3) := by decide +kernel
theorem dX8_proves_165 : decode cX8_proves 165 = .ok (.iadd, 1) := by decide +kernel
theorem dX8_proves_166 : decode cX8_proves 166 = .ok (.aload_n 0, 1) := by decide +kernel
theorem dX8_proves_167 : decode cX8_proves 167 = .ok (.getfield 31, 3) := by decide +kernel
theorem dX8_proves_170 : decode cX8_proves 170 = .ok (.sipush 1024, 3) := by decide +kernel
theorem dX8_proves_173 : decode cX8_proves 173 = .ok (.aload_n 0, 1) := by decide +kernel
theorem dX8_proves_174 : decode cX8_proves 174 = .ok (.getfield 9, 3) := by decide +kernel
theorem dX8_proves_177 : decode cX8_proves 177 = .ok (.iconst 5, 1) := by decide +kernel
theorem dX8_proves_178 : decode cX8_proves 178 = .ok (.iaload, 1) := by decide +kernel
theorem dX8_proves_179 : decode cX8_proves 179 = .ok (.imul, 1) := by decide +kernel
theorem dX8_proves_180 : decode cX8_proves 180 = .ok (.iaload, 1) := by decide +kernel
theorem dX8_proves_181 : decode cX8_proves 181 = .ok (.if_icmp .ne 7, 3) := by decide +kernel
theorem dX8_proves_184 : decode cX8_proves 184 = .ok (.iconst (-1), 1) := by decide +kernel
theorem dX8_proves_185 : decode cX8_proves 185 = .ok (.goto 9, 3) := by decide +kernel
theorem dX8_proves_188 : decode cX8_proves 188 = .ok (.aload_n 0, 1) := by decide +kernel
theorem dX8_proves_189 : decode cX8_proves 189 = .ok (.getfield 22, 3) := by decide +kernel
theorem dX8_proves_192 : decode cX8_proves 192 = .ok (.iload_n 1, 1) := by decide +kernel
theorem dX8_proves_193 : decode cX8_proves 193 = .ok (.iaload, 1) := by decide +kernel
theorem dX8_proves_194 : decode cX8_proves 194 = .ok (.ireturn, 1) := by decide +kernel
theorem dX8_isSheet_0 : decode cX8_isSheet 0 = .ok (.iload_n 0, 1) := by decide +kernel
theorem dX8_isSheet_1 : decode cX8_isSheet 1 = .ok (.iconst 0, 1) := by decide +kernel
theorem dX8_isSheet_2 : decode cX8_isSheet 2 = .ok (.iconst 3, 1) := by decide +kernel
theorem dX8_isSheet_3 : decode cX8_isSheet 3 = .ok (.invokestatic 41, 3) := by decide +kernel
theorem dX8_isSheet_6 : decode cX8_isSheet 6 = .ok (.ireturn, 1) := by decide +kernel
theorem dX8_sheet_0 : decode cX8_sheet 0 = .ok (.iload_n 1, 1) := by decide +kernel
theorem dX8_sheet_1 : decode cX8_sheet 1 = .ok (.invokestatic 177, 3) := by decide +kernel
theorem dX8_sheet_4 : decode cX8_sheet 4 = .ok (.ifCond .eq 25, 3) := by decide +kernel
theorem dX8_sheet_7 : decode cX8_sheet 7 = .ok (.iload_n 2, 1) := by decide +kernel
theorem dX8_sheet_8 : decode cX8_sheet 8 = .ok (.ifCond .eq 28, 3) := by decide +kernel
theorem dX8_sheet_11 : decode cX8_sheet 11 = .ok (.iload_n 2, 1) := by decide +kernel
theorem dX8_sheet_12 : decode cX8_sheet 12 = .ok (.bipush 8, 2) := by decide +kernel
theorem dX8_sheet_14 : decode cX8_sheet 14 = .ok (.if_icmp .eq 22, 3) := by decide +kernel
theorem dX8_sheet_17 : decode cX8_sheet 17 = .ok (.iload_n 2, 1) := by decide +kernel
theorem dX8_sheet_18 : decode cX8_sheet 18 = .ok (.bipush 16, 2) := by decide +kernel
theorem dX8_sheet_20 : decode cX8_sheet 20 = .ok (.if_icmp .eq 16, 3) := by decide +kernel
theorem dX8_sheet_23 : decode cX8_sheet 23 = .ok (.iload_n 2, 1) := by decide +kernel
theorem dX8_sheet_24 : decode cX8_sheet 24 = .ok (.bipush 32, 2) := by decide +kernel
theorem dX8_sheet_26 : decode cX8_sheet 26 = .ok (.if_icmp .eq 10, 3) := by decide +kernel
theorem dX8_sheet_29 : decode cX8_sheet 29 = .ok (.aload_n 0, 1) := by decide +kernel
theorem dX8_sheet_30 : decode cX8_sheet 30 = .ok (.ldc 57, 2) := by decide +kernel
theorem dX8_sheet_32 : decode cX8_sheet 32 = .ok (.invokevirtual 53, 3) := by decide +kernel
theorem dX8_sheet_35 : decode cX8_sheet 35 = .ok (.ireturn, 1) := by decide +kernel
theorem dX8_sheet_36 : decode cX8_sheet 36 = .ok (.iload_n 3, 1) := by decide +kernel
theorem dX8_sheet_37 : decode cX8_sheet 37 = .ok (.ifCond .ge 10, 3) := by decide +kernel
theorem dX8_sheet_40 : decode cX8_sheet 40 = .ok (.aload_n 0, 1) := by decide +kernel
theorem dX8_sheet_41 : decode cX8_sheet 41 = .ok (.ldc 147, 2) := by decide +kernel
theorem dX8_sheet_43 : decode cX8_sheet 43 = .ok (.invokevirtual 53, 3) := by decide +kernel
theorem dX8_sheet_46 : decode cX8_sheet 46 = .ok (.ireturn, 1) := by decide +kernel
theorem dX8_sheet_47 : decode cX8_sheet 47 = .ok (.iload_n 3, 1) := by decide +kernel
theorem dX8_sheet_48 : decode cX8_sheet 48 = .ok (.bipush 30, 2) := by decide +kernel
theorem dX8_sheet_50 : decode cX8_sheet 50 = .ok (.if_icmp .le 10, 3) := by decide +kernel
theorem dX8_sheet_53 : decode cX8_sheet 53 = .ok (.aload_n 0, 1) := by decide +kernel
theorem dX8_sheet_54 : decode cX8_sheet 54 = .ok (.ldc 57, 2) := by decide +kernel
theorem dX8_sheet_56 : decode cX8_sheet 56 = .ok (.invokevirtual 53, 3) := by decide +kernel
theorem dX8_sheet_59 : decode cX8_sheet 59 = .ok (.ireturn, 1) := by decide +kernel
theorem dX8_sheet_60 : decode cX8_sheet 60 = .ok (.aload_n 0, 1) := by decide +kernel
theorem dX8_sheet_61 : decode cX8_sheet 61 = .ok (.getfield 19, 3) := by decide +kernel
theorem dX8_sheet_64 : decode cX8_sheet 64 = .ok (.iload_n 1, 1) := by decide +kernel
theorem dX8_sheet_65 : decode cX8_sheet 65 = .ok (.iload_n 2, 1) := by decide +kernel
theorem dX8_sheet_66 : decode cX8_sheet 66 = .ok (.iastore, 1) := by decide +kernel
theorem dX8_sheet_67 : decode cX8_sheet 67 = .ok (.aload_n 0, 1) := by decide +kernel
theorem dX8_sheet_68 : decode cX8_sheet 68 = .ok (.getfield 22, 3) := by decide +kernel
theorem dX8_sheet_71 : decode cX8_sheet 71 = .ok (.iload_n 1, 1) := by decide +kernel
theorem dX8_sheet_72 : decode cX8_sheet 72 = .ok (.iload_n 2, 1) := by decide +kernel
theorem dX8_sheet_73 : decode cX8_sheet 73 = .ok (.ifCond .ne 7, 3) := by decide +kernel
theorem dX8_sheet_76 : decode cX8_sheet 76 = .ok (.iconst 0, 1) := by decide +kernel
theorem dX8_sheet_77 : decode cX8_sheet 77 = .ok (.goto 4, 3) := by decide +kernel
theorem dX8_sheet_80 : decode cX8_sheet 80 = .ok (.iload_n 3, 1) := by decide +kernel
theorem dX8_sheet_81 : decode cX8_sheet 81 = .ok (.iastore, 1) := by decide +kernel
theorem dX8_sheet_82 : decode cX8_sheet 82 = .ok (.iconst 0, 1) := by decide +kernel
theorem dX8_sheet_83 : decode cX8_sheet 83 = .ok (.istore 4, 2) := by decide +kernel
theorem dX8_sheet_85 : decode cX8_sheet 85 = .ok (.iload 4, 2) := by decide +kernel
theorem dX8_sheet_87 : decode cX8_sheet 87 = .ok (.bipush 30, 2) := by decide +kernel
theorem dX8_sheet_89 : decode cX8_sheet 89 = .ok (.if_icmp .ge 22, 3) := by decide +kernel
theorem dX8_sheet_92 : decode cX8_sheet 92 = .ok (.aload_n 0, 1) := by decide +kernel
theorem dX8_sheet_93 : decode cX8_sheet 93 = .ok (.getfield 25, 3) := by decide +kernel
theorem dX8_sheet_96 : decode cX8_sheet 96 = .ok (.bipush 30, 2) := by decide +kernel
theorem dX8_sheet_98 : decode cX8_sheet 98 = .ok (.iload_n 1, 1) := by decide +kernel
theorem dX8_sheet_99 : decode cX8_sheet 99 = .ok (.imul, 1) := by decide +kernel
theorem dX8_sheet_100 : decode cX8_sheet 100 = .ok (.iload 4, 2) := by decide +kernel
theorem dX8_sheet_102 : decode cX8_sheet 102 = .ok (.iadd, 1) := by decide +kernel
theorem dX8_sheet_103 : decode cX8_sheet 103 = .ok (.iconst 0, 1) := by decide +kernel
theorem dX8_sheet_104 : decode cX8_sheet 104 = .ok (.iastore, 1) := by decide +kernel
theorem dX8_sheet_105 : decode cX8_sheet 105 = .ok (.iinc 4 1, 3) := by decide +kernel
theorem dX8_sheet_108 : decode cX8_sheet 108 = .ok (.goto (-23), 3) := by decide +kernel
theorem dX8_sheet_111 : decode cX8_sheet 111 = .ok (.aload_n 0, 1) := by decide +kernel
theorem dX8_sheet_112 : decode cX8_sheet 112 = .ok (.getfield 22, 3) := by decide +kernel
theorem dX8_sheet_115 : decode cX8_sheet 115 = .ok (.iload_n 1, 1) := by decide +kernel
theorem dX8_sheet_116 : decode cX8_sheet 116 = .ok (.iaload, 1) := by decide +kernel
theorem dX8_sheet_117 : decode cX8_sheet 117 = .ok (.ireturn, 1) := by decide +kernel
theorem dX8_put_0 : decode cX8_put 0 = .ok (.iload_n 1, 1) := by decide +kernel
theorem dX8_put_1 : decode cX8_put 1 = .ok (.invokestatic 177, 3) := by decide +kernel
theorem dX8_put_4 : decode cX8_put 4 = .ok (.ifCond .ne 10, 3) := by decide +kernel
theorem dX8_put_7 : decode cX8_put 7 = .ok (.aload_n 0, 1) := by decide +kernel
theorem dX8_put_8 : decode cX8_put 8 = .ok (.ldc 57, 2) := by decide +kernel
theorem dX8_put_10 : decode cX8_put 10 = .ok (.invokevirtual 53, 3) := by decide +kernel
theorem dX8_put_13 : decode cX8_put 13 = .ok (.ireturn, 1) := by decide +kernel
theorem dX8_put_14 : decode cX8_put 14 = .ok (.aload_n 0, 1) := by decide +kernel
theorem dX8_put_15 : decode cX8_put 15 = .ok (.getfield 19, 3) := by decide +kernel
theorem dX8_put_18 : decode cX8_put 18 = .ok (.iload_n 1, 1) := by decide +kernel
theorem dX8_put_19 : decode cX8_put 19 = .ok (.iaload, 1) := by decide +kernel
theorem dX8_put_20 : decode cX8_put 20 = .ok (.ifCond .ne 10, 3) := by decide +kernel
theorem dX8_put_23 : decode cX8_put 23 = .ok (.aload_n 0, 1) := by decide +kernel
theorem dX8_put_24 : decode cX8_put 24 = .ok (.ldc 180, 2) := by decide +kernel
theorem dX8_put_26 : decode cX8_put 26 = .ok (.invokevirtual 53, 3) := by decide +kernel
theorem dX8_put_29 : decode cX8_put 29 = .ok (.ireturn, 1) := by decide +kernel
theorem dX8_put_30 : decode cX8_put 30 = .ok (.iload_n 2, 1) := by decide +kernel
theorem dX8_put_31 : decode cX8_put 31 = .ok (.iconst 0, 1) := by decide +kernel
theorem dX8_put_32 : decode cX8_put 32 = .ok (.aload_n 0, 1) := by decide +kernel
theorem dX8_put_33 : decode cX8_put 33 = .ok (.getfield 22, 3) := by decide +kernel
theorem dX8_put_36 : decode cX8_put 36 = .ok (.iload_n 1, 1) := by decide +kernel
theorem dX8_put_37 : decode cX8_put 37 = .ok (.iaload, 1) := by decide +kernel
theorem dX8_put_38 : decode cX8_put 38 = .ok (.iconst 1, 1) := by decide +kernel
theorem dX8_put_39 : decode cX8_put 39 = .ok (.isub, 1) := by decide +kernel
theorem dX8_put_40 : decode cX8_put 40 = .ok (.invokestatic 41, 3) := by decide +kernel
theorem dX8_put_43 : decode cX8_put 43 = .ok (.ifCond .ne 10, 3) := by decide +kernel
theorem dX8_put_46 : decode cX8_put 46 = .ok (.aload_n 0, 1) := by decide +kernel
theorem dX8_put_47 : decode cX8_put 47 = .ok (.ldc 57, 2) := by decide +kernel
theorem dX8_put_49 : decode cX8_put 49 = .ok (.invokevirtual 53, 3) := by decide +kernel
theorem dX8_put_52 : decode cX8_put 52 = .ok (.ireturn, 1) := by decide +kernel
theorem dX8_put_53 : decode cX8_put 53 = .ok (.bipush 32, 2) := by decide +kernel
theorem dX8_put_55 : decode cX8_put 55 = .ok (.aload_n 0, 1) := by decide +kernel
theorem dX8_put_56 : decode cX8_put 56 = .ok (.getfield 19, 3) := by decide +kernel
theorem dX8_put_59 : decode cX8_put 59 = .ok (.iload_n 1, 1) := by decide +kernel
theorem dX8_put_60 : decode cX8_put 60 = .ok (.iaload, 1) := by decide +kernel
theorem dX8_put_61 : decode cX8_put 61 = .ok (.isub, 1) := by decide +kernel
theorem dX8_put_62 : decode cX8_put 62 = .ok (.istore 4, 2) := by decide +kernel
theorem dX8_put_64 : decode cX8_put 64 = .ok (.aload_n 0, 1) := by decide +kernel
theorem dX8_put_65 : decode cX8_put 65 = .ok (.getfield 25, 3) := by decide +kernel
theorem dX8_put_68 : decode cX8_put 68 = .ok (.bipush 30, 2) := by decide +kernel
theorem dX8_put_70 : decode cX8_put 70 = .ok (.iload_n 1, 1) := by decide +kernel
theorem dX8_put_71 : decode cX8_put 71 = .ok (.imul, 1) := by decide +kernel
theorem dX8_put_72 : decode cX8_put 72 = .ok (.iload_n 2, 1) := by decide +kernel
theorem dX8_put_73 : decode cX8_put 73 = .ok (.iadd, 1) := by decide +kernel
theorem dX8_put_74 : decode cX8_put 74 = .ok (.iload_n 3, 1) := by decide +kernel
theorem dX8_put_75 : decode cX8_put 75 = .ok (.iload 4, 2) := by decide +kernel
theorem dX8_put_77 : decode cX8_put 77 = .ok (.ishl, 1) := by decide +kernel
theorem dX8_put_78 : decode cX8_put 78 = .ok (.iload 4, 2) := by decide +kernel
theorem dX8_put_80 : decode cX8_put 80 = .ok (.ishr, 1) := by decide +kernel
theorem dX8_put_81 : decode cX8_put 81 = .ok (.iastore, 1) := by decide +kernel
theorem dX8_put_82 : decode cX8_put 82 = .ok (.iconst 0, 1) := by decide +kernel
theorem dX8_put_83 : decode cX8_put 83 = .ok (.ireturn, 1) := by decide +kernel
theorem dX8_copy_0 : decode cX8_copy 0 = .ok (.iload_n 1, 1) := by decide +kernel
theorem dX8_copy_1 : decode cX8_copy 1 = .ok (.invokestatic 177, 3) := by decide +kernel
theorem dX8_copy_4 : decode cX8_copy 4 = .ok (.ifCond .eq 10, 3) := by decide +kernel
theorem dX8_copy_7 : decode cX8_copy 7 = .ok (.iload_n 3, 1) := by decide +kernel
theorem dX8_copy_8 : decode cX8_copy 8 = .ok (.invokestatic 177, 3) := by decide +kernel
theorem dX8_copy_11 : decode cX8_copy 11 = .ok (.ifCond .ne 10, 3) := by decide +kernel
theorem dX8_copy_14 : decode cX8_copy 14 = .ok (.aload_n 0, 1) := by decide +kernel
theorem dX8_copy_15 : decode cX8_copy 15 = .ok (.ldc 57, 2) := by decide +kernel
theorem dX8_copy_17 : decode cX8_copy 17 = .ok (.invokevirtual 53, 3) := by decide +kernel
theorem dX8_copy_20 : decode cX8_copy 20 = .ok (.ireturn, 1) := by decide +kernel
theorem dX8_copy_21 : decode cX8_copy 21 = .ok (.aload_n 0, 1) := by decide +kernel
theorem dX8_copy_22 : decode cX8_copy 22 = .ok (.getfield 19, 3) := by decide +kernel
theorem dX8_copy_25 : decode cX8_copy 25 = .ok (.iload_n 1, 1) := by decide +kernel
theorem dX8_copy_26 : decode cX8_copy 26 = .ok (.iaload, 1) := by decide +kernel
theorem dX8_copy_27 : decode cX8_copy 27 = .ok (.ifCond .eq 12, 3) := by decide +kernel
theorem dX8_copy_30 : decode cX8_copy 30 = .ok (.aload_n 0, 1) := by decide +kernel
theorem dX8_copy_31 : decode cX8_copy 31 = .ok (.getfield 19, 3) := by decide +kernel
theorem dX8_copy_34 : decode cX8_copy 34 = .ok (.iload_n 3, 1) := by decide +kernel
theorem dX8_copy_35 : decode cX8_copy 35 = .ok (.iaload, 1) := by decide +kernel
theorem dX8_copy_36 : decode cX8_copy 36 = .ok (.ifCond .ne 10, 3) := by decide +kernel
theorem dX8_copy_39 : decode cX8_copy 39 = .ok (.aload_n 0, 1) := by decide +kernel
theorem dX8_copy_40 : decode cX8_copy 40 = .ok (.ldc 180, 2) := by decide +kernel
theorem dX8_copy_42 : decode cX8_copy 42 = .ok (.invokevirtual 53, 3) := by decide +kernel
theorem dX8_copy_45 : decode cX8_copy 45 = .ok (.ireturn, 1) := by decide +kernel
theorem dX8_copy_46 : decode cX8_copy 46 = .ok (.aload_n 0, 1) := by decide +kernel
theorem dX8_copy_47 : decode cX8_copy 47 = .ok (.getfield 19, 3) := by decide +kernel
theorem dX8_copy_50 : decode cX8_copy 50 = .ok (.iload_n 1, 1) := by decide +kernel
theorem dX8_copy_51 : decode cX8_copy 51 = .ok (.iaload, 1) := by decide +kernel
theorem dX8_copy_52 : decode cX8_copy 52 = .ok (.aload_n 0, 1) := by decide +kernel
theorem dX8_copy_53 : decode cX8_copy 53 = .ok (.getfield 19, 3) := by decide +kernel
theorem dX8_copy_56 : decode cX8_copy 56 = .ok (.iload_n 3, 1) := by decide +kernel
theorem dX8_copy_57 : decode cX8_copy 57 = .ok (.iaload, 1) := by decide +kernel
theorem dX8_copy_58 : decode cX8_copy 58 = .ok (.if_icmp .eq 10, 3) := by decide +kernel
theorem dX8_copy_61 : decode cX8_copy 61 = .ok (.aload_n 0, 1) := by decide +kernel
theorem dX8_copy_62 : decode cX8_copy 62 = .ok (.ldc 123, 2) := by decide +kernel
theorem dX8_copy_64 : decode cX8_copy 64 = .ok (.invokevirtual 53, 3) := by decide +kernel
theorem dX8_copy_67 : decode cX8_copy 67 = .ok (.ireturn, 1) := by decide +kernel
theorem dX8_copy_68 : decode cX8_copy 68 = .ok (.iload_n 2, 1) := by decide +kernel
theorem dX8_copy_69 : decode cX8_copy 69 = .ok (.ifCond .lt 48, 3) := by decide +kernel
theorem dX8_copy_72 : decode cX8_copy 72 = .ok (.iload 4, 2) := by decide +kernel
theorem dX8_copy_74 : decode cX8_copy 74 = .ok (.ifCond .lt 43, 3) := by decide +kernel
theorem dX8_copy_77 : decode cX8_copy 77 = .ok (.iload 5, 2) := by decide +kernel
theorem dX8_copy_79 : decode cX8_copy 79 = .ok (.ifCond .lt 38, 3) := by decide +kernel
theorem dX8_copy_82 : decode cX8_copy 82 = .ok (.iload_n 2, 1) := by decide +kernel
theorem dX8_copy_83 : decode cX8_copy 83 = .ok (.i2l, 1) := by decide +kernel
theorem dX8_copy_84 : decode cX8_copy 84 = .ok (.iload 5, 2) := by decide +kernel
theorem dX8_copy_86 : decode cX8_copy 86 = .ok (.i2l, 1) := by decide +kernel
theorem dX8_copy_87 : decode cX8_copy 87 = .ok (.ladd, 1) := by decide +kernel
theorem dX8_copy_88 : decode cX8_copy 88 = .ok (.aload_n 0, 1) := by decide +kernel
theorem dX8_copy_89 : decode cX8_copy 89 = .ok (.getfield 22, 3) := by decide +kernel
theorem dX8_copy_92 : decode cX8_copy 92 = .ok (.iload_n 1, 1) := by decide +kernel
theorem dX8_copy_93 : decode cX8_copy 93 = .ok (.iaload, 1) := by decide +kernel
theorem dX8_copy_94 : decode cX8_copy 94 = .ok (.i2l, 1) := by decide +kernel
theorem dX8_copy_95 : decode cX8_copy 95 = .ok (.lcmp, 1) := by decide +kernel
theorem dX8_copy_96 : decode cX8_copy 96 = .ok (.ifCond .gt 21, 3) := by decide +kernel
theorem dX8_copy_99 : decode cX8_copy 99 = .ok (.iload 4, 2) := by decide +kernel
theorem dX8_copy_101 : decode cX8_copy 101 = .ok (.i2l, 1) := by decide +kernel
theorem dX8_copy_102 : decode cX8_copy 102 = .ok (.iload 5, 2) := by decide +kernel
theorem dX8_copy_104 : decode cX8_copy 104 = .ok (.i2l, 1) := by decide +kernel
theorem dX8_copy_105 : decode cX8_copy 105 = .ok (.ladd, 1) := by decide +kernel
theorem dX8_copy_106 : decode cX8_copy 106 = .ok (.aload_n 0, 1) := by decide +kernel
theorem dX8_copy_107 : decode cX8_copy 107 = .ok (.getfield 22, 3) := by decide +kernel
theorem dX8_copy_110 : decode cX8_copy 110 = .ok (.iload_n 3, 1) := by decide +kernel
theorem dX8_copy_111 : decode cX8_copy 111 = .ok (.iaload, 1) := by decide +kernel
theorem dX8_copy_112 : decode cX8_copy 112 = .ok (.i2l, 1) := by decide +kernel
theorem dX8_copy_113 : decode cX8_copy 113 = .ok (.lcmp, 1) := by decide +kernel
theorem dX8_copy_114 : decode cX8_copy 114 = .ok (.ifCond .le 10, 3) := by decide +kernel
theorem dX8_copy_117 : decode cX8_copy 117 = .ok (.aload_n 0, 1) := by decide +kernel
theorem dX8_copy_118 : decode cX8_copy 118 = .ok (.ldc 57, 2) := by decide +kernel
theorem dX8_copy_120 : decode cX8_copy 120 = .ok (.invokevirtual 53, 3) := by decide +kernel
theorem dX8_copy_123 : decode cX8_copy 123 = .ok (.ireturn, 1) := by decide +kernel
theorem dX8_copy_124 : decode cX8_copy 124 = .ok (.iconst 0, 1) := by decide +kernel
theorem dX8_copy_125 : decode cX8_copy 125 = .ok (.istore 6, 2) := by decide +kernel
theorem dX8_copy_127 : decode cX8_copy 127 = .ok (.iload 6, 2) := by decide +kernel
theorem dX8_copy_129 : decode cX8_copy 129 = .ok (.iload 5, 2) := by decide +kernel
theorem dX8_copy_131 : decode cX8_copy 131 = .ok (.if_icmp .ge 30, 3) := by decide +kernel
theorem dX8_copy_134 : decode cX8_copy 134 = .ok (.aload_n 0, 1) := by decide +kernel
theorem dX8_copy_135 : decode cX8_copy 135 = .ok (.getfield 34, 3) := by decide +kernel
theorem dX8_copy_138 : decode cX8_copy 138 = .ok (.iload 6, 2) := by decide +kernel
theorem dX8_copy_140 : decode cX8_copy 140 = .ok (.aload_n 0, 1) := by decide +kernel
theorem dX8_copy_141 : decode cX8_copy 141 = .ok (.getfield 25, 3) := by decide +kernel
theorem dX8_copy_144 : decode cX8_copy 144 = .ok (.bipush 30, 2) := by decide +kernel
theorem dX8_copy_146 : decode cX8_copy 146 = .ok (.iload_n 1, 1) := by decide +kernel
theorem dX8_copy_147 : decode cX8_copy 147 = .ok (.imul, 1) := by decide +kernel
theorem dX8_copy_148 : decode cX8_copy 148 = .ok (.iload_n 2, 1) := by decide +kernel
theorem dX8_copy_149 : decode cX8_copy 149 = .ok (.iadd, 1) := by decide +kernel
theorem dX8_copy_150 : decode cX8_copy 150 = .ok (.iload 6, 2) := by decide +kernel
theorem dX8_copy_152 : decode cX8_copy 152 = .ok (.iadd, 1) := by decide +kernel
theorem dX8_copy_153 : decode cX8_copy 153 = .ok (.iaload, 1) := by decide +kernel
theorem dX8_copy_154 : decode cX8_copy 154 = .ok (.iastore, 1) := by decide +kernel
theorem dX8_copy_155 : decode cX8_copy 155 = .ok (.iinc 6 1, 3) := by decide +kernel
theorem dX8_copy_158 : decode cX8_copy 158 = .ok (.goto (-31), 3) := by decide +kernel
theorem dX8_copy_161 : decode cX8_copy 161 = .ok (.iconst 0, 1) := by decide +kernel
theorem dX8_copy_162 : decode cX8_copy 162 = .ok (.istore 6, 2) := by decide +kernel
theorem dX8_copy_164 : decode cX8_copy 164 = .ok (.iload 6, 2) := by decide +kernel
theorem dX8_copy_166 : decode cX8_copy 166 = .ok (.iload 5, 2) := by decide +kernel
theorem dX8_copy_168 : decode cX8_copy 168 = .ok (.if_icmp .ge 31, 3) := by decide +kernel
theorem dX8_copy_171 : decode cX8_copy 171 = .ok (.aload_n 0, 1) := by decide +kernel
theorem dX8_copy_172 : decode cX8_copy 172 = .ok (.getfield 25, 3) := by decide +kernel
theorem dX8_copy_175 : decode cX8_copy 175 = .ok (.bipush 30, 2) := by decide +kernel
theorem dX8_copy_177 : decode cX8_copy 177 = .ok (.iload_n 3, 1) := by decide +kernel
theorem dX8_copy_178 : decode cX8_copy 178 = .ok (.imul, 1) := by decide +kernel
theorem dX8_copy_179 : decode cX8_copy 179 = .ok (.iload 4, 2) := by decide +kernel
theorem dX8_copy_181 : decode cX8_copy 181 = .ok (.iadd, 1) := by decide +kernel
theorem dX8_copy_182 : decode cX8_copy 182 = .ok (.iload 6, 2) := by decide +kernel
theorem dX8_copy_184 : decode cX8_copy 184 = .ok (.iadd, 1) := by decide +kernel
theorem dX8_copy_185 : decode cX8_copy 185 = .ok (.aload_n 0, 1) := by decide +kernel
theorem dX8_copy_186 : decode cX8_copy 186 = .ok (.getfield 34, 3) := by decide +kernel
theorem dX8_copy_189 : decode cX8_copy 189 = .ok (.iload 6, 2) := by decide +kernel
theorem dX8_copy_191 : decode cX8_copy 191 = .ok (.iaload, 1) := by decide +kernel
theorem dX8_copy_192 : decode cX8_copy 192 = .ok (.iastore, 1) := by decide +kernel
theorem dX8_copy_193 : decode cX8_copy 193 = .ok (.iinc 6 1, 3) := by decide +kernel
theorem dX8_copy_196 : decode cX8_copy 196 = .ok (.goto (-32), 3) := by decide +kernel
theorem dX8_copy_199 : decode cX8_copy 199 = .ok (.iload 5, 2) := by decide +kernel
theorem dX8_copy_201 : decode cX8_copy 201 = .ok (.ireturn, 1) := by decide +kernel
theorem dX8_all_0 : decode cX8_all 0 = .ok (.iconst 0, 1) := by decide +kernel
theorem dX8_all_1 : decode cX8_all 1 = .ok (.istore_n 2, 1) := by decide +kernel
theorem dX8_all_2 : decode cX8_all 2 = .ok (.iconst 0, 1) := by decide +kernel
theorem dX8_all_3 : decode cX8_all 3 = .ok (.istore_n 3, 1) := by decide +kernel
theorem dX8_all_4 : decode cX8_all 4 = .ok (.iload_n 3, 1) := by decide +kernel
theorem dX8_all_5 : decode cX8_all 5 = .ok (.aload_n 0, 1) := by decide +kernel
theorem dX8_all_6 : decode cX8_all 6 = .ok (.getfield 9, 3) := by decide +kernel
theorem dX8_all_9 : decode cX8_all 9 = .ok (.iconst 0, 1) := by decide +kernel
theorem dX8_all_10 : decode cX8_all 10 = .ok (.iaload, 1) := by decide +kernel
theorem dX8_all_11 : decode cX8_all 11 = .ok (.if_icmp .ge 25, 3) := by decide +kernel
theorem dX8_all_14 : decode cX8_all 14 = .ok (.iload_n 2, 1) := by decide +kernel
theorem dX8_all_15 : decode cX8_all 15 = .ok (.aload_n 0, 1) := by decide +kernel
theorem dX8_all_16 : decode cX8_all 16 = .ok (.iload_n 3, 1) := by decide +kernel
theorem dX8_all_17 : decode cX8_all 17 = .ok (.invokevirtual 193, 3) := by decide +kernel
theorem dX8_all_20 : decode cX8_all 20 = .ok (.ifCond .eq 7, 3) := by decide +kernel
theorem dX8_all_23 : decode cX8_all 23 = .ok (.iconst 1, 1) := by decide +kernel
theorem dX8_all_24 : decode cX8_all 24 = .ok (.goto 4, 3) := by decide +kernel
theorem dX8_all_27 : decode cX8_all 27 = .ok (.iconst 0, 1) := by decide +kernel
theorem dX8_all_28 : decode cX8_all 28 = .ok (.iadd, 1) := by decide +kernel
theorem dX8_all_29 : decode cX8_all 29 = .ok (.istore_n 2, 1) := by decide +kernel
theorem dX8_all_30 : decode cX8_all 30 = .ok (.iinc 3 1, 3) := by decide +kernel
theorem dX8_all_33 : decode cX8_all 33 = .ok (.goto (-29), 3) := by decide +kernel
theorem dX8_all_36 : decode cX8_all 36 = .ok (.iload_n 1, 1) := by decide +kernel
theorem dX8_all_37 : decode cX8_all 37 = .ok (.tableswitch 83 0 6 #[43, 50, 52, 59, 66, 73, 78], 43) := by decide +kernel
theorem dX8_all_80 : decode cX8_all 80 = .ok (.aload_n 0, 1) := by decide +kernel
theorem dX8_all_81 : decode cX8_all 81 = .ok (.getfield 9, 3) := by decide +kernel
theorem dX8_all_84 : decode cX8_all 84 = .ok (.iconst 0, 1) := by decide +kernel
theorem dX8_all_85 : decode cX8_all 85 = .ok (.iaload, 1) := by decide +kernel
theorem dX8_all_86 : decode cX8_all 86 = .ok (.ireturn, 1) := by decide +kernel
theorem dX8_all_87 : decode cX8_all 87 = .ok (.iload_n 2, 1) := by decide +kernel
theorem dX8_all_88 : decode cX8_all 88 = .ok (.ireturn, 1) := by decide +kernel
theorem dX8_all_89 : decode cX8_all 89 = .ok (.aload_n 0, 1) := by decide +kernel
theorem dX8_all_90 : decode cX8_all 90 = .ok (.getfield 9, 3) := by decide +kernel
theorem dX8_all_93 : decode cX8_all 93 = .ok (.iconst 1, 1) := by decide +kernel
theorem dX8_all_94 : decode cX8_all 94 = .ok (.iaload, 1) := by decide +kernel
theorem dX8_all_95 : decode cX8_all 95 = .ok (.ireturn, 1) := by decide +kernel
theorem dX8_all_96 : decode cX8_all 96 = .ok (.aload_n 0, 1) := by decide +kernel
theorem dX8_all_97 : decode cX8_all 97 = .ok (.getfield 9, 3) := by decide +kernel
theorem dX8_all_100 : decode cX8_all 100 = .ok (.iconst 2, 1) := by decide +kernel
theorem dX8_all_101 : decode cX8_all 101 = .ok (.iaload, 1) := by decide +kernel
theorem dX8_all_102 : decode cX8_all 102 = .ok (.ireturn, 1) := by decide +kernel
theorem dX8_all_103 : decode cX8_all 103 = .ok (.aload_n 0, 1) := by decide +kernel
theorem dX8_all_104 : decode cX8_all 104 = .ok (.getfield 9, 3) := by decide +kernel
theorem dX8_all_107 : decode cX8_all 107 = .ok (.iconst 3, 1) := by decide +kernel
theorem dX8_all_108 : decode cX8_all 108 = .ok (.iaload, 1) := by decide +kernel
theorem dX8_all_109 : decode cX8_all 109 = .ok (.ireturn, 1) := by decide +kernel
theorem dX8_all_110 : decode cX8_all 110 = .ok (.aload_n 0, 1) := by decide +kernel
theorem dX8_all_111 : decode cX8_all 111 = .ok (.getfield 58, 3) := by decide +kernel
theorem dX8_all_114 : decode cX8_all 114 = .ok (.ireturn, 1) := by decide +kernel
theorem dX8_all_115 : decode cX8_all 115 = .ok (.aload_n 0, 1) := by decide +kernel
theorem dX8_all_116 : decode cX8_all 116 = .ok (.getfield 37, 3) := by decide +kernel
theorem dX8_all_119 : decode cX8_all 119 = .ok (.ireturn, 1) := by decide +kernel
theorem dX8_all_120 : decode cX8_all 120 = .ok (.aload_n 0, 1) := by decide +kernel
theorem dX8_all_121 : decode cX8_all 121 = .ok (.ldc 57, 2) := by decide +kernel
theorem dX8_all_123 : decode cX8_all 123 = .ok (.invokevirtual 53, 3) := by decide +kernel
theorem dX8_all_126 : decode cX8_all 126 = .ok (.ireturn, 1) := by decide +kernel
