theorem dX8_init_0 : decode cX8_init 0 = .ok (.aload_n 0, 1) := by decide +kernel
theorem dX8_init_1 : decode cX8_init 1 = .ok (.invokespecial 1, 3) := by decide +kernel
theorem dX8_init_4 : decode cX8_init 4 = .ok (.aload_n 0, 1) := by decide +kernel
theorem dX8_init_5 : decode cX8_init 5 = .ok (.sipush 386, 3) := by decide +kernel
theorem dX8_init_8 : decode cX8_init 8 = .ok (.newarray .int, 2) := by decide +kernel
theorem dX8_init_10 : decode cX8_init 10 = .ok (.putfield 9, 3) := by decide +kernel
theorem dX8_init_13 : decode cX8_init 13 = .ok (.aload_n 0, 1) := by decide +kernel
theorem dX8_init_14 : decode cX8_init 14 = .ok (.sipush 6176, 3) := by decide +kernel
theorem dX8_init_17 : decode cX8_init 17 = .ok (.newarray .int, 2) := by decide +kernel
theorem dX8_init_19 : decode cX8_init 19 = .ok (.putfield 13, 3) := by decide +kernel
theorem dX8_init_22 : decode cX8_init 22 = .ok (.aload_n 0, 1) := by decide +kernel
theorem dX8_init_23 : decode cX8_init 23 = .ok (.bipush 40, 2) := by decide +kernel
theorem dX8_init_25 : decode cX8_init 25 = .ok (.newarray .int, 2) := by decide +kernel
theorem dX8_init_27 : decode cX8_init 27 = .ok (.putfield 16, 3) := by decide +kernel
theorem dX8_init_30 : decode cX8_init 30 = .ok (.aload_n 0, 1) := by decide +kernel
theorem dX8_init_31 : decode cX8_init 31 = .ok (.iconst 4, 1) := by decide +kernel
theorem dX8_init_32 : decode cX8_init 32 = .ok (.newarray .int, 2) := by decide +kernel
theorem dX8_init_34 : decode cX8_init 34 = .ok (.putfield 19, 3) := by decide +kernel
theorem dX8_init_37 : decode cX8_init 37 = .ok (.aload_n 0, 1) := by decide +kernel
theorem dX8_init_38 : decode cX8_init 38 = .ok (.iconst 4, 1) := by decide +kernel
theorem dX8_init_39 : decode cX8_init 39 = .ok (.newarray .int, 2) := by decide +kernel
theorem dX8_init_41 : decode cX8_init 41 = .ok (.putfield 22, 3) := by decide +kernel
theorem dX8_init_44 : decode cX8_init 44 = .ok (.aload_n 0, 1) := by decide +kernel
theorem dX8_init_45 : decode cX8_init 45 = .ok (.bipush 120, 2) := by decide +kernel
theorem dX8_init_47 : decode cX8_init 47 = .ok (.newarray .int, 2) := by decide +kernel
theorem dX8_init_49 : decode cX8_init 49 = .ok (.putfield 25, 3) := by decide +kernel
theorem dX8_init_52 : decode cX8_init 52 = .ok (.aload_n 0, 1) := by decide +kernel
theorem dX8_init_53 : decode cX8_init 53 = .ok (.bipush 12, 2) := by decide +kernel
theorem dX8_init_55 : decode cX8_init 55 = .ok (.newarray .int, 2) := by decide +kernel
theorem dX8_init_57 : decode cX8_init 57 = .ok (.putfield 28, 3) := by decide +kernel
theorem dX8_init_60 : decode cX8_init 60 = .ok (.aload_n 0, 1) := by decide +kernel
theorem dX8_init_61 : decode cX8_init 61 = .ok (.sipush 21504, 3) := by decide +kernel
theorem dX8_init_64 : decode cX8_init 64 = .ok (.newarray .int, 2) := by decide +kernel
theorem dX8_init_66 : decode cX8_init 66 = .ok (.putfield 31, 3) := by decide +kernel
theorem dX8_init_69 : decode cX8_init 69 = .ok (.aload_n 0, 1) := by decide +kernel
theorem dX8_init_70 : decode cX8_init 70 = .ok (.bipush 30, 2) := by decide +kernel
theorem dX8_init_72 : decode cX8_init 72 = .ok (.newarray .int, 2) := by decide +kernel
theorem dX8_init_74 : decode cX8_init 74 = .ok (.putfield 34, 3) := by decide +kernel
theorem dX8_init_77 : decode cX8_init 77 = .ok (.return_, 1) := by decide +kernel
theorem dX8_finding_0 : decode cX8_finding 0 = .ok (.aload_n 0, 1) := by decide +kernel
theorem dX8_finding_1 : decode cX8_finding 1 = .ok (.dup, 1) := by decide +kernel
theorem dX8_finding_2 : decode cX8_finding 2 = .ok (.getfield 37, 3) := by decide +kernel
theorem dX8_finding_5 : decode cX8_finding 5 = .ok (.iconst 1, 1) := by decide +kernel
theorem dX8_finding_6 : decode cX8_finding 6 = .ok (.iadd, 1) := by decide +kernel
theorem dX8_finding_7 : decode cX8_finding 7 = .ok (.putfield 37, 3) := by decide +kernel
theorem dX8_finding_10 : decode cX8_finding 10 = .ok (.iload_n 1, 1) := by decide +kernel
theorem dX8_finding_11 : decode cX8_finding 11 = .ok (.ireturn, 1) := by decide +kernel
theorem dX8_within_0 : decode cX8_within 0 = .ok (.iload_n 0, 1) := by decide +kernel
theorem dX8_within_1 : decode cX8_within 1 = .ok (.iload_n 1, 1) := by decide +kernel
theorem dX8_within_2 : decode cX8_within 2 = .ok (.if_icmp .lt 12, 3) := by decide +kernel
theorem dX8_within_5 : decode cX8_within 5 = .ok (.iload_n 0, 1) := by decide +kernel
theorem dX8_within_6 : decode cX8_within 6 = .ok (.iload_n 2, 1) := by decide +kernel
theorem dX8_within_7 : decode cX8_within 7 = .ok (.if_icmp .gt 7, 3) := by decide +kernel
theorem dX8_within_10 : decode cX8_within 10 = .ok (.iconst 1, 1) := by decide +kernel
theorem dX8_within_11 : decode cX8_within 11 = .ok (.goto 4, 3) := by decide +kernel
theorem dX8_within_14 : decode cX8_within 14 = .ok (.iconst 0, 1) := by decide +kernel
theorem dX8_within_15 : decode cX8_within 15 = .ok (.ireturn, 1) := by decide +kernel
theorem dX8_isLight_0 : decode cX8_isLight 0 = .ok (.iload_n 1, 1) := by decide +kernel
theorem dX8_isLight_1 : decode cX8_isLight 1 = .ok (.iconst 0, 1) := by decide +kernel
theorem dX8_isLight_2 : decode cX8_isLight 2 = .ok (.aload_n 0, 1) := by decide +kernel
theorem dX8_isLight_3 : decode cX8_isLight 3 = .ok (.getfield 9, 3) := by decide +kernel
theorem dX8_isLight_6 : decode cX8_isLight 6 = .ok (.iconst 0, 1) := by decide +kernel
theorem dX8_isLight_7 : decode cX8_isLight 7 = .ok (.iaload, 1) := by decide +kernel
theorem dX8_isLight_8 : decode cX8_isLight 8 = .ok (.iconst 1, 1) := by decide +kernel
theorem dX8_isLight_9 : decode cX8_isLight 9 = .ok (.isub, 1) := by decide +kernel
theorem dX8_isLight_10 : decode cX8_isLight 10 = .ok (.invokestatic 41, 3) := by decide +kernel
theorem dX8_isLight_13 : decode cX8_isLight 13 = .ok (.ireturn, 1) := by decide +kernel
theorem dX8_isCell_0 : decode cX8_isCell 0 = .ok (.iload_n 0, 1) := by decide +kernel
theorem dX8_isCell_1 : decode cX8_isCell 1 = .ok (.iconst 0, 1) := by decide +kernel
theorem dX8_isCell_2 : decode cX8_isCell 2 = .ok (.sipush 255, 3) := by decide +kernel
theorem dX8_isCell_5 : decode cX8_isCell 5 = .ok (.invokestatic 41, 3) := by decide +kernel
theorem dX8_isCell_8 : decode cX8_isCell 8 = .ok (.ireturn, 1) := by decide +kernel
theorem dX8_isWay_0 : decode cX8_isWay 0 = .ok (.iload_n 0, 1) := by decide +kernel
theorem dX8_isWay_1 : decode cX8_isWay 1 = .ok (.iconst 0, 1) := by decide +kernel
theorem dX8_isWay_2 : decode cX8_isWay 2 = .ok (.bipush 15, 2) := by decide +kernel
theorem dX8_isWay_4 : decode cX8_isWay 4 = .ok (.invokestatic 41, 3) := by decide +kernel
theorem dX8_isWay_7 : decode cX8_isWay 7 = .ok (.ireturn, 1) := by decide +kernel
theorem dX8_of_0 : decode cX8_of 0 = .ok (.bipush 10, 2) := by decide +kernel
theorem dX8_of_2 : decode cX8_of 2 = .ok (.bipush 22, 2) := by decide +kernel
theorem dX8_of_4 : decode cX8_of 4 = .ok (.iload_n 0, 1) := by decide +kernel
theorem dX8_of_5 : decode cX8_of 5 = .ok (.imul, 1) := by decide +kernel
theorem dX8_of_6 : decode cX8_of 6 = .ok (.iadd, 1) := by decide +kernel
theorem dX8_of_7 : decode cX8_of 7 = .ok (.iload_n 1, 1) := by decide +kernel
theorem dX8_of_8 : decode cX8_of 8 = .ok (.iadd, 1) := by decide +kernel
theorem dX8_of_9 : decode cX8_of 9 = .ok (.ireturn, 1) := by decide +kernel
theorem dX8_isRock_0 : decode cX8_isRock 0 = .ok (.aload_n 0, 1) := by decide +kernel
theorem dX8_isRock_1 : decode cX8_isRock 1 = .ok (.getfield 9, 3) := by decide +kernel
theorem dX8_isRock_4 : decode cX8_isRock 4 = .ok (.iload_n 1, 1) := by decide +kernel
theorem dX8_isRock_5 : decode cX8_isRock 5 = .ok (.iconst 0, 1) := by decide +kernel
theorem dX8_isRock_6 : decode cX8_isRock 6 = .ok (.invokestatic 45, 3) := by decide +kernel
theorem dX8_isRock_9 : decode cX8_isRock 9 = .ok (.iaload, 1) := by decide +kernel
theorem dX8_isRock_10 : decode cX8_isRock 10 = .ok (.istore_n 2, 1) := by decide +kernel
theorem dX8_isRock_11 : decode cX8_isRock 11 = .ok (.iload_n 2, 1) := by decide +kernel
theorem dX8_isRock_12 : decode cX8_isRock 12 = .ok (.iconst 1, 1) := by decide +kernel
theorem dX8_isRock_13 : decode cX8_isRock 13 = .ok (.if_icmp .eq 8, 3) := by decide +kernel
theorem dX8_isRock_16 : decode cX8_isRock 16 = .ok (.iload_n 2, 1) := by decide +kernel
theorem dX8_isRock_17 : decode cX8_isRock 17 = .ok (.iconst 3, 1) := by decide +kernel
theorem dX8_isRock_18 : decode cX8_isRock 18 = .ok (.if_icmp .ne 7, 3) := by decide +kernel
theorem dX8_isRock_21 : decode cX8_isRock 21 = .ok (.iconst 1, 1) := by decide +kernel
theorem dX8_isRock_22 : decode cX8_isRock 22 = .ok (.goto 4, 3) := by decide +kernel
theorem dX8_isRock_25 : decode cX8_isRock 25 = .ok (.iconst 0, 1) := by decide +kernel
theorem dX8_isRock_26 : decode cX8_isRock 26 = .ok (.ireturn, 1) := by decide +kernel
theorem dX8_keep_0 : decode cX8_keep 0 = .ok (.aload_n 0, 1) := by decide +kernel
theorem dX8_keep_1 : decode cX8_keep 1 = .ok (.getfield 49, 3) := by decide +kernel
theorem dX8_keep_4 : decode cX8_keep 4 = .ok (.bipush 16, 2) := by decide +kernel
theorem dX8_keep_6 : decode cX8_keep 6 = .ok (.if_icmp .ne 44, 3) := by decide +kernel
theorem dX8_keep_9 : decode cX8_keep 9 = .ok (.iconst 0, 1) := by decide +kernel
theorem dX8_keep_10 : decode cX8_keep 10 = .ok (.istore_n 1, 1) := by decide +kernel
theorem dX8_keep_11 : decode cX8_keep 11 = .ok (.iload_n 1, 1) := by decide +kernel
theorem dX8_keep_12 : decode cX8_keep 12 = .ok (.sipush 5790, 3) := by decide +kernel
theorem dX8_keep_15 : decode cX8_keep 15 = .ok (.if_icmp .ge 25, 3) := by decide +kernel
theorem dX8_keep_18 : decode cX8_keep 18 = .ok (.aload_n 0, 1) := by decide +kernel
theorem dX8_keep_19 : decode cX8_keep 19 = .ok (.getfield 13, 3) := by decide +kernel
theorem dX8_keep_22 : decode cX8_keep 22 = .ok (.iload_n 1, 1) := by decide +kernel
theorem dX8_keep_23 : decode cX8_keep 23 = .ok (.aload_n 0, 1) := by decide +kernel
theorem dX8_keep_24 : decode cX8_keep 24 = .ok (.getfield 13, 3) := by decide +kernel
theorem dX8_keep_27 : decode cX8_keep 27 = .ok (.iload_n 1, 1) := by decide +kernel
theorem dX8_keep_28 : decode cX8_keep 28 = .ok (.sipush 386, 3) := by decide +kernel
theorem dX8_keep_31 : decode cX8_keep 31 = .ok (.iadd, 1) := by decide +kernel
theorem dX8_keep_32 : decode cX8_keep 32 = .ok (.iaload, 1) := by decide +kernel
theorem dX8_keep_33 : decode cX8_keep 33 = .ok (.iastore, 1) := by decide +kernel
theorem dX8_keep_34 : decode cX8_keep 34 = .ok (.iinc 1 1, 3) := by decide +kernel
theorem dX8_keep_37 : decode cX8_keep 37 = .ok (.goto (-26), 3) := by decide +kernel
theorem dX8_keep_40 : decode cX8_keep 40 = .ok (.aload_n 0, 1) := by decide +kernel
theorem dX8_keep_41 : decode cX8_keep 41 = .ok (.dup, 1) := by decide +kernel
theorem dX8_keep_42 : decode cX8_keep 42 = .ok (.getfield 49, 3) := by decide +kernel
theorem dX8_keep_45 : decode cX8_keep 45 = .ok (.iconst 1, 1) := by decide +kernel
theorem dX8_keep_46 : decode cX8_keep 46 = .ok (.isub, 1) := by decide +kernel
theorem dX8_keep_47 : decode cX8_keep 47 = .ok (.putfield 49, 3) := by decide +kernel
theorem dX8_keep_50 : decode cX8_keep 50 = .ok (.iconst 0, 1) := by decide +kernel
theorem dX8_keep_51 : decode cX8_keep 51 = .ok (.istore_n 1, 1) := by decide +kernel
theorem dX8_keep_52 : decode cX8_keep 52 = .ok (.iload_n 1, 1) := by decide +kernel
theorem dX8_keep_53 : decode cX8_keep 53 = .ok (.sipush 386, 3) := by decide +kernel
theorem dX8_keep_56 : decode cX8_keep 56 = .ok (.if_icmp .ge 30, 3) := by decide +kernel
theorem dX8_keep_59 : decode cX8_keep 59 = .ok (.aload_n 0, 1) := by decide +kernel
theorem dX8_keep_60 : decode cX8_keep 60 = .ok (.getfield 13, 3) := by decide +kernel
theorem dX8_keep_63 : decode cX8_keep 63 = .ok (.aload_n 0, 1) := by decide +kernel
theorem dX8_keep_64 : decode cX8_keep 64 = .ok (.getfield 49, 3) := by decide +kernel
theorem dX8_keep_67 : decode cX8_keep 67 = .ok (.sipush 386, 3) := by decide +kernel
theorem dX8_keep_70 : decode cX8_keep 70 = .ok (.imul, 1) := by decide +kernel
theorem dX8_keep_71 : decode cX8_keep 71 = .ok (.iload_n 1, 1) := by decide +kernel
theorem dX8_keep_72 : decode cX8_keep 72 = .ok (.iadd, 1) := by decide +kernel
theorem dX8_keep_73 : decode cX8_keep 73 = .ok (.aload_n 0, 1) := by decide +kernel
theorem dX8_keep_74 : decode cX8_keep 74 = .ok (.getfield 9, 3) := by decide +kernel
theorem dX8_keep_77 : decode cX8_keep 77 = .ok (.iload_n 1, 1) := by decide +kernel
theorem dX8_keep_78 : decode cX8_keep 78 = .ok (.iaload, 1) := by decide +kernel
theorem dX8_keep_79 : decode cX8_keep 79 = .ok (.iastore, 1) := by decide +kernel
theorem dX8_keep_80 : decode cX8_keep 80 = .ok (.iinc 1 1, 3) := by decide +kernel
theorem dX8_keep_83 : decode cX8_keep 83 = .ok (.goto (-31), 3) := by decide +kernel
theorem dX8_keep_86 : decode cX8_keep 86 = .ok (.aload_n 0, 1) := by decide +kernel
theorem dX8_keep_87 : decode cX8_keep 87 = .ok (.dup, 1) := by decide +kernel
theorem dX8_keep_88 : decode cX8_keep 88 = .ok (.getfield 49, 3) := by decide +kernel
theorem dX8_keep_91 : decode cX8_keep 91 = .ok (.iconst 1, 1) := by decide +kernel
theorem dX8_keep_92 : decode cX8_keep 92 = .ok (.iadd, 1) := by decide +kernel
theorem dX8_keep_93 : decode cX8_keep 93 = .ok (.putfield 49, 3) := by decide +kernel
theorem dX8_keep_96 : decode cX8_keep 96 = .ok (.return_, 1) := by decide +kernel
theorem dX8_undo_0 : decode cX8_undo 0 = .ok (.aload_n 0, 1) := by decide +kernel
theorem dX8_undo_1 : decode cX8_undo 1 = .ok (.getfield 49, 3) := by decide +kernel
theorem dX8_undo_4 : decode cX8_undo 4 = .ok (.ifCond .ne 10, 3) := by decide +kernel
theorem dX8_undo_7 : decode cX8_undo 7 = .ok (.aload_n 0, 1) := by decide +kernel
theorem dX8_undo_8 : decode cX8_undo 8 = .ok (.ldc 52, 2) := by decide +kernel
theorem dX8_undo_10 : decode cX8_undo 10 = .ok (.invokevirtual 53, 3) := by decide +kernel
theorem dX8_undo_13 : decode cX8_undo 13 = .ok (.ireturn, 1) := by decide +kernel
theorem dX8_undo_14 : decode cX8_undo 14 = .ok (.aload_n 0, 1) := by decide +kernel
theorem dX8_undo_15 : decode cX8_undo 15 = .ok (.dup, 1) := by decide +kernel
theorem dX8_undo_16 : decode cX8_undo 16 = .ok (.getfield 49, 3) := by decide +kernel
theorem dX8_undo_19 : decode cX8_undo 19 = .ok (.iconst 1, 1) := by decide +kernel
theorem dX8_undo_20 : decode cX8_undo 20 = .ok (.isub, 1) := by decide +kernel
theorem dX8_undo_21 : decode cX8_undo 21 = .ok (.putfield 49, 3) := by decide +kernel
theorem dX8_undo_24 : decode cX8_undo 24 = .ok (.iconst 0, 1) := by decide +kernel
theorem dX8_undo_25 : decode cX8_undo 25 = .ok (.istore_n 1, 1) := by decide +kernel
theorem dX8_undo_26 : decode cX8_undo 26 = .ok (.iload_n 1, 1) := by decide +kernel
theorem dX8_undo_27 : decode cX8_undo 27 = .ok (.sipush 386, 3) := by decide +kernel
theorem dX8_undo_30 : decode cX8_undo 30 = .ok (.if_icmp .ge 30, 3) := by decide +kernel
theorem dX8_undo_33 : decode cX8_undo 33 = .ok (.aload_n 0, 1) := by decide +kernel
theorem dX8_undo_34 : decode cX8_undo 34 = .ok (.getfield 9, 3) := by decide +kernel
theorem dX8_undo_37 : decode cX8_undo 37 = .ok (.iload_n 1, 1) := by decide +kernel
theorem dX8_undo_38 : decode cX8_undo 38 = .ok (.aload_n 0, 1) := by decide +kernel
theorem dX8_undo_39 : decode cX8_undo 39 = .ok (.getfield 13, 3) := by decide +kernel
theorem dX8_undo_42 : decode cX8_undo 42 = .ok (.aload_n 0, 1) := by decide +kernel
theorem dX8_undo_43 : decode cX8_undo 43 = .ok (.getfield 49, 3) := by decide +kernel
theorem dX8_undo_46 : decode cX8_undo 46 = .ok (.sipush 386, 3) := by decide +kernel
theorem dX8_undo_49 : decode cX8_undo 49 = .ok (.imul, 1) := by decide +kernel
theorem dX8_undo_50 : decode cX8_undo 50 = .ok (.iload_n 1, 1) := by decide +kernel
theorem dX8_undo_51 : decode cX8_undo 51 = .ok (.iadd, 1) := by decide +kernel
theorem dX8_undo_52 : decode cX8_undo 52 = .ok (.iaload, 1) := by decide +kernel
theorem dX8_undo_53 : decode cX8_undo 53 = .ok (.iastore, 1) := by decide +kernel
theorem dX8_undo_54 : decode cX8_undo 54 = .ok (.iinc 1 1, 3) := by decide +kernel
theorem dX8_undo_57 : decode cX8_undo 57 = .ok (.goto (-31), 3) := by decide +kernel
theorem dX8_undo_60 : decode cX8_undo 60 = .ok (.aload_n 0, 1) := by decide +kernel
theorem dX8_undo_61 : decode cX8_undo 61 = .ok (.getfield 49, 3) := by decide +kernel
theorem dX8_undo_64 : decode cX8_undo 64 = .ok (.ireturn, 1) := by decide +kernel
theorem dX8_feed_0 : decode cX8_feed 0 = .ok (.iload_n 1, 1) := by decide +kernel
theorem dX8_feed_1 : decode cX8_feed 1 = .ok (.iconst 1, 1) := by decide +kernel
theorem dX8_feed_2 : decode cX8_feed 2 = .ok (.bipush 8, 2) := by decide +kernel
theorem dX8_feed_4 : decode cX8_feed 4 = .ok (.invokestatic 41, 3) := by decide +kernel
theorem dX8_feed_7 : decode cX8_feed 7 = .ok (.ifCond .ne 10, 3) := by decide +kernel
theorem dX8_feed_10 : decode cX8_feed 10 = .ok (.aload_n 0, 1) := by decide +kernel
theorem dX8_feed_11 : decode cX8_feed 11 = .ok (.ldc 57, 2) := by decide +kernel
theorem dX8_feed_13 : decode cX8_feed 13 = .ok (.invokevirtual 53, 3) := by decide +kernel
theorem dX8_feed_16 : decode cX8_feed 16 = .ok (.ireturn, 1) := by decide +kernel
theorem dX8_feed_17 : decode cX8_feed 17 = .ok (.aload_n 0, 1) := by decide +kernel
theorem dX8_feed_18 : decode cX8_feed 18 = .ok (.getfield 58, 3) := by decide +kernel
theorem dX8_feed_21 : decode cX8_feed 21 = .ok (.iload_n 1, 1) := by decide +kernel
theorem dX8_feed_22 : decode cX8_feed 22 = .ok (.iadd, 1) := by decide +kernel
theorem dX8_feed_23 : decode cX8_feed 23 = .ok (.bipush 40, 2) := by decide +kernel
theorem dX8_feed_25 : decode cX8_feed 25 = .ok (.if_icmp .le 10, 3) := by decide +kernel
theorem dX8_feed_28 : decode cX8_feed 28 = .ok (.aload_n 0, 1) := by decide +kernel
theorem dX8_feed_29 : decode cX8_feed 29 = .ok (.ldc 61, 2) := by decide +kernel
theorem dX8_feed_31 : decode cX8_feed 31 = .ok (.invokevirtual 53, 3) := by decide +kernel
theorem dX8_feed_34 : decode cX8_feed 34 = .ok (.ireturn, 1) := by decide +kernel
theorem dX8_feed_35 : decode cX8_feed 35 = .ok (.iconst 0, 1) := by decide +kernel
theorem dX8_feed_36 : decode cX8_feed 36 = .ok (.istore 4, 2) := by decide +kernel
theorem dX8_feed_38 : decode cX8_feed 38 = .ok (.iload 4, 2) := by decide +kernel
theorem dX8_feed_40 : decode cX8_feed 40 = .ok (.iload_n 1, 1) := by decide +kernel
theorem dX8_feed_41 : decode cX8_feed 41 = .ok (.if_icmp .ge 40, 3) := by decide +kernel
theorem dX8_feed_44 : decode cX8_feed 44 = .ok (.aload_n 0, 1) := by decide +kernel
theorem dX8_feed_45 : decode cX8_feed 45 = .ok (.getfield 16, 3) := by decide +kernel
theorem dX8_feed_48 : decode cX8_feed 48 = .ok (.aload_n 0, 1) := by decide +kernel
theorem dX8_feed_49 : decode cX8_feed 49 = .ok (.getfield 58, 3) := by decide +kernel
theorem dX8_feed_52 : decode cX8_feed 52 = .ok (.lload_n 2, 1) := by decide +kernel
theorem dX8_feed_53 : decode cX8_feed 53 = .ok (.bipush 8, 2) := by decide +kernel
theorem dX8_feed_55 : decode cX8_feed 55 = .ok (.iload 4, 2) := by decide +kernel
theorem dX8_feed_57 : decode cX8_feed 57 = .ok (.imul, 1) := by decide +kernel
theorem dX8_feed_58 : decode cX8_feed 58 = .ok (.lshr, 1) := by decide +kernel
theorem dX8_feed_59 : decode cX8_feed 59 = .ok (.ldc2_w 62, 3) := by decide +kernel
theorem dX8_feed_62 : decode cX8_feed 62 = .ok (.land, 1) := by decide +kernel
theorem dX8_feed_63 : decode cX8_feed 63 = .ok (.l2i, 1) := by decide +kernel
theorem dX8_feed_64 : decode cX8_feed 64 = .ok (.iastore, 1) := by decide +kernel
theorem dX8_feed_65 : decode cX8_feed 65 = .ok (.aload_n 0, 1) := by decide +kernel
theorem dX8_feed_66 : decode cX8_feed 66 = .ok (.dup, 1) := by decide +kernel
theorem dX8_feed_67 : decode cX8_feed 67 = .ok (.getfield 58, 3) := by decide +kernel
theorem dX8_feed_70 : decode cX8_feed 70 = .ok (.iconst 1, 1) := by decide +kernel
theorem dX8_feed_71 : decode cX8_feed 71 = .ok (.iadd, 1) := by decide +kernel
theorem dX8_feed_72 : decode cX8_feed 72 = .ok (.putfield 58, 3) := by decide +kernel
theorem dX8_feed_75 : decode cX8_feed 75 = .ok (.iinc 4 1, 3) := by decide +kernel
theorem dX8_feed_78 : decode cX8_feed 78 = .ok (.goto (-40), 3) := by decide +kernel
theorem dX8_feed_81 : decode cX8_feed 81 = .ok (.aload_n 0, 1) := by decide +kernel
theorem dX8_feed_82 : decode cX8_feed 82 = .ok (.getfield 58, 3) := by decide +kernel
theorem dX8_feed_85 : decode cX8_feed 85 = .ok (.ireturn, 1) := by decide +kernel
theorem dX8_isHere_0 : decode cX8_isHere 0 = .ok (.aload_n 0, 1) := by decide +kernel
theorem dX8_isHere_1 : decode cX8_isHere 1 = .ok (.getfield 64, 3) := by decide +kernel
theorem dX8_isHere_4 : decode cX8_isHere 4 = .ok (.ifCond .ne 31, 3) := by decide +kernel
theorem dX8_isHere_7 : decode cX8_isHere 7 = .ok (.aload_n 0, 1) := by decide +kernel
theorem dX8_isHere_8 : decode cX8_isHere 8 = .ok (.getfield 68, 3) := by decide +kernel
theorem dX8_isHere_11 : decode cX8_isHere 11 = .ok (.aload_n 0, 1) := by decide +kernel
theorem dX8_isHere_12 : decode cX8_isHere 12 = .ok (.getfield 58, 3) := by decide +kernel
theorem dX8_isHere_15 : decode cX8_isHere 15 = .ok (.if_icmp .ge 20, 3) := by decide +kernel
theorem dX8_isHere_18 : decode cX8_isHere 18 = .ok (.aload_n 0, 1) := by decide +kernel
theorem dX8_isHere_19 : decode cX8_isHere 19 = .ok (.getfield 16, 3) := by decide +kernel
theorem dX8_isHere_22 : decode cX8_isHere 22 = .ok (.aload_n 0, 1) := by decide +kernel
theorem dX8_isHere_23 : decode cX8_isHere 23 = .ok (.getfield 68, 3) := by decide +kernel
theorem dX8_isHere_26 : decode cX8_isHere 26 = .ok (.iaload, 1) := by decide +kernel
theorem dX8_isHere_27 : decode cX8_isHere 27 = .ok (.iload_n 1, 1) := by decide +kernel
theorem dX8_isHere_28 : decode cX8_isHere 28 = .ok (.if_icmp .ne 7, 3) := by decide +kernel
theorem dX8_isHere_31 : decode cX8_isHere 31 = .ok (.iconst 1, 1) := by decide +kernel
theorem dX8_isHere_32 : decode cX8_isHere 32 = .ok (.goto 4, 3) := by decide +kernel
theorem dX8_isHere_35 : decode cX8_isHere 35 = .ok (.iconst 0, 1) := by decide +kernel
theorem dX8_isHere_36 : decode cX8_isHere 36 = .ok (.ireturn, 1) := by decide +kernel
theorem dX8_need_0 : decode cX8_need 0 = .ok (.aload_n 0, 1) := by decide +kernel
theorem dX8_need_1 : decode cX8_need 1 = .ok (.aload_n 0, 1) := by decide +kernel
theorem dX8_need_2 : decode cX8_need 2 = .ok (.getfield 64, 3) := by decide +kernel
theorem dX8_need_5 : decode cX8_need 5 = .ok (.ifCond .ne 11, 3) := by decide +kernel
theorem dX8_need_8 : decode cX8_need 8 = .ok (.aload_n 0, 1) := by decide +kernel
theorem dX8_need_9 : decode cX8_need 9 = .ok (.iload_n 1, 1) := by decide +kernel
theorem dX8_need_10 : decode cX8_need 10 = .ok (.invokevirtual 71, 3) := by decide +kernel
theorem dX8_need_13 : decode cX8_need 13 = .ok (.ifCond .ne 7, 3) := by decide +kernel
theorem dX8_need_16 : decode cX8_need 16 = .ok (.iconst 1, 1) := by decide +kernel
theorem dX8_need_17 : decode cX8_need 17 = .ok (.goto 4, 3) := by decide +kernel
theorem dX8_need_20 : decode cX8_need 20 = .ok (.iconst 0, 1) := by decide +kernel
theorem dX8_need_21 : decode cX8_need 21 = .ok (.putfield 64, 3) := by decide +kernel
theorem dX8_need_24 : decode cX8_need 24 = .ok (.aload_n 0, 1) := by decide +kernel
theorem dX8_need_25 : decode cX8_need 25 = .ok (.dup, 1) := by decide +kernel
theorem dX8_need_26 : decode cX8_need 26 = .ok (.getfield 68, 3) := by decide +kernel
theorem dX8_need_29 : decode cX8_need 29 = .ok (.aload_n 0, 1) := by decide +kernel
theorem dX8_need_30 : decode cX8_need 30 = .ok (.getfield 64, 3) := by decide +kernel
theorem dX8_need_33 : decode cX8_need 33 = .ok (.ifCond .eq 7, 3) := by decide +kernel
theorem dX8_need_36 : decode cX8_need 36 = .ok (.iconst 0, 1) := by decide +kernel
theorem dX8_need_37 : decode cX8_need 37 = .ok (.goto 4, 3) := by decide +kernel
theorem dX8_need_40 : decode cX8_need 40 = .ok (.iconst 1, 1) := by decide +kernel
theorem dX8_need_41 : decode cX8_need 41 = .ok (.iadd, 1) := by decide +kernel
theorem dX8_need_42 : decode cX8_need 42 = .ok (.putfield 68, 3) := by decide +kernel
theorem dX8_need_45 : decode cX8_need 45 = .ok (.return_, 1) := by decide +kernel
theorem dX8_isDigit_0 : decode cX8_isDigit 0 = .ok (.aload_n 0, 1) := by decide +kernel
theorem dX8_isDigit_1 : decode cX8_isDigit 1 = .ok (.getfield 64, 3) := by decide +kernel
theorem dX8_isDigit_4 : decode cX8_isDigit 4 = .ok (.ifCond .ne 37, 3) := by decide +kernel
theorem dX8_isDigit_7 : decode cX8_isDigit 7 = .ok (.aload_n 0, 1) := by decide +kernel
theorem dX8_isDigit_8 : decode cX8_isDigit 8 = .ok (.getfield 68, 3) := by decide +kernel
theorem dX8_isDigit_11 : decode cX8_isDigit 11 = .ok (.aload_n 0, 1) := by decide +kernel
theorem dX8_isDigit_12 : decode cX8_isDigit 12 = .ok (.getfield 58, 3) := by decide +kernel
theorem dX8_isDigit_15 : decode cX8_isDigit 15 = .ok (.if_icmp .ge 26, 3) := by decide +kernel
theorem dX8_isDigit_18 : decode cX8_isDigit 18 = .ok (.aload_n 0, 1) := by decide +kernel
theorem dX8_isDigit_19 : decode cX8_isDigit 19 = .ok (.getfield 16, 3) := by decide +kernel
theorem dX8_isDigit_22 : decode cX8_isDigit 22 = .ok (.aload_n 0, 1) := by decide +kernel
theorem dX8_isDigit_23 : decode cX8_isDigit 23 = .ok (.getfield 68, 3) := by decide +kernel
theorem dX8_isDigit_26 : decode cX8_isDigit 26 = .ok (.iaload, 1) := by decide +kernel
theorem dX8_isDigit_27 : decode cX8_isDigit 27 = .ok (.bipush 48, 2) := by decide +kernel
theorem dX8_isDigit_29 : decode cX8_isDigit 29 = .ok (.bipush 57, 2) := by decide +kernel
theorem dX8_isDigit_31 : decode cX8_isDigit 31 = .ok (.invokestatic 41, 3) := by decide +kernel
theorem dX8_isDigit_34 : decode cX8_isDigit 34 = .ok (.ifCond .eq 7, 3) := by decide +kernel
theorem dX8_isDigit_37 : decode cX8_isDigit 37 = .ok (.iconst 1, 1) := by decide +kernel
theorem dX8_isDigit_38 : decode cX8_isDigit 38 = .ok (.goto 4, 3) := by decide +kernel
theorem dX8_isDigit_41 : decode cX8_isDigit 41 = .ok (.iconst 0, 1) := by decide +kernel
theorem dX8_isDigit_42 : decode cX8_isDigit 42 = .ok (.ireturn, 1) := by decide +kernel
theorem dX8_number_0 : decode cX8_number 0 = .ok (.aload_n 0, 1) := by decide +kernel
theorem dX8_number_1 : decode cX8_number 1 = .ok (.aload_n 0, 1) := by decide +kernel
theorem dX8_number_2 : decode cX8_number 2 = .ok (.getfield 64, 3) := by decide +kernel
theorem dX8_number_5 : decode cX8_number 5 = .ok (.ifCond .ne 10, 3) := by decide +kernel
theorem dX8_number_8 : decode cX8_number 8 = .ok (.aload_n 0, 1) := by decide +kernel
theorem dX8_number_9 : decode cX8_number 9 = .ok (.invokevirtual 75, 3) := by decide +kernel
theorem dX8_number_12 : decode cX8_number 12 = .ok (.ifCond .ne 7, 3) := by decide +kernel
theorem dX8_number_15 : decode cX8_number 15 = .ok (.iconst 1, 1) := by decide +kernel
theorem dX8_number_16 : decode cX8_number 16 = .ok (.goto 4, 3) := by decide +kernel
theorem dX8_number_19 : decode cX8_number 19 = .ok (.iconst 0, 1) := by decide +kernel
theorem dX8_number_20 : decode cX8_number 20 = .ok (.putfield 64, 3) := by decide +kernel
theorem dX8_number_23 : decode cX8_number 23 = .ok (.iconst 0, 1) := by decide +kernel
theorem dX8_number_24 : decode cX8_number 24 = .ok (.istore_n 1, 1) := by decide +kernel
theorem dX8_number_25 : decode cX8_number 25 = .ok (.iconst 0, 1) := by decide +kernel
theorem dX8_number_26 : decode cX8_number 26 = .ok (.istore_n 2, 1) := by decide +kernel
theorem dX8_number_27 : decode cX8_number 27 = .ok (.iload_n 2, 1) := by decide +kernel
theorem dX8_number_28 : decode cX8_number 28 = .ok (.iconst 2, 1) := by decide +kernel
theorem dX8_number_29 : decode cX8_number 29 = .ok (.if_icmp .ge 44, 3) := by decide +kernel
theorem dX8_number_32 : decode cX8_number 32 = .ok (.aload_n 0, 1) := by decide +kernel
theorem dX8_number_33 : decode cX8_number 33 = .ok (.invokevirtual 75, 3) := by decide +kernel
theorem dX8_number_36 : decode cX8_number 36 = .ok (.ifCond .eq 37, 3) := by decide +kernel
theorem dX8_number_39 : decode cX8_number 39 = .ok (.bipush 10, 2) := by decide +kernel
theorem dX8_number_41 : decode cX8_number 41 = .ok (.iload_n 1, 1) := by decide +kernel
theorem dX8_number_42 : decode cX8_number 42 = .ok (.imul, 1) := by decide +kernel
theorem dX8_number_43 : decode cX8_number 43 = .ok (.aload_n 0, 1) := by decide +kernel
theorem dX8_number_44 : decode cX8_number 44 = .ok (.getfield 16, 3) := by decide +kernel
theorem dX8_number_47 : decode cX8_number 47 = .ok (.aload_n 0, 1) := by decide +kernel
theorem dX8_number_48 : decode cX8_number 48 = .ok (.getfield 68, 3) := by decide +kernel
theorem dX8_number_51 : decode cX8_number 51 = .ok (.iaload, 1) := by decide +kernel
theorem dX8_number_52 : decode cX8_number 52 = .ok (.iadd, 1) := by decide +kernel
theorem dX8_number_53 : decode cX8_number 53 = .ok (.bipush 48, 2) := by decide +kernel
theorem dX8_number_55 : decode cX8_number 55 = .ok (.isub, 1) := by decide +kernel
theorem dX8_number_56 : decode cX8_number 56 = .ok (.istore_n 1, 1) := by decide +kernel
theorem dX8_number_57 : decode cX8_number 57 = .ok (.aload_n 0, 1) := by decide +kernel
theorem dX8_number_58 : decode cX8_number 58 = .ok (.dup, 1) := by decide +kernel
theorem dX8_number_59 : decode cX8_number 59 = .ok (.getfield 68, 3) := by decide +kernel
theorem dX8_number_62 : decode cX8_number 62 = .ok (.iconst 1, 1) := by decide +kernel
theorem dX8_number_63 : decode cX8_number 63 = .ok (.iadd, 1) := by decide +kernel
theorem dX8_number_64 : decode cX8_number 64 = .ok (.putfield 68, 3) := by decide +kernel
theorem dX8_number_67 : decode cX8_number 67 = .ok (.iinc 2 1, 3) := by decide +kernel
theorem dX8_number_70 : decode cX8_number 70 = .ok (.goto (-43), 3) := by decide +kernel
theorem dX8_number_73 : decode cX8_number 73 = .ok (.iload_n 1, 1) := by decide +kernel
theorem dX8_number_74 : decode cX8_number 74 = .ok (.ireturn, 1) := by decide +kernel
theorem dX8_readSort_0 : decode cX8_readSort 0 = .ok (.aload_n 0, 1) := by decide +kernel
theorem dX8_readSort_1 : decode cX8_readSort 1 = .ok (.bipush 70, 2) := by decide +kernel
theorem dX8_readSort_3 : decode cX8_readSort 3 = .ok (.invokevirtual 71, 3) := by decide +kernel
theorem dX8_readSort_6 : decode cX8_readSort 6 = .ok (.ifCond .eq 59, 3) := by decide +kernel
theorem dX8_readSort_9 : decode cX8_readSort 9 = .ok (.aload_n 0, 1) := by decide +kernel
theorem dX8_readSort_10 : decode cX8_readSort 10 = .ok (.dup, 1) := by decide +kernel
theorem dX8_readSort_11 : decode cX8_readSort 11 = .ok (.getfield 68, 3) := by decide +kernel
theorem dX8_readSort_14 : decode cX8_readSort 14 = .ok (.iconst 1, 1) := by decide +kernel
theorem dX8_readSort_15 : decode cX8_readSort 15 = .ok (.iadd, 1) := by decide +kernel
theorem dX8_readSort_16 : decode cX8_readSort 16 = .ok (.putfield 68, 3) := by decide +kernel
theorem dX8_readSort_19 : decode cX8_readSort 19 = .ok (.aload_n 0, 1) := by decide +kernel
theorem dX8_readSort_20 : decode cX8_readSort 20 = .ok (.aload_n 0, 1) := by decide +kernel
theorem dX8_readSort_21 : decode cX8_readSort 21 = .ok (.bipush 108, 2) := by decide +kernel
theorem dX8_readSort_23 : decode cX8_readSort 23 = .ok (.invokevirtual 71, 3) := by decide +kernel
theorem dX8_readSort_26 : decode cX8_readSort 26 = .ok (.ifCond .eq 8, 3) := by decide +kernel
theorem dX8_readSort_29 : decode cX8_readSort 29 = .ok (.bipush 108, 2) := by decide +kernel
theorem dX8_readSort_31 : decode cX8_readSort 31 = .ok (.goto 5, 3) := by decide +kernel
theorem dX8_readSort_34 : decode cX8_readSort 34 = .ok (.bipush 70, 2) := by decide +kernel
theorem dX8_readSort_36 : decode cX8_readSort 36 = .ok (.putfield 79, 3) := by decide +kernel
theorem dX8_readSort_39 : decode cX8_readSort 39 = .ok (.aload_n 0, 1) := by decide +kernel
theorem dX8_readSort_40 : decode cX8_readSort 40 = .ok (.dup, 1) := by decide +kernel
theorem dX8_readSort_41 : decode cX8_readSort 41 = .ok (.getfield 68, 3) := by decide +kernel
theorem dX8_readSort_44 : decode cX8_readSort 44 = .ok (.aload_n 0, 1) := by decide +kernel
theorem dX8_readSort_45 : decode cX8_readSort 45 = .ok (.getfield 79, 3) := by decide +kernel
theorem dX8_readSort_48 : decode cX8_readSort 48 = .ok (.bipush 108, 2) := by decide +kernel
theorem dX8_readSort_50 : decode cX8_readSort 50 = .ok (.if_icmp .ne 7, 3) := by decide +kernel
theorem dX8_readSort_53 : decode cX8_readSort 53 = .ok (.iconst 1, 1) := by decide +kernel
theorem dX8_readSort_54 : decode cX8_readSort 54 = .ok (.goto 4, 3) := by decide +kernel
theorem dX8_readSort_57 : decode cX8_readSort 57 = .ok (.iconst 0, 1) := by decide +kernel
theorem dX8_readSort_58 : decode cX8_readSort 58 = .ok (.iadd, 1) := by decide +kernel
theorem dX8_readSort_59 : decode cX8_readSort 59 = .ok (.putfield 68, 3) := by decide +kernel
theorem dX8_readSort_62 : decode cX8_readSort 62 = .ok (.goto 89, 3) := by decide +kernel
theorem dX8_readSort_65 : decode cX8_readSort 65 = .ok (.aload_n 0, 1) := by decide +kernel
theorem dX8_readSort_66 : decode cX8_readSort 66 = .ok (.bipush 79, 2) := by decide +kernel
theorem dX8_readSort_68 : decode cX8_readSort 68 = .ok (.invokevirtual 71, 3) := by decide +kernel
theorem dX8_readSort_71 : decode cX8_readSort 71 = .ok (.ifCond .eq 28, 3) := by decide +kernel
theorem dX8_readSort_74 : decode cX8_readSort 74 = .ok (.aload_n 0, 1) := by decide +kernel
theorem dX8_readSort_75 : decode cX8_readSort 75 = .ok (.dup, 1) := by decide +kernel
theorem dX8_readSort_76 : decode cX8_readSort 76 = .ok (.getfield 68, 3) := by decide +kernel
theorem dX8_readSort_79 : decode cX8_readSort 79 = .ok (.iconst 1, 1) := by decide +kernel
theorem dX8_readSort_80 : decode cX8_readSort 80 = .ok (.iadd, 1) := by decide +kernel
theorem dX8_readSort_81 : decode cX8_readSort 81 = .ok (.putfield 68, 3) := by decide +kernel
theorem dX8_readSort_84 : decode cX8_readSort 84 = .ok (.aload_n 0, 1) := by decide +kernel
theorem dX8_readSort_85 : decode cX8_readSort 85 = .ok (.bipush 99, 2) := by decide +kernel
theorem dX8_readSort_87 : decode cX8_readSort 87 = .ok (.invokevirtual 82, 3) := by decide +kernel
theorem dX8_readSort_90 : decode cX8_readSort 90 = .ok (.aload_n 0, 1) := by decide +kernel
theorem dX8_readSort_91 : decode cX8_readSort 91 = .ok (.bipush 79, 2) := by decide +kernel
theorem dX8_readSort_93 : decode cX8_readSort 93 = .ok (.putfield 79, 3) := by decide +kernel
theorem dX8_readSort_96 : decode cX8_readSort 96 = .ok (.goto 55, 3) := by decide +kernel
theorem dX8_readSort_99 : decode cX8_readSort 99 = .ok (.aload_n 0, 1) := by decide +kernel
theorem dX8_readSort_100 : decode cX8_readSort 100 = .ok (.bipush 81, 2) := by decide +kernel
theorem dX8_readSort_102 : decode cX8_readSort 102 = .ok (.invokevirtual 71, 3) := by decide +kernel
theorem dX8_readSort_105 : decode cX8_readSort 105 = .ok (.ifCond .eq 22, 3) := by decide +kernel
theorem dX8_readSort_108 : decode cX8_readSort 108 = .ok (.aload_n 0, 1) := by decide +kernel
theorem dX8_readSort_109 : decode cX8_readSort 109 = .ok (.dup, 1) := by decide +kernel
theorem dX8_readSort_110 : decode cX8_readSort 110 = .ok (.getfield 68, 3) := by decide +kernel
theorem dX8_readSort_113 : decode cX8_readSort 113 = .ok (.iconst 1, 1) := by decide +kernel
theorem dX8_readSort_114 : decode cX8_readSort 114 = .ok (.iadd, 1) := by decide +kernel
theorem dX8_readSort_115 : decode cX8_readSort 115 = .ok (.putfield 68, 3) := by decide +kernel
theorem dX8_readSort_118 : decode cX8_readSort 118 = .ok (.aload_n 0, 1) := by decide +kernel
theorem dX8_readSort_119 : decode cX8_readSort 119 = .ok (.bipush 81, 2) := by decide +kernel
theorem dX8_readSort_121 : decode cX8_readSort 121 = .ok (.putfield 79, 3) := by decide +kernel
theorem dX8_readSort_124 : decode cX8_readSort 124 = .ok (.goto 27, 3) := by decide +kernel
theorem dX8_readSort_127 : decode cX8_readSort 127 = .ok (.aload_n 0, 1) := by decide +kernel
theorem dX8_readSort_128 : decode cX8_readSort 128 = .ok (.bipush 73, 2) := by decide +kernel
theorem dX8_readSort_130 : decode cX8_readSort 130 = .ok (.invokevirtual 82, 3) := by decide +kernel
theorem dX8_readSort_133 : decode cX8_readSort 133 = .ok (.aload_n 0, 1) := by decide +kernel
theorem dX8_readSort_134 : decode cX8_readSort 134 = .ok (.bipush 115, 2) := by decide +kernel
theorem dX8_readSort_136 : decode cX8_readSort 136 = .ok (.invokevirtual 82, 3) := by decide +kernel
theorem dX8_readSort_139 : decode cX8_readSort 139 = .ok (.aload_n 0, 1) := by decide +kernel
theorem dX8_readSort_140 : decode cX8_readSort 140 = .ok (.bipush 111, 2) := by decide +kernel
theorem dX8_readSort_142 : decode cX8_readSort 142 = .ok (.invokevirtual 82, 3) := by decide +kernel
theorem dX8_readSort_145 : decode cX8_readSort 145 = .ok (.aload_n 0, 1) := by decide +kernel
theorem dX8_readSort_146 : decode cX8_readSort 146 = .ok (.bipush 73, 2) := by decide +kernel
theorem dX8_readSort_148 : decode cX8_readSort 148 = .ok (.putfield 79, 3) := by decide +kernel
theorem dX8_readSort_151 : decode cX8_readSort 151 = .ok (.aload_n 0, 1) := by decide +kernel
theorem dX8_readSort_152 : decode cX8_readSort 152 = .ok (.iconst 1, 1) := by decide +kernel
theorem dX8_readSort_153 : decode cX8_readSort 153 = .ok (.putfield 86, 3) := by decide +kernel
theorem dX8_readSort_156 : decode cX8_readSort 156 = .ok (.aload_n 0, 1) := by decide +kernel
theorem dX8_readSort_157 : decode cX8_readSort 157 = .ok (.getfield 79, 3) := by decide +kernel
theorem dX8_readSort_160 : decode cX8_readSort 160 = .ok (.bipush 70, 2) := by decide +kernel
theorem dX8_readSort_162 : decode cX8_readSort 162 = .ok (.if_icmp .eq 45, 3) := by decide +kernel
theorem dX8_readSort_165 : decode cX8_readSort 165 = .ok (.aload_n 0, 1) := by decide +kernel
theorem dX8_readSort_166 : decode cX8_readSort 166 = .ok (.getfield 79, 3) := by decide +kernel
theorem dX8_readSort_169 : decode cX8_readSort 169 = .ok (.bipush 73, 2) := by decide +kernel
theorem dX8_readSort_171 : decode cX8_readSort 171 = .ok (.if_icmp .eq 36, 3) := by decide +kernel
theorem dX8_readSort_174 : decode cX8_readSort 174 = .ok (.aload_n 0, 1) := by decide +kernel
theorem dX8_readSort_175 : decode cX8_readSort 175 = .ok (.bipush 40, 2) := by decide +kernel
theorem dX8_readSort_177 : decode cX8_readSort 177 = .ok (.invokevirtual 71, 3) := by decide +kernel
theorem dX8_readSort_180 : decode cX8_readSort 180 = .ok (.ifCond .eq 27, 3) := by decide +kernel
theorem dX8_readSort_183 : decode cX8_readSort 183 = .ok (.aload_n 0, 1) := by decide +kernel
theorem dX8_readSort_184 : decode cX8_readSort 184 = .ok (.dup, 1) := by decide +kernel
theorem dX8_readSort_185 : decode cX8_readSort 185 = .ok (.getfield 68, 3) := by decide +kernel
theorem dX8_readSort_188 : decode cX8_readSort 188 = .ok (.iconst 1, 1) := by decide +kernel
theorem dX8_readSort_189 : decode cX8_readSort 189 = .ok (.iadd, 1) := by decide +kernel
theorem dX8_readSort_190 : decode cX8_readSort 190 = .ok (.putfield 68, 3) := by decide +kernel
theorem dX8_readSort_193 : decode cX8_readSort 193 = .ok (.aload_n 0, 1) := by decide +kernel
theorem dX8_readSort_194 : decode cX8_readSort 194 = .ok (.aload_n 0, 1) := by decide +kernel
theorem dX8_readSort_195 : decode cX8_readSort 195 = .ok (.invokevirtual 89, 3) := by decide +kernel
theorem dX8_readSort_198 : decode cX8_readSort 198 = .ok (.putfield 86, 3) := by decide +kernel
theorem dX8_readSort_201 : decode cX8_readSort 201 = .ok (.aload_n 0, 1) := by decide +kernel
theorem dX8_readSort_202 : decode cX8_readSort 202 = .ok (.bipush 41, 2) := by decide +kernel
theorem dX8_readSort_204 : decode cX8_readSort 204 = .ok (.invokevirtual 82, 3) := by decide +kernel
theorem dX8_readSort_207 : decode cX8_readSort 207 = .ok (.return_, 1) := by decide +kernel
theorem dX8_goesIn_0 : decode cX8_goesIn 0 = .ok (.aload_n 0, 1) := by decide +kernel
theorem dX8_goesIn_1 : decode cX8_goesIn 1 = .ok (.getfield 79, 3) := by decide +kernel
theorem dX8_goesIn_4 : decode cX8_goesIn 4 = .ok (.lookupswitch 58 #[(70, 28), (73, 30)], 28) := by decide +kernel
theorem dX8_goesIn_32 : decode cX8_goesIn 32 = .ok (.iconst 1, 1) := by decide +kernel
theorem dX8_goesIn_33 : decode cX8_goesIn 33 = .ok (.ireturn, 1) := by decide +kernel
theorem dX8_goesIn_34 : decode cX8_goesIn 34 = .ok (.aload_n 0, 1) := by decide +kernel
theorem dX8_goesIn_35 : decode cX8_goesIn 35 = .ok (.getfield 93, 3) := by decide +kernel
theorem dX8_goesIn_38 : decode cX8_goesIn 38 = .ok (.iconst 1, 1) := by decide +kernel
theorem dX8_goesIn_39 : decode cX8_goesIn 39 = .ok (.bipush 30, 2) := by decide +kernel
theorem dX8_goesIn_41 : decode cX8_goesIn 41 = .ok (.invokestatic 41, 3) := by decide +kernel
theorem dX8_goesIn_44 : decode cX8_goesIn 44 = .ok (.ifCond .eq 16, 3) := by decide +kernel
theorem dX8_goesIn_47 : decode cX8_goesIn 47 = .ok (.aload_n 0, 1) := by decide +kernel
theorem dX8_goesIn_48 : decode cX8_goesIn 48 = .ok (.getfield 93, 3) := by decide +kernel
theorem dX8_goesIn_51 : decode cX8_goesIn 51 = .ok (.iconst 2, 1) := by decide +kernel
theorem dX8_goesIn_52 : decode cX8_goesIn 52 = .ok (.irem, 1) := by decide +kernel
theorem dX8_goesIn_53 : decode cX8_goesIn 53 = .ok (.ifCond .ne 7, 3) := by decide +kernel
theorem dX8_goesIn_56 : decode cX8_goesIn 56 = .ok (.iconst 1, 1) := by decide +kernel
theorem dX8_goesIn_57 : decode cX8_goesIn 57 = .ok (.goto 4, 3) := by decide +kernel
theorem dX8_goesIn_60 : decode cX8_goesIn 60 = .ok (.iconst 0, 1) := by decide +kernel
theorem dX8_goesIn_61 : decode cX8_goesIn 61 = .ok (.ireturn, 1) := by decide +kernel
theorem dX8_goesIn_62 : decode cX8_goesIn 62 = .ok (.aload_n 0, 1) := by decide +kernel
theorem dX8_goesIn_63 : decode cX8_goesIn 63 = .ok (.getfield 93, 3) := by decide +kernel
theorem dX8_goesIn_66 : decode cX8_goesIn 66 = .ok (.iconst 1, 1) := by decide +kernel
theorem dX8_goesIn_67 : decode cX8_goesIn 67 = .ok (.bipush 30, 2) := by decide +kernel
theorem dX8_goesIn_69 : decode cX8_goesIn 69 = .ok (.invokestatic 41, 3) := by decide +kernel
theorem dX8_goesIn_72 : decode cX8_goesIn 72 = .ok (.ifCond .eq 48, 3) := by decide +kernel
theorem dX8_goesIn_75 : decode cX8_goesIn 75 = .ok (.aload_n 0, 1) := by decide +kernel
theorem dX8_goesIn_76 : decode cX8_goesIn 76 = .ok (.getfield 86, 3) := by decide +kernel
theorem dX8_goesIn_79 : decode cX8_goesIn 79 = .ok (.iconst 1, 1) := by decide +kernel
theorem dX8_goesIn_80 : decode cX8_goesIn 80 = .ok (.bipush 15, 2) := by decide +kernel
theorem dX8_goesIn_82 : decode cX8_goesIn 82 = .ok (.invokestatic 41, 3) := by decide +kernel
theorem dX8_goesIn_85 : decode cX8_goesIn 85 = .ok (.ifCond .eq 35, 3) := by decide +kernel
theorem dX8_goesIn_88 : decode cX8_goesIn 88 = .ok (.iconst 2, 1) := by decide +kernel
theorem dX8_goesIn_89 : decode cX8_goesIn 89 = .ok (.aload_n 0, 1) := by decide +kernel
theorem dX8_goesIn_90 : decode cX8_goesIn 90 = .ok (.getfield 86, 3) := by decide +kernel
theorem dX8_goesIn_93 : decode cX8_goesIn 93 = .ok (.imul, 1) := by decide +kernel
theorem dX8_goesIn_94 : decode cX8_goesIn 94 = .ok (.aload_n 0, 1) := by decide +kernel
theorem dX8_goesIn_95 : decode cX8_goesIn 95 = .ok (.getfield 79, 3) := by decide +kernel
theorem dX8_goesIn_98 : decode cX8_goesIn 98 = .ok (.bipush 81, 2) := by decide +kernel
theorem dX8_goesIn_100 : decode cX8_goesIn 100 = .ok (.if_icmp .ne 7, 3) := by decide +kernel
theorem dX8_goesIn_103 : decode cX8_goesIn 103 = .ok (.iconst 1, 1) := by decide +kernel
theorem dX8_goesIn_104 : decode cX8_goesIn 104 = .ok (.goto 4, 3) := by decide +kernel
theorem dX8_goesIn_107 : decode cX8_goesIn 107 = .ok (.iconst 0, 1) := by decide +kernel
theorem dX8_goesIn_108 : decode cX8_goesIn 108 = .ok (.iadd, 1) := by decide +kernel
theorem dX8_goesIn_109 : decode cX8_goesIn 109 = .ok (.aload_n 0, 1) := by decide +kernel
theorem dX8_goesIn_110 : decode cX8_goesIn 110 = .ok (.getfield 93, 3) := by decide +kernel
theorem dX8_goesIn_113 : decode cX8_goesIn 113 = .ok (.if_icmp .gt 7, 3) := by decide +kernel
theorem dX8_goesIn_116 : decode cX8_goesIn 116 = .ok (.iconst 1, 1) := by decide +kernel
theorem dX8_goesIn_117 : decode cX8_goesIn 117 = .ok (.goto 4, 3) := by decide +kernel
theorem dX8_goesIn_120 : decode cX8_goesIn 120 = .ok (.iconst 0, 1) := by decide +kernel
theorem dX8_goesIn_121 : decode cX8_goesIn 121 = .ok (.ireturn, 1) := by decide +kernel
theorem dX8_faultOf_0 : decode cX8_faultOf 0 = .ok (.aload_n 0, 1) := by decide +kernel
theorem dX8_faultOf_1 : decode cX8_faultOf 1 = .ok (.iconst 0, 1) := by decide +kernel
theorem dX8_faultOf_2 : decode cX8_faultOf 2 = .ok (.putfield 68, 3) := by decide +kernel
theorem dX8_faultOf_5 : decode cX8_faultOf 5 = .ok (.aload_n 0, 1) := by decide +kernel
theorem dX8_faultOf_6 : decode cX8_faultOf 6 = .ok (.iconst 0, 1) := by decide +kernel
theorem dX8_faultOf_7 : decode cX8_faultOf 7 = .ok (.putfield 64, 3) := by decide +kernel
theorem dX8_faultOf_10 : decode cX8_faultOf 10 = .ok (.aload_n 0, 1) := by decide +kernel
theorem dX8_faultOf_11 : decode cX8_faultOf 11 = .ok (.invokevirtual 96, 3) := by decide +kernel
theorem dX8_faultOf_14 : decode cX8_faultOf 14 = .ok (.aload_n 0, 1) := by decide +kernel
theorem dX8_faultOf_15 : decode cX8_faultOf 15 = .ok (.aload_n 0, 1) := by decide +kernel
theorem dX8_faultOf_16 : decode cX8_faultOf 16 = .ok (.bipush 87, 2) := by decide +kernel
theorem dX8_faultOf_18 : decode cX8_faultOf 18 = .ok (.invokevirtual 71, 3) := by decide +kernel
theorem dX8_faultOf_21 : decode cX8_faultOf 21 = .ok (.ifCond .eq 7, 3) := by decide +kernel
theorem dX8_faultOf_24 : decode cX8_faultOf 24 = .ok (.iconst 0, 1) := by decide +kernel
theorem dX8_faultOf_25 : decode cX8_faultOf 25 = .ok (.goto 17, 3) := by decide +kernel
theorem dX8_faultOf_28 : decode cX8_faultOf 28 = .ok (.aload_n 0, 1) := by decide +kernel
theorem dX8_faultOf_29 : decode cX8_faultOf 29 = .ok (.bipush 82, 2) := by decide +kernel
theorem dX8_faultOf_31 : decode cX8_faultOf 31 = .ok (.invokevirtual 71, 3) := by decide +kernel
theorem dX8_faultOf_34 : decode cX8_faultOf 34 = .ok (.ifCond .eq 7, 3) := by decide +kernel
theorem dX8_faultOf_37 : decode cX8_faultOf 37 = .ok (.iconst 1, 1) := by decide +kernel
theorem dX8_faultOf_38 : decode cX8_faultOf 38 = .ok (.goto 4, 3) := by decide +kernel
theorem dX8_faultOf_41 : decode cX8_faultOf 41 = .ok (.iconst 2, 1) := by decide +kernel
theorem dX8_faultOf_42 : decode cX8_faultOf 42 = .ok (.putfield 99, 3) := by decide +kernel
theorem dX8_faultOf_45 : decode cX8_faultOf 45 = .ok (.aload_n 0, 1) := by decide +kernel
theorem dX8_faultOf_46 : decode cX8_faultOf 46 = .ok (.aload_n 0, 1) := by decide +kernel
theorem dX8_faultOf_47 : decode cX8_faultOf 47 = .ok (.getfield 99, 3) := by decide +kernel
theorem dX8_faultOf_50 : decode cX8_faultOf 50 = .ok (.ifCond .ne 8, 3) := by decide +kernel
theorem dX8_faultOf_53 : decode cX8_faultOf 53 = .ok (.bipush 87, 2) := by decide +kernel
theorem dX8_faultOf_55 : decode cX8_faultOf 55 = .ok (.goto 18, 3) := by decide +kernel
theorem dX8_faultOf_58 : decode cX8_faultOf 58 = .ok (.aload_n 0, 1) := by decide +kernel
theorem dX8_faultOf_59 : decode cX8_faultOf 59 = .ok (.getfield 99, 3) := by decide +kernel
theorem dX8_faultOf_62 : decode cX8_faultOf 62 = .ok (.iconst 1, 1) := by decide +kernel
theorem dX8_faultOf_63 : decode cX8_faultOf 63 = .ok (.if_icmp .ne 8, 3) := by decide +kernel
theorem dX8_faultOf_66 : decode cX8_faultOf 66 = .ok (.bipush 82, 2) := by decide +kernel
theorem dX8_faultOf_68 : decode cX8_faultOf 68 = .ok (.goto 5, 3) := by decide +kernel
theorem dX8_faultOf_71 : decode cX8_faultOf 71 = .ok (.bipush 71, 2) := by decide +kernel
theorem dX8_faultOf_73 : decode cX8_faultOf 73 = .ok (.invokevirtual 82, 3) := by decide +kernel
theorem dX8_faultOf_76 : decode cX8_faultOf 76 = .ok (.aload_n 0, 1) := by decide +kernel
theorem dX8_faultOf_77 : decode cX8_faultOf 77 = .ok (.iconst 1, 1) := by decide +kernel
theorem dX8_faultOf_78 : decode cX8_faultOf 78 = .ok (.putfield 93, 3) := by decide +kernel
theorem dX8_faultOf_81 : decode cX8_faultOf 81 = .ok (.aload_n 0, 1) := by decide +kernel
theorem dX8_faultOf_82 : decode cX8_faultOf 82 = .ok (.getfield 64, 3) := by decide +kernel
theorem dX8_faultOf_85 : decode cX8_faultOf 85 = .ok (.ifCond .ne 34, 3) := by decide +kernel
theorem dX8_faultOf_88 : decode cX8_faultOf 88 = .ok (.aload_n 0, 1) := by decide +kernel
theorem dX8_faultOf_89 : decode cX8_faultOf 89 = .ok (.getfield 79, 3) := by decide +kernel
theorem dX8_faultOf_92 : decode cX8_faultOf 92 = .ok (.bipush 70, 2) := by decide +kernel
theorem dX8_faultOf_94 : decode cX8_faultOf 94 = .ok (.if_icmp .eq 25, 3) := by decide +kernel
theorem dX8_faultOf_97 : decode cX8_faultOf 97 = .ok (.aload_n 0, 1) := by decide +kernel
theorem dX8_faultOf_98 : decode cX8_faultOf 98 = .ok (.aload_n 0, 1) := by decide +kernel
theorem dX8_faultOf_99 : decode cX8_faultOf 99 = .ok (.getfield 68, 3) := by decide +kernel
theorem dX8_faultOf_102 : decode cX8_faultOf 102 = .ok (.putfield 102, 3) := by decide +kernel
theorem dX8_faultOf_105 : decode cX8_faultOf 105 = .ok (.aload_n 0, 1) := by decide +kernel
theorem dX8_faultOf_106 : decode cX8_faultOf 106 = .ok (.aload_n 0, 1) := by decide +kernel
theorem dX8_faultOf_107 : decode cX8_faultOf 107 = .ok (.invokevirtual 89, 3) := by decide +kernel
theorem dX8_faultOf_110 : decode cX8_faultOf 110 = .ok (.putfield 93, 3) := by decide +kernel
theorem dX8_faultOf_113 : decode cX8_faultOf 113 = .ok (.aload_n 0, 1) := by decide +kernel
theorem dX8_faultOf_114 : decode cX8_faultOf 114 = .ok (.bipush 115, 2) := by decide +kernel
theorem dX8_faultOf_116 : decode cX8_faultOf 116 = .ok (.invokevirtual 82, 3) := by decide +kernel
theorem dX8_faultOf_119 : decode cX8_faultOf 119 = .ok (.aload_n 0, 1) := by decide +kernel
theorem dX8_faultOf_120 : decode cX8_faultOf 120 = .ok (.aload_n 0, 1) := by decide +kernel
theorem dX8_faultOf_121 : decode cX8_faultOf 121 = .ok (.getfield 64, 3) := by decide +kernel
theorem dX8_faultOf_124 : decode cX8_faultOf 124 = .ok (.ifCond .ne 14, 3) := by decide +kernel
theorem dX8_faultOf_127 : decode cX8_faultOf 127 = .ok (.aload_n 0, 1) := by decide +kernel
theorem dX8_faultOf_128 : decode cX8_faultOf 128 = .ok (.getfield 68, 3) := by decide +kernel
theorem dX8_faultOf_131 : decode cX8_faultOf 131 = .ok (.aload_n 0, 1) := by decide +kernel
theorem dX8_faultOf_132 : decode cX8_faultOf 132 = .ok (.getfield 58, 3) := by decide +kernel
theorem dX8_faultOf_135 : decode cX8_faultOf 135 = .ok (.if_icmp .ge 7, 3) := by decide +kernel
theorem dX8_faultOf_138 : decode cX8_faultOf 138 = .ok (.iconst 1, 1) := by decide +kernel
theorem dX8_faultOf_139 : decode cX8_faultOf 139 = .ok (.goto 4, 3) := by decide +kernel
theorem dX8_faultOf_142 : decode cX8_faultOf 142 = .ok (.iconst 0, 1) := by decide +kernel
theorem dX8_faultOf_143 : decode cX8_faultOf 143 = .ok (.putfield 64, 3) := by decide +kernel
theorem dX8_faultOf_146 : decode cX8_faultOf 146 = .ok (.aload_n 0, 1) := by decide +kernel
theorem dX8_faultOf_147 : decode cX8_faultOf 147 = .ok (.getfield 64, 3) := by decide +kernel
theorem dX8_faultOf_150 : decode cX8_faultOf 150 = .ok (.ifCond .eq 10, 3) := by decide +kernel
theorem dX8_faultOf_153 : decode cX8_faultOf 153 = .ok (.aload_n 0, 1) := by decide +kernel
theorem dX8_faultOf_154 : decode cX8_faultOf 154 = .ok (.getfield 68, 3) := by decide +kernel
theorem dX8_faultOf_157 : decode cX8_faultOf 157 = .ok (.goto 18, 3) := by decide +kernel
theorem dX8_faultOf_160 : decode cX8_faultOf 160 = .ok (.aload_n 0, 1) := by decide +kernel
theorem dX8_faultOf_161 : decode cX8_faultOf 161 = .ok (.invokevirtual 105, 3) := by decide +kernel
theorem dX8_faultOf_164 : decode cX8_faultOf 164 = .ok (.ifCond .eq 7, 3) := by decide +kernel
theorem dX8_faultOf_167 : decode cX8_faultOf 167 = .ok (.iconst (-1), 1) := by decide +kernel
theorem dX8_faultOf_168 : decode cX8_faultOf 168 = .ok (.goto 7, 3) := by decide +kernel
theorem dX8_faultOf_171 : decode cX8_faultOf 171 = .ok (.aload_n 0, 1) := by decide +kernel
theorem dX8_faultOf_172 : decode cX8_faultOf 172 = .ok (.getfield 102, 3) := by decide +kernel
theorem dX8_faultOf_175 : decode cX8_faultOf 175 = .ok (.ireturn, 1) := by decide +kernel
theorem dX8_isLit_0 : decode cX8_isLit 0 = .ok (.aload_n 0, 1) := by decide +kernel
theorem dX8_isLit_1 : decode cX8_isLit 1 = .ok (.getfield 79, 3) := by decide +kernel
theorem dX8_isLit_4 : decode cX8_isLit 4 = .ok (.lookupswitch 77 #[(70, 36), (73, 38), (79, 54)], 36) := by decide +kernel
theorem dX8_isLit_40 : decode cX8_isLit 40 = .ok (.iconst 1, 1) := by decide +kernel
theorem dX8_isLit_41 : decode cX8_isLit 41 = .ok (.ireturn, 1) := by decide +kernel
theorem dX8_isLit_42 : decode cX8_isLit 42 = .ok (.iload_n 1, 1) := by decide +kernel
theorem dX8_isLit_43 : decode cX8_isLit 43 = .ok (.aload_n 0, 1) := by decide +kernel
theorem dX8_isLit_44 : decode cX8_isLit 44 = .ok (.getfield 93, 3) := by decide +kernel
theorem dX8_isLit_47 : decode cX8_isLit 47 = .ok (.iconst 2, 1) := by decide +kernel
theorem dX8_isLit_48 : decode cX8_isLit 48 = .ok (.idiv, 1) := by decide +kernel
theorem dX8_isLit_49 : decode cX8_isLit 49 = .ok (.if_icmp .ge 7, 3) := by decide +kernel
theorem dX8_isLit_52 : decode cX8_isLit 52 = .ok (.iconst 1, 1) := by decide +kernel
theorem dX8_isLit_53 : decode cX8_isLit 53 = .ok (.goto 4, 3) := by decide +kernel
theorem dX8_isLit_56 : decode cX8_isLit 56 = .ok (.iconst 0, 1) := by decide +kernel
theorem dX8_isLit_57 : decode cX8_isLit 57 = .ok (.ireturn, 1) := by decide +kernel
theorem dX8_isLit_58 : decode cX8_isLit 58 = .ok (.iload_n 1, 1) := by decide +kernel
theorem dX8_isLit_59 : decode cX8_isLit 59 = .ok (.iconst 2, 1) := by decide +kernel
theorem dX8_isLit_60 : decode cX8_isLit 60 = .ok (.aload_n 0, 1) := by decide +kernel
theorem dX8_isLit_61 : decode cX8_isLit 61 = .ok (.getfield 86, 3) := by decide +kernel
theorem dX8_isLit_64 : decode cX8_isLit 64 = .ok (.imul, 1) := by decide +kernel
theorem dX8_isLit_65 : decode cX8_isLit 65 = .ok (.if_icmp .ge 10, 3) := by decide +kernel
theorem dX8_isLit_68 : decode cX8_isLit 68 = .ok (.iload_n 1, 1) := by decide +kernel
theorem dX8_isLit_69 : decode cX8_isLit 69 = .ok (.iconst 2, 1) := by decide +kernel
theorem dX8_isLit_70 : decode cX8_isLit 70 = .ok (.irem, 1) := by decide +kernel
theorem dX8_isLit_71 : decode cX8_isLit 71 = .ok (.iconst 1, 1) := by decide +kernel
theorem dX8_isLit_72 : decode cX8_isLit 72 = .ok (.if_icmp .ne 7, 3) := by decide +kernel
theorem dX8_isLit_75 : decode cX8_isLit 75 = .ok (.iconst 1, 1) := by decide +kernel
theorem dX8_isLit_76 : decode cX8_isLit 76 = .ok (.goto 4, 3) := by decide +kernel
theorem dX8_isLit_79 : decode cX8_isLit 79 = .ok (.iconst 0, 1) := by decide +kernel
theorem dX8_isLit_80 : decode cX8_isLit 80 = .ok (.ireturn, 1) := by decide +kernel
theorem dX8_isLit_81 : decode cX8_isLit 81 = .ok (.iload_n 1, 1) := by decide +kernel
theorem dX8_isLit_82 : decode cX8_isLit 82 = .ok (.iconst 2, 1) := by decide +kernel
theorem dX8_isLit_83 : decode cX8_isLit 83 = .ok (.aload_n 0, 1) := by decide +kernel
theorem dX8_isLit_84 : decode cX8_isLit 84 = .ok (.getfield 86, 3) := by decide +kernel
theorem dX8_isLit_87 : decode cX8_isLit 87 = .ok (.imul, 1) := by decide +kernel
theorem dX8_isLit_88 : decode cX8_isLit 88 = .ok (.if_icmp .ge 13, 3) := by decide +kernel
theorem dX8_isLit_91 : decode cX8_isLit 91 = .ok (.iload_n 1, 1) := by decide +kernel
theorem dX8_isLit_92 : decode cX8_isLit 92 = .ok (.iconst 2, 1) := by decide +kernel
theorem dX8_isLit_93 : decode cX8_isLit 93 = .ok (.irem, 1) := by decide +kernel
theorem dX8_isLit_94 : decode cX8_isLit 94 = .ok (.ifCond .ne 7, 3) := by decide +kernel
theorem dX8_isLit_97 : decode cX8_isLit 97 = .ok (.iconst 1, 1) := by decide +kernel
theorem dX8_isLit_98 : decode cX8_isLit 98 = .ok (.goto 4, 3) := by decide +kernel
theorem dX8_isLit_101 : decode cX8_isLit 101 = .ok (.iconst 0, 1) := by decide +kernel
theorem dX8_isLit_102 : decode cX8_isLit 102 = .ok (.ireturn, 1) := by decide +kernel
theorem dX8_light_0 : decode cX8_light 0 = .ok (.iload_n 1, 1) := by decide +kernel
theorem dX8_light_1 : decode cX8_light 1 = .ok (.iconst 0, 1) := by decide +kernel
theorem dX8_light_2 : decode cX8_light 2 = .ok (.iconst 3, 1) := by decide +kernel
theorem dX8_light_3 : decode cX8_light 3 = .ok (.invokestatic 41, 3) := by decide +kernel
theorem dX8_light_6 : decode cX8_light 6 = .ok (.ifCond .eq 20, 3) := by decide +kernel
theorem dX8_light_9 : decode cX8_light 9 = .ok (.iload_n 2, 1) := by decide +kernel
theorem dX8_light_10 : decode cX8_light 10 = .ok (.invokestatic 108, 3) := by decide +kernel
theorem dX8_light_13 : decode cX8_light 13 = .ok (.ifCond .eq 13, 3) := by decide +kernel
theorem dX8_light_16 : decode cX8_light 16 = .ok (.iload_n 3, 1) := by decide +kernel
theorem dX8_light_17 : decode cX8_light 17 = .ok (.iconst 1, 1) := by decide +kernel
theorem dX8_light_18 : decode cX8_light 18 = .ok (.bipush 15, 2) := by decide +kernel
theorem dX8_light_20 : decode cX8_light 20 = .ok (.invokestatic 41, 3) := by decide +kernel
theorem dX8_light_23 : decode cX8_light 23 = .ok (.ifCond .ne 10, 3) := by decide +kernel
theorem dX8_light_26 : decode cX8_light 26 = .ok (.aload_n 0, 1) := by decide +kernel
theorem dX8_light_27 : decode cX8_light 27 = .ok (.ldc 57, 2) := by decide +kernel
theorem dX8_light_29 : decode cX8_light 29 = .ok (.invokevirtual 53, 3) := by decide +kernel
theorem dX8_light_32 : decode cX8_light 32 = .ok (.ireturn, 1) := by decide +kernel
theorem dX8_light_33 : decode cX8_light 33 = .ok (.aload_n 0, 1) := by decide +kernel
theorem dX8_light_34 : decode cX8_light 34 = .ok (.getfield 9, 3) := by decide +kernel
theorem dX8_light_37 : decode cX8_light 37 = .ok (.iconst 0, 1) := by decide +kernel
theorem dX8_light_38 : decode cX8_light 38 = .ok (.iaload, 1) := by decide +kernel
theorem dX8_light_39 : decode cX8_light 39 = .ok (.istore 4, 2) := by decide +kernel
theorem dX8_light_41 : decode cX8_light 41 = .ok (.iload 4, 2) := by decide +kernel
theorem dX8_light_43 : decode cX8_light 43 = .ok (.bipush 10, 2) := by decide +kernel
theorem dX8_light_45 : decode cX8_light 45 = .ok (.if_icmp .ne 10, 3) := by decide +kernel
theorem dX8_light_48 : decode cX8_light 48 = .ok (.aload_n 0, 1) := by decide +kernel
theorem dX8_light_49 : decode cX8_light 49 = .ok (.ldc 61, 2) := by decide +kernel
theorem dX8_light_51 : decode cX8_light 51 = .ok (.invokevirtual 53, 3) := by decide +kernel
theorem dX8_light_54 : decode cX8_light 54 = .ok (.ireturn, 1) := by decide +kernel
theorem dX8_light_55 : decode cX8_light 55 = .ok (.aload_n 0, 1) := by decide +kernel
theorem dX8_light_56 : decode cX8_light 56 = .ok (.invokevirtual 111, 3) := by decide +kernel
theorem dX8_light_59 : decode cX8_light 59 = .ok (.istore 5, 2) := by decide +kernel
theorem dX8_light_61 : decode cX8_light 61 = .ok (.aload_n 0, 1) := by decide +kernel
theorem dX8_light_62 : decode cX8_light 62 = .ok (.iconst 0, 1) := by decide +kernel
theorem dX8_light_63 : decode cX8_light 63 = .ok (.putfield 58, 3) := by decide +kernel
theorem dX8_light_66 : decode cX8_light 66 = .ok (.iload 5, 2) := by decide +kernel
theorem dX8_light_68 : decode cX8_light 68 = .ok (.ifCond .lt 8, 3) := by decide +kernel
theorem dX8_light_71 : decode cX8_light 71 = .ok (.iconst (-1), 1) := by decide +kernel
theorem dX8_light_72 : decode cX8_light 72 = .ok (.iload 5, 2) := by decide +kernel
theorem dX8_light_74 : decode cX8_light 74 = .ok (.isub, 1) := by decide +kernel
theorem dX8_light_75 : decode cX8_light 75 = .ok (.ireturn, 1) := by decide +kernel
theorem dX8_light_76 : decode cX8_light 76 = .ok (.aload_n 0, 1) := by decide +kernel
theorem dX8_light_77 : decode cX8_light 77 = .ok (.invokevirtual 114, 3) := by decide +kernel
theorem dX8_light_80 : decode cX8_light 80 = .ok (.iconst 0, 1) := by decide +kernel
theorem dX8_light_81 : decode cX8_light 81 = .ok (.istore 6, 2) := by decide +kernel
theorem dX8_light_83 : decode cX8_light 83 = .ok (.iload 6, 2) := by decide +kernel
theorem dX8_light_85 : decode cX8_light 85 = .ok (.bipush 22, 2) := by decide +kernel
theorem dX8_light_87 : decode cX8_light 87 = .ok (.if_icmp .ge 22, 3) := by decide +kernel
theorem dX8_light_90 : decode cX8_light 90 = .ok (.aload_n 0, 1) := by decide +kernel
theorem dX8_light_91 : decode cX8_light 91 = .ok (.getfield 9, 3) := by decide +kernel
theorem dX8_light_94 : decode cX8_light 94 = .ok (.iload 4, 2) := by decide +kernel
theorem dX8_light_96 : decode cX8_light 96 = .ok (.iload 6, 2) := by decide +kernel
theorem dX8_light_98 : decode cX8_light 98 = .ok (.invokestatic 45, 3) := by decide +kernel
theorem dX8_light_101 : decode cX8_light 101 = .ok (.iconst 0, 1) := by decide +kernel
theorem dX8_light_102 : decode cX8_light 102 = .ok (.iastore, 1) := by decide +kernel
theorem dX8_light_103 : decode cX8_light 103 = .ok (.iinc 6 1, 3) := by decide +kernel
theorem dX8_light_106 : decode cX8_light 106 = .ok (.goto (-23), 3) := by decide +kernel
theorem dX8_light_109 : decode cX8_light 109 = .ok (.aload_n 0, 1) := by decide +kernel
theorem dX8_light_110 : decode cX8_light 110 = .ok (.getfield 9, 3) := by decide +kernel
theorem dX8_light_113 : decode cX8_light 113 = .ok (.iload 4, 2) := by decide +kernel
theorem dX8_light_115 : decode cX8_light 115 = .ok (.iconst 0, 1) := by decide +kernel
theorem dX8_light_116 : decode cX8_light 116 = .ok (.invokestatic 45, 3) := by decide +kernel
theorem dX8_light_119 : decode cX8_light 119 = .ok (.iload_n 1, 1) := by decide +kernel
theorem dX8_light_120 : decode cX8_light 120 = .ok (.iastore, 1) := by decide +kernel
theorem dX8_light_121 : decode cX8_light 121 = .ok (.aload_n 0, 1) := by decide +kernel
theorem dX8_light_122 : decode cX8_light 122 = .ok (.getfield 9, 3) := by decide +kernel
theorem dX8_light_125 : decode cX8_light 125 = .ok (.iload 4, 2) := by decide +kernel
theorem dX8_light_127 : decode cX8_light 127 = .ok (.iconst 1, 1) := by decide +kernel
theorem dX8_light_128 : decode cX8_light 128 = .ok (.invokestatic 45, 3) := by decide +kernel
theorem dX8_light_131 : decode cX8_light 131 = .ok (.iload_n 2, 1) := by decide +kernel
theorem dX8_light_132 : decode cX8_light 132 = .ok (.iastore, 1) := by decide +kernel
theorem dX8_light_133 : decode cX8_light 133 = .ok (.aload_n 0, 1) := by decide +kernel
theorem dX8_light_134 : decode cX8_light 134 = .ok (.getfield 9, 3) := by decide +kernel
theorem dX8_light_137 : decode cX8_light 137 = .ok (.iload 4, 2) := by decide +kernel
theorem dX8_light_139 : decode cX8_light 139 = .ok (.iconst 2, 1) := by decide +kernel
theorem dX8_light_140 : decode cX8_light 140 = .ok (.invokestatic 45, 3) := by decide +kernel
theorem dX8_light_143 : decode cX8_light 143 = .ok (.iload_n 3, 1) := by decide +kernel
theorem dX8_light_144 : decode cX8_light 144 = .ok (.iastore, 1) := by decide +kernel
theorem dX8_light_145 : decode cX8_light 145 = .ok (.aload_n 0, 1) := by decide +kernel
theorem dX8_light_146 : decode cX8_light 146 = .ok (.getfield 9, 3) := by decide +kernel
theorem dX8_light_149 : decode cX8_light 149 = .ok (.iload 4, 2) := by decide +kernel
theorem dX8_light_151 : decode cX8_light 151 = .ok (.iconst 3, 1) := by decide +kernel
theorem dX8_light_152 : decode cX8_light 152 = .ok (.invokestatic 45, 3) := by decide +kernel
theorem dX8_light_155 : decode cX8_light 155 = .ok (.aload_n 0, 1) := by decide +kernel
theorem dX8_light_156 : decode cX8_light 156 = .ok (.getfield 99, 3) := by decide +kernel
theorem dX8_light_159 : decode cX8_light 159 = .ok (.iastore, 1) := by decide +kernel
theorem dX8_light_160 : decode cX8_light 160 = .ok (.aload_n 0, 1) := by decide +kernel
theorem dX8_light_161 : decode cX8_light 161 = .ok (.getfield 9, 3) := by decide +kernel
theorem dX8_light_164 : decode cX8_light 164 = .ok (.iload 4, 2) := by decide +kernel
theorem dX8_light_166 : decode cX8_light 166 = .ok (.iconst 4, 1) := by decide +kernel
theorem dX8_light_167 : decode cX8_light 167 = .ok (.invokestatic 45, 3) := by decide +kernel
theorem dX8_light_170 : decode cX8_light 170 = .ok (.aload_n 0, 1) := by decide +kernel
theorem dX8_light_171 : decode cX8_light 171 = .ok (.getfield 93, 3) := by decide +kernel
theorem dX8_light_174 : decode cX8_light 174 = .ok (.iastore, 1) := by decide +kernel
theorem dX8_light_175 : decode cX8_light 175 = .ok (.iconst 0, 1) := by decide +kernel
theorem dX8_light_176 : decode cX8_light 176 = .ok (.istore 6, 2) := by decide +kernel
theorem dX8_light_178 : decode cX8_light 178 = .ok (.iload 6, 2) := by decide +kernel
theorem dX8_light_180 : decode cX8_light 180 = .ok (.aload_n 0, 1) := by decide +kernel
theorem dX8_light_181 : decode cX8_light 181 = .ok (.getfield 93, 3) := by decide +kernel
theorem dX8_light_184 : decode cX8_light 184 = .ok (.if_icmp .ge 40, 3) := by decide +kernel
theorem dX8_light_187 : decode cX8_light 187 = .ok (.aload_n 0, 1) := by decide +kernel
theorem dX8_light_188 : decode cX8_light 188 = .ok (.getfield 9, 3) := by decide +kernel
theorem dX8_light_191 : decode cX8_light 191 = .ok (.iload 4, 2) := by decide +kernel
theorem dX8_light_193 : decode cX8_light 193 = .ok (.iconst 5, 1) := by decide +kernel
theorem dX8_light_194 : decode cX8_light 194 = .ok (.invokestatic 45, 3) := by decide +kernel
theorem dX8_light_197 : decode cX8_light 197 = .ok (.dup2, 1) := by decide +kernel
theorem dX8_light_198 : decode cX8_light 198 = .ok (.iaload, 1) := by decide +kernel
theorem dX8_light_199 : decode cX8_light 199 = .ok (.aload_n 0, 1) := by decide +kernel
theorem dX8_light_200 : decode cX8_light 200 = .ok (.iload 6, 2) := by decide +kernel
theorem dX8_light_202 : decode cX8_light 202 = .ok (.invokevirtual 117, 3) := by decide +kernel
theorem dX8_light_205 : decode cX8_light 205 = .ok (.ifCond .eq 10, 3) := by decide +kernel
theorem dX8_light_208 : decode cX8_light 208 = .ok (.iconst 1, 1) := by decide +kernel
theorem dX8_light_209 : decode cX8_light 209 = .ok (.iload 6, 2) := by decide +kernel
theorem dX8_light_211 : decode cX8_light 211 = .ok (.ishl, 1) := by decide +kernel
theorem dX8_light_212 : decode cX8_light 212 = .ok (.goto 4, 3) := by decide +kernel
theorem dX8_light_215 : decode cX8_light 215 = .ok (.iconst 0, 1) := by decide +kernel
theorem dX8_light_216 : decode cX8_light 216 = .ok (.ior, 1) := by decide +kernel
theorem dX8_light_217 : decode cX8_light 217 = .ok (.iastore, 1) := by decide +kernel
theorem dX8_light_218 : decode cX8_light 218 = .ok (.iinc 6 1, 3) := by decide +kernel
theorem dX8_light_221 : decode cX8_light 221 = .ok (.goto (-43), 3) := by decide +kernel
theorem dX8_light_224 : decode cX8_light 224 = .ok (.aload_n 0, 1) := by decide +kernel
theorem dX8_light_225 : decode cX8_light 225 = .ok (.getfield 9, 3) := by decide +kernel
theorem dX8_light_228 : decode cX8_light 228 = .ok (.iload 4, 2) := by decide +kernel
theorem dX8_light_230 : decode cX8_light 230 = .ok (.bipush 9, 2) := by decide +kernel
theorem dX8_light_232 : decode cX8_light 232 = .ok (.invokestatic 45, 3) := by decide +kernel
theorem dX8_light_235 : decode cX8_light 235 = .ok (.iconst 4, 1) := by decide +kernel
theorem dX8_light_236 : decode cX8_light 236 = .ok (.iastore, 1) := by decide +kernel
theorem dX8_light_237 : decode cX8_light 237 = .ok (.aload_n 0, 1) := by decide +kernel
theorem dX8_light_238 : decode cX8_light 238 = .ok (.getfield 9, 3) := by decide +kernel
theorem dX8_light_241 : decode cX8_light 241 = .ok (.iconst 0, 1) := by decide +kernel
theorem dX8_light_242 : decode cX8_light 242 = .ok (.dup2, 1) := by decide +kernel
theorem dX8_light_243 : decode cX8_light 243 = .ok (.iaload, 1) := by decide +kernel
theorem dX8_light_244 : decode cX8_light 244 = .ok (.iconst 1, 1) := by decide +kernel
theorem dX8_light_245 : decode cX8_light 245 = .ok (.iadd, 1) := by decide +kernel
theorem dX8_light_246 : decode cX8_light 246 = .ok (.iastore, 1) := by decide +kernel
theorem dX8_light_247 : decode cX8_light 247 = .ok (.iload 4, 2) := by decide +kernel
theorem dX8_light_249 : decode cX8_light 249 = .ok (.ireturn, 1) := by decide +kernel
theorem dX8_as_0 : decode cX8_as 0 = .ok (.aload_n 0, 1) := by decide +kernel
theorem dX8_as_1 : decode cX8_as 1 = .ok (.iload_n 1, 1) := by decide +kernel
theorem dX8_as_2 : decode cX8_as 2 = .ok (.invokevirtual 120, 3) := by decide +kernel
theorem dX8_as_5 : decode cX8_as 5 = .ok (.ifCond .eq 12, 3) := by decide +kernel
theorem dX8_as_8 : decode cX8_as 8 = .ok (.iload_n 2, 1) := by decide +kernel
theorem dX8_as_9 : decode cX8_as 9 = .ok (.iconst 0, 1) := by decide +kernel
theorem dX8_as_10 : decode cX8_as 10 = .ok (.iconst 3, 1) := by decide +kernel
theorem dX8_as_11 : decode cX8_as 11 = .ok (.invokestatic 41, 3) := by decide +kernel
theorem dX8_as_14 : decode cX8_as 14 = .ok (.ifCond .ne 10, 3) := by decide +kernel
theorem dX8_as_17 : decode cX8_as 17 = .ok (.aload_n 0, 1) := by decide +kernel
theorem dX8_as_18 : decode cX8_as 18 = .ok (.ldc 57, 2) := by decide +kernel
theorem dX8_as_20 : decode cX8_as 20 = .ok (.invokevirtual 53, 3) := by decide +kernel
theorem dX8_as_23 : decode cX8_as 23 = .ok (.ireturn, 1) := by decide +kernel
theorem dX8_as_24 : decode cX8_as 24 = .ok (.aload_n 0, 1) := by decide +kernel
theorem dX8_as_25 : decode cX8_as 25 = .ok (.getfield 9, 3) := by decide +kernel
theorem dX8_as_28 : decode cX8_as 28 = .ok (.iload_n 1, 1) := by decide +kernel
theorem dX8_as_29 : decode cX8_as 29 = .ok (.iconst 0, 1) := by decide +kernel
theorem dX8_as_30 : decode cX8_as 30 = .ok (.invokestatic 45, 3) := by decide +kernel
theorem dX8_as_33 : decode cX8_as 33 = .ok (.iaload, 1) := by decide +kernel
theorem dX8_as_34 : decode cX8_as 34 = .ok (.istore_n 3, 1) := by decide +kernel
theorem dX8_as_35 : decode cX8_as 35 = .ok (.iload_n 2, 1) := by decide +kernel
theorem dX8_as_36 : decode cX8_as 36 = .ok (.ifCond .eq 18, 3) := by decide +kernel
theorem dX8_as_39 : decode cX8_as 39 = .ok (.iload_n 3, 1) := by decide +kernel
theorem dX8_as_40 : decode cX8_as 40 = .ok (.iload_n 2, 1) := by decide +kernel
theorem dX8_as_41 : decode cX8_as 41 = .ok (.if_icmp .eq 13, 3) := by decide +kernel
theorem dX8_as_44 : decode cX8_as 44 = .ok (.iload_n 2, 1) := by decide +kernel
theorem dX8_as_45 : decode cX8_as 45 = .ok (.iconst 1, 1) := by decide +kernel
theorem dX8_as_46 : decode cX8_as 46 = .ok (.if_icmp .ne 12, 3) := by decide +kernel
theorem dX8_as_49 : decode cX8_as 49 = .ok (.iload_n 3, 1) := by decide +kernel
theorem dX8_as_50 : decode cX8_as 50 = .ok (.iconst 3, 1) := by decide +kernel
theorem dX8_as_51 : decode cX8_as 51 = .ok (.if_icmp .ne 7, 3) := by decide +kernel
theorem dX8_as_54 : decode cX8_as 54 = .ok (.iload_n 1, 1) := by decide +kernel
theorem dX8_as_55 : decode cX8_as 55 = .ok (.goto 9, 3) := by decide +kernel
theorem dX8_as_58 : decode cX8_as 58 = .ok (.aload_n 0, 1) := by decide +kernel
theorem dX8_as_59 : decode cX8_as 59 = .ok (.ldc 123, 2) := by decide +kernel
theorem dX8_as_61 : decode cX8_as 61 = .ok (.invokevirtual 53, 3) := by decide +kernel
theorem dX8_as_64 : decode cX8_as 64 = .ok (.ireturn, 1) := by decide +kernel
theorem dX8_ones_0 : decode cX8_ones 0 = .ok (.iconst 0, 1) := by decide +kernel
theorem dX8_ones_1 : decode cX8_ones 1 = .ok (.istore_n 1, 1) := by decide +kernel
theorem dX8_ones_2 : decode cX8_ones 2 = .ok (.iconst 0, 1) := by decide +kernel
theorem dX8_ones_3 : decode cX8_ones 3 = .ok (.istore_n 2, 1) := by decide +kernel
theorem dX8_ones_4 : decode cX8_ones 4 = .ok (.iload_n 2, 1) := by decide +kernel
theorem dX8_ones_5 : decode cX8_ones 5 = .ok (.bipush 30, 2) := by decide +kernel
theorem dX8_ones_7 : decode cX8_ones 7 = .ok (.if_icmp .ge 17, 3) := by decide +kernel
theorem dX8_ones_10 : decode cX8_ones 10 = .ok (.iload_n 1, 1) := by decide +kernel
theorem dX8_ones_11 : decode cX8_ones 11 = .ok (.iload_n 0, 1) := by decide +kernel
theorem dX8_ones_12 : decode cX8_ones 12 = .ok (.iload_n 2, 1) := by decide +kernel
theorem dX8_ones_13 : decode cX8_ones 13 = .ok (.ishr, 1) := by decide +kernel
theorem dX8_ones_14 : decode cX8_ones 14 = .ok (.iconst 1, 1) := by decide +kernel
theorem dX8_ones_15 : decode cX8_ones 15 = .ok (.iand, 1) := by decide +kernel
theorem dX8_ones_16 : decode cX8_ones 16 = .ok (.iadd, 1) := by decide +kernel
theorem dX8_ones_17 : decode cX8_ones 17 = .ok (.istore_n 1, 1) := by decide +kernel
theorem dX8_ones_18 : decode cX8_ones 18 = .ok (.iinc 2 1, 3) := by decide +kernel
theorem dX8_ones_21 : decode cX8_ones 21 = .ok (.goto (-17), 3) := by decide +kernel
theorem dX8_ones_24 : decode cX8_ones 24 = .ok (.iload_n 1, 1) := by decide +kernel
theorem dX8_ones_25 : decode cX8_ones 25 = .ok (.ireturn, 1) := by decide +kernel
theorem dX8_lightIs_0 : decode cX8_lightIs 0 = .ok (.aload_n 0, 1) := by decide +kernel
theorem dX8_lightIs_1 : decode cX8_lightIs 1 = .ok (.iload_n 1, 1) := by decide +kernel
theorem dX8_lightIs_2 : decode cX8_lightIs 2 = .ok (.invokevirtual 120, 3) := by decide +kernel
theorem dX8_lightIs_5 : decode cX8_lightIs 5 = .ok (.ifCond .eq 13, 3) := by decide +kernel
theorem dX8_lightIs_8 : decode cX8_lightIs 8 = .ok (.iload_n 2, 1) := by decide +kernel
theorem dX8_lightIs_9 : decode cX8_lightIs 9 = .ok (.iconst 0, 1) := by decide +kernel
theorem dX8_lightIs_10 : decode cX8_lightIs 10 = .ok (.bipush 7, 2) := by decide +kernel
theorem dX8_lightIs_12 : decode cX8_lightIs 12 = .ok (.invokestatic 41, 3) := by decide +kernel
theorem dX8_lightIs_15 : decode cX8_lightIs 15 = .ok (.ifCond .ne 10, 3) := by decide +kernel
theorem dX8_lightIs_18 : decode cX8_lightIs 18 = .ok (.aload_n 0, 1) := by decide +kernel
theorem dX8_lightIs_19 : decode cX8_lightIs 19 = .ok (.ldc 57, 2) := by decide +kernel
theorem dX8_lightIs_21 : decode cX8_lightIs 21 = .ok (.invokevirtual 53, 3) := by decide +kernel
theorem dX8_lightIs_24 : decode cX8_lightIs 24 = .ok (.ireturn, 1) := by decide +kernel
theorem dX8_lightIs_25 : decode cX8_lightIs 25 = .ok (.aload_n 0, 1) := by decide +kernel
theorem dX8_lightIs_26 : decode cX8_lightIs 26 = .ok (.getfield 9, 3) := by decide +kernel
theorem dX8_lightIs_29 : decode cX8_lightIs 29 = .ok (.iload_n 1, 1) := by decide +kernel
theorem dX8_lightIs_30 : decode cX8_lightIs 30 = .ok (.iload_n 2, 1) := by decide +kernel
theorem dX8_lightIs_31 : decode cX8_lightIs 31 = .ok (.invokestatic 45, 3) := by decide +kernel
theorem dX8_lightIs_34 : decode cX8_lightIs 34 = .ok (.iaload, 1) := by decide +kernel
theorem dX8_lightIs_35 : decode cX8_lightIs 35 = .ok (.istore_n 3, 1) := by decide +kernel
theorem dX8_lightIs_36 : decode cX8_lightIs 36 = .ok (.iload_n 2, 1) := by decide +kernel
theorem dX8_lightIs_37 : decode cX8_lightIs 37 = .ok (.iconst 5, 1) := by decide +kernel
theorem dX8_lightIs_38 : decode cX8_lightIs 38 = .ok (.if_icmp .ne 10, 3) := by decide +kernel
theorem dX8_lightIs_41 : decode cX8_lightIs 41 = .ok (.iload_n 3, 1) := by decide +kernel
theorem dX8_lightIs_42 : decode cX8_lightIs 42 = .ok (.invokestatic 124, 3) := by decide +kernel
theorem dX8_lightIs_45 : decode cX8_lightIs 45 = .ok (.goto 4, 3) := by decide +kernel
theorem dX8_lightIs_48 : decode cX8_lightIs 48 = .ok (.iload_n 3, 1) := by decide +kernel
theorem dX8_lightIs_49 : decode cX8_lightIs 49 = .ok (.ireturn, 1) := by decide +kernel
theorem dX8_hasLight_0 : decode cX8_hasLight 0 = .ok (.aload_n 0, 1) := by decide +kernel
theorem dX8_hasLight_1 : decode cX8_hasLight 1 = .ok (.getfield 9, 3) := by decide +kernel
theorem dX8_hasLight_4 : decode cX8_hasLight 4 = .ok (.iload_n 1, 1) := by decide +kernel
theorem dX8_hasLight_5 : decode cX8_hasLight 5 = .ok (.iconst 5, 1) := by decide +kernel
theorem dX8_hasLight_6 : decode cX8_hasLight 6 = .ok (.invokestatic 45, 3) := by decide +kernel
theorem dX8_hasLight_9 : decode cX8_hasLight 9 = .ok (.iaload, 1) := by decide +kernel
theorem dX8_hasLight_10 : decode cX8_hasLight 10 = .ok (.iload_n 2, 1) := by decide +kernel
theorem dX8_hasLight_11 : decode cX8_hasLight 11 = .ok (.aload_n 0, 1) := by decide +kernel
theorem dX8_hasLight_12 : decode cX8_hasLight 12 = .ok (.getfield 9, 3) := by decide +kernel
theorem dX8_hasLight_15 : decode cX8_hasLight 15 = .ok (.iload_n 1, 1) := by decide +kernel
theorem dX8_hasLight_16 : decode cX8_hasLight 16 = .ok (.iconst 4, 1) := by decide +kernel
theorem dX8_hasLight_17 : decode cX8_hasLight 17 = .ok (.invokestatic 45, 3) := by decide +kernel
theorem dX8_hasLight_20 : decode cX8_hasLight 20 = .ok (.iaload, 1) := by decide +kernel
theorem dX8_hasLight_21 : decode cX8_hasLight 21 = .ok (.irem, 1) := by decide +kernel
theorem dX8_hasLight_22 : decode cX8_hasLight 22 = .ok (.ishr, 1) := by decide +kernel
theorem dX8_hasLight_23 : decode cX8_hasLight 23 = .ok (.iconst 1, 1) := by decide +kernel
theorem dX8_hasLight_24 : decode cX8_hasLight 24 = .ok (.iand, 1) := by decide +kernel
theorem dX8_hasLight_25 : decode cX8_hasLight 25 = .ok (.iconst 1, 1) := by decide +kernel
theorem dX8_hasLight_26 : decode cX8_hasLight 26 = .ok (.if_icmp .ne 7, 3) := by decide +kernel
theorem dX8_hasLight_29 : decode cX8_hasLight 29 = .ok (.iconst 1, 1) := by decide +kernel
theorem dX8_hasLight_30 : decode cX8_hasLight 30 = .ok (.goto 4, 3) := by decide +kernel
theorem dX8_hasLight_33 : decode cX8_hasLight 33 = .ok (.iconst 0, 1) := by decide +kernel
theorem dX8_hasLight_34 : decode cX8_hasLight 34 = .ok (.ireturn, 1) := by decide +kernel
theorem dX8_at_0 : decode cX8_at 0 = .ok (.aload_n 0, 1) := by decide +kernel
theorem dX8_at_1 : decode cX8_at 1 = .ok (.iload_n 1, 1) := by decide +kernel
theorem dX8_at_2 : decode cX8_at 2 = .ok (.invokevirtual 120, 3) := by decide +kernel
theorem dX8_at_5 : decode cX8_at 5 = .ok (.ifCond .eq 7, 3) := by decide +kernel
theorem dX8_at_8 : decode cX8_at 8 = .ok (.iload_n 2, 1) := by decide +kernel
theorem dX8_at_9 : decode cX8_at 9 = .ok (.ifCond .ge 10, 3) := by decide +kernel
theorem dX8_at_12 : decode cX8_at 12 = .ok (.aload_n 0, 1) := by decide +kernel
theorem dX8_at_13 : decode cX8_at 13 = .ok (.ldc 57, 2) := by decide +kernel
theorem dX8_at_15 : decode cX8_at 15 = .ok (.invokevirtual 53, 3) := by decide +kernel
theorem dX8_at_18 : decode cX8_at 18 = .ok (.ireturn, 1) := by decide +kernel
theorem dX8_at_19 : decode cX8_at 19 = .ok (.aload_n 0, 1) := by decide +kernel
theorem dX8_at_20 : decode cX8_at 20 = .ok (.iload_n 1, 1) := by decide +kernel
theorem dX8_at_21 : decode cX8_at 21 = .ok (.iload_n 2, 1) := by decide +kernel
theorem dX8_at_22 : decode cX8_at 22 = .ok (.invokevirtual 127, 3) := by decide +kernel
theorem dX8_at_25 : decode cX8_at 25 = .ok (.ifCond .eq 7, 3) := by decide +kernel
theorem dX8_at_28 : decode cX8_at 28 = .ok (.iconst 1, 1) := by decide +kernel
theorem dX8_at_29 : decode cX8_at 29 = .ok (.goto 4, 3) := by decide +kernel
theorem dX8_at_32 : decode cX8_at 32 = .ok (.iconst 0, 1) := by decide +kernel
theorem dX8_at_33 : decode cX8_at 33 = .ok (.ireturn, 1) := by decide +kernel
theorem dX8_sector_0 : decode cX8_sector 0 = .ok (.aload_n 0, 1) := by decide +kernel
theorem dX8_sector_1 : decode cX8_sector 1 = .ok (.iload_n 1, 1) := by decide +kernel
theorem dX8_sector_2 : decode cX8_sector 2 = .ok (.invokevirtual 120, 3) := by decide +kernel
theorem dX8_sector_5 : decode cX8_sector 5 = .ok (.ifCond .eq 27, 3) := by decide +kernel
theorem dX8_sector_8 : decode cX8_sector 8 = .ok (.iload_n 2, 1) := by decide +kernel
theorem dX8_sector_9 : decode cX8_sector 9 = .ok (.invokestatic 131, 3) := by decide +kernel
theorem dX8_sector_12 : decode cX8_sector 12 = .ok (.ifCond .eq 20, 3) := by decide +kernel
theorem dX8_sector_15 : decode cX8_sector 15 = .ok (.iload_n 3, 1) := by decide +kernel
theorem dX8_sector_16 : decode cX8_sector 16 = .ok (.invokestatic 131, 3) := by decide +kernel
theorem dX8_sector_19 : decode cX8_sector 19 = .ok (.ifCond .eq 13, 3) := by decide +kernel
theorem dX8_sector_22 : decode cX8_sector 22 = .ok (.iload 4, 2) := by decide +kernel
theorem dX8_sector_24 : decode cX8_sector 24 = .ok (.iconst 0, 1) := by decide +kernel
theorem dX8_sector_25 : decode cX8_sector 25 = .ok (.iconst 3, 1) := by decide +kernel
theorem dX8_sector_26 : decode cX8_sector 26 = .ok (.invokestatic 41, 3) := by decide +kernel
theorem dX8_sector_29 : decode cX8_sector 29 = .ok (.ifCond .ne 10, 3) := by decide +kernel
theorem dX8_sector_32 : decode cX8_sector 32 = .ok (.aload_n 0, 1) := by decide +kernel
theorem dX8_sector_33 : decode cX8_sector 33 = .ok (.ldc 57, 2) := by decide +kernel
theorem dX8_sector_35 : decode cX8_sector 35 = .ok (.invokevirtual 53, 3) := by decide +kernel
theorem dX8_sector_38 : decode cX8_sector 38 = .ok (.ireturn, 1) := by decide +kernel
theorem dX8_sector_39 : decode cX8_sector 39 = .ok (.aload_n 0, 1) := by decide +kernel
theorem dX8_sector_40 : decode cX8_sector 40 = .ok (.getfield 9, 3) := by decide +kernel
theorem dX8_sector_43 : decode cX8_sector 43 = .ok (.iload_n 1, 1) := by decide +kernel
theorem dX8_sector_44 : decode cX8_sector 44 = .ok (.bipush 6, 2) := by decide +kernel
theorem dX8_sector_46 : decode cX8_sector 46 = .ok (.invokestatic 45, 3) := by decide +kernel
theorem dX8_sector_49 : decode cX8_sector 49 = .ok (.iaload, 1) := by decide +kernel
theorem dX8_sector_50 : decode cX8_sector 50 = .ok (.istore 5, 2) := by decide +kernel
theorem dX8_sector_52 : decode cX8_sector 52 = .ok (.iload 5, 2) := by decide +kernel
theorem dX8_sector_54 : decode cX8_sector 54 = .ok (.iconst 4, 1) := by decide +kernel
theorem dX8_sector_55 : decode cX8_sector 55 = .ok (.if_icmp .ne 10, 3) := by decide +kernel
theorem dX8_sector_58 : decode cX8_sector 58 = .ok (.aload_n 0, 1) := by decide +kernel
theorem dX8_sector_59 : decode cX8_sector 59 = .ok (.ldc 61, 2) := by decide +kernel
theorem dX8_sector_61 : decode cX8_sector 61 = .ok (.invokevirtual 53, 3) := by decide +kernel
theorem dX8_sector_64 : decode cX8_sector 64 = .ok (.ireturn, 1) := by decide +kernel
theorem dX8_sector_65 : decode cX8_sector 65 = .ok (.aload_n 0, 1) := by decide +kernel
theorem dX8_sector_66 : decode cX8_sector 66 = .ok (.invokevirtual 114, 3) := by decide +kernel
theorem dX8_sector_69 : decode cX8_sector 69 = .ok (.iload_n 1, 1) := by decide +kernel
theorem dX8_sector_70 : decode cX8_sector 70 = .ok (.bipush 10, 2) := by decide +kernel
theorem dX8_sector_72 : decode cX8_sector 72 = .ok (.iconst 3, 1) := by decide +kernel
theorem dX8_sector_73 : decode cX8_sector 73 = .ok (.iload 5, 2) := by decide +kernel
theorem dX8_sector_75 : decode cX8_sector 75 = .ok (.imul, 1) := by decide +kernel
theorem dX8_sector_76 : decode cX8_sector 76 = .ok (.iadd, 1) := by decide +kernel
theorem dX8_sector_77 : decode cX8_sector 77 = .ok (.invokestatic 45, 3) := by decide +kernel
theorem dX8_sector_80 : decode cX8_sector 80 = .ok (.istore 6, 2) := by decide +kernel
theorem dX8_sector_82 : decode cX8_sector 82 = .ok (.aload_n 0, 1) := by decide +kernel
theorem dX8_sector_83 : decode cX8_sector 83 = .ok (.getfield 9, 3) := by decide +kernel
theorem dX8_sector_86 : decode cX8_sector 86 = .ok (.iload 6, 2) := by decide +kernel
theorem dX8_sector_88 : decode cX8_sector 88 = .ok (.iload_n 2, 1) := by decide +kernel
theorem dX8_sector_89 : decode cX8_sector 89 = .ok (.iastore, 1) := by decide +kernel
theorem dX8_sector_90 : decode cX8_sector 90 = .ok (.aload_n 0, 1) := by decide +kernel
theorem dX8_sector_91 : decode cX8_sector 91 = .ok (.getfield 9, 3) := by decide +kernel
theorem dX8_sector_94 : decode cX8_sector 94 = .ok (.iload 6, 2) := by decide +kernel
theorem dX8_sector_96 : decode cX8_sector 96 = .ok (.iconst 1, 1) := by decide +kernel
theorem dX8_sector_97 : decode cX8_sector 97 = .ok (.iadd, 1) := by decide +kernel
theorem dX8_sector_98 : decode cX8_sector 98 = .ok (.iload_n 3, 1) := by decide +kernel
theorem dX8_sector_99 : decode cX8_sector 99 = .ok (.iastore, 1) := by decide +kernel
theorem dX8_sector_100 : decode cX8_sector 100 = .ok (.aload_n 0, 1) := by decide +kernel
theorem dX8_sector_101 : decode cX8_sector 101 = .ok (.getfield 9, 3) := by decide +kernel
theorem dX8_sector_104 : decode cX8_sector 104 = .ok (.iload 6, 2) := by decide +kernel
theorem dX8_sector_106 : decode cX8_sector 106 = .ok (.iconst 2, 1) := by decide +kernel
theorem dX8_sector_107 : decode cX8_sector 107 = .ok (.iadd, 1) := by decide +kernel
theorem dX8_sector_108 : decode cX8_sector 108 = .ok (.iload 4, 2) := by decide +kernel
theorem dX8_sector_110 : decode cX8_sector 110 = .ok (.iastore, 1) := by decide +kernel
theorem dX8_sector_111 : decode cX8_sector 111 = .ok (.aload_n 0, 1) := by decide +kernel
theorem dX8_sector_112 : decode cX8_sector 112 = .ok (.getfield 9, 3) := by decide +kernel
theorem dX8_sector_115 : decode cX8_sector 115 = .ok (.iload_n 1, 1) := by decide +kernel
theorem dX8_sector_116 : decode cX8_sector 116 = .ok (.bipush 6, 2) := by decide +kernel
theorem dX8_sector_118 : decode cX8_sector 118 = .ok (.invokestatic 45, 3) := by decide +kernel
theorem dX8_sector_121 : decode cX8_sector 121 = .ok (.dup2, 1) := by decide +kernel
theorem dX8_sector_122 : decode cX8_sector 122 = .ok (.iaload, 1) := by decide +kernel
theorem dX8_sector_123 : decode cX8_sector 123 = .ok (.iconst 1, 1) := by decide +kernel
theorem dX8_sector_124 : decode cX8_sector 124 = .ok (.iadd, 1) := by decide +kernel
theorem dX8_sector_125 : decode cX8_sector 125 = .ok (.iastore, 1) := by decide +kernel
theorem dX8_sector_126 : decode cX8_sector 126 = .ok (.iload 5, 2) := by decide +kernel
theorem dX8_sector_128 : decode cX8_sector 128 = .ok (.iconst 1, 1) := by decide +kernel
theorem dX8_sector_129 : decode cX8_sector 129 = .ok (.iadd, 1) := by decide +kernel
theorem dX8_sector_130 : decode cX8_sector 130 = .ok (.ireturn, 1) := by decide +kernel
theorem dX8_doubt_0 : decode cX8_doubt 0 = .ok (.aload_n 0, 1) := by decide +kernel
theorem dX8_doubt_1 : decode cX8_doubt 1 = .ok (.iload_n 1, 1) := by decide +kernel
theorem dX8_doubt_2 : decode cX8_doubt 2 = .ok (.invokevirtual 120, 3) := by decide +kernel
theorem dX8_doubt_5 : decode cX8_doubt 5 = .ok (.ifCond .eq 12, 3) := by decide +kernel
theorem dX8_doubt_8 : decode cX8_doubt 8 = .ok (.iload_n 2, 1) := by decide +kernel
theorem dX8_doubt_9 : decode cX8_doubt 9 = .ok (.iconst 0, 1) := by decide +kernel
theorem dX8_doubt_10 : decode cX8_doubt 10 = .ok (.iconst 3, 1) := by decide +kernel
theorem dX8_doubt_11 : decode cX8_doubt 11 = .ok (.invokestatic 41, 3) := by decide +kernel
theorem dX8_doubt_14 : decode cX8_doubt 14 = .ok (.ifCond .ne 10, 3) := by decide +kernel
theorem dX8_doubt_17 : decode cX8_doubt 17 = .ok (.aload_n 0, 1) := by decide +kernel
theorem dX8_doubt_18 : decode cX8_doubt 18 = .ok (.ldc 57, 2) := by decide +kernel
theorem dX8_doubt_20 : decode cX8_doubt 20 = .ok (.invokevirtual 53, 3) := by decide +kernel
theorem dX8_doubt_23 : decode cX8_doubt 23 = .ok (.ireturn, 1) := by decide +kernel
theorem dX8_doubt_24 : decode cX8_doubt 24 = .ok (.aload_n 0, 1) := by decide +kernel
theorem dX8_doubt_25 : decode cX8_doubt 25 = .ok (.getfield 9, 3) := by decide +kernel
theorem dX8_doubt_28 : decode cX8_doubt 28 = .ok (.iload_n 1, 1) := by decide +kernel
theorem dX8_doubt_29 : decode cX8_doubt 29 = .ok (.iconst 0, 1) := by decide +kernel
theorem dX8_doubt_30 : decode cX8_doubt 30 = .ok (.invokestatic 45, 3) := by decide +kernel
theorem dX8_doubt_33 : decode cX8_doubt 33 = .ok (.iaload, 1) := by decide +kernel
theorem dX8_doubt_34 : decode cX8_doubt 34 = .ok (.iconst 2, 1) := by decide +kernel
theorem dX8_doubt_35 : decode cX8_doubt 35 = .ok (.if_icmp .eq 10, 3) := by decide +kernel
theorem dX8_doubt_38 : decode cX8_doubt 38 = .ok (.aload_n 0, 1) := by decide +kernel
theorem dX8_doubt_39 : decode cX8_doubt 39 = .ok (.ldc 123, 2) := by decide +kernel
theorem dX8_doubt_41 : decode cX8_doubt 41 = .ok (.invokevirtual 53, 3) := by decide +kernel
theorem dX8_doubt_44 : decode cX8_doubt 44 = .ok (.ireturn, 1) := by decide +kernel
theorem dX8_doubt_45 : decode cX8_doubt 45 = .ok (.aload_n 0, 1) := by decide +kernel
theorem dX8_doubt_46 : decode cX8_doubt 46 = .ok (.invokevirtual 114, 3) := by decide +kernel
theorem dX8_doubt_49 : decode cX8_doubt 49 = .ok (.aload_n 0, 1) := by decide +kernel
theorem dX8_doubt_50 : decode cX8_doubt 50 = .ok (.getfield 9, 3) := by decide +kernel
theorem dX8_doubt_53 : decode cX8_doubt 53 = .ok (.iload_n 1, 1) := by decide +kernel
theorem dX8_doubt_54 : decode cX8_doubt 54 = .ok (.bipush 7, 2) := by decide +kernel
theorem dX8_doubt_56 : decode cX8_doubt 56 = .ok (.invokestatic 45, 3) := by decide +kernel
theorem dX8_doubt_59 : decode cX8_doubt 59 = .ok (.iaload, 1) := by decide +kernel
theorem dX8_doubt_60 : decode cX8_doubt 60 = .ok (.istore_n 3, 1) := by decide +kernel
theorem dX8_doubt_61 : decode cX8_doubt 61 = .ok (.aload_n 0, 1) := by decide +kernel
theorem dX8_doubt_62 : decode cX8_doubt 62 = .ok (.getfield 9, 3) := by decide +kernel
theorem dX8_doubt_65 : decode cX8_doubt 65 = .ok (.iload_n 1, 1) := by decide +kernel
theorem dX8_doubt_66 : decode cX8_doubt 66 = .ok (.bipush 7, 2) := by decide +kernel
theorem dX8_doubt_68 : decode cX8_doubt 68 = .ok (.invokestatic 45, 3) := by decide +kernel
theorem dX8_doubt_71 : decode cX8_doubt 71 = .ok (.iload_n 2, 1) := by decide +kernel
theorem dX8_doubt_72 : decode cX8_doubt 72 = .ok (.iastore, 1) := by decide +kernel
theorem dX8_doubt_73 : decode cX8_doubt 73 = .ok (.iload_n 3, 1) := by decide +kernel
theorem dX8_doubt_74 : decode cX8_doubt 74 = .ok (.ireturn, 1) := by decide +kernel
theorem dX8_eastOf_0 : decode cX8_eastOf 0 = .ok (.iload_n 0, 1) := by decide +kernel
theorem dX8_eastOf_1 : decode cX8_eastOf 1 = .ok (.bipush 8, 2) := by decide +kernel
theorem dX8_eastOf_3 : decode cX8_eastOf 3 = .ok (.irem, 1) := by decide +kernel
theorem dX8_eastOf_4 : decode cX8_eastOf 4 = .ok (.istore_n 1, 1) := by decide +kernel
theorem dX8_eastOf_5 : decode cX8_eastOf 5 = .ok (.iload_n 1, 1) := by decide +kernel
theorem dX8_eastOf_6 : decode cX8_eastOf 6 = .ok (.ifCond .ne 7, 3) := by decide +kernel
theorem dX8_eastOf_9 : decode cX8_eastOf 9 = .ok (.iconst 0, 1) := by decide +kernel
theorem dX8_eastOf_10 : decode cX8_eastOf 10 = .ok (.goto 18, 3) := by decide +kernel
theorem dX8_eastOf_13 : decode cX8_eastOf 13 = .ok (.iload_n 1, 1) := by decide +kernel
theorem dX8_eastOf_14 : decode cX8_eastOf 14 = .ok (.iconst 3, 1) := by decide +kernel
theorem dX8_eastOf_15 : decode cX8_eastOf 15 = .ok (.if_icmp .eq 8, 3) := by decide +kernel
theorem dX8_eastOf_18 : decode cX8_eastOf 18 = .ok (.iload_n 1, 1) := by decide +kernel
theorem dX8_eastOf_19 : decode cX8_eastOf 19 = .ok (.iconst 5, 1) := by decide +kernel
theorem dX8_eastOf_20 : decode cX8_eastOf 20 = .ok (.if_icmp .ne 7, 3) := by decide +kernel
theorem dX8_eastOf_23 : decode cX8_eastOf 23 = .ok (.iconst 2, 1) := by decide +kernel
theorem dX8_eastOf_24 : decode cX8_eastOf 24 = .ok (.goto 4, 3) := by decide +kernel
theorem dX8_eastOf_27 : decode cX8_eastOf 27 = .ok (.iconst 1, 1) := by decide +kernel
theorem dX8_eastOf_28 : decode cX8_eastOf 28 = .ok (.istore_n 2, 1) := by decide +kernel
theorem dX8_eastOf_29 : decode cX8_eastOf 29 = .ok (.iload_n 0, 1) := by decide +kernel
theorem dX8_eastOf_30 : decode cX8_eastOf 30 = .ok (.bipush 8, 2) := by decide +kernel
theorem dX8_eastOf_32 : decode cX8_eastOf 32 = .ok (.if_icmp .ge 7, 3) := by decide +kernel
theorem dX8_eastOf_35 : decode cX8_eastOf 35 = .ok (.iload_n 2, 1) := by decide +kernel
theorem dX8_eastOf_36 : decode cX8_eastOf 36 = .ok (.goto 5, 3) := by decide +kernel
theorem dX8_eastOf_39 : decode cX8_eastOf 39 = .ok (.iload_n 2, 1) := by decide +kernel
theorem dX8_eastOf_40 : decode cX8_eastOf 40 = .ok (.ineg, 1) := by decide +kernel
theorem dX8_eastOf_41 : decode cX8_eastOf 41 = .ok (.ireturn, 1) := by decide +kernel
theorem dX8_northOf_0 : decode cX8_northOf 0 = .ok (.iload_n 0, 1) := by decide +kernel
theorem dX8_northOf_1 : decode cX8_northOf 1 = .ok (.bipush 8, 2) := by decide +kernel
theorem dX8_northOf_3 : decode cX8_northOf 3 = .ok (.irem, 1) := by decide +kernel
theorem dX8_northOf_4 : decode cX8_northOf 4 = .ok (.istore_n 1, 1) := by decide +kernel
theorem dX8_northOf_5 : decode cX8_northOf 5 = .ok (.iload_n 1, 1) := by decide +kernel
theorem dX8_northOf_6 : decode cX8_northOf 6 = .ok (.iconst 4, 1) := by decide +kernel
theorem dX8_northOf_7 : decode cX8_northOf 7 = .ok (.if_icmp .ne 7, 3) := by decide +kernel
theorem dX8_northOf_10 : decode cX8_northOf 10 = .ok (.iconst 0, 1) := by decide +kernel
theorem dX8_northOf_11 : decode cX8_northOf 11 = .ok (.goto 33, 3) := by decide +kernel
theorem dX8_northOf_14 : decode cX8_northOf 14 = .ok (.iload_n 1, 1) := by decide +kernel
theorem dX8_northOf_15 : decode cX8_northOf 15 = .ok (.iconst 1, 1) := by decide +kernel
theorem dX8_northOf_16 : decode cX8_northOf 16 = .ok (.if_icmp .ne 7, 3) := by decide +kernel
theorem dX8_northOf_19 : decode cX8_northOf 19 = .ok (.iconst 2, 1) := by decide +kernel
theorem dX8_northOf_20 : decode cX8_northOf 20 = .ok (.goto 24, 3) := by decide +kernel
theorem dX8_northOf_23 : decode cX8_northOf 23 = .ok (.iload_n 1, 1) := by decide +kernel
theorem dX8_northOf_24 : decode cX8_northOf 24 = .ok (.bipush 7, 2) := by decide +kernel
theorem dX8_northOf_26 : decode cX8_northOf 26 = .ok (.if_icmp .ne 8, 3) := by decide +kernel
theorem dX8_northOf_29 : decode cX8_northOf 29 = .ok (.bipush (-2), 2) := by decide +kernel
theorem dX8_northOf_31 : decode cX8_northOf 31 = .ok (.goto 13, 3) := by decide +kernel
theorem dX8_northOf_34 : decode cX8_northOf 34 = .ok (.iload_n 1, 1) := by decide +kernel
theorem dX8_northOf_35 : decode cX8_northOf 35 = .ok (.iconst 4, 1) := by decide +kernel
theorem dX8_northOf_36 : decode cX8_northOf 36 = .ok (.if_icmp .ge 7, 3) := by decide +kernel
theorem dX8_northOf_39 : decode cX8_northOf 39 = .ok (.iconst 1, 1) := by decide +kernel
theorem dX8_northOf_40 : decode cX8_northOf 40 = .ok (.goto 4, 3) := by decide +kernel
theorem dX8_northOf_43 : decode cX8_northOf 43 = .ok (.iconst (-1), 1) := by decide +kernel
theorem dX8_northOf_44 : decode cX8_northOf 44 = .ok (.istore_n 2, 1) := by decide +kernel
theorem dX8_northOf_45 : decode cX8_northOf 45 = .ok (.iload_n 0, 1) := by decide +kernel
theorem dX8_northOf_46 : decode cX8_northOf 46 = .ok (.bipush 8, 2) := by decide +kernel
theorem dX8_northOf_48 : decode cX8_northOf 48 = .ok (.if_icmp .ge 7, 3) := by decide +kernel
theorem dX8_northOf_51 : decode cX8_northOf 51 = .ok (.iload_n 2, 1) := by decide +kernel
theorem dX8_northOf_52 : decode cX8_northOf 52 = .ok (.goto 5, 3) := by decide +kernel
theorem dX8_northOf_55 : decode cX8_northOf 55 = .ok (.iload_n 2, 1) := by decide +kernel
theorem dX8_northOf_56 : decode cX8_northOf 56 = .ok (.ineg, 1) := by decide +kernel
theorem dX8_northOf_57 : decode cX8_northOf 57 = .ok (.ireturn, 1) := by decide +kernel
theorem dX8_behind_0 : decode cX8_behind 0 = .ok (.iload_n 0, 1) := by decide +kernel
theorem dX8_behind_1 : decode cX8_behind 1 = .ok (.invokestatic 134, 3) := by decide +kernel
theorem dX8_behind_4 : decode cX8_behind 4 = .ok (.iload_n 1, 1) := by decide +kernel
theorem dX8_behind_5 : decode cX8_behind 5 = .ok (.imul, 1) := by decide +kernel
theorem dX8_behind_6 : decode cX8_behind 6 = .ok (.iload_n 0, 1) := by decide +kernel
theorem dX8_behind_7 : decode cX8_behind 7 = .ok (.invokestatic 137, 3) := by decide +kernel
theorem dX8_behind_10 : decode cX8_behind 10 = .ok (.iload_n 2, 1) := by decide +kernel
theorem dX8_behind_11 : decode cX8_behind 11 = .ok (.imul, 1) := by decide +kernel
theorem dX8_behind_12 : decode cX8_behind 12 = .ok (.isub, 1) := by decide +kernel
theorem dX8_behind_13 : decode cX8_behind 13 = .ok (.ireturn, 1) := by decide +kernel
theorem dX8_wayOf_0 : decode cX8_wayOf 0 = .ok (.iconst 0, 1) := by decide +kernel
theorem dX8_wayOf_1 : decode cX8_wayOf 1 = .ok (.istore_n 2, 1) := by decide +kernel
theorem dX8_wayOf_2 : decode cX8_wayOf 2 = .ok (.iload_n 2, 1) := by decide +kernel
theorem dX8_wayOf_3 : decode cX8_wayOf 3 = .ok (.iload_n 0, 1) := by decide +kernel
theorem dX8_wayOf_4 : decode cX8_wayOf 4 = .ok (.iload_n 1, 1) := by decide +kernel
theorem dX8_wayOf_5 : decode cX8_wayOf 5 = .ok (.invokestatic 140, 3) := by decide +kernel
theorem dX8_wayOf_8 : decode cX8_wayOf 8 = .ok (.ifCond .lt 17, 3) := by decide +kernel
theorem dX8_wayOf_11 : decode cX8_wayOf 11 = .ok (.iload_n 2, 1) := by decide +kernel
theorem dX8_wayOf_12 : decode cX8_wayOf 12 = .ok (.iconst 1, 1) := by decide +kernel
theorem dX8_wayOf_13 : decode cX8_wayOf 13 = .ok (.iadd, 1) := by decide +kernel
theorem dX8_wayOf_14 : decode cX8_wayOf 14 = .ok (.bipush 16, 2) := by decide +kernel
theorem dX8_wayOf_16 : decode cX8_wayOf 16 = .ok (.irem, 1) := by decide +kernel
theorem dX8_wayOf_17 : decode cX8_wayOf 17 = .ok (.iload_n 0, 1) := by decide +kernel
theorem dX8_wayOf_18 : decode cX8_wayOf 18 = .ok (.iload_n 1, 1) := by decide +kernel
theorem dX8_wayOf_19 : decode cX8_wayOf 19 = .ok (.invokestatic 140, 3) := by decide +kernel
theorem dX8_wayOf_22 : decode cX8_wayOf 22 = .ok (.ifCond .lt 9, 3) := by decide +kernel
theorem dX8_wayOf_25 : decode cX8_wayOf 25 = .ok (.iinc 2 1, 3) := by decide +kernel
theorem dX8_wayOf_28 : decode cX8_wayOf 28 = .ok (.goto (-26), 3) := by decide +kernel
theorem dX8_wayOf_31 : decode cX8_wayOf 31 = .ok (.iload_n 2, 1) := by decide +kernel
theorem dX8_wayOf_32 : decode cX8_wayOf 32 = .ok (.ireturn, 1) := by decide +kernel
theorem dX8_wayBetween_0 : decode cX8_wayBetween 0 = .ok (.iload_n 1, 1) := by decide +kernel
theorem dX8_wayBetween_1 : decode cX8_wayBetween 1 = .ok (.bipush 16, 2) := by decide +kernel
theorem dX8_wayBetween_3 : decode cX8_wayBetween 3 = .ok (.irem, 1) := by decide +kernel
theorem dX8_wayBetween_4 : decode cX8_wayBetween 4 = .ok (.iload_n 0, 1) := by decide +kernel
theorem dX8_wayBetween_5 : decode cX8_wayBetween 5 = .ok (.bipush 16, 2) := by decide +kernel
theorem dX8_wayBetween_7 : decode cX8_wayBetween 7 = .ok (.irem, 1) := by decide +kernel
theorem dX8_wayBetween_8 : decode cX8_wayBetween 8 = .ok (.isub, 1) := by decide +kernel
theorem dX8_wayBetween_9 : decode cX8_wayBetween 9 = .ok (.iload_n 1, 1) := by decide +kernel
theorem dX8_wayBetween_10 : decode cX8_wayBetween 10 = .ok (.bipush 16, 2) := by decide +kernel
theorem dX8_wayBetween_12 : decode cX8_wayBetween 12 = .ok (.idiv, 1) := by decide +kernel
theorem dX8_wayBetween_13 : decode cX8_wayBetween 13 = .ok (.iload_n 0, 1) := by decide +kernel
theorem dX8_wayBetween_14 : decode cX8_wayBetween 14 = .ok (.bipush 16, 2) := by decide +kernel
theorem dX8_wayBetween_16 : decode cX8_wayBetween 16 = .ok (.idiv, 1) := by decide +kernel
theorem dX8_wayBetween_17 : decode cX8_wayBetween 17 = .ok (.isub, 1) := by decide +kernel
theorem dX8_wayBetween_18 : decode cX8_wayBetween 18 = .ok (.invokestatic 144, 3) := by decide +kernel
theorem dX8_wayBetween_21 : decode cX8_wayBetween 21 = .ok (.ireturn, 1) := by decide +kernel
theorem dX8_isFrom_0 : decode cX8_isFrom 0 = .ok (.iload_n 0, 1) := by decide +kernel
theorem dX8_isFrom_1 : decode cX8_isFrom 1 = .ok (.iload_n 1, 1) := by decide +kernel
theorem dX8_isFrom_2 : decode cX8_isFrom 2 = .ok (.isub, 1) := by decide +kernel
theorem dX8_isFrom_3 : decode cX8_isFrom 3 = .ok (.bipush 16, 2) := by decide +kernel
theorem dX8_isFrom_5 : decode cX8_isFrom 5 = .ok (.iadd, 1) := by decide +kernel
theorem dX8_isFrom_6 : decode cX8_isFrom 6 = .ok (.bipush 16, 2) := by decide +kernel
theorem dX8_isFrom_8 : decode cX8_isFrom 8 = .ok (.irem, 1) := by decide +kernel
theorem dX8_isFrom_9 : decode cX8_isFrom 9 = .ok (.iload_n 2, 1) := by decide +kernel
theorem dX8_isFrom_10 : decode cX8_isFrom 10 = .ok (.iload_n 1, 1) := by decide +kernel
theorem dX8_isFrom_11 : decode cX8_isFrom 11 = .ok (.isub, 1) := by decide +kernel
theorem dX8_isFrom_12 : decode cX8_isFrom 12 = .ok (.bipush 16, 2) := by decide +kernel
theorem dX8_isFrom_14 : decode cX8_isFrom 14 = .ok (.iadd, 1) := by decide +kernel
theorem dX8_isFrom_15 : decode cX8_isFrom 15 = .ok (.bipush 16, 2) := by decide +kernel
theorem dX8_isFrom_17 : decode cX8_isFrom 17 = .ok (.irem, 1) := by decide +kernel
theorem dX8_isFrom_18 : decode cX8_isFrom 18 = .ok (.if_icmp .gt 7, 3) := by decide +kernel
theorem dX8_isFrom_21 : decode cX8_isFrom 21 = .ok (.iconst 1, 1) := by decide +kernel
theorem dX8_isFrom_22 : decode cX8_isFrom 22 = .ok (.goto 4, 3) := by decide +kernel
theorem dX8_isFrom_25 : decode cX8_isFrom 25 = .ok (.iconst 0, 1) := by decide +kernel
theorem dX8_isFrom_26 : decode cX8_isFrom 26 = .ok (.ireturn, 1) := by decide +kernel
theorem dX8_direction_0 : decode cX8_direction 0 = .ok (.iload_n 1, 1) := by decide +kernel
theorem dX8_direction_1 : decode cX8_direction 1 = .ok (.invokestatic 108, 3) := by decide +kernel
theorem dX8_direction_4 : decode cX8_direction 4 = .ok (.ifCond .eq 10, 3) := by decide +kernel
theorem dX8_direction_7 : decode cX8_direction 7 = .ok (.iload_n 2, 1) := by decide +kernel
theorem dX8_direction_8 : decode cX8_direction 8 = .ok (.invokestatic 108, 3) := by decide +kernel
theorem dX8_direction_11 : decode cX8_direction 11 = .ok (.ifCond .ne 10, 3) := by decide +kernel
theorem dX8_direction_14 : decode cX8_direction 14 = .ok (.aload_n 0, 1) := by decide +kernel
theorem dX8_direction_15 : decode cX8_direction 15 = .ok (.ldc 57, 2) := by decide +kernel
theorem dX8_direction_17 : decode cX8_direction 17 = .ok (.invokevirtual 53, 3) := by decide +kernel
theorem dX8_direction_20 : decode cX8_direction 20 = .ok (.ireturn, 1) := by decide +kernel
theorem dX8_direction_21 : decode cX8_direction 21 = .ok (.iload_n 1, 1) := by decide +kernel
theorem dX8_direction_22 : decode cX8_direction 22 = .ok (.iload_n 2, 1) := by decide +kernel
theorem dX8_direction_23 : decode cX8_direction 23 = .ok (.if_icmp .ne 12, 3) := by decide +kernel
theorem dX8_direction_26 : decode cX8_direction 26 = .ok (.aload_n 0, 1) := by decide +kernel
theorem dX8_direction_27 : decode cX8_direction 27 = .ok (.ldc 147, 2) := by decide +kernel
theorem dX8_direction_29 : decode cX8_direction 29 = .ok (.invokevirtual 53, 3) := by decide +kernel
theorem dX8_direction_32 : decode cX8_direction 32 = .ok (.goto 8, 3) := by decide +kernel
theorem dX8_direction_35 : decode cX8_direction 35 = .ok (.iload_n 1, 1) := by decide +kernel
theorem dX8_direction_36 : decode cX8_direction 36 = .ok (.iload_n 2, 1) := by decide +kernel
theorem dX8_direction_37 : decode cX8_direction 37 = .ok (.invokestatic 148, 3) := by decide +kernel
theorem dX8_direction_40 : decode cX8_direction 40 = .ok (.ireturn, 1) := by decide +kernel
theorem dX8_colourOf_0 : decode cX8_colourOf 0 = .ok (.aload_n 0, 1) := by decide +kernel
theorem dX8_colourOf_1 : decode cX8_colourOf 1 = .ok (.getfield 9, 3) := by decide +kernel
theorem dX8_colourOf_4 : decode cX8_colourOf 4 = .ok (.iload_n 1, 1) := by decide +kernel
theorem dX8_colourOf_5 : decode cX8_colourOf 5 = .ok (.iconst 3, 1) := by decide +kernel
theorem dX8_colourOf_6 : decode cX8_colourOf 6 = .ok (.invokestatic 45, 3) := by decide +kernel
theorem dX8_colourOf_9 : decode cX8_colourOf 9 = .ok (.iaload, 1) := by decide +kernel
theorem dX8_colourOf_10 : decode cX8_colourOf 10 = .ok (.istore_n 3, 1) := by decide +kernel
theorem dX8_colourOf_11 : decode cX8_colourOf 11 = .ok (.aload_n 0, 1) := by decide +kernel
theorem dX8_colourOf_12 : decode cX8_colourOf 12 = .ok (.getfield 9, 3) := by decide +kernel
theorem dX8_colourOf_15 : decode cX8_colourOf 15 = .ok (.iload_n 1, 1) := by decide +kernel
theorem dX8_colourOf_16 : decode cX8_colourOf 16 = .ok (.iconst 1, 1) := by decide +kernel
theorem dX8_colourOf_17 : decode cX8_colourOf 17 = .ok (.invokestatic 45, 3) := by decide +kernel
theorem dX8_colourOf_20 : decode cX8_colourOf 20 = .ok (.iaload, 1) := by decide +kernel
theorem dX8_colourOf_21 : decode cX8_colourOf 21 = .ok (.istore 4, 2) := by decide +kernel
theorem dX8_colourOf_23 : decode cX8_colourOf 23 = .ok (.iload_n 2, 1) := by decide +kernel
theorem dX8_colourOf_24 : decode cX8_colourOf 24 = .ok (.iload 4, 2) := by decide +kernel
theorem dX8_colourOf_26 : decode cX8_colourOf 26 = .ok (.if_icmp .ne 5, 3) := by decide +kernel
theorem dX8_colourOf_29 : decode cX8_colourOf 29 = .ok (.iload_n 3, 1) := by decide +kernel
theorem dX8_colourOf_30 : decode cX8_colourOf 30 = .ok (.ireturn, 1) := by decide +kernel
theorem dX8_colourOf_31 : decode cX8_colourOf 31 = .ok (.iload 4, 2) := by decide +kernel
theorem dX8_colourOf_33 : decode cX8_colourOf 33 = .ok (.iload_n 2, 1) := by decide +kernel
theorem dX8_colourOf_34 : decode cX8_colourOf 34 = .ok (.invokestatic 148, 3) := by decide +kernel
theorem dX8_colourOf_37 : decode cX8_colourOf 37 = .ok (.istore 5, 2) := by decide +kernel
theorem dX8_colourOf_39 : decode cX8_colourOf 39 = .ok (.aload_n 0, 1) := by decide +kernel
theorem dX8_colourOf_40 : decode cX8_colourOf 40 = .ok (.getfield 9, 3) := by decide +kernel
theorem dX8_colourOf_43 : decode cX8_colourOf 43 = .ok (.iload_n 1, 1) := by decide +kernel
theorem dX8_colourOf_44 : decode cX8_colourOf 44 = .ok (.iconst 0, 1) := by decide +kernel
theorem dX8_colourOf_45 : decode cX8_colourOf 45 = .ok (.invokestatic 45, 3) := by decide +kernel
theorem dX8_colourOf_48 : decode cX8_colourOf 48 = .ok (.iaload, 1) := by decide +kernel
theorem dX8_colourOf_49 : decode cX8_colourOf 49 = .ok (.iconst 3, 1) := by decide +kernel
theorem dX8_colourOf_50 : decode cX8_colourOf 50 = .ok (.if_icmp .ne 7, 3) := by decide +kernel
theorem dX8_colourOf_53 : decode cX8_colourOf 53 = .ok (.iconst 3, 1) := by decide +kernel
theorem dX8_colourOf_54 : decode cX8_colourOf 54 = .ok (.goto 4, 3) := by decide +kernel
theorem dX8_colourOf_57 : decode cX8_colourOf 57 = .ok (.iload_n 3, 1) := by decide +kernel
theorem dX8_colourOf_58 : decode cX8_colourOf 58 = .ok (.istore 6, 2) := by decide +kernel
theorem dX8_colourOf_60 : decode cX8_colourOf 60 = .ok (.iconst 0, 1) := by decide +kernel
theorem dX8_colourOf_61 : decode cX8_colourOf 61 = .ok (.istore 7, 2) := by decide +kernel
theorem dX8_colourOf_63 : decode cX8_colourOf 63 = .ok (.iload 7, 2) := by decide +kernel
theorem dX8_colourOf_65 : decode cX8_colourOf 65 = .ok (.aload_n 0, 1) := by decide +kernel
theorem dX8_colourOf_66 : decode cX8_colourOf 66 = .ok (.getfield 9, 3) := by decide +kernel
theorem dX8_colourOf_69 : decode cX8_colourOf 69 = .ok (.iload_n 1, 1) := by decide +kernel
