theorem dX0_init_0 : decode cX0_init 0 = .ok (.aload_n 0, 1) := by decide +kernel
theorem dX0_init_1 : decode cX0_init 1 = .ok (.invokespecial 3, 3) := by decide +kernel
theorem dX0_init_4 : decode cX0_init 4 = .ok (.aload_n 0, 1) := by decide +kernel
theorem dX0_init_5 : decode cX0_init 5 = .ok (.bipush 20, 2) := by decide +kernel
theorem dX0_init_7 : decode cX0_init 7 = .ok (.newarray .int, 2) := by decide +kernel
theorem dX0_init_9 : decode cX0_init 9 = .ok (.putfield 9, 3) := by decide +kernel
theorem dX0_init_12 : decode cX0_init 12 = .ok (.aload_n 0, 1) := by decide +kernel
theorem dX0_init_13 : decode cX0_init 13 = .ok (.bipush 10, 2) := by decide +kernel
theorem dX0_init_15 : decode cX0_init 15 = .ok (.newarray .int, 2) := by decide +kernel
theorem dX0_init_17 : decode cX0_init 17 = .ok (.putfield 15, 3) := by decide +kernel
theorem dX0_init_20 : decode cX0_init 20 = .ok (.aload_n 0, 1) := by decide +kernel
theorem dX0_init_21 : decode cX0_init 21 = .ok (.bipush 10, 2) := by decide +kernel
theorem dX0_init_23 : decode cX0_init 23 = .ok (.newarray .int, 2) := by decide +kernel
theorem dX0_init_25 : decode cX0_init 25 = .ok (.putfield 18, 3) := by decide +kernel
theorem dX0_init_28 : decode cX0_init 28 = .ok (.aload_n 0, 1) := by decide +kernel
theorem dX0_init_29 : decode cX0_init 29 = .ok (.iconst 0, 1) := by decide +kernel
theorem dX0_init_30 : decode cX0_init 30 = .ok (.newarray .int, 2) := by decide +kernel
theorem dX0_init_32 : decode cX0_init 32 = .ok (.putfield 21, 3) := by decide +kernel
theorem dX0_init_35 : decode cX0_init 35 = .ok (.aload_n 0, 1) := by decide +kernel
theorem dX0_init_36 : decode cX0_init 36 = .ok (.iconst 0, 1) := by decide +kernel
theorem dX0_init_37 : decode cX0_init 37 = .ok (.newarray .int, 2) := by decide +kernel
theorem dX0_init_39 : decode cX0_init 39 = .ok (.putfield 24, 3) := by decide +kernel
theorem dX0_init_42 : decode cX0_init 42 = .ok (.return_, 1) := by decide +kernel
theorem dX0_find_0 : decode cX0_find 0 = .ok (.aload_n 0, 1) := by decide +kernel
theorem dX0_find_1 : decode cX0_find 1 = .ok (.aload_n 1, 1) := by decide +kernel
theorem dX0_find_2 : decode cX0_find 2 = .ok (.iload_n 2, 1) := by decide +kernel
theorem dX0_find_3 : decode cX0_find 3 = .ok (.aload_n 3, 1) := by decide +kernel
theorem dX0_find_4 : decode cX0_find 4 = .ok (.iload 4, 2) := by decide +kernel
theorem dX0_find_6 : decode cX0_find 6 = .ok (.invokevirtual 27, 3) := by decide +kernel
theorem dX0_find_9 : decode cX0_find 9 = .ok (.istore 5, 2) := by decide +kernel
theorem dX0_find_11 : decode cX0_find 11 = .ok (.aload_n 0, 1) := by decide +kernel
theorem dX0_find_12 : decode cX0_find 12 = .ok (.invokevirtual 31, 3) := by decide +kernel
theorem dX0_find_15 : decode cX0_find 15 = .ok (.aload_n 0, 1) := by decide +kernel
theorem dX0_find_16 : decode cX0_find 16 = .ok (.aload_n 1, 1) := by decide +kernel
theorem dX0_find_17 : decode cX0_find 17 = .ok (.invokevirtual 34, 3) := by decide +kernel
theorem dX0_find_20 : decode cX0_find 20 = .ok (.bipush 19, 2) := by decide +kernel
theorem dX0_find_22 : decode cX0_find 22 = .ok (.istore 6, 2) := by decide +kernel
theorem dX0_find_24 : decode cX0_find 24 = .ok (.iload 6, 2) := by decide +kernel
theorem dX0_find_26 : decode cX0_find 26 = .ok (.iload 4, 2) := by decide +kernel
theorem dX0_find_28 : decode cX0_find 28 = .ok (.if_icmp .lt 26, 3) := by decide +kernel
theorem dX0_find_31 : decode cX0_find 31 = .ok (.aload_n 0, 1) := by decide +kernel
theorem dX0_find_32 : decode cX0_find 32 = .ok (.aload_n 1, 1) := by decide +kernel
theorem dX0_find_33 : decode cX0_find 33 = .ok (.iload 6, 2) := by decide +kernel
theorem dX0_find_35 : decode cX0_find 35 = .ok (.aload_n 3, 1) := by decide +kernel
theorem dX0_find_36 : decode cX0_find 36 = .ok (.iload 6, 2) := by decide +kernel
theorem dX0_find_38 : decode cX0_find 38 = .ok (.iaload, 1) := by decide +kernel
theorem dX0_find_39 : decode cX0_find 39 = .ok (.invokevirtual 38, 3) := by decide +kernel
theorem dX0_find_42 : decode cX0_find 42 = .ok (.aload_n 0, 1) := by decide +kernel
theorem dX0_find_43 : decode cX0_find 43 = .ok (.iload 6, 2) := by decide +kernel
theorem dX0_find_45 : decode cX0_find 45 = .ok (.invokevirtual 42, 3) := by decide +kernel
theorem dX0_find_48 : decode cX0_find 48 = .ok (.iinc 6 (-1), 3) := by decide +kernel
theorem dX0_find_51 : decode cX0_find 51 = .ok (.goto (-27), 3) := by decide +kernel
theorem dX0_find_54 : decode cX0_find 54 = .ok (.aload_n 0, 1) := by decide +kernel
theorem dX0_find_55 : decode cX0_find 55 = .ok (.iload 4, 2) := by decide +kernel
theorem dX0_find_57 : decode cX0_find 57 = .ok (.invokevirtual 46, 3) := by decide +kernel
theorem dX0_find_60 : decode cX0_find 60 = .ok (.aload_n 0, 1) := by decide +kernel
theorem dX0_find_61 : decode cX0_find 61 = .ok (.iload 5, 2) := by decide +kernel
theorem dX0_find_63 : decode cX0_find 63 = .ok (.aload_n 0, 1) := by decide +kernel
theorem dX0_find_64 : decode cX0_find 64 = .ok (.getfield 21, 3) := by decide +kernel
theorem dX0_find_67 : decode cX0_find 67 = .ok (.iconst 0, 1) := by decide +kernel
theorem dX0_find_68 : decode cX0_find 68 = .ok (.iaload, 1) := by decide +kernel
theorem dX0_find_69 : decode cX0_find 69 = .ok (.iadd, 1) := by decide +kernel
theorem dX0_find_70 : decode cX0_find 70 = .ok (.putfield 49, 3) := by decide +kernel
theorem dX0_find_73 : decode cX0_find 73 = .ok (.return_, 1) := by decide +kernel
theorem dX0_pickRocks_0 : decode cX0_pickRocks 0 = .ok (.aload_n 0, 1) := by decide +kernel
theorem dX0_pickRocks_1 : decode cX0_pickRocks 1 = .ok (.iconst 0, 1) := by decide +kernel
theorem dX0_pickRocks_2 : decode cX0_pickRocks 2 = .ok (.putfield 53, 3) := by decide +kernel
theorem dX0_pickRocks_5 : decode cX0_pickRocks 5 = .ok (.iconst 0, 1) := by decide +kernel
theorem dX0_pickRocks_6 : decode cX0_pickRocks 6 = .ok (.istore 5, 2) := by decide +kernel
theorem dX0_pickRocks_8 : decode cX0_pickRocks 8 = .ok (.iconst 0, 1) := by decide +kernel
theorem dX0_pickRocks_9 : decode cX0_pickRocks 9 = .ok (.istore 6, 2) := by decide +kernel
theorem dX0_pickRocks_11 : decode cX0_pickRocks 11 = .ok (.iload 6, 2) := by decide +kernel
theorem dX0_pickRocks_13 : decode cX0_pickRocks 13 = .ok (.iload_n 2, 1) := by decide +kernel
theorem dX0_pickRocks_14 : decode cX0_pickRocks 14 = .ok (.if_icmp .ge 85, 3) := by decide +kernel
theorem dX0_pickRocks_17 : decode cX0_pickRocks 17 = .ok (.aload_n 1, 1) := by decide +kernel
theorem dX0_pickRocks_18 : decode cX0_pickRocks 18 = .ok (.iload 6, 2) := by decide +kernel
theorem dX0_pickRocks_20 : decode cX0_pickRocks 20 = .ok (.aaload, 1) := by decide +kernel
theorem dX0_pickRocks_21 : decode cX0_pickRocks 21 = .ok (.invokevirtual 56, 3) := by decide +kernel
theorem dX0_pickRocks_24 : decode cX0_pickRocks 24 = .ok (.ifCond .eq 69, 3) := by decide +kernel
theorem dX0_pickRocks_27 : decode cX0_pickRocks 27 = .ok (.aload_n 1, 1) := by decide +kernel
theorem dX0_pickRocks_28 : decode cX0_pickRocks 28 = .ok (.iload 6, 2) := by decide +kernel
theorem dX0_pickRocks_30 : decode cX0_pickRocks 30 = .ok (.aaload, 1) := by decide +kernel
theorem dX0_pickRocks_31 : decode cX0_pickRocks 31 = .ok (.bipush 20, 2) := by decide +kernel
theorem dX0_pickRocks_33 : decode cX0_pickRocks 33 = .ok (.invokevirtual 62, 3) := by decide +kernel
theorem dX0_pickRocks_36 : decode cX0_pickRocks 36 = .ok (.ifCond .ne 6, 3) := by decide +kernel
theorem dX0_pickRocks_39 : decode cX0_pickRocks 39 = .ok (.goto 54, 3) := by decide +kernel
theorem dX0_pickRocks_42 : decode cX0_pickRocks 42 = .ok (.aload_n 1, 1) := by decide +kernel
theorem dX0_pickRocks_43 : decode cX0_pickRocks 43 = .ok (.iload 6, 2) := by decide +kernel
theorem dX0_pickRocks_45 : decode cX0_pickRocks 45 = .ok (.aaload, 1) := by decide +kernel
theorem dX0_pickRocks_46 : decode cX0_pickRocks 46 = .ok (.aload_n 3, 1) := by decide +kernel
theorem dX0_pickRocks_47 : decode cX0_pickRocks 47 = .ok (.iload 4, 2) := by decide +kernel
theorem dX0_pickRocks_49 : decode cX0_pickRocks 49 = .ok (.invokestatic 66, 3) := by decide +kernel
theorem dX0_pickRocks_52 : decode cX0_pickRocks 52 = .ok (.ifCond .eq 27, 3) := by decide +kernel
theorem dX0_pickRocks_55 : decode cX0_pickRocks 55 = .ok (.aload_n 0, 1) := by decide +kernel
theorem dX0_pickRocks_56 : decode cX0_pickRocks 56 = .ok (.getfield 15, 3) := by decide +kernel
theorem dX0_pickRocks_59 : decode cX0_pickRocks 59 = .ok (.aload_n 0, 1) := by decide +kernel
theorem dX0_pickRocks_60 : decode cX0_pickRocks 60 = .ok (.getfield 53, 3) := by decide +kernel
theorem dX0_pickRocks_63 : decode cX0_pickRocks 63 = .ok (.iload 6, 2) := by decide +kernel
theorem dX0_pickRocks_65 : decode cX0_pickRocks 65 = .ok (.iastore, 1) := by decide +kernel
theorem dX0_pickRocks_66 : decode cX0_pickRocks 66 = .ok (.aload_n 0, 1) := by decide +kernel
theorem dX0_pickRocks_67 : decode cX0_pickRocks 67 = .ok (.dup, 1) := by decide +kernel
theorem dX0_pickRocks_68 : decode cX0_pickRocks 68 = .ok (.getfield 53, 3) := by decide +kernel
theorem dX0_pickRocks_71 : decode cX0_pickRocks 71 = .ok (.iconst 1, 1) := by decide +kernel
theorem dX0_pickRocks_72 : decode cX0_pickRocks 72 = .ok (.iadd, 1) := by decide +kernel
theorem dX0_pickRocks_73 : decode cX0_pickRocks 73 = .ok (.putfield 53, 3) := by decide +kernel
theorem dX0_pickRocks_76 : decode cX0_pickRocks 76 = .ok (.goto 17, 3) := by decide +kernel
theorem dX0_pickRocks_79 : decode cX0_pickRocks 79 = .ok (.iload 5, 2) := by decide +kernel
theorem dX0_pickRocks_81 : decode cX0_pickRocks 81 = .ok (.aload_n 1, 1) := by decide +kernel
theorem dX0_pickRocks_82 : decode cX0_pickRocks 82 = .ok (.iload 6, 2) := by decide +kernel
theorem dX0_pickRocks_84 : decode cX0_pickRocks 84 = .ok (.aaload, 1) := by decide +kernel
theorem dX0_pickRocks_85 : decode cX0_pickRocks 85 = .ok (.bipush 20, 2) := by decide +kernel
theorem dX0_pickRocks_87 : decode cX0_pickRocks 87 = .ok (.invokevirtual 62, 3) := by decide +kernel
theorem dX0_pickRocks_90 : decode cX0_pickRocks 90 = .ok (.iadd, 1) := by decide +kernel
theorem dX0_pickRocks_91 : decode cX0_pickRocks 91 = .ok (.istore 5, 2) := by decide +kernel
theorem dX0_pickRocks_93 : decode cX0_pickRocks 93 = .ok (.iinc 6 1, 3) := by decide +kernel
theorem dX0_pickRocks_96 : decode cX0_pickRocks 96 = .ok (.goto (-85), 3) := by decide +kernel
theorem dX0_pickRocks_99 : decode cX0_pickRocks 99 = .ok (.iload 5, 2) := by decide +kernel
theorem dX0_pickRocks_101 : decode cX0_pickRocks 101 = .ok (.ireturn, 1) := by decide +kernel
theorem dX0_landsFrom_0 : decode cX0_landsFrom 0 = .ok (.iload_n 2, 1) := by decide +kernel
theorem dX0_landsFrom_1 : decode cX0_landsFrom 1 = .ok (.istore_n 3, 1) := by decide +kernel
theorem dX0_landsFrom_2 : decode cX0_landsFrom 2 = .ok (.iload_n 3, 1) := by decide +kernel
theorem dX0_landsFrom_3 : decode cX0_landsFrom 3 = .ok (.bipush 20, 2) := by decide +kernel
theorem dX0_landsFrom_5 : decode cX0_landsFrom 5 = .ok (.if_icmp .ge 21, 3) := by decide +kernel
theorem dX0_landsFrom_8 : decode cX0_landsFrom 8 = .ok (.aload_n 0, 1) := by decide +kernel
theorem dX0_landsFrom_9 : decode cX0_landsFrom 9 = .ok (.aload_n 1, 1) := by decide +kernel
theorem dX0_landsFrom_10 : decode cX0_landsFrom 10 = .ok (.iload_n 3, 1) := by decide +kernel
theorem dX0_landsFrom_11 : decode cX0_landsFrom 11 = .ok (.iaload, 1) := by decide +kernel
theorem dX0_landsFrom_12 : decode cX0_landsFrom 12 = .ok (.invokevirtual 70, 3) := by decide +kernel
theorem dX0_landsFrom_15 : decode cX0_landsFrom 15 = .ok (.ifCond .eq 5, 3) := by decide +kernel
theorem dX0_landsFrom_18 : decode cX0_landsFrom 18 = .ok (.iconst 1, 1) := by decide +kernel
theorem dX0_landsFrom_19 : decode cX0_landsFrom 19 = .ok (.ireturn, 1) := by decide +kernel
theorem dX0_landsFrom_20 : decode cX0_landsFrom 20 = .ok (.iinc 3 1, 3) := by decide +kernel
theorem dX0_landsFrom_23 : decode cX0_landsFrom 23 = .ok (.goto (-21), 3) := by decide +kernel
theorem dX0_landsFrom_26 : decode cX0_landsFrom 26 = .ok (.iconst 0, 1) := by decide +kernel
theorem dX0_landsFrom_27 : decode cX0_landsFrom 27 = .ok (.ireturn, 1) := by decide +kernel
theorem dX0_makeRoom_0 : decode cX0_makeRoom 0 = .ok (.aload_n 0, 1) := by decide +kernel
theorem dX0_makeRoom_1 : decode cX0_makeRoom 1 = .ok (.iconst 1, 1) := by decide +kernel
theorem dX0_makeRoom_2 : decode cX0_makeRoom 2 = .ok (.aload_n 0, 1) := by decide +kernel
theorem dX0_makeRoom_3 : decode cX0_makeRoom 3 = .ok (.getfield 53, 3) := by decide +kernel
theorem dX0_makeRoom_6 : decode cX0_makeRoom 6 = .ok (.ishl, 1) := by decide +kernel
theorem dX0_makeRoom_7 : decode cX0_makeRoom 7 = .ok (.putfield 74, 3) := by decide +kernel
theorem dX0_makeRoom_10 : decode cX0_makeRoom 10 = .ok (.aload_n 0, 1) := by decide +kernel
theorem dX0_makeRoom_11 : decode cX0_makeRoom 11 = .ok (.getfield 21, 3) := by decide +kernel
theorem dX0_makeRoom_14 : decode cX0_makeRoom 14 = .ok (.arraylength, 1) := by decide +kernel
theorem dX0_makeRoom_15 : decode cX0_makeRoom 15 = .ok (.aload_n 0, 1) := by decide +kernel
theorem dX0_makeRoom_16 : decode cX0_makeRoom 16 = .ok (.getfield 74, 3) := by decide +kernel
theorem dX0_makeRoom_19 : decode cX0_makeRoom 19 = .ok (.if_icmp .ge 26, 3) := by decide +kernel
theorem dX0_makeRoom_22 : decode cX0_makeRoom 22 = .ok (.aload_n 0, 1) := by decide +kernel
theorem dX0_makeRoom_23 : decode cX0_makeRoom 23 = .ok (.aload_n 0, 1) := by decide +kernel
theorem dX0_makeRoom_24 : decode cX0_makeRoom 24 = .ok (.getfield 74, 3) := by decide +kernel
theorem dX0_makeRoom_27 : decode cX0_makeRoom 27 = .ok (.newarray .int, 2) := by decide +kernel
theorem dX0_makeRoom_29 : decode cX0_makeRoom 29 = .ok (.putfield 21, 3) := by decide +kernel
theorem dX0_makeRoom_32 : decode cX0_makeRoom 32 = .ok (.aload_n 0, 1) := by decide +kernel
theorem dX0_makeRoom_33 : decode cX0_makeRoom 33 = .ok (.aload_n 0, 1) := by decide +kernel
theorem dX0_makeRoom_34 : decode cX0_makeRoom 34 = .ok (.getfield 74, 3) := by decide +kernel
theorem dX0_makeRoom_37 : decode cX0_makeRoom 37 = .ok (.bipush 20, 2) := by decide +kernel
theorem dX0_makeRoom_39 : decode cX0_makeRoom 39 = .ok (.imul, 1) := by decide +kernel
theorem dX0_makeRoom_40 : decode cX0_makeRoom 40 = .ok (.newarray .int, 2) := by decide +kernel
theorem dX0_makeRoom_42 : decode cX0_makeRoom 42 = .ok (.putfield 24, 3) := by decide +kernel
theorem dX0_makeRoom_45 : decode cX0_makeRoom 45 = .ok (.return_, 1) := by decide +kernel
theorem dX0_endCosts_0 : decode cX0_endCosts 0 = .ok (.iconst 0, 1) := by decide +kernel
theorem dX0_endCosts_1 : decode cX0_endCosts 1 = .ok (.istore_n 2, 1) := by decide +kernel
theorem dX0_endCosts_2 : decode cX0_endCosts 2 = .ok (.iload_n 2, 1) := by decide +kernel
theorem dX0_endCosts_3 : decode cX0_endCosts 3 = .ok (.aload_n 0, 1) := by decide +kernel
theorem dX0_endCosts_4 : decode cX0_endCosts 4 = .ok (.getfield 74, 3) := by decide +kernel
theorem dX0_endCosts_7 : decode cX0_endCosts 7 = .ok (.if_icmp .ge 62, 3) := by decide +kernel
theorem dX0_endCosts_10 : decode cX0_endCosts 10 = .ok (.iconst 0, 1) := by decide +kernel
theorem dX0_endCosts_11 : decode cX0_endCosts 11 = .ok (.istore_n 3, 1) := by decide +kernel
theorem dX0_endCosts_12 : decode cX0_endCosts 12 = .ok (.iconst 0, 1) := by decide +kernel
theorem dX0_endCosts_13 : decode cX0_endCosts 13 = .ok (.istore 4, 2) := by decide +kernel
theorem dX0_endCosts_15 : decode cX0_endCosts 15 = .ok (.iload 4, 2) := by decide +kernel
theorem dX0_endCosts_17 : decode cX0_endCosts 17 = .ok (.aload_n 0, 1) := by decide +kernel
theorem dX0_endCosts_18 : decode cX0_endCosts 18 = .ok (.getfield 53, 3) := by decide +kernel
theorem dX0_endCosts_21 : decode cX0_endCosts 21 = .ok (.if_icmp .ge 35, 3) := by decide +kernel
theorem dX0_endCosts_24 : decode cX0_endCosts 24 = .ok (.iload_n 2, 1) := by decide +kernel
theorem dX0_endCosts_25 : decode cX0_endCosts 25 = .ok (.iload 4, 2) := by decide +kernel
theorem dX0_endCosts_27 : decode cX0_endCosts 27 = .ok (.ishr, 1) := by decide +kernel
theorem dX0_endCosts_28 : decode cX0_endCosts 28 = .ok (.iconst 1, 1) := by decide +kernel
theorem dX0_endCosts_29 : decode cX0_endCosts 29 = .ok (.iand, 1) := by decide +kernel
theorem dX0_endCosts_30 : decode cX0_endCosts 30 = .ok (.ifCond .ne 20, 3) := by decide +kernel
theorem dX0_endCosts_33 : decode cX0_endCosts 33 = .ok (.iload_n 3, 1) := by decide +kernel
theorem dX0_endCosts_34 : decode cX0_endCosts 34 = .ok (.aload_n 1, 1) := by decide +kernel
theorem dX0_endCosts_35 : decode cX0_endCosts 35 = .ok (.aload_n 0, 1) := by decide +kernel
theorem dX0_endCosts_36 : decode cX0_endCosts 36 = .ok (.getfield 15, 3) := by decide +kernel
theorem dX0_endCosts_39 : decode cX0_endCosts 39 = .ok (.iload 4, 2) := by decide +kernel
theorem dX0_endCosts_41 : decode cX0_endCosts 41 = .ok (.iaload, 1) := by decide +kernel
theorem dX0_endCosts_42 : decode cX0_endCosts 42 = .ok (.aaload, 1) := by decide +kernel
theorem dX0_endCosts_43 : decode cX0_endCosts 43 = .ok (.bipush 20, 2) := by decide +kernel
theorem dX0_endCosts_45 : decode cX0_endCosts 45 = .ok (.invokevirtual 62, 3) := by decide +kernel
theorem dX0_endCosts_48 : decode cX0_endCosts 48 = .ok (.iadd, 1) := by decide +kernel
theorem dX0_endCosts_49 : decode cX0_endCosts 49 = .ok (.istore_n 3, 1) := by decide +kernel
theorem dX0_endCosts_50 : decode cX0_endCosts 50 = .ok (.iinc 4 1, 3) := by decide +kernel
theorem dX0_endCosts_53 : decode cX0_endCosts 53 = .ok (.goto (-38), 3) := by decide +kernel
theorem dX0_endCosts_56 : decode cX0_endCosts 56 = .ok (.aload_n 0, 1) := by decide +kernel
theorem dX0_endCosts_57 : decode cX0_endCosts 57 = .ok (.getfield 21, 3) := by decide +kernel
theorem dX0_endCosts_60 : decode cX0_endCosts 60 = .ok (.iload_n 2, 1) := by decide +kernel
theorem dX0_endCosts_61 : decode cX0_endCosts 61 = .ok (.iload_n 3, 1) := by decide +kernel
theorem dX0_endCosts_62 : decode cX0_endCosts 62 = .ok (.iastore, 1) := by decide +kernel
theorem dX0_endCosts_63 : decode cX0_endCosts 63 = .ok (.iinc 2 1, 3) := by decide +kernel
theorem dX0_endCosts_66 : decode cX0_endCosts 66 = .ok (.goto (-64), 3) := by decide +kernel
theorem dX0_endCosts_69 : decode cX0_endCosts 69 = .ok (.return_, 1) := by decide +kernel
theorem dX0_lookAt_0 : decode cX0_lookAt 0 = .ok (.iconst 0, 1) := by decide +kernel
theorem dX0_lookAt_1 : decode cX0_lookAt 1 = .ok (.istore 4, 2) := by decide +kernel
theorem dX0_lookAt_3 : decode cX0_lookAt 3 = .ok (.iload 4, 2) := by decide +kernel
theorem dX0_lookAt_5 : decode cX0_lookAt 5 = .ok (.aload_n 0, 1) := by decide +kernel
theorem dX0_lookAt_6 : decode cX0_lookAt 6 = .ok (.getfield 53, 3) := by decide +kernel
theorem dX0_lookAt_9 : decode cX0_lookAt 9 = .ok (.if_icmp .ge 46, 3) := by decide +kernel
theorem dX0_lookAt_12 : decode cX0_lookAt 12 = .ok (.aload_n 1, 1) := by decide +kernel
theorem dX0_lookAt_13 : decode cX0_lookAt 13 = .ok (.aload_n 0, 1) := by decide +kernel
theorem dX0_lookAt_14 : decode cX0_lookAt 14 = .ok (.getfield 15, 3) := by decide +kernel
theorem dX0_lookAt_17 : decode cX0_lookAt 17 = .ok (.iload 4, 2) := by decide +kernel
theorem dX0_lookAt_19 : decode cX0_lookAt 19 = .ok (.iaload, 1) := by decide +kernel
theorem dX0_lookAt_20 : decode cX0_lookAt 20 = .ok (.aaload, 1) := by decide +kernel
theorem dX0_lookAt_21 : decode cX0_lookAt 21 = .ok (.astore 5, 2) := by decide +kernel
theorem dX0_lookAt_23 : decode cX0_lookAt 23 = .ok (.aload_n 0, 1) := by decide +kernel
theorem dX0_lookAt_24 : decode cX0_lookAt 24 = .ok (.getfield 18, 3) := by decide +kernel
theorem dX0_lookAt_27 : decode cX0_lookAt 27 = .ok (.iload 4, 2) := by decide +kernel
theorem dX0_lookAt_29 : decode cX0_lookAt 29 = .ok (.aload 5, 2) := by decide +kernel
theorem dX0_lookAt_31 : decode cX0_lookAt 31 = .ok (.iload_n 3, 1) := by decide +kernel
theorem dX0_lookAt_32 : decode cX0_lookAt 32 = .ok (.invokevirtual 70, 3) := by decide +kernel
theorem dX0_lookAt_35 : decode cX0_lookAt 35 = .ok (.ifCond .eq 12, 3) := by decide +kernel
theorem dX0_lookAt_38 : decode cX0_lookAt 38 = .ok (.aload 5, 2) := by decide +kernel
theorem dX0_lookAt_40 : decode cX0_lookAt 40 = .ok (.iload_n 2, 1) := by decide +kernel
theorem dX0_lookAt_41 : decode cX0_lookAt 41 = .ok (.invokevirtual 62, 3) := by decide +kernel
theorem dX0_lookAt_44 : decode cX0_lookAt 44 = .ok (.goto 4, 3) := by decide +kernel
theorem dX0_lookAt_47 : decode cX0_lookAt 47 = .ok (.iconst (-1), 1) := by decide +kernel
theorem dX0_lookAt_48 : decode cX0_lookAt 48 = .ok (.iastore, 1) := by decide +kernel
theorem dX0_lookAt_49 : decode cX0_lookAt 49 = .ok (.iinc 4 1, 3) := by decide +kernel
theorem dX0_lookAt_52 : decode cX0_lookAt 52 = .ok (.goto (-49), 3) := by decide +kernel
theorem dX0_lookAt_55 : decode cX0_lookAt 55 = .ok (.return_, 1) := by decide +kernel
theorem dX0_workBack_0 : decode cX0_workBack 0 = .ok (.iconst 0, 1) := by decide +kernel
theorem dX0_workBack_1 : decode cX0_workBack 1 = .ok (.istore_n 2, 1) := by decide +kernel
theorem dX0_workBack_2 : decode cX0_workBack 2 = .ok (.iload_n 2, 1) := by decide +kernel
theorem dX0_workBack_3 : decode cX0_workBack 3 = .ok (.aload_n 0, 1) := by decide +kernel
theorem dX0_workBack_4 : decode cX0_workBack 4 = .ok (.getfield 74, 3) := by decide +kernel
theorem dX0_workBack_7 : decode cX0_workBack 7 = .ok (.if_icmp .ge 116, 3) := by decide +kernel
theorem dX0_workBack_10 : decode cX0_workBack 10 = .ok (.aload_n 0, 1) := by decide +kernel
theorem dX0_workBack_11 : decode cX0_workBack 11 = .ok (.getfield 21, 3) := by decide +kernel
theorem dX0_workBack_14 : decode cX0_workBack 14 = .ok (.iload_n 2, 1) := by decide +kernel
theorem dX0_workBack_15 : decode cX0_workBack 15 = .ok (.iaload, 1) := by decide +kernel
theorem dX0_workBack_16 : decode cX0_workBack 16 = .ok (.istore_n 3, 1) := by decide +kernel
theorem dX0_workBack_17 : decode cX0_workBack 17 = .ok (.iconst (-1), 1) := by decide +kernel
theorem dX0_workBack_18 : decode cX0_workBack 18 = .ok (.istore 4, 2) := by decide +kernel
theorem dX0_workBack_20 : decode cX0_workBack 20 = .ok (.iconst 0, 1) := by decide +kernel
theorem dX0_workBack_21 : decode cX0_workBack 21 = .ok (.istore 5, 2) := by decide +kernel
theorem dX0_workBack_23 : decode cX0_workBack 23 = .ok (.iload 5, 2) := by decide +kernel
theorem dX0_workBack_25 : decode cX0_workBack 25 = .ok (.aload_n 0, 1) := by decide +kernel
theorem dX0_workBack_26 : decode cX0_workBack 26 = .ok (.getfield 53, 3) := by decide +kernel
theorem dX0_workBack_29 : decode cX0_workBack 29 = .ok (.if_icmp .ge 66, 3) := by decide +kernel
theorem dX0_workBack_32 : decode cX0_workBack 32 = .ok (.aload_n 0, 1) := by decide +kernel
theorem dX0_workBack_33 : decode cX0_workBack 33 = .ok (.getfield 18, 3) := by decide +kernel
theorem dX0_workBack_36 : decode cX0_workBack 36 = .ok (.iload 5, 2) := by decide +kernel
theorem dX0_workBack_38 : decode cX0_workBack 38 = .ok (.iaload, 1) := by decide +kernel
theorem dX0_workBack_39 : decode cX0_workBack 39 = .ok (.ifCond .lt 50, 3) := by decide +kernel
theorem dX0_workBack_42 : decode cX0_workBack 42 = .ok (.iload_n 2, 1) := by decide +kernel
theorem dX0_workBack_43 : decode cX0_workBack 43 = .ok (.iload 5, 2) := by decide +kernel
theorem dX0_workBack_45 : decode cX0_workBack 45 = .ok (.ishr, 1) := by decide +kernel
theorem dX0_workBack_46 : decode cX0_workBack 46 = .ok (.iconst 1, 1) := by decide +kernel
theorem dX0_workBack_47 : decode cX0_workBack 47 = .ok (.iand, 1) := by decide +kernel
theorem dX0_workBack_48 : decode cX0_workBack 48 = .ok (.iconst 1, 1) := by decide +kernel
theorem dX0_workBack_49 : decode cX0_workBack 49 = .ok (.if_icmp .ne 6, 3) := by decide +kernel
theorem dX0_workBack_52 : decode cX0_workBack 52 = .ok (.goto 37, 3) := by decide +kernel
theorem dX0_workBack_55 : decode cX0_workBack 55 = .ok (.aload_n 0, 1) := by decide +kernel
theorem dX0_workBack_56 : decode cX0_workBack 56 = .ok (.getfield 18, 3) := by decide +kernel
theorem dX0_workBack_59 : decode cX0_workBack 59 = .ok (.iload 5, 2) := by decide +kernel
theorem dX0_workBack_61 : decode cX0_workBack 61 = .ok (.iaload, 1) := by decide +kernel
theorem dX0_workBack_62 : decode cX0_workBack 62 = .ok (.aload_n 0, 1) := by decide +kernel
theorem dX0_workBack_63 : decode cX0_workBack 63 = .ok (.getfield 21, 3) := by decide +kernel
theorem dX0_workBack_66 : decode cX0_workBack 66 = .ok (.iload_n 2, 1) := by decide +kernel
theorem dX0_workBack_67 : decode cX0_workBack 67 = .ok (.iconst 1, 1) := by decide +kernel
theorem dX0_workBack_68 : decode cX0_workBack 68 = .ok (.iload 5, 2) := by decide +kernel
theorem dX0_workBack_70 : decode cX0_workBack 70 = .ok (.ishl, 1) := by decide +kernel
theorem dX0_workBack_71 : decode cX0_workBack 71 = .ok (.ior, 1) := by decide +kernel
theorem dX0_workBack_72 : decode cX0_workBack 72 = .ok (.iaload, 1) := by decide +kernel
theorem dX0_workBack_73 : decode cX0_workBack 73 = .ok (.iadd, 1) := by decide +kernel
theorem dX0_workBack_74 : decode cX0_workBack 74 = .ok (.istore 6, 2) := by decide +kernel
theorem dX0_workBack_76 : decode cX0_workBack 76 = .ok (.iload 6, 2) := by decide +kernel
theorem dX0_workBack_78 : decode cX0_workBack 78 = .ok (.iload_n 3, 1) := by decide +kernel
theorem dX0_workBack_79 : decode cX0_workBack 79 = .ok (.if_icmp .ge 10, 3) := by decide +kernel
theorem dX0_workBack_82 : decode cX0_workBack 82 = .ok (.iload 6, 2) := by decide +kernel
theorem dX0_workBack_84 : decode cX0_workBack 84 = .ok (.istore_n 3, 1) := by decide +kernel
theorem dX0_workBack_85 : decode cX0_workBack 85 = .ok (.iload 5, 2) := by decide +kernel
theorem dX0_workBack_87 : decode cX0_workBack 87 = .ok (.istore 4, 2) := by decide +kernel
theorem dX0_workBack_89 : decode cX0_workBack 89 = .ok (.iinc 5 1, 3) := by decide +kernel
theorem dX0_workBack_92 : decode cX0_workBack 92 = .ok (.goto (-69), 3) := by decide +kernel
theorem dX0_workBack_95 : decode cX0_workBack 95 = .ok (.aload_n 0, 1) := by decide +kernel
theorem dX0_workBack_96 : decode cX0_workBack 96 = .ok (.getfield 21, 3) := by decide +kernel
theorem dX0_workBack_99 : decode cX0_workBack 99 = .ok (.iload_n 2, 1) := by decide +kernel
theorem dX0_workBack_100 : decode cX0_workBack 100 = .ok (.iload_n 3, 1) := by decide +kernel
theorem dX0_workBack_101 : decode cX0_workBack 101 = .ok (.iastore, 1) := by decide +kernel
theorem dX0_workBack_102 : decode cX0_workBack 102 = .ok (.aload_n 0, 1) := by decide +kernel
theorem dX0_workBack_103 : decode cX0_workBack 103 = .ok (.getfield 24, 3) := by decide +kernel
theorem dX0_workBack_106 : decode cX0_workBack 106 = .ok (.iload_n 1, 1) := by decide +kernel
theorem dX0_workBack_107 : decode cX0_workBack 107 = .ok (.aload_n 0, 1) := by decide +kernel
theorem dX0_workBack_108 : decode cX0_workBack 108 = .ok (.getfield 74, 3) := by decide +kernel
theorem dX0_workBack_111 : decode cX0_workBack 111 = .ok (.imul, 1) := by decide +kernel
theorem dX0_workBack_112 : decode cX0_workBack 112 = .ok (.iload_n 2, 1) := by decide +kernel
theorem dX0_workBack_113 : decode cX0_workBack 113 = .ok (.iadd, 1) := by decide +kernel
theorem dX0_workBack_114 : decode cX0_workBack 114 = .ok (.iload 4, 2) := by decide +kernel
theorem dX0_workBack_116 : decode cX0_workBack 116 = .ok (.iastore, 1) := by decide +kernel
theorem dX0_workBack_117 : decode cX0_workBack 117 = .ok (.iinc 2 1, 3) := by decide +kernel
theorem dX0_workBack_120 : decode cX0_workBack 120 = .ok (.goto (-118), 3) := by decide +kernel
theorem dX0_workBack_123 : decode cX0_workBack 123 = .ok (.return_, 1) := by decide +kernel
theorem dX0_follow_0 : decode cX0_follow 0 = .ok (.iconst 0, 1) := by decide +kernel
theorem dX0_follow_1 : decode cX0_follow 1 = .ok (.istore_n 2, 1) := by decide +kernel
theorem dX0_follow_2 : decode cX0_follow 2 = .ok (.iload_n 1, 1) := by decide +kernel
theorem dX0_follow_3 : decode cX0_follow 3 = .ok (.istore_n 3, 1) := by decide +kernel
theorem dX0_follow_4 : decode cX0_follow 4 = .ok (.iload_n 3, 1) := by decide +kernel
theorem dX0_follow_5 : decode cX0_follow 5 = .ok (.bipush 20, 2) := by decide +kernel
theorem dX0_follow_7 : decode cX0_follow 7 = .ok (.if_icmp .ge 62, 3) := by decide +kernel
theorem dX0_follow_10 : decode cX0_follow 10 = .ok (.aload_n 0, 1) := by decide +kernel
theorem dX0_follow_11 : decode cX0_follow 11 = .ok (.getfield 24, 3) := by decide +kernel
theorem dX0_follow_14 : decode cX0_follow 14 = .ok (.iload_n 3, 1) := by decide +kernel
theorem dX0_follow_15 : decode cX0_follow 15 = .ok (.aload_n 0, 1) := by decide +kernel
theorem dX0_follow_16 : decode cX0_follow 16 = .ok (.getfield 74, 3) := by decide +kernel
theorem dX0_follow_19 : decode cX0_follow 19 = .ok (.imul, 1) := by decide +kernel
theorem dX0_follow_20 : decode cX0_follow 20 = .ok (.iload_n 2, 1) := by decide +kernel
theorem dX0_follow_21 : decode cX0_follow 21 = .ok (.iadd, 1) := by decide +kernel
theorem dX0_follow_22 : decode cX0_follow 22 = .ok (.iaload, 1) := by decide +kernel
theorem dX0_follow_23 : decode cX0_follow 23 = .ok (.istore 4, 2) := by decide +kernel
theorem dX0_follow_25 : decode cX0_follow 25 = .ok (.aload_n 0, 1) := by decide +kernel
theorem dX0_follow_26 : decode cX0_follow 26 = .ok (.getfield 9, 3) := by decide +kernel
theorem dX0_follow_29 : decode cX0_follow 29 = .ok (.iload_n 3, 1) := by decide +kernel
theorem dX0_follow_30 : decode cX0_follow 30 = .ok (.iload 4, 2) := by decide +kernel
theorem dX0_follow_32 : decode cX0_follow 32 = .ok (.ifCond .ge 7, 3) := by decide +kernel
theorem dX0_follow_35 : decode cX0_follow 35 = .ok (.iconst (-1), 1) := by decide +kernel
theorem dX0_follow_36 : decode cX0_follow 36 = .ok (.goto 10, 3) := by decide +kernel
theorem dX0_follow_39 : decode cX0_follow 39 = .ok (.aload_n 0, 1) := by decide +kernel
theorem dX0_follow_40 : decode cX0_follow 40 = .ok (.getfield 15, 3) := by decide +kernel
theorem dX0_follow_43 : decode cX0_follow 43 = .ok (.iload 4, 2) := by decide +kernel
theorem dX0_follow_45 : decode cX0_follow 45 = .ok (.iaload, 1) := by decide +kernel
theorem dX0_follow_46 : decode cX0_follow 46 = .ok (.iastore, 1) := by decide +kernel
theorem dX0_follow_47 : decode cX0_follow 47 = .ok (.iload 4, 2) := by decide +kernel
theorem dX0_follow_49 : decode cX0_follow 49 = .ok (.ifCond .ge 7, 3) := by decide +kernel
theorem dX0_follow_52 : decode cX0_follow 52 = .ok (.iload_n 2, 1) := by decide +kernel
theorem dX0_follow_53 : decode cX0_follow 53 = .ok (.goto 9, 3) := by decide +kernel
theorem dX0_follow_56 : decode cX0_follow 56 = .ok (.iload_n 2, 1) := by decide +kernel
theorem dX0_follow_57 : decode cX0_follow 57 = .ok (.iconst 1, 1) := by decide +kernel
theorem dX0_follow_58 : decode cX0_follow 58 = .ok (.iload 4, 2) := by decide +kernel
theorem dX0_follow_60 : decode cX0_follow 60 = .ok (.ishl, 1) := by decide +kernel
theorem dX0_follow_61 : decode cX0_follow 61 = .ok (.ior, 1) := by decide +kernel
theorem dX0_follow_62 : decode cX0_follow 62 = .ok (.istore_n 2, 1) := by decide +kernel
theorem dX0_follow_63 : decode cX0_follow 63 = .ok (.iinc 3 1, 3) := by decide +kernel
theorem dX0_follow_66 : decode cX0_follow 66 = .ok (.goto (-62), 3) := by decide +kernel
theorem dX0_follow_69 : decode cX0_follow 69 = .ok (.return_, 1) := by decide +kernel
theorem dX1_init_0 : decode cX1_init 0 = .ok (.aload_n 0, 1) := by decide +kernel
theorem dX1_init_1 : decode cX1_init 1 = .ok (.invokespecial 3, 3) := by decide +kernel
theorem dX1_init_4 : decode cX1_init 4 = .ok (.aload_n 0, 1) := by decide +kernel
theorem dX1_init_5 : decode cX1_init 5 = .ok (.bipush 30, 2) := by decide +kernel
theorem dX1_init_7 : decode cX1_init 7 = .ok (.newarray .long, 2) := by decide +kernel
theorem dX1_init_9 : decode cX1_init 9 = .ok (.putfield 11, 3) := by decide +kernel
theorem dX1_init_12 : decode cX1_init 12 = .ok (.aload_n 0, 1) := by decide +kernel
theorem dX1_init_13 : decode cX1_init 13 = .ok (.iconst 4, 1) := by decide +kernel
theorem dX1_init_14 : decode cX1_init 14 = .ok (.newarray .int, 2) := by decide +kernel
theorem dX1_init_16 : decode cX1_init 16 = .ok (.putfield 15, 3) := by decide +kernel
theorem dX1_init_19 : decode cX1_init 19 = .ok (.return_, 1) := by decide +kernel
theorem dX1_become_0 : decode cX1_become 0 = .ok (.aload_n 0, 1) := by decide +kernel
theorem dX1_become_1 : decode cX1_become 1 = .ok (.iload_n 1, 1) := by decide +kernel
theorem dX1_become_2 : decode cX1_become 2 = .ok (.putfield 19, 3) := by decide +kernel
theorem dX1_become_5 : decode cX1_become 5 = .ok (.aload_n 0, 1) := by decide +kernel
theorem dX1_become_6 : decode cX1_become 6 = .ok (.iload_n 2, 1) := by decide +kernel
theorem dX1_become_7 : decode cX1_become 7 = .ok (.putfield 23, 3) := by decide +kernel
theorem dX1_become_10 : decode cX1_become 10 = .ok (.aload_n 0, 1) := by decide +kernel
theorem dX1_become_11 : decode cX1_become 11 = .ok (.iload_n 3, 1) := by decide +kernel
theorem dX1_become_12 : decode cX1_become 12 = .ok (.putfield 26, 3) := by decide +kernel
theorem dX1_become_15 : decode cX1_become 15 = .ok (.aload_n 0, 1) := by decide +kernel
theorem dX1_become_16 : decode cX1_become 16 = .ok (.iconst 0, 1) := by decide +kernel
theorem dX1_become_17 : decode cX1_become 17 = .ok (.putfield 29, 3) := by decide +kernel
theorem dX1_become_20 : decode cX1_become 20 = .ok (.aload_n 0, 1) := by decide +kernel
theorem dX1_become_21 : decode cX1_become 21 = .ok (.iconst 0, 1) := by decide +kernel
theorem dX1_become_22 : decode cX1_become 22 = .ok (.putfield 32, 3) := by decide +kernel
theorem dX1_become_25 : decode cX1_become 25 = .ok (.aload_n 0, 1) := by decide +kernel
theorem dX1_become_26 : decode cX1_become 26 = .ok (.iconst 0, 1) := by decide +kernel
theorem dX1_become_27 : decode cX1_become 27 = .ok (.putfield 35, 3) := by decide +kernel
theorem dX1_become_30 : decode cX1_become 30 = .ok (.aload_n 0, 1) := by decide +kernel
theorem dX1_become_31 : decode cX1_become 31 = .ok (.iconst 4, 1) := by decide +kernel
theorem dX1_become_32 : decode cX1_become 32 = .ok (.putfield 38, 3) := by decide +kernel
theorem dX1_become_35 : decode cX1_become 35 = .ok (.return_, 1) := by decide +kernel
theorem dX1_take_0 : decode cX1_take 0 = .ok (.aload_n 0, 1) := by decide +kernel
theorem dX1_take_1 : decode cX1_take 1 = .ok (.aload_n 1, 1) := by decide +kernel
theorem dX1_take_2 : decode cX1_take 2 = .ok (.getfield 41, 3) := by decide +kernel
theorem dX1_take_5 : decode cX1_take 5 = .ok (.putfield 46, 3) := by decide +kernel
theorem dX1_take_8 : decode cX1_take 8 = .ok (.aload_n 0, 1) := by decide +kernel
theorem dX1_take_9 : decode cX1_take 9 = .ok (.iconst 1, 1) := by decide +kernel
theorem dX1_take_10 : decode cX1_take 10 = .ok (.bipush 30, 2) := by decide +kernel
theorem dX1_take_12 : decode cX1_take 12 = .ok (.aload_n 1, 1) := by decide +kernel
theorem dX1_take_13 : decode cX1_take 13 = .ok (.getfield 47, 3) := by decide +kernel
theorem dX1_take_16 : decode cX1_take 16 = .ok (.invokestatic 50, 3) := by decide +kernel
theorem dX1_take_19 : decode cX1_take 19 = .ok (.invokestatic 56, 3) := by decide +kernel
theorem dX1_take_22 : decode cX1_take 22 = .ok (.putfield 59, 3) := by decide +kernel
theorem dX1_take_25 : decode cX1_take 25 = .ok (.aload_n 0, 1) := by decide +kernel
theorem dX1_take_26 : decode cX1_take 26 = .ok (.aload_n 1, 1) := by decide +kernel
theorem dX1_take_27 : decode cX1_take 27 = .ok (.invokevirtual 62, 3) := by decide +kernel
theorem dX1_take_30 : decode cX1_take 30 = .ok (.putfield 66, 3) := by decide +kernel
theorem dX1_take_33 : decode cX1_take 33 = .ok (.iconst 0, 1) := by decide +kernel
theorem dX1_take_34 : decode cX1_take 34 = .ok (.istore_n 2, 1) := by decide +kernel
theorem dX1_take_35 : decode cX1_take 35 = .ok (.iload_n 2, 1) := by decide +kernel
theorem dX1_take_36 : decode cX1_take 36 = .ok (.aload_n 0, 1) := by decide +kernel
theorem dX1_take_37 : decode cX1_take 37 = .ok (.getfield 59, 3) := by decide +kernel
theorem dX1_take_40 : decode cX1_take 40 = .ok (.if_icmp .ge 71, 3) := by decide +kernel
theorem dX1_take_43 : decode cX1_take 43 = .ok (.aload_n 0, 1) := by decide +kernel
theorem dX1_take_44 : decode cX1_take 44 = .ok (.getfield 66, 3) := by decide +kernel
theorem dX1_take_47 : decode cX1_take 47 = .ok (.iload_n 2, 1) := by decide +kernel
theorem dX1_take_48 : decode cX1_take 48 = .ok (.lshr, 1) := by decide +kernel
theorem dX1_take_49 : decode cX1_take 49 = .ok (.aload_n 0, 1) := by decide +kernel
theorem dX1_take_50 : decode cX1_take 50 = .ok (.getfield 66, 3) := by decide +kernel
theorem dX1_take_53 : decode cX1_take 53 = .ok (.aload_n 0, 1) := by decide +kernel
theorem dX1_take_54 : decode cX1_take 54 = .ok (.getfield 59, 3) := by decide +kernel
theorem dX1_take_57 : decode cX1_take 57 = .ok (.iload_n 2, 1) := by decide +kernel
theorem dX1_take_58 : decode cX1_take 58 = .ok (.isub, 1) := by decide +kernel
theorem dX1_take_59 : decode cX1_take 59 = .ok (.lshl, 1) := by decide +kernel
theorem dX1_take_60 : decode cX1_take 60 = .ok (.lor, 1) := by decide +kernel
theorem dX1_take_61 : decode cX1_take 61 = .ok (.lstore_n 3, 1) := by decide +kernel
theorem dX1_take_62 : decode cX1_take 62 = .ok (.aload_n 0, 1) := by decide +kernel
theorem dX1_take_63 : decode cX1_take 63 = .ok (.getfield 59, 3) := by decide +kernel
theorem dX1_take_66 : decode cX1_take 66 = .ok (.istore 5, 2) := by decide +kernel
theorem dX1_take_68 : decode cX1_take 68 = .ok (.iload 5, 2) := by decide +kernel
theorem dX1_take_70 : decode cX1_take 70 = .ok (.bipush 64, 2) := by decide +kernel
theorem dX1_take_72 : decode cX1_take 72 = .ok (.if_icmp .ge 26, 3) := by decide +kernel
theorem dX1_take_75 : decode cX1_take 75 = .ok (.lload_n 3, 1) := by decide +kernel
theorem dX1_take_76 : decode cX1_take 76 = .ok (.lload_n 3, 1) := by decide +kernel
theorem dX1_take_77 : decode cX1_take 77 = .ok (.iload 5, 2) := by decide +kernel
theorem dX1_take_79 : decode cX1_take 79 = .ok (.aload_n 0, 1) := by decide +kernel
theorem dX1_take_80 : decode cX1_take 80 = .ok (.getfield 59, 3) := by decide +kernel
theorem dX1_take_83 : decode cX1_take 83 = .ok (.isub, 1) := by decide +kernel
theorem dX1_take_84 : decode cX1_take 84 = .ok (.lshr, 1) := by decide +kernel
theorem dX1_take_85 : decode cX1_take 85 = .ok (.lconst 1, 1) := by decide +kernel
theorem dX1_take_86 : decode cX1_take 86 = .ok (.land, 1) := by decide +kernel
theorem dX1_take_87 : decode cX1_take 87 = .ok (.iload 5, 2) := by decide +kernel
theorem dX1_take_89 : decode cX1_take 89 = .ok (.lshl, 1) := by decide +kernel
theorem dX1_take_90 : decode cX1_take 90 = .ok (.lor, 1) := by decide +kernel
theorem dX1_take_91 : decode cX1_take 91 = .ok (.lstore_n 3, 1) := by decide +kernel
theorem dX1_take_92 : decode cX1_take 92 = .ok (.iinc 5 1, 3) := by decide +kernel
theorem dX1_take_95 : decode cX1_take 95 = .ok (.goto (-27), 3) := by decide +kernel
theorem dX1_take_98 : decode cX1_take 98 = .ok (.aload_n 0, 1) := by decide +kernel
theorem dX1_take_99 : decode cX1_take 99 = .ok (.getfield 11, 3) := by decide +kernel
theorem dX1_take_102 : decode cX1_take 102 = .ok (.iload_n 2, 1) := by decide +kernel
theorem dX1_take_103 : decode cX1_take 103 = .ok (.lload_n 3, 1) := by decide +kernel
theorem dX1_take_104 : decode cX1_take 104 = .ok (.lastore, 1) := by decide +kernel
theorem dX1_take_105 : decode cX1_take 105 = .ok (.iinc 2 1, 3) := by decide +kernel
theorem dX1_take_108 : decode cX1_take 108 = .ok (.goto (-73), 3) := by decide +kernel
theorem dX1_take_111 : decode cX1_take 111 = .ok (.return_, 1) := by decide +kernel
theorem dX1_isLitAt_0 : decode cX1_isLitAt 0 = .ok (.aload_n 0, 1) := by decide +kernel
theorem dX1_isLitAt_1 : decode cX1_isLitAt 1 = .ok (.getfield 59, 3) := by decide +kernel
theorem dX1_isLitAt_4 : decode cX1_isLitAt 4 = .ok (.ifCond .le 25, 3) := by decide +kernel
theorem dX1_isLitAt_7 : decode cX1_isLitAt 7 = .ok (.aload_n 0, 1) := by decide +kernel
theorem dX1_isLitAt_8 : decode cX1_isLitAt 8 = .ok (.getfield 66, 3) := by decide +kernel
theorem dX1_isLitAt_11 : decode cX1_isLitAt 11 = .ok (.iload_n 1, 1) := by decide +kernel
theorem dX1_isLitAt_12 : decode cX1_isLitAt 12 = .ok (.aload_n 0, 1) := by decide +kernel
theorem dX1_isLitAt_13 : decode cX1_isLitAt 13 = .ok (.getfield 59, 3) := by decide +kernel
theorem dX1_isLitAt_16 : decode cX1_isLitAt 16 = .ok (.irem, 1) := by decide +kernel
theorem dX1_isLitAt_17 : decode cX1_isLitAt 17 = .ok (.lshr, 1) := by decide +kernel
theorem dX1_isLitAt_18 : decode cX1_isLitAt 18 = .ok (.lconst 1, 1) := by decide +kernel
theorem dX1_isLitAt_19 : decode cX1_isLitAt 19 = .ok (.land, 1) := by decide +kernel
theorem dX1_isLitAt_20 : decode cX1_isLitAt 20 = .ok (.lconst 1, 1) := by decide +kernel
theorem dX1_isLitAt_21 : decode cX1_isLitAt 21 = .ok (.lcmp, 1) := by decide +kernel
theorem dX1_isLitAt_22 : decode cX1_isLitAt 22 = .ok (.ifCond .ne 7, 3) := by decide +kernel
theorem dX1_isLitAt_25 : decode cX1_isLitAt 25 = .ok (.iconst 1, 1) := by decide +kernel
theorem dX1_isLitAt_26 : decode cX1_isLitAt 26 = .ok (.goto 4, 3) := by decide +kernel
theorem dX1_isLitAt_29 : decode cX1_isLitAt 29 = .ok (.iconst 0, 1) := by decide +kernel
theorem dX1_isLitAt_30 : decode cX1_isLitAt 30 = .ok (.ireturn, 1) := by decide +kernel
theorem dX1_hasRow_0 : decode cX1_hasRow 0 = .ok (.lconst 1, 1) := by decide +kernel
theorem dX1_hasRow_1 : decode cX1_hasRow 1 = .ok (.iload_n 3, 1) := by decide +kernel
theorem dX1_hasRow_2 : decode cX1_hasRow 2 = .ok (.lshl, 1) := by decide +kernel
theorem dX1_hasRow_3 : decode cX1_hasRow 3 = .ok (.lconst 1, 1) := by decide +kernel
theorem dX1_hasRow_4 : decode cX1_hasRow 4 = .ok (.lsub, 1) := by decide +kernel
theorem dX1_hasRow_5 : decode cX1_hasRow 5 = .ok (.lstore 4, 2) := by decide +kernel
theorem dX1_hasRow_7 : decode cX1_hasRow 7 = .ok (.iconst 0, 1) := by decide +kernel
theorem dX1_hasRow_8 : decode cX1_hasRow 8 = .ok (.istore 6, 2) := by decide +kernel
theorem dX1_hasRow_10 : decode cX1_hasRow 10 = .ok (.iload 6, 2) := by decide +kernel
theorem dX1_hasRow_12 : decode cX1_hasRow 12 = .ok (.aload_n 0, 1) := by decide +kernel
theorem dX1_hasRow_13 : decode cX1_hasRow 13 = .ok (.getfield 59, 3) := by decide +kernel
theorem dX1_hasRow_16 : decode cX1_hasRow 16 = .ok (.if_icmp .ge 26, 3) := by decide +kernel
theorem dX1_hasRow_19 : decode cX1_hasRow 19 = .ok (.aload_n 0, 1) := by decide +kernel
theorem dX1_hasRow_20 : decode cX1_hasRow 20 = .ok (.getfield 11, 3) := by decide +kernel
theorem dX1_hasRow_23 : decode cX1_hasRow 23 = .ok (.iload 6, 2) := by decide +kernel
theorem dX1_hasRow_25 : decode cX1_hasRow 25 = .ok (.laload, 1) := by decide +kernel
theorem dX1_hasRow_26 : decode cX1_hasRow 26 = .ok (.lload 4, 2) := by decide +kernel
theorem dX1_hasRow_28 : decode cX1_hasRow 28 = .ok (.land, 1) := by decide +kernel
theorem dX1_hasRow_29 : decode cX1_hasRow 29 = .ok (.lload_n 1, 1) := by decide +kernel
theorem dX1_hasRow_30 : decode cX1_hasRow 30 = .ok (.lcmp, 1) := by decide +kernel
theorem dX1_hasRow_31 : decode cX1_hasRow 31 = .ok (.ifCond .ne 5, 3) := by decide +kernel
theorem dX1_hasRow_34 : decode cX1_hasRow 34 = .ok (.iconst 1, 1) := by decide +kernel
theorem dX1_hasRow_35 : decode cX1_hasRow 35 = .ok (.ireturn, 1) := by decide +kernel
theorem dX1_hasRow_36 : decode cX1_hasRow 36 = .ok (.iinc 6 1, 3) := by decide +kernel
theorem dX1_hasRow_39 : decode cX1_hasRow 39 = .ok (.goto (-29), 3) := by decide +kernel
theorem dX1_hasRow_42 : decode cX1_hasRow 42 = .ok (.iconst 0, 1) := by decide +kernel
theorem dX1_hasRow_43 : decode cX1_hasRow 43 = .ok (.ireturn, 1) := by decide +kernel
theorem dX1_colourTowards_0 : decode cX1_colourTowards 0 = .ok (.aload_n 0, 1) := by decide +kernel
theorem dX1_colourTowards_1 : decode cX1_colourTowards 1 = .ok (.getfield 29, 3) := by decide +kernel
theorem dX1_colourTowards_4 : decode cX1_colourTowards 4 = .ok (.iconst 1, 1) := by decide +kernel
theorem dX1_colourTowards_5 : decode cX1_colourTowards 5 = .ok (.isub, 1) := by decide +kernel
theorem dX1_colourTowards_6 : decode cX1_colourTowards 6 = .ok (.istore_n 2, 1) := by decide +kernel
theorem dX1_colourTowards_7 : decode cX1_colourTowards 7 = .ok (.iload_n 2, 1) := by decide +kernel
theorem dX1_colourTowards_8 : decode cX1_colourTowards 8 = .ok (.ifCond .lt 33, 3) := by decide +kernel
theorem dX1_colourTowards_11 : decode cX1_colourTowards 11 = .ok (.aload_n 0, 1) := by decide +kernel
theorem dX1_colourTowards_12 : decode cX1_colourTowards 12 = .ok (.getfield 15, 3) := by decide +kernel
theorem dX1_colourTowards_15 : decode cX1_colourTowards 15 = .ok (.iload_n 2, 1) := by decide +kernel
theorem dX1_colourTowards_16 : decode cX1_colourTowards 16 = .ok (.iaload, 1) := by decide +kernel
theorem dX1_colourTowards_17 : decode cX1_colourTowards 17 = .ok (.iload_n 1, 1) := by decide +kernel
theorem dX1_colourTowards_18 : decode cX1_colourTowards 18 = .ok (.ishr, 1) := by decide +kernel
theorem dX1_colourTowards_19 : decode cX1_colourTowards 19 = .ok (.iconst 1, 1) := by decide +kernel
theorem dX1_colourTowards_20 : decode cX1_colourTowards 20 = .ok (.iand, 1) := by decide +kernel
theorem dX1_colourTowards_21 : decode cX1_colourTowards 21 = .ok (.iconst 1, 1) := by decide +kernel
theorem dX1_colourTowards_22 : decode cX1_colourTowards 22 = .ok (.if_icmp .ne 13, 3) := by decide +kernel
theorem dX1_colourTowards_25 : decode cX1_colourTowards 25 = .ok (.aload_n 0, 1) := by decide +kernel
theorem dX1_colourTowards_26 : decode cX1_colourTowards 26 = .ok (.getfield 15, 3) := by decide +kernel
theorem dX1_colourTowards_29 : decode cX1_colourTowards 29 = .ok (.iload_n 2, 1) := by decide +kernel
theorem dX1_colourTowards_30 : decode cX1_colourTowards 30 = .ok (.iaload, 1) := by decide +kernel
theorem dX1_colourTowards_31 : decode cX1_colourTowards 31 = .ok (.bipush 16, 2) := by decide +kernel
theorem dX1_colourTowards_33 : decode cX1_colourTowards 33 = .ok (.ishr, 1) := by decide +kernel
theorem dX1_colourTowards_34 : decode cX1_colourTowards 34 = .ok (.ireturn, 1) := by decide +kernel
theorem dX1_colourTowards_35 : decode cX1_colourTowards 35 = .ok (.iinc 2 (-1), 3) := by decide +kernel
theorem dX1_colourTowards_38 : decode cX1_colourTowards 38 = .ok (.goto (-31), 3) := by decide +kernel
theorem dX1_colourTowards_41 : decode cX1_colourTowards 41 = .ok (.aload_n 0, 1) := by decide +kernel
theorem dX1_colourTowards_42 : decode cX1_colourTowards 42 = .ok (.getfield 19, 3) := by decide +kernel
theorem dX1_colourTowards_45 : decode cX1_colourTowards 45 = .ok (.iconst 3, 1) := by decide +kernel
theorem dX1_colourTowards_46 : decode cX1_colourTowards 46 = .ok (.if_icmp .ne 7, 3) := by decide +kernel
theorem dX1_colourTowards_49 : decode cX1_colourTowards 49 = .ok (.iconst 3, 1) := by decide +kernel
theorem dX1_colourTowards_50 : decode cX1_colourTowards 50 = .ok (.goto 7, 3) := by decide +kernel
theorem dX1_colourTowards_53 : decode cX1_colourTowards 53 = .ok (.aload_n 0, 1) := by decide +kernel
theorem dX1_colourTowards_54 : decode cX1_colourTowards 54 = .ok (.getfield 46, 3) := by decide +kernel
theorem dX1_colourTowards_57 : decode cX1_colourTowards 57 = .ok (.ireturn, 1) := by decide +kernel
theorem dX1_isRock_0 : decode cX1_isRock 0 = .ok (.aload_n 0, 1) := by decide +kernel
theorem dX1_isRock_1 : decode cX1_isRock 1 = .ok (.getfield 19, 3) := by decide +kernel
theorem dX1_isRock_4 : decode cX1_isRock 4 = .ok (.iconst 1, 1) := by decide +kernel
theorem dX1_isRock_5 : decode cX1_isRock 5 = .ok (.if_icmp .eq 11, 3) := by decide +kernel
theorem dX1_isRock_8 : decode cX1_isRock 8 = .ok (.aload_n 0, 1) := by decide +kernel
theorem dX1_isRock_9 : decode cX1_isRock 9 = .ok (.getfield 19, 3) := by decide +kernel
theorem dX1_isRock_12 : decode cX1_isRock 12 = .ok (.iconst 3, 1) := by decide +kernel
theorem dX1_isRock_13 : decode cX1_isRock 13 = .ok (.if_icmp .ne 7, 3) := by decide +kernel
theorem dX1_isRock_16 : decode cX1_isRock 16 = .ok (.iconst 1, 1) := by decide +kernel
theorem dX1_isRock_17 : decode cX1_isRock 17 = .ok (.goto 4, 3) := by decide +kernel
theorem dX1_isRock_20 : decode cX1_isRock 20 = .ok (.iconst 0, 1) := by decide +kernel
theorem dX1_isRock_21 : decode cX1_isRock 21 = .ok (.ireturn, 1) := by decide +kernel
theorem dX1_landsIn_0 : decode cX1_landsIn 0 = .ok (.iload_n 1, 1) := by decide +kernel
theorem dX1_landsIn_1 : decode cX1_landsIn 1 = .ok (.aload_n 0, 1) := by decide +kernel
theorem dX1_landsIn_2 : decode cX1_landsIn 2 = .ok (.getfield 38, 3) := by decide +kernel
theorem dX1_landsIn_5 : decode cX1_landsIn 5 = .ok (.if_icmp .gt 7, 3) := by decide +kernel
theorem dX1_landsIn_8 : decode cX1_landsIn 8 = .ok (.iconst 1, 1) := by decide +kernel
theorem dX1_landsIn_9 : decode cX1_landsIn 9 = .ok (.goto 4, 3) := by decide +kernel
theorem dX1_landsIn_12 : decode cX1_landsIn 12 = .ok (.iconst 0, 1) := by decide +kernel
theorem dX1_landsIn_13 : decode cX1_landsIn 13 = .ok (.ireturn, 1) := by decide +kernel
theorem dX1_overdueOn_0 : decode cX1_overdueOn 0 = .ok (.iconst 0, 1) := by decide +kernel
theorem dX1_overdueOn_1 : decode cX1_overdueOn 1 = .ok (.iload_n 1, 1) := by decide +kernel
theorem dX1_overdueOn_2 : decode cX1_overdueOn 2 = .ok (.aload_n 0, 1) := by decide +kernel
theorem dX1_overdueOn_3 : decode cX1_overdueOn 3 = .ok (.getfield 35, 3) := by decide +kernel
theorem dX1_overdueOn_6 : decode cX1_overdueOn 6 = .ok (.isub, 1) := by decide +kernel
theorem dX1_overdueOn_7 : decode cX1_overdueOn 7 = .ok (.bipush 10, 2) := by decide +kernel
theorem dX1_overdueOn_9 : decode cX1_overdueOn 9 = .ok (.isub, 1) := by decide +kernel
theorem dX1_overdueOn_10 : decode cX1_overdueOn 10 = .ok (.invokestatic 56, 3) := by decide +kernel
theorem dX1_overdueOn_13 : decode cX1_overdueOn 13 = .ok (.ireturn, 1) := by decide +kernel
theorem dX2_init_0 : decode cX2_init 0 = .ok (.aload_n 0, 1) := by decide +kernel
theorem dX2_init_1 : decode cX2_init 1 = .ok (.invokespecial 1, 3) := by decide +kernel
theorem dX2_init_4 : decode cX2_init 4 = .ok (.aload_n 0, 1) := by decide +kernel
theorem dX2_init_5 : decode cX2_init 5 = .ok (.bipush 16, 2) := by decide +kernel
theorem dX2_init_7 : decode cX2_init 7 = .ok (.anewarray 9, 3) := by decide +kernel
theorem dX2_init_10 : decode cX2_init 10 = .ok (.putfield 11, 3) := by decide +kernel
theorem dX2_init_13 : decode cX2_init 13 = .ok (.iconst 0, 1) := by decide +kernel
theorem dX2_init_14 : decode cX2_init 14 = .ok (.istore_n 1, 1) := by decide +kernel
theorem dX2_init_15 : decode cX2_init 15 = .ok (.iload_n 1, 1) := by decide +kernel
theorem dX2_init_16 : decode cX2_init 16 = .ok (.bipush 16, 2) := by decide +kernel
theorem dX2_init_18 : decode cX2_init 18 = .ok (.if_icmp .ge 22, 3) := by decide +kernel
theorem dX2_init_21 : decode cX2_init 21 = .ok (.aload_n 0, 1) := by decide +kernel
theorem dX2_init_22 : decode cX2_init 22 = .ok (.getfield 11, 3) := by decide +kernel
theorem dX2_init_25 : decode cX2_init 25 = .ok (.iload_n 1, 1) := by decide +kernel
theorem dX2_init_26 : decode cX2_init 26 = .ok (.new 9, 3) := by decide +kernel
theorem dX2_init_29 : decode cX2_init 29 = .ok (.dup, 1) := by decide +kernel
theorem dX2_init_30 : decode cX2_init 30 = .ok (.invokespecial 15, 3) := by decide +kernel
theorem dX2_init_33 : decode cX2_init 33 = .ok (.aastore, 1) := by decide +kernel
theorem dX2_init_34 : decode cX2_init 34 = .ok (.iinc 1 1, 3) := by decide +kernel
theorem dX2_init_37 : decode cX2_init 37 = .ok (.goto (-22), 3) := by decide +kernel
theorem dX2_init_40 : decode cX2_init 40 = .ok (.return_, 1) := by decide +kernel
theorem dX2_next_0 : decode cX2_next 0 = .ok (.aload_n 0, 1) := by decide +kernel
theorem dX2_next_1 : decode cX2_next 1 = .ok (.getfield 11, 3) := by decide +kernel
theorem dX2_next_4 : decode cX2_next 4 = .ok (.aload_n 0, 1) := by decide +kernel
theorem dX2_next_5 : decode cX2_next 5 = .ok (.getfield 16, 3) := by decide +kernel
theorem dX2_next_8 : decode cX2_next 8 = .ok (.aaload, 1) := by decide +kernel
theorem dX2_next_9 : decode cX2_next 9 = .ok (.astore_n 1, 1) := by decide +kernel
theorem dX2_next_10 : decode cX2_next 10 = .ok (.aload_n 0, 1) := by decide +kernel
theorem dX2_next_11 : decode cX2_next 11 = .ok (.aload_n 0, 1) := by decide +kernel
theorem dX2_next_12 : decode cX2_next 12 = .ok (.getfield 16, 3) := by decide +kernel
theorem dX2_next_15 : decode cX2_next 15 = .ok (.iconst 1, 1) := by decide +kernel
theorem dX2_next_16 : decode cX2_next 16 = .ok (.iadd, 1) := by decide +kernel
theorem dX2_next_17 : decode cX2_next 17 = .ok (.bipush 16, 2) := by decide +kernel
theorem dX2_next_19 : decode cX2_next 19 = .ok (.irem, 1) := by decide +kernel
theorem dX2_next_20 : decode cX2_next 20 = .ok (.putfield 16, 3) := by decide +kernel
theorem dX2_next_23 : decode cX2_next 23 = .ok (.aload_n 0, 1) := by decide +kernel
theorem dX2_next_24 : decode cX2_next 24 = .ok (.bipush 16, 2) := by decide +kernel
theorem dX2_next_26 : decode cX2_next 26 = .ok (.aload_n 0, 1) := by decide +kernel
theorem dX2_next_27 : decode cX2_next 27 = .ok (.getfield 20, 3) := by decide +kernel
theorem dX2_next_30 : decode cX2_next 30 = .ok (.iconst 1, 1) := by decide +kernel
theorem dX2_next_31 : decode cX2_next 31 = .ok (.iadd, 1) := by decide +kernel
theorem dX2_next_32 : decode cX2_next 32 = .ok (.invokestatic 23, 3) := by decide +kernel
theorem dX2_next_35 : decode cX2_next 35 = .ok (.putfield 20, 3) := by decide +kernel
theorem dX2_next_38 : decode cX2_next 38 = .ok (.aload_n 1, 1) := by decide +kernel
theorem dX2_next_39 : decode cX2_next 39 = .ok (.areturn, 1) := by decide +kernel
theorem dX2_takeLatest_0 : decode cX2_takeLatest 0 = .ok (.aload_n 0, 1) := by decide +kernel
theorem dX2_takeLatest_1 : decode cX2_takeLatest 1 = .ok (.getfield 20, 3) := by decide +kernel
theorem dX2_takeLatest_4 : decode cX2_takeLatest 4 = .ok (.ifCond .ne 5, 3) := by decide +kernel
theorem dX2_takeLatest_7 : decode cX2_takeLatest 7 = .ok (.aconst_null, 1) := by decide +kernel
theorem dX2_takeLatest_8 : decode cX2_takeLatest 8 = .ok (.areturn, 1) := by decide +kernel
theorem dX2_takeLatest_9 : decode cX2_takeLatest 9 = .ok (.aload_n 0, 1) := by decide +kernel
theorem dX2_takeLatest_10 : decode cX2_takeLatest 10 = .ok (.dup, 1) := by decide +kernel
theorem dX2_takeLatest_11 : decode cX2_takeLatest 11 = .ok (.getfield 20, 3) := by decide +kernel
theorem dX2_takeLatest_14 : decode cX2_takeLatest 14 = .ok (.iconst 1, 1) := by decide +kernel
theorem dX2_takeLatest_15 : decode cX2_takeLatest 15 = .ok (.isub, 1) := by decide +kernel
theorem dX2_takeLatest_16 : decode cX2_takeLatest 16 = .ok (.putfield 20, 3) := by decide +kernel
theorem dX2_takeLatest_19 : decode cX2_takeLatest 19 = .ok (.aload_n 0, 1) := by decide +kernel
theorem dX2_takeLatest_20 : decode cX2_takeLatest 20 = .ok (.aload_n 0, 1) := by decide +kernel
theorem dX2_takeLatest_21 : decode cX2_takeLatest 21 = .ok (.getfield 16, 3) := by decide +kernel
theorem dX2_takeLatest_24 : decode cX2_takeLatest 24 = .ok (.bipush 16, 2) := by decide +kernel
theorem dX2_takeLatest_26 : decode cX2_takeLatest 26 = .ok (.iadd, 1) := by decide +kernel
theorem dX2_takeLatest_27 : decode cX2_takeLatest 27 = .ok (.iconst 1, 1) := by decide +kernel
theorem dX2_takeLatest_28 : decode cX2_takeLatest 28 = .ok (.isub, 1) := by decide +kernel
theorem dX2_takeLatest_29 : decode cX2_takeLatest 29 = .ok (.bipush 16, 2) := by decide +kernel
theorem dX2_takeLatest_31 : decode cX2_takeLatest 31 = .ok (.irem, 1) := by decide +kernel
theorem dX2_takeLatest_32 : decode cX2_takeLatest 32 = .ok (.putfield 16, 3) := by decide +kernel
theorem dX2_takeLatest_35 : decode cX2_takeLatest 35 = .ok (.aload_n 0, 1) := by decide +kernel
theorem dX2_takeLatest_36 : decode cX2_takeLatest 36 = .ok (.getfield 11, 3) := by decide +kernel
theorem dX2_takeLatest_39 : decode cX2_takeLatest 39 = .ok (.aload_n 0, 1) := by decide +kernel
theorem dX2_takeLatest_40 : decode cX2_takeLatest 40 = .ok (.getfield 16, 3) := by decide +kernel
theorem dX2_takeLatest_43 : decode cX2_takeLatest 43 = .ok (.aaload, 1) := by decide +kernel
theorem dX2_takeLatest_44 : decode cX2_takeLatest 44 = .ok (.areturn, 1) := by decide +kernel
theorem dX3_init_0 : decode cX3_init 0 = .ok (.aload_n 0, 1) := by decide +kernel
theorem dX3_init_1 : decode cX3_init 1 = .ok (.invokespecial 1, 3) := by decide +kernel
theorem dX3_init_4 : decode cX3_init 4 = .ok (.aload_n 0, 1) := by decide +kernel
theorem dX3_init_5 : decode cX3_init 5 = .ok (.bipush 30, 2) := by decide +kernel
theorem dX3_init_7 : decode cX3_init 7 = .ok (.newarray .int, 2) := by decide +kernel
theorem dX3_init_9 : decode cX3_init 9 = .ok (.putfield 9, 3) := by decide +kernel
theorem dX3_init_12 : decode cX3_init 12 = .ok (.return_, 1) := by decide +kernel
theorem dX3_renew_0 : decode cX3_renew 0 = .ok (.aload_n 0, 1) := by decide +kernel
theorem dX3_renew_1 : decode cX3_renew 1 = .ok (.iload_n 1, 1) := by decide +kernel
theorem dX3_renew_2 : decode cX3_renew 2 = .ok (.putfield 13, 3) := by decide +kernel
theorem dX3_renew_5 : decode cX3_renew 5 = .ok (.aload_n 0, 1) := by decide +kernel
theorem dX3_renew_6 : decode cX3_renew 6 = .ok (.iload_n 2, 1) := by decide +kernel
theorem dX3_renew_7 : decode cX3_renew 7 = .ok (.putfield 17, 3) := by decide +kernel
theorem dX3_renew_10 : decode cX3_renew 10 = .ok (.iconst 0, 1) := by decide +kernel
theorem dX3_renew_11 : decode cX3_renew 11 = .ok (.istore_n 3, 1) := by decide +kernel
theorem dX3_renew_12 : decode cX3_renew 12 = .ok (.iload_n 3, 1) := by decide +kernel
theorem dX3_renew_13 : decode cX3_renew 13 = .ok (.bipush 30, 2) := by decide +kernel
theorem dX3_renew_15 : decode cX3_renew 15 = .ok (.if_icmp .ge 16, 3) := by decide +kernel
theorem dX3_renew_18 : decode cX3_renew 18 = .ok (.aload_n 0, 1) := by decide +kernel
theorem dX3_renew_19 : decode cX3_renew 19 = .ok (.getfield 9, 3) := by decide +kernel
theorem dX3_renew_22 : decode cX3_renew 22 = .ok (.iload_n 3, 1) := by decide +kernel
theorem dX3_renew_23 : decode cX3_renew 23 = .ok (.iconst 0, 1) := by decide +kernel
theorem dX3_renew_24 : decode cX3_renew 24 = .ok (.iastore, 1) := by decide +kernel
theorem dX3_renew_25 : decode cX3_renew 25 = .ok (.iinc 3 1, 3) := by decide +kernel
theorem dX3_renew_28 : decode cX3_renew 28 = .ok (.goto (-16), 3) := by decide +kernel
theorem dX3_renew_31 : decode cX3_renew 31 = .ok (.return_, 1) := by decide +kernel
theorem dX3_lowest_0 : decode cX3_lowest 0 = .ok (.aload_n 0, 1) := by decide +kernel
theorem dX3_lowest_1 : decode cX3_lowest 1 = .ok (.getfield 13, 3) := by decide +kernel
theorem dX3_lowest_4 : decode cX3_lowest 4 = .ok (.bipush 8, 2) := by decide +kernel
theorem dX3_lowest_6 : decode cX3_lowest 6 = .ok (.if_icmp .ne 6, 3) := by decide +kernel
theorem dX3_lowest_9 : decode cX3_lowest 9 = .ok (.iload_n 1, 1) := by decide +kernel
theorem dX3_lowest_10 : decode cX3_lowest 10 = .ok (.i2b, 1) := by decide +kernel
theorem dX3_lowest_11 : decode cX3_lowest 11 = .ok (.ireturn, 1) := by decide +kernel
theorem dX3_lowest_12 : decode cX3_lowest 12 = .ok (.aload_n 0, 1) := by decide +kernel
theorem dX3_lowest_13 : decode cX3_lowest 13 = .ok (.getfield 13, 3) := by decide +kernel
theorem dX3_lowest_16 : decode cX3_lowest 16 = .ok (.bipush 16, 2) := by decide +kernel
theorem dX3_lowest_18 : decode cX3_lowest 18 = .ok (.if_icmp .ne 8, 3) := by decide +kernel
theorem dX3_lowest_21 : decode cX3_lowest 21 = .ok (.iload_n 1, 1) := by decide +kernel
theorem dX3_lowest_22 : decode cX3_lowest 22 = .ok (.i2s, 1) := by decide +kernel
theorem dX3_lowest_23 : decode cX3_lowest 23 = .ok (.goto 4, 3) := by decide +kernel
theorem dX3_lowest_26 : decode cX3_lowest 26 = .ok (.iload_n 1, 1) := by decide +kernel
theorem dX3_lowest_27 : decode cX3_lowest 27 = .ok (.ireturn, 1) := by decide +kernel
theorem dX3_hasNumbers_0 : decode cX3_hasNumbers 0 = .ok (.iload_n 1, 1) := by decide +kernel
theorem dX3_hasNumbers_1 : decode cX3_hasNumbers 1 = .ok (.ifCond .lt 29, 3) := by decide +kernel
theorem dX3_hasNumbers_4 : decode cX3_hasNumbers 4 = .ok (.iload_n 2, 1) := by decide +kernel
theorem dX3_hasNumbers_5 : decode cX3_hasNumbers 5 = .ok (.ifCond .lt 25, 3) := by decide +kernel
theorem dX3_hasNumbers_8 : decode cX3_hasNumbers 8 = .ok (.iload_n 1, 1) := by decide +kernel
theorem dX3_hasNumbers_9 : decode cX3_hasNumbers 9 = .ok (.aload_n 0, 1) := by decide +kernel
theorem dX3_hasNumbers_10 : decode cX3_hasNumbers 10 = .ok (.getfield 17, 3) := by decide +kernel
theorem dX3_hasNumbers_13 : decode cX3_hasNumbers 13 = .ok (.if_icmp .gt 17, 3) := by decide +kernel
theorem dX3_hasNumbers_16 : decode cX3_hasNumbers 16 = .ok (.iload_n 2, 1) := by decide +kernel
theorem dX3_hasNumbers_17 : decode cX3_hasNumbers 17 = .ok (.aload_n 0, 1) := by decide +kernel
theorem dX3_hasNumbers_18 : decode cX3_hasNumbers 18 = .ok (.getfield 17, 3) := by decide +kernel
theorem dX3_hasNumbers_21 : decode cX3_hasNumbers 21 = .ok (.iload_n 1, 1) := by decide +kernel
theorem dX3_hasNumbers_22 : decode cX3_hasNumbers 22 = .ok (.isub, 1) := by decide +kernel
theorem dX3_hasNumbers_23 : decode cX3_hasNumbers 23 = .ok (.if_icmp .gt 7, 3) := by decide +kernel
theorem dX3_hasNumbers_26 : decode cX3_hasNumbers 26 = .ok (.iconst 1, 1) := by decide +kernel
theorem dX3_hasNumbers_27 : decode cX3_hasNumbers 27 = .ok (.goto 4, 3) := by decide +kernel
theorem dX3_hasNumbers_30 : decode cX3_hasNumbers 30 = .ok (.iconst 0, 1) := by decide +kernel
theorem dX3_hasNumbers_31 : decode cX3_hasNumbers 31 = .ok (.ireturn, 1) := by decide +kernel
theorem dX3_asSeconds_0 : decode cX3_asSeconds 0 = .ok (.lconst 0, 1) := by decide +kernel
theorem dX3_asSeconds_1 : decode cX3_asSeconds 1 = .ok (.lstore_n 1, 1) := by decide +kernel
theorem dX3_asSeconds_2 : decode cX3_asSeconds 2 = .ok (.iconst 0, 1) := by decide +kernel
theorem dX3_asSeconds_3 : decode cX3_asSeconds 3 = .ok (.istore_n 3, 1) := by decide +kernel
theorem dX3_asSeconds_4 : decode cX3_asSeconds 4 = .ok (.iload_n 3, 1) := by decide +kernel
theorem dX3_asSeconds_5 : decode cX3_asSeconds 5 = .ok (.aload_n 0, 1) := by decide +kernel
theorem dX3_asSeconds_6 : decode cX3_asSeconds 6 = .ok (.getfield 17, 3) := by decide +kernel
theorem dX3_asSeconds_9 : decode cX3_asSeconds 9 = .ok (.if_icmp .ge 24, 3) := by decide +kernel
theorem dX3_asSeconds_12 : decode cX3_asSeconds 12 = .ok (.aload_n 0, 1) := by decide +kernel
theorem dX3_asSeconds_13 : decode cX3_asSeconds 13 = .ok (.getfield 9, 3) := by decide +kernel
theorem dX3_asSeconds_16 : decode cX3_asSeconds 16 = .ok (.iload_n 3, 1) := by decide +kernel
theorem dX3_asSeconds_17 : decode cX3_asSeconds 17 = .ok (.iaload, 1) := by decide +kernel
theorem dX3_asSeconds_18 : decode cX3_asSeconds 18 = .ok (.ifCond .eq 9, 3) := by decide +kernel
theorem dX3_asSeconds_21 : decode cX3_asSeconds 21 = .ok (.lload_n 1, 1) := by decide +kernel
theorem dX3_asSeconds_22 : decode cX3_asSeconds 22 = .ok (.lconst 1, 1) := by decide +kernel
theorem dX3_asSeconds_23 : decode cX3_asSeconds 23 = .ok (.iload_n 3, 1) := by decide +kernel
theorem dX3_asSeconds_24 : decode cX3_asSeconds 24 = .ok (.lshl, 1) := by decide +kernel
theorem dX3_asSeconds_25 : decode cX3_asSeconds 25 = .ok (.lor, 1) := by decide +kernel
theorem dX3_asSeconds_26 : decode cX3_asSeconds 26 = .ok (.lstore_n 1, 1) := by decide +kernel
theorem dX3_asSeconds_27 : decode cX3_asSeconds 27 = .ok (.iinc 3 1, 3) := by decide +kernel
theorem dX3_asSeconds_30 : decode cX3_asSeconds 30 = .ok (.goto (-26), 3) := by decide +kernel
theorem dX3_asSeconds_33 : decode cX3_asSeconds 33 = .ok (.lload_n 1, 1) := by decide +kernel
theorem dX3_asSeconds_34 : decode cX3_asSeconds 34 = .ok (.lreturn, 1) := by decide +kernel
theorem dX4_init_0 : decode cX4_init 0 = .ok (.aload_n 0, 1) := by decide +kernel
theorem dX4_init_1 : decode cX4_init 1 = .ok (.invokespecial 3, 3) := by decide +kernel
theorem dX4_init_4 : decode cX4_init 4 = .ok (.aload_n 0, 1) := by decide +kernel
theorem dX4_init_5 : decode cX4_init 5 = .ok (.bipush 20, 2) := by decide +kernel
theorem dX4_init_7 : decode cX4_init 7 = .ok (.newarray .int, 2) := by decide +kernel
theorem dX4_init_9 : decode cX4_init 9 = .ok (.putfield 9, 3) := by decide +kernel
theorem dX4_init_12 : decode cX4_init 12 = .ok (.return_, 1) := by decide +kernel
theorem dX5_init_0 : decode cX5_init 0 = .ok (.aload_n 0, 1) := by decide +kernel
theorem dX5_init_1 : decode cX5_init 1 = .ok (.invokespecial 1, 3) := by decide +kernel
theorem dX5_init_4 : decode cX5_init 4 = .ok (.aload_n 0, 1) := by decide +kernel
theorem dX5_init_5 : decode cX5_init 5 = .ok (.bipush 40, 2) := by decide +kernel
theorem dX5_init_7 : decode cX5_init 7 = .ok (.newarray .int, 2) := by decide +kernel
theorem dX5_init_9 : decode cX5_init 9 = .ok (.putfield 9, 3) := by decide +kernel
theorem dX5_init_12 : decode cX5_init 12 = .ok (.return_, 1) := by decide +kernel
theorem dX5_append_0 : decode cX5_append 0 = .ok (.iconst 0, 1) := by decide +kernel
theorem dX5_append_1 : decode cX5_append 1 = .ok (.istore 4, 2) := by decide +kernel
theorem dX5_append_3 : decode cX5_append 3 = .ok (.iload 4, 2) := by decide +kernel
theorem dX5_append_5 : decode cX5_append 5 = .ok (.iload_n 1, 1) := by decide +kernel
theorem dX5_append_6 : decode cX5_append 6 = .ok (.if_icmp .ge 49, 3) := by decide +kernel
theorem dX5_append_9 : decode cX5_append 9 = .ok (.aload_n 0, 1) := by decide +kernel
theorem dX5_append_10 : decode cX5_append 10 = .ok (.getfield 13, 3) := by decide +kernel
theorem dX5_append_13 : decode cX5_append 13 = .ok (.bipush 40, 2) := by decide +kernel
theorem dX5_append_15 : decode cX5_append 15 = .ok (.if_icmp .ge 40, 3) := by decide +kernel
theorem dX5_append_18 : decode cX5_append 18 = .ok (.aload_n 0, 1) := by decide +kernel
theorem dX5_append_19 : decode cX5_append 19 = .ok (.getfield 9, 3) := by decide +kernel
theorem dX5_append_22 : decode cX5_append 22 = .ok (.aload_n 0, 1) := by decide +kernel
theorem dX5_append_23 : decode cX5_append 23 = .ok (.getfield 13, 3) := by decide +kernel
theorem dX5_append_26 : decode cX5_append 26 = .ok (.lload_n 2, 1) := by decide +kernel
theorem dX5_append_27 : decode cX5_append 27 = .ok (.bipush 8, 2) := by decide +kernel
theorem dX5_append_29 : decode cX5_append 29 = .ok (.iload 4, 2) := by decide +kernel
theorem dX5_append_31 : decode cX5_append 31 = .ok (.imul, 1) := by decide +kernel
theorem dX5_append_32 : decode cX5_append 32 = .ok (.lshr, 1) := by decide +kernel
theorem dX5_append_33 : decode cX5_append 33 = .ok (.ldc2_w 17, 3) := by decide +kernel
theorem dX5_append_36 : decode cX5_append 36 = .ok (.land, 1) := by decide +kernel
theorem dX5_append_37 : decode cX5_append 37 = .ok (.l2i, 1) := by decide +kernel
theorem dX5_append_38 : decode cX5_append 38 = .ok (.iastore, 1) := by decide +kernel
theorem dX5_append_39 : decode cX5_append 39 = .ok (.aload_n 0, 1) := by decide +kernel
theorem dX5_append_40 : decode cX5_append 40 = .ok (.dup, 1) := by decide +kernel
theorem dX5_append_41 : decode cX5_append 41 = .ok (.getfield 13, 3) := by decide +kernel
theorem dX5_append_44 : decode cX5_append 44 = .ok (.iconst 1, 1) := by decide +kernel
theorem dX5_append_45 : decode cX5_append 45 = .ok (.iadd, 1) := by decide +kernel
theorem dX5_append_46 : decode cX5_append 46 = .ok (.putfield 13, 3) := by decide +kernel
theorem dX5_append_49 : decode cX5_append 49 = .ok (.iinc 4 1, 3) := by decide +kernel
theorem dX5_append_52 : decode cX5_append 52 = .ok (.goto (-49), 3) := by decide +kernel
theorem dX5_append_55 : decode cX5_append 55 = .ok (.return_, 1) := by decide +kernel
theorem dX5_findFault_0 : decode cX5_findFault 0 = .ok (.aload_n 0, 1) := by decide +kernel
theorem dX5_findFault_1 : decode cX5_findFault 1 = .ok (.iconst 0, 1) := by decide +kernel
theorem dX5_findFault_2 : decode cX5_findFault 2 = .ok (.putfield 19, 3) := by decide +kernel
theorem dX5_findFault_5 : decode cX5_findFault 5 = .ok (.aload_n 0, 1) := by decide +kernel
theorem dX5_findFault_6 : decode cX5_findFault 6 = .ok (.iconst 1, 1) := by decide +kernel
theorem dX5_findFault_7 : decode cX5_findFault 7 = .ok (.putfield 22, 3) := by decide +kernel
theorem dX5_findFault_10 : decode cX5_findFault 10 = .ok (.aload_n 0, 1) := by decide +kernel
theorem dX5_findFault_11 : decode cX5_findFault 11 = .ok (.iconst 1, 1) := by decide +kernel
theorem dX5_findFault_12 : decode cX5_findFault 12 = .ok (.putfield 25, 3) := by decide +kernel
theorem dX5_findFault_15 : decode cX5_findFault 15 = .ok (.aload_n 0, 1) := by decide +kernel
theorem dX5_findFault_16 : decode cX5_findFault 16 = .ok (.invokevirtual 28, 3) := by decide +kernel
theorem dX5_findFault_19 : decode cX5_findFault 19 = .ok (.ifCond .eq 10, 3) := by decide +kernel
theorem dX5_findFault_22 : decode cX5_findFault 22 = .ok (.aload_n 0, 1) := by decide +kernel
theorem dX5_findFault_23 : decode cX5_findFault 23 = .ok (.invokevirtual 32, 3) := by decide +kernel
theorem dX5_findFault_26 : decode cX5_findFault 26 = .ok (.ifCond .ne 8, 3) := by decide +kernel
theorem dX5_findFault_29 : decode cX5_findFault 29 = .ok (.aload_n 0, 1) := by decide +kernel
theorem dX5_findFault_30 : decode cX5_findFault 30 = .ok (.getfield 19, 3) := by decide +kernel
theorem dX5_findFault_33 : decode cX5_findFault 33 = .ok (.ireturn, 1) := by decide +kernel
theorem dX5_findFault_34 : decode cX5_findFault 34 = .ok (.aload_n 0, 1) := by decide +kernel
theorem dX5_findFault_35 : decode cX5_findFault 35 = .ok (.getfield 35, 3) := by decide +kernel
theorem dX5_findFault_38 : decode cX5_findFault 38 = .ok (.ifCond .eq 15, 3) := by decide +kernel
theorem dX5_findFault_41 : decode cX5_findFault 41 = .ok (.aload_n 0, 1) := by decide +kernel
theorem dX5_findFault_42 : decode cX5_findFault 42 = .ok (.invokevirtual 38, 3) := by decide +kernel
theorem dX5_findFault_45 : decode cX5_findFault 45 = .ok (.ifCond .ne 8, 3) := by decide +kernel
theorem dX5_findFault_48 : decode cX5_findFault 48 = .ok (.aload_n 0, 1) := by decide +kernel
theorem dX5_findFault_49 : decode cX5_findFault 49 = .ok (.getfield 19, 3) := by decide +kernel
theorem dX5_findFault_52 : decode cX5_findFault 52 = .ok (.ireturn, 1) := by decide +kernel
theorem dX5_findFault_53 : decode cX5_findFault 53 = .ok (.aload_n 0, 1) := by decide +kernel
theorem dX5_findFault_54 : decode cX5_findFault 54 = .ok (.getfield 19, 3) := by decide +kernel
theorem dX5_findFault_57 : decode cX5_findFault 57 = .ok (.aload_n 0, 1) := by decide +kernel
theorem dX5_findFault_58 : decode cX5_findFault 58 = .ok (.getfield 13, 3) := by decide +kernel
theorem dX5_findFault_61 : decode cX5_findFault 61 = .ok (.if_icmp .ge 8, 3) := by decide +kernel
theorem dX5_findFault_64 : decode cX5_findFault 64 = .ok (.aload_n 0, 1) := by decide +kernel
theorem dX5_findFault_65 : decode cX5_findFault 65 = .ok (.getfield 19, 3) := by decide +kernel
theorem dX5_findFault_68 : decode cX5_findFault 68 = .ok (.ireturn, 1) := by decide +kernel
theorem dX5_findFault_69 : decode cX5_findFault 69 = .ok (.aload_n 0, 1) := by decide +kernel
theorem dX5_findFault_70 : decode cX5_findFault 70 = .ok (.getfield 35, 3) := by decide +kernel
theorem dX5_findFault_73 : decode cX5_findFault 73 = .ok (.ifCond .eq 10, 3) := by decide +kernel
theorem dX5_findFault_76 : decode cX5_findFault 76 = .ok (.aload_n 0, 1) := by decide +kernel
theorem dX5_findFault_77 : decode cX5_findFault 77 = .ok (.invokevirtual 41, 3) := by decide +kernel
theorem dX5_findFault_80 : decode cX5_findFault 80 = .ok (.ifCond .eq 7, 3) := by decide +kernel
theorem dX5_findFault_83 : decode cX5_findFault 83 = .ok (.iconst (-1), 1) := by decide +kernel
theorem dX5_findFault_84 : decode cX5_findFault 84 = .ok (.goto 7, 3) := by decide +kernel
theorem dX5_findFault_87 : decode cX5_findFault 87 = .ok (.aload_n 0, 1) := by decide +kernel
theorem dX5_findFault_88 : decode cX5_findFault 88 = .ok (.getfield 44, 3) := by decide +kernel
theorem dX5_findFault_91 : decode cX5_findFault 91 = .ok (.ireturn, 1) := by decide +kernel
theorem dX5_readRhythm_0 : decode cX5_readRhythm 0 = .ok (.aload_n 0, 1) := by decide +kernel
theorem dX5_readRhythm_1 : decode cX5_readRhythm 1 = .ok (.bipush 73, 2) := by decide +kernel
theorem dX5_readRhythm_3 : decode cX5_readRhythm 3 = .ok (.invokevirtual 47, 3) := by decide +kernel
theorem dX5_readRhythm_6 : decode cX5_readRhythm 6 = .ok (.ifCond .eq 32, 3) := by decide +kernel
theorem dX5_readRhythm_9 : decode cX5_readRhythm 9 = .ok (.aload_n 0, 1) := by decide +kernel
theorem dX5_readRhythm_10 : decode cX5_readRhythm 10 = .ok (.iconst 4, 1) := by decide +kernel
theorem dX5_readRhythm_11 : decode cX5_readRhythm 11 = .ok (.putfield 35, 3) := by decide +kernel
theorem dX5_readRhythm_14 : decode cX5_readRhythm 14 = .ok (.aload_n 0, 1) := by decide +kernel
theorem dX5_readRhythm_15 : decode cX5_readRhythm 15 = .ok (.bipush 115, 2) := by decide +kernel
theorem dX5_readRhythm_17 : decode cX5_readRhythm 17 = .ok (.invokevirtual 47, 3) := by decide +kernel
theorem dX5_readRhythm_20 : decode cX5_readRhythm 20 = .ok (.ifCond .eq 16, 3) := by decide +kernel
theorem dX5_readRhythm_23 : decode cX5_readRhythm 23 = .ok (.aload_n 0, 1) := by decide +kernel
theorem dX5_readRhythm_24 : decode cX5_readRhythm 24 = .ok (.bipush 111, 2) := by decide +kernel
theorem dX5_readRhythm_26 : decode cX5_readRhythm 26 = .ok (.invokevirtual 47, 3) := by decide +kernel
theorem dX5_readRhythm_29 : decode cX5_readRhythm 29 = .ok (.ifCond .eq 7, 3) := by decide +kernel
theorem dX5_readRhythm_32 : decode cX5_readRhythm 32 = .ok (.iconst 1, 1) := by decide +kernel
theorem dX5_readRhythm_33 : decode cX5_readRhythm 33 = .ok (.goto 4, 3) := by decide +kernel
theorem dX5_readRhythm_36 : decode cX5_readRhythm 36 = .ok (.iconst 0, 1) := by decide +kernel
theorem dX5_readRhythm_37 : decode cX5_readRhythm 37 = .ok (.ireturn, 1) := by decide +kernel
theorem dX5_readRhythm_38 : decode cX5_readRhythm 38 = .ok (.aload_n 0, 1) := by decide +kernel
theorem dX5_readRhythm_39 : decode cX5_readRhythm 39 = .ok (.bipush 70, 2) := by decide +kernel
theorem dX5_readRhythm_41 : decode cX5_readRhythm 41 = .ok (.invokevirtual 47, 3) := by decide +kernel
theorem dX5_readRhythm_44 : decode cX5_readRhythm 44 = .ok (.ifCond .eq 41, 3) := by decide +kernel
theorem dX5_readRhythm_47 : decode cX5_readRhythm 47 = .ok (.aload_n 0, 1) := by decide +kernel
theorem dX5_readRhythm_48 : decode cX5_readRhythm 48 = .ok (.aload_n 0, 1) := by decide +kernel
theorem dX5_readRhythm_49 : decode cX5_readRhythm 49 = .ok (.bipush 108, 2) := by decide +kernel
theorem dX5_readRhythm_51 : decode cX5_readRhythm 51 = .ok (.invokevirtual 47, 3) := by decide +kernel
theorem dX5_readRhythm_54 : decode cX5_readRhythm 54 = .ok (.ifCond .eq 7, 3) := by decide +kernel
theorem dX5_readRhythm_57 : decode cX5_readRhythm 57 = .ok (.iconst 1, 1) := by decide +kernel
theorem dX5_readRhythm_58 : decode cX5_readRhythm 58 = .ok (.goto 4, 3) := by decide +kernel
theorem dX5_readRhythm_61 : decode cX5_readRhythm 61 = .ok (.iconst 0, 1) := by decide +kernel
theorem dX5_readRhythm_62 : decode cX5_readRhythm 62 = .ok (.putfield 35, 3) := by decide +kernel
theorem dX5_readRhythm_65 : decode cX5_readRhythm 65 = .ok (.aload_n 0, 1) := by decide +kernel
theorem dX5_readRhythm_66 : decode cX5_readRhythm 66 = .ok (.getfield 35, 3) := by decide +kernel
theorem dX5_readRhythm_69 : decode cX5_readRhythm 69 = .ok (.ifCond .eq 10, 3) := by decide +kernel
theorem dX5_readRhythm_72 : decode cX5_readRhythm 72 = .ok (.aload_n 0, 1) := by decide +kernel
theorem dX5_readRhythm_73 : decode cX5_readRhythm 73 = .ok (.invokevirtual 51, 3) := by decide +kernel
theorem dX5_readRhythm_76 : decode cX5_readRhythm 76 = .ok (.ifCond .eq 7, 3) := by decide +kernel
theorem dX5_readRhythm_79 : decode cX5_readRhythm 79 = .ok (.iconst 1, 1) := by decide +kernel
theorem dX5_readRhythm_80 : decode cX5_readRhythm 80 = .ok (.goto 4, 3) := by decide +kernel
theorem dX5_readRhythm_83 : decode cX5_readRhythm 83 = .ok (.iconst 0, 1) := by decide +kernel
theorem dX5_readRhythm_84 : decode cX5_readRhythm 84 = .ok (.ireturn, 1) := by decide +kernel
theorem dX5_readRhythm_85 : decode cX5_readRhythm 85 = .ok (.aload_n 0, 1) := by decide +kernel
theorem dX5_readRhythm_86 : decode cX5_readRhythm 86 = .ok (.bipush 79, 2) := by decide +kernel
theorem dX5_readRhythm_88 : decode cX5_readRhythm 88 = .ok (.invokevirtual 47, 3) := by decide +kernel
theorem dX5_readRhythm_91 : decode cX5_readRhythm 91 = .ok (.ifCond .eq 30, 3) := by decide +kernel
theorem dX5_readRhythm_94 : decode cX5_readRhythm 94 = .ok (.aload_n 0, 1) := by decide +kernel
theorem dX5_readRhythm_95 : decode cX5_readRhythm 95 = .ok (.iconst 2, 1) := by decide +kernel
theorem dX5_readRhythm_96 : decode cX5_readRhythm 96 = .ok (.putfield 35, 3) := by decide +kernel
theorem dX5_readRhythm_99 : decode cX5_readRhythm 99 = .ok (.aload_n 0, 1) := by decide +kernel
theorem dX5_readRhythm_100 : decode cX5_readRhythm 100 = .ok (.bipush 99, 2) := by decide +kernel
theorem dX5_readRhythm_102 : decode cX5_readRhythm 102 = .ok (.invokevirtual 47, 3) := by decide +kernel
theorem dX5_readRhythm_105 : decode cX5_readRhythm 105 = .ok (.ifCond .eq 14, 3) := by decide +kernel
theorem dX5_readRhythm_108 : decode cX5_readRhythm 108 = .ok (.aload_n 0, 1) := by decide +kernel
theorem dX5_readRhythm_109 : decode cX5_readRhythm 109 = .ok (.invokevirtual 51, 3) := by decide +kernel
theorem dX5_readRhythm_112 : decode cX5_readRhythm 112 = .ok (.ifCond .eq 7, 3) := by decide +kernel
theorem dX5_readRhythm_115 : decode cX5_readRhythm 115 = .ok (.iconst 1, 1) := by decide +kernel
theorem dX5_readRhythm_116 : decode cX5_readRhythm 116 = .ok (.goto 4, 3) := by decide +kernel
theorem dX5_readRhythm_119 : decode cX5_readRhythm 119 = .ok (.iconst 0, 1) := by decide +kernel
theorem dX5_readRhythm_120 : decode cX5_readRhythm 120 = .ok (.ireturn, 1) := by decide +kernel
theorem dX5_readRhythm_121 : decode cX5_readRhythm 121 = .ok (.aload_n 0, 1) := by decide +kernel
theorem dX5_readRhythm_122 : decode cX5_readRhythm 122 = .ok (.iconst 3, 1) := by decide +kernel
theorem dX5_readRhythm_123 : decode cX5_readRhythm 123 = .ok (.putfield 35, 3) := by decide +kernel
theorem dX5_readRhythm_126 : decode cX5_readRhythm 126 = .ok (.aload_n 0, 1) := by decide +kernel
theorem dX5_readRhythm_127 : decode cX5_readRhythm 127 = .ok (.bipush 81, 2) := by decide +kernel
theorem dX5_readRhythm_129 : decode cX5_readRhythm 129 = .ok (.invokevirtual 47, 3) := by decide +kernel
theorem dX5_readRhythm_132 : decode cX5_readRhythm 132 = .ok (.ifCond .eq 14, 3) := by decide +kernel
theorem dX5_readRhythm_135 : decode cX5_readRhythm 135 = .ok (.aload_n 0, 1) := by decide +kernel
theorem dX5_readRhythm_136 : decode cX5_readRhythm 136 = .ok (.invokevirtual 51, 3) := by decide +kernel
theorem dX5_readRhythm_139 : decode cX5_readRhythm 139 = .ok (.ifCond .eq 7, 3) := by decide +kernel
theorem dX5_readRhythm_142 : decode cX5_readRhythm 142 = .ok (.iconst 1, 1) := by decide +kernel
theorem dX5_readRhythm_143 : decode cX5_readRhythm 143 = .ok (.goto 4, 3) := by decide +kernel
theorem dX5_readRhythm_146 : decode cX5_readRhythm 146 = .ok (.iconst 0, 1) := by decide +kernel
theorem dX5_readRhythm_147 : decode cX5_readRhythm 147 = .ok (.ireturn, 1) := by decide +kernel
theorem dX5_readTimes_0 : decode cX5_readTimes 0 = .ok (.aload_n 0, 1) := by decide +kernel
theorem dX5_readTimes_1 : decode cX5_readTimes 1 = .ok (.bipush 40, 2) := by decide +kernel
theorem dX5_readTimes_3 : decode cX5_readTimes 3 = .ok (.invokevirtual 47, 3) := by decide +kernel
theorem dX5_readTimes_6 : decode cX5_readTimes 6 = .ok (.ifCond .ne 5, 3) := by decide +kernel
theorem dX5_readTimes_9 : decode cX5_readTimes 9 = .ok (.iconst 1, 1) := by decide +kernel
theorem dX5_readTimes_10 : decode cX5_readTimes 10 = .ok (.ireturn, 1) := by decide +kernel
theorem dX5_readTimes_11 : decode cX5_readTimes 11 = .ok (.aload_n 0, 1) := by decide +kernel
theorem dX5_readTimes_12 : decode cX5_readTimes 12 = .ok (.invokevirtual 54, 3) := by decide +kernel
theorem dX5_readTimes_15 : decode cX5_readTimes 15 = .ok (.ifCond .ne 5, 3) := by decide +kernel
theorem dX5_readTimes_18 : decode cX5_readTimes 18 = .ok (.iconst 0, 1) := by decide +kernel
theorem dX5_readTimes_19 : decode cX5_readTimes 19 = .ok (.ireturn, 1) := by decide +kernel
theorem dX5_readTimes_20 : decode cX5_readTimes 20 = .ok (.aload_n 0, 1) := by decide +kernel
theorem dX5_readTimes_21 : decode cX5_readTimes 21 = .ok (.aload_n 0, 1) := by decide +kernel
theorem dX5_readTimes_22 : decode cX5_readTimes 22 = .ok (.getfield 57, 3) := by decide +kernel
theorem dX5_readTimes_25 : decode cX5_readTimes 25 = .ok (.putfield 22, 3) := by decide +kernel
theorem dX5_readTimes_28 : decode cX5_readTimes 28 = .ok (.aload_n 0, 1) := by decide +kernel
theorem dX5_readTimes_29 : decode cX5_readTimes 29 = .ok (.bipush 41, 2) := by decide +kernel
theorem dX5_readTimes_31 : decode cX5_readTimes 31 = .ok (.invokevirtual 47, 3) := by decide +kernel
theorem dX5_readTimes_34 : decode cX5_readTimes 34 = .ok (.ireturn, 1) := by decide +kernel
theorem dX5_readColour_0 : decode cX5_readColour 0 = .ok (.aload_n 0, 1) := by decide +kernel
theorem dX5_readColour_1 : decode cX5_readColour 1 = .ok (.bipush 87, 2) := by decide +kernel
theorem dX5_readColour_3 : decode cX5_readColour 3 = .ok (.invokevirtual 47, 3) := by decide +kernel
theorem dX5_readColour_6 : decode cX5_readColour 6 = .ok (.ifCond .eq 10, 3) := by decide +kernel
theorem dX5_readColour_9 : decode cX5_readColour 9 = .ok (.aload_n 0, 1) := by decide +kernel
theorem dX5_readColour_10 : decode cX5_readColour 10 = .ok (.iconst 0, 1) := by decide +kernel
theorem dX5_readColour_11 : decode cX5_readColour 11 = .ok (.putfield 60, 3) := by decide +kernel
theorem dX5_readColour_14 : decode cX5_readColour 14 = .ok (.iconst 1, 1) := by decide +kernel
theorem dX5_readColour_15 : decode cX5_readColour 15 = .ok (.ireturn, 1) := by decide +kernel
theorem dX5_readColour_16 : decode cX5_readColour 16 = .ok (.aload_n 0, 1) := by decide +kernel
theorem dX5_readColour_17 : decode cX5_readColour 17 = .ok (.bipush 82, 2) := by decide +kernel
theorem dX5_readColour_19 : decode cX5_readColour 19 = .ok (.invokevirtual 47, 3) := by decide +kernel
theorem dX5_readColour_22 : decode cX5_readColour 22 = .ok (.ifCond .eq 10, 3) := by decide +kernel
theorem dX5_readColour_25 : decode cX5_readColour 25 = .ok (.aload_n 0, 1) := by decide +kernel
theorem dX5_readColour_26 : decode cX5_readColour 26 = .ok (.iconst 1, 1) := by decide +kernel
theorem dX5_readColour_27 : decode cX5_readColour 27 = .ok (.putfield 60, 3) := by decide +kernel
theorem dX5_readColour_30 : decode cX5_readColour 30 = .ok (.iconst 1, 1) := by decide +kernel
theorem dX5_readColour_31 : decode cX5_readColour 31 = .ok (.ireturn, 1) := by decide +kernel
theorem dX5_readColour_32 : decode cX5_readColour 32 = .ok (.aload_n 0, 1) := by decide +kernel
theorem dX5_readColour_33 : decode cX5_readColour 33 = .ok (.iconst 2, 1) := by decide +kernel
theorem dX5_readColour_34 : decode cX5_readColour 34 = .ok (.putfield 60, 3) := by decide +kernel
theorem dX5_readColour_37 : decode cX5_readColour 37 = .ok (.aload_n 0, 1) := by decide +kernel
theorem dX5_readColour_38 : decode cX5_readColour 38 = .ok (.bipush 71, 2) := by decide +kernel
theorem dX5_readColour_40 : decode cX5_readColour 40 = .ok (.invokevirtual 47, 3) := by decide +kernel
theorem dX5_readColour_43 : decode cX5_readColour 43 = .ok (.ireturn, 1) := by decide +kernel
theorem dX5_readPeriod_0 : decode cX5_readPeriod 0 = .ok (.aload_n 0, 1) := by decide +kernel
theorem dX5_readPeriod_1 : decode cX5_readPeriod 1 = .ok (.aload_n 0, 1) := by decide +kernel
theorem dX5_readPeriod_2 : decode cX5_readPeriod 2 = .ok (.getfield 19, 3) := by decide +kernel
theorem dX5_readPeriod_5 : decode cX5_readPeriod 5 = .ok (.putfield 44, 3) := by decide +kernel
theorem dX5_readPeriod_8 : decode cX5_readPeriod 8 = .ok (.aload_n 0, 1) := by decide +kernel
theorem dX5_readPeriod_9 : decode cX5_readPeriod 9 = .ok (.invokevirtual 54, 3) := by decide +kernel
theorem dX5_readPeriod_12 : decode cX5_readPeriod 12 = .ok (.ifCond .ne 5, 3) := by decide +kernel
theorem dX5_readPeriod_15 : decode cX5_readPeriod 15 = .ok (.iconst 0, 1) := by decide +kernel
theorem dX5_readPeriod_16 : decode cX5_readPeriod 16 = .ok (.ireturn, 1) := by decide +kernel
theorem dX5_readPeriod_17 : decode cX5_readPeriod 17 = .ok (.aload_n 0, 1) := by decide +kernel
theorem dX5_readPeriod_18 : decode cX5_readPeriod 18 = .ok (.aload_n 0, 1) := by decide +kernel
theorem dX5_readPeriod_19 : decode cX5_readPeriod 19 = .ok (.getfield 57, 3) := by decide +kernel
theorem dX5_readPeriod_22 : decode cX5_readPeriod 22 = .ok (.putfield 25, 3) := by decide +kernel
theorem dX5_readPeriod_25 : decode cX5_readPeriod 25 = .ok (.aload_n 0, 1) := by decide +kernel
theorem dX5_readPeriod_26 : decode cX5_readPeriod 26 = .ok (.bipush 115, 2) := by decide +kernel
theorem dX5_readPeriod_28 : decode cX5_readPeriod 28 = .ok (.invokevirtual 47, 3) := by decide +kernel
theorem dX5_readPeriod_31 : decode cX5_readPeriod 31 = .ok (.ireturn, 1) := by decide +kernel
theorem dX5_readNumber_0 : decode cX5_readNumber 0 = .ok (.aload_n 0, 1) := by decide +kernel
theorem dX5_readNumber_1 : decode cX5_readNumber 1 = .ok (.iconst 0, 1) := by decide +kernel
theorem dX5_readNumber_2 : decode cX5_readNumber 2 = .ok (.putfield 57, 3) := by decide +kernel
theorem dX5_readNumber_5 : decode cX5_readNumber 5 = .ok (.iconst 0, 1) := by decide +kernel
theorem dX5_readNumber_6 : decode cX5_readNumber 6 = .ok (.istore_n 1, 1) := by decide +kernel
theorem dX5_readNumber_7 : decode cX5_readNumber 7 = .ok (.iload_n 1, 1) := by decide +kernel
theorem dX5_readNumber_8 : decode cX5_readNumber 8 = .ok (.iconst 2, 1) := by decide +kernel
theorem dX5_readNumber_9 : decode cX5_readNumber 9 = .ok (.if_icmp .ge 50, 3) := by decide +kernel
theorem dX5_readNumber_12 : decode cX5_readNumber 12 = .ok (.aload_n 0, 1) := by decide +kernel
theorem dX5_readNumber_13 : decode cX5_readNumber 13 = .ok (.invokevirtual 63, 3) := by decide +kernel
theorem dX5_readNumber_16 : decode cX5_readNumber 16 = .ok (.ifCond .eq 43, 3) := by decide +kernel
theorem dX5_readNumber_19 : decode cX5_readNumber 19 = .ok (.aload_n 0, 1) := by decide +kernel
theorem dX5_readNumber_20 : decode cX5_readNumber 20 = .ok (.aload_n 0, 1) := by decide +kernel
theorem dX5_readNumber_21 : decode cX5_readNumber 21 = .ok (.getfield 57, 3) := by decide +kernel
theorem dX5_readNumber_24 : decode cX5_readNumber 24 = .ok (.bipush 10, 2) := by decide +kernel
theorem dX5_readNumber_26 : decode cX5_readNumber 26 = .ok (.imul, 1) := by decide +kernel
theorem dX5_readNumber_27 : decode cX5_readNumber 27 = .ok (.aload_n 0, 1) := by decide +kernel
theorem dX5_readNumber_28 : decode cX5_readNumber 28 = .ok (.getfield 9, 3) := by decide +kernel
theorem dX5_readNumber_31 : decode cX5_readNumber 31 = .ok (.aload_n 0, 1) := by decide +kernel
theorem dX5_readNumber_32 : decode cX5_readNumber 32 = .ok (.getfield 19, 3) := by decide +kernel
theorem dX5_readNumber_35 : decode cX5_readNumber 35 = .ok (.iaload, 1) := by decide +kernel
theorem dX5_readNumber_36 : decode cX5_readNumber 36 = .ok (.iadd, 1) := by decide +kernel
theorem dX5_readNumber_37 : decode cX5_readNumber 37 = .ok (.bipush 48, 2) := by decide +kernel
theorem dX5_readNumber_39 : decode cX5_readNumber 39 = .ok (.isub, 1) := by decide +kernel
theorem dX5_readNumber_40 : decode cX5_readNumber 40 = .ok (.putfield 57, 3) := by decide +kernel
theorem dX5_readNumber_43 : decode cX5_readNumber 43 = .ok (.aload_n 0, 1) := by decide +kernel
theorem dX5_readNumber_44 : decode cX5_readNumber 44 = .ok (.dup, 1) := by decide +kernel
theorem dX5_readNumber_45 : decode cX5_readNumber 45 = .ok (.getfield 19, 3) := by decide +kernel
theorem dX5_readNumber_48 : decode cX5_readNumber 48 = .ok (.iconst 1, 1) := by decide +kernel
theorem dX5_readNumber_49 : decode cX5_readNumber 49 = .ok (.iadd, 1) := by decide +kernel
theorem dX5_readNumber_50 : decode cX5_readNumber 50 = .ok (.putfield 19, 3) := by decide +kernel
theorem dX5_readNumber_53 : decode cX5_readNumber 53 = .ok (.iinc 1 1, 3) := by decide +kernel
theorem dX5_readNumber_56 : decode cX5_readNumber 56 = .ok (.goto (-49), 3) := by decide +kernel
theorem dX5_readNumber_59 : decode cX5_readNumber 59 = .ok (.iload_n 1, 1) := by decide +kernel
theorem dX5_readNumber_60 : decode cX5_readNumber 60 = .ok (.ifCond .le 7, 3) := by decide +kernel
theorem dX5_readNumber_63 : decode cX5_readNumber 63 = .ok (.iconst 1, 1) := by decide +kernel
theorem dX5_readNumber_64 : decode cX5_readNumber 64 = .ok (.goto 4, 3) := by decide +kernel
theorem dX5_readNumber_67 : decode cX5_readNumber 67 = .ok (.iconst 0, 1) := by decide +kernel
theorem dX5_readNumber_68 : decode cX5_readNumber 68 = .ok (.ireturn, 1) := by decide +kernel
theorem dX5_isDigit_0 : decode cX5_isDigit 0 = .ok (.aload_n 0, 1) := by decide +kernel
theorem dX5_isDigit_1 : decode cX5_isDigit 1 = .ok (.getfield 19, 3) := by decide +kernel
theorem dX5_isDigit_4 : decode cX5_isDigit 4 = .ok (.aload_n 0, 1) := by decide +kernel
theorem dX5_isDigit_5 : decode cX5_isDigit 5 = .ok (.getfield 13, 3) := by decide +kernel
theorem dX5_isDigit_8 : decode cX5_isDigit 8 = .ok (.if_icmp .ge 35, 3) := by decide +kernel
theorem dX5_isDigit_11 : decode cX5_isDigit 11 = .ok (.aload_n 0, 1) := by decide +kernel
theorem dX5_isDigit_12 : decode cX5_isDigit 12 = .ok (.getfield 9, 3) := by decide +kernel
theorem dX5_isDigit_15 : decode cX5_isDigit 15 = .ok (.aload_n 0, 1) := by decide +kernel
theorem dX5_isDigit_16 : decode cX5_isDigit 16 = .ok (.getfield 19, 3) := by decide +kernel
theorem dX5_isDigit_19 : decode cX5_isDigit 19 = .ok (.iaload, 1) := by decide +kernel
theorem dX5_isDigit_20 : decode cX5_isDigit 20 = .ok (.bipush 48, 2) := by decide +kernel
theorem dX5_isDigit_22 : decode cX5_isDigit 22 = .ok (.if_icmp .lt 21, 3) := by decide +kernel
theorem dX5_isDigit_25 : decode cX5_isDigit 25 = .ok (.aload_n 0, 1) := by decide +kernel
theorem dX5_isDigit_26 : decode cX5_isDigit 26 = .ok (.getfield 9, 3) := by decide +kernel
theorem dX5_isDigit_29 : decode cX5_isDigit 29 = .ok (.aload_n 0, 1) := by decide +kernel
theorem dX5_isDigit_30 : decode cX5_isDigit 30 = .ok (.getfield 19, 3) := by decide +kernel
theorem dX5_isDigit_33 : decode cX5_isDigit 33 = .ok (.iaload, 1) := by decide +kernel
theorem dX5_isDigit_34 : decode cX5_isDigit 34 = .ok (.bipush 57, 2) := by decide +kernel
theorem dX5_isDigit_36 : decode cX5_isDigit 36 = .ok (.if_icmp .gt 7, 3) := by decide +kernel
theorem dX5_isDigit_39 : decode cX5_isDigit 39 = .ok (.iconst 1, 1) := by decide +kernel
theorem dX5_isDigit_40 : decode cX5_isDigit 40 = .ok (.goto 4, 3) := by decide +kernel
theorem dX5_isDigit_43 : decode cX5_isDigit 43 = .ok (.iconst 0, 1) := by decide +kernel
theorem dX5_isDigit_44 : decode cX5_isDigit 44 = .ok (.ireturn, 1) := by decide +kernel
theorem dX5_takes_0 : decode cX5_takes 0 = .ok (.aload_n 0, 1) := by decide +kernel
theorem dX5_takes_1 : decode cX5_takes 1 = .ok (.getfield 19, 3) := by decide +kernel
theorem dX5_takes_4 : decode cX5_takes 4 = .ok (.aload_n 0, 1) := by decide +kernel
theorem dX5_takes_5 : decode cX5_takes 5 = .ok (.getfield 13, 3) := by decide +kernel
theorem dX5_takes_8 : decode cX5_takes 8 = .ok (.if_icmp .ge 16, 3) := by decide +kernel
theorem dX5_takes_11 : decode cX5_takes 11 = .ok (.aload_n 0, 1) := by decide +kernel
theorem dX5_takes_12 : decode cX5_takes 12 = .ok (.getfield 9, 3) := by decide +kernel
theorem dX5_takes_15 : decode cX5_takes 15 = .ok (.aload_n 0, 1) := by decide +kernel
theorem dX5_takes_16 : decode cX5_takes 16 = .ok (.getfield 19, 3) := by decide +kernel
theorem dX5_takes_19 : decode cX5_takes 19 = .ok (.iaload, 1) := by decide +kernel
theorem dX5_takes_20 : decode cX5_takes 20 = .ok (.iload_n 1, 1) := by decide +kernel
theorem dX5_takes_21 : decode cX5_takes 21 = .ok (.if_icmp .eq 5, 3) := by decide +kernel
theorem dX5_takes_24 : decode cX5_takes 24 = .ok (.iconst 0, 1) := by decide +kernel
theorem dX5_takes_25 : decode cX5_takes 25 = .ok (.ireturn, 1) := by decide +kernel
theorem dX5_takes_26 : decode cX5_takes 26 = .ok (.aload_n 0, 1) := by decide +kernel
theorem dX5_takes_27 : decode cX5_takes 27 = .ok (.dup, 1) := by decide +kernel
theorem dX5_takes_28 : decode cX5_takes 28 = .ok (.getfield 19, 3) := by decide +kernel
theorem dX5_takes_31 : decode cX5_takes 31 = .ok (.iconst 1, 1) := by decide +kernel
theorem dX5_takes_32 : decode cX5_takes 32 = .ok (.iadd, 1) := by decide +kernel
theorem dX5_takes_33 : decode cX5_takes 33 = .ok (.putfield 19, 3) := by decide +kernel
theorem dX5_takes_36 : decode cX5_takes 36 = .ok (.iconst 1, 1) := by decide +kernel
theorem dX5_takes_37 : decode cX5_takes 37 = .ok (.ireturn, 1) := by decide +kernel
theorem dX5_goesIn_0 : decode cX5_goesIn 0 = .ok (.aload_n 0, 1) := by decide +kernel
theorem dX5_goesIn_1 : decode cX5_goesIn 1 = .ok (.getfield 25, 3) := by decide +kernel
theorem dX5_goesIn_4 : decode cX5_goesIn 4 = .ok (.iconst 1, 1) := by decide +kernel
theorem dX5_goesIn_5 : decode cX5_goesIn 5 = .ok (.if_icmp .lt 29, 3) := by decide +kernel
theorem dX5_goesIn_8 : decode cX5_goesIn 8 = .ok (.aload_n 0, 1) := by decide +kernel
theorem dX5_goesIn_9 : decode cX5_goesIn 9 = .ok (.getfield 25, 3) := by decide +kernel
theorem dX5_goesIn_12 : decode cX5_goesIn 12 = .ok (.bipush 30, 2) := by decide +kernel
theorem dX5_goesIn_14 : decode cX5_goesIn 14 = .ok (.if_icmp .gt 20, 3) := by decide +kernel
theorem dX5_goesIn_17 : decode cX5_goesIn 17 = .ok (.aload_n 0, 1) := by decide +kernel
theorem dX5_goesIn_18 : decode cX5_goesIn 18 = .ok (.getfield 22, 3) := by decide +kernel
theorem dX5_goesIn_21 : decode cX5_goesIn 21 = .ok (.iconst 1, 1) := by decide +kernel
theorem dX5_goesIn_22 : decode cX5_goesIn 22 = .ok (.if_icmp .lt 12, 3) := by decide +kernel
theorem dX5_goesIn_25 : decode cX5_goesIn 25 = .ok (.aload_n 0, 1) := by decide +kernel
theorem dX5_goesIn_26 : decode cX5_goesIn 26 = .ok (.getfield 22, 3) := by decide +kernel
theorem dX5_goesIn_29 : decode cX5_goesIn 29 = .ok (.bipush 15, 2) := by decide +kernel
theorem dX5_goesIn_31 : decode cX5_goesIn 31 = .ok (.if_icmp .le 5, 3) := by decide +kernel
theorem dX5_goesIn_34 : decode cX5_goesIn 34 = .ok (.iconst 0, 1) := by decide +kernel
theorem dX5_goesIn_35 : decode cX5_goesIn 35 = .ok (.ireturn, 1) := by decide +kernel
theorem dX5_goesIn_36 : decode cX5_goesIn 36 = .ok (.aload_n 0, 1) := by decide +kernel
theorem dX5_goesIn_37 : decode cX5_goesIn 37 = .ok (.getfield 35, 3) := by decide +kernel
theorem dX5_goesIn_40 : decode cX5_goesIn 40 = .ok (.iconst 4, 1) := by decide +kernel
theorem dX5_goesIn_41 : decode cX5_goesIn 41 = .ok (.if_icmp .ne 18, 3) := by decide +kernel
theorem dX5_goesIn_44 : decode cX5_goesIn 44 = .ok (.aload_n 0, 1) := by decide +kernel
theorem dX5_goesIn_45 : decode cX5_goesIn 45 = .ok (.getfield 25, 3) := by decide +kernel
theorem dX5_goesIn_48 : decode cX5_goesIn 48 = .ok (.iconst 2, 1) := by decide +kernel
theorem dX5_goesIn_49 : decode cX5_goesIn 49 = .ok (.irem, 1) := by decide +kernel
theorem dX5_goesIn_50 : decode cX5_goesIn 50 = .ok (.ifCond .ne 7, 3) := by decide +kernel
theorem dX5_goesIn_53 : decode cX5_goesIn 53 = .ok (.iconst 1, 1) := by decide +kernel
theorem dX5_goesIn_54 : decode cX5_goesIn 54 = .ok (.goto 4, 3) := by decide +kernel
theorem dX5_goesIn_57 : decode cX5_goesIn 57 = .ok (.iconst 0, 1) := by decide +kernel
theorem dX5_goesIn_58 : decode cX5_goesIn 58 = .ok (.ireturn, 1) := by decide +kernel
theorem dX5_goesIn_59 : decode cX5_goesIn 59 = .ok (.iconst 2, 1) := by decide +kernel
theorem dX5_goesIn_60 : decode cX5_goesIn 60 = .ok (.aload_n 0, 1) := by decide +kernel
theorem dX5_goesIn_61 : decode cX5_goesIn 61 = .ok (.getfield 22, 3) := by decide +kernel
theorem dX5_goesIn_64 : decode cX5_goesIn 64 = .ok (.imul, 1) := by decide +kernel
theorem dX5_goesIn_65 : decode cX5_goesIn 65 = .ok (.aload_n 0, 1) := by decide +kernel
theorem dX5_goesIn_66 : decode cX5_goesIn 66 = .ok (.getfield 35, 3) := by decide +kernel
theorem dX5_goesIn_69 : decode cX5_goesIn 69 = .ok (.iconst 3, 1) := by decide +kernel
theorem dX5_goesIn_70 : decode cX5_goesIn 70 = .ok (.if_icmp .ne 7, 3) := by decide +kernel
theorem dX5_goesIn_73 : decode cX5_goesIn 73 = .ok (.iconst 1, 1) := by decide +kernel
theorem dX5_goesIn_74 : decode cX5_goesIn 74 = .ok (.goto 4, 3) := by decide +kernel
theorem dX5_goesIn_77 : decode cX5_goesIn 77 = .ok (.iconst 0, 1) := by decide +kernel
theorem dX5_goesIn_78 : decode cX5_goesIn 78 = .ok (.iadd, 1) := by decide +kernel
theorem dX5_goesIn_79 : decode cX5_goesIn 79 = .ok (.aload_n 0, 1) := by decide +kernel
theorem dX5_goesIn_80 : decode cX5_goesIn 80 = .ok (.getfield 25, 3) := by decide +kernel
theorem dX5_goesIn_83 : decode cX5_goesIn 83 = .ok (.if_icmp .gt 7, 3) := by decide +kernel
theorem dX5_goesIn_86 : decode cX5_goesIn 86 = .ok (.iconst 1, 1) := by decide +kernel
theorem dX5_goesIn_87 : decode cX5_goesIn 87 = .ok (.goto 4, 3) := by decide +kernel
theorem dX5_goesIn_90 : decode cX5_goesIn 90 = .ok (.iconst 0, 1) := by decide +kernel
theorem dX5_goesIn_91 : decode cX5_goesIn 91 = .ok (.ireturn, 1) := by decide +kernel
theorem dX5_litSeconds_0 : decode cX5_litSeconds 0 = .ok (.lconst 1, 1) := by decide +kernel
theorem dX5_litSeconds_1 : decode cX5_litSeconds 1 = .ok (.aload_n 0, 1) := by decide +kernel
theorem dX5_litSeconds_2 : decode cX5_litSeconds 2 = .ok (.getfield 25, 3) := by decide +kernel
theorem dX5_litSeconds_5 : decode cX5_litSeconds 5 = .ok (.lshl, 1) := by decide +kernel
theorem dX5_litSeconds_6 : decode cX5_litSeconds 6 = .ok (.lconst 1, 1) := by decide +kernel
theorem dX5_litSeconds_7 : decode cX5_litSeconds 7 = .ok (.lsub, 1) := by decide +kernel
theorem dX5_litSeconds_8 : decode cX5_litSeconds 8 = .ok (.lstore_n 1, 1) := by decide +kernel
theorem dX5_litSeconds_9 : decode cX5_litSeconds 9 = .ok (.aload_n 0, 1) := by decide +kernel
theorem dX5_litSeconds_10 : decode cX5_litSeconds 10 = .ok (.getfield 35, 3) := by decide +kernel
theorem dX5_litSeconds_13 : decode cX5_litSeconds 13 = .ok (.ifCond .ne 5, 3) := by decide +kernel
theorem dX5_litSeconds_16 : decode cX5_litSeconds 16 = .ok (.lload_n 1, 1) := by decide +kernel
theorem dX5_litSeconds_17 : decode cX5_litSeconds 17 = .ok (.lreturn, 1) := by decide +kernel
theorem dX5_litSeconds_18 : decode cX5_litSeconds 18 = .ok (.aload_n 0, 1) := by decide +kernel
theorem dX5_litSeconds_19 : decode cX5_litSeconds 19 = .ok (.getfield 35, 3) := by decide +kernel
theorem dX5_litSeconds_22 : decode cX5_litSeconds 22 = .ok (.iconst 4, 1) := by decide +kernel
theorem dX5_litSeconds_23 : decode cX5_litSeconds 23 = .ok (.if_icmp .ne 14, 3) := by decide +kernel
theorem dX5_litSeconds_26 : decode cX5_litSeconds 26 = .ok (.lconst 1, 1) := by decide +kernel
theorem dX5_litSeconds_27 : decode cX5_litSeconds 27 = .ok (.aload_n 0, 1) := by decide +kernel
theorem dX5_litSeconds_28 : decode cX5_litSeconds 28 = .ok (.getfield 25, 3) := by decide +kernel
theorem dX5_litSeconds_31 : decode cX5_litSeconds 31 = .ok (.iconst 2, 1) := by decide +kernel
theorem dX5_litSeconds_32 : decode cX5_litSeconds 32 = .ok (.idiv, 1) := by decide +kernel
theorem dX5_litSeconds_33 : decode cX5_litSeconds 33 = .ok (.lshl, 1) := by decide +kernel
theorem dX5_litSeconds_34 : decode cX5_litSeconds 34 = .ok (.lconst 1, 1) := by decide +kernel
theorem dX5_litSeconds_35 : decode cX5_litSeconds 35 = .ok (.lsub, 1) := by decide +kernel
theorem dX5_litSeconds_36 : decode cX5_litSeconds 36 = .ok (.lreturn, 1) := by decide +kernel
theorem dX5_litSeconds_37 : decode cX5_litSeconds 37 = .ok (.lconst 0, 1) := by decide +kernel
theorem dX5_litSeconds_38 : decode cX5_litSeconds 38 = .ok (.lstore_n 3, 1) := by decide +kernel
theorem dX5_litSeconds_39 : decode cX5_litSeconds 39 = .ok (.iconst 0, 1) := by decide +kernel
theorem dX5_litSeconds_40 : decode cX5_litSeconds 40 = .ok (.istore 5, 2) := by decide +kernel
theorem dX5_litSeconds_42 : decode cX5_litSeconds 42 = .ok (.iload 5, 2) := by decide +kernel
theorem dX5_litSeconds_44 : decode cX5_litSeconds 44 = .ok (.aload_n 0, 1) := by decide +kernel
theorem dX5_litSeconds_45 : decode cX5_litSeconds 45 = .ok (.getfield 22, 3) := by decide +kernel
theorem dX5_litSeconds_48 : decode cX5_litSeconds 48 = .ok (.if_icmp .ge 18, 3) := by decide +kernel
theorem dX5_litSeconds_51 : decode cX5_litSeconds 51 = .ok (.lload_n 3, 1) := by decide +kernel
theorem dX5_litSeconds_52 : decode cX5_litSeconds 52 = .ok (.lconst 1, 1) := by decide +kernel
theorem dX5_litSeconds_53 : decode cX5_litSeconds 53 = .ok (.iconst 2, 1) := by decide +kernel
theorem dX5_litSeconds_54 : decode cX5_litSeconds 54 = .ok (.iload 5, 2) := by decide +kernel
theorem dX5_litSeconds_56 : decode cX5_litSeconds 56 = .ok (.imul, 1) := by decide +kernel
theorem dX5_litSeconds_57 : decode cX5_litSeconds 57 = .ok (.lshl, 1) := by decide +kernel
theorem dX5_litSeconds_58 : decode cX5_litSeconds 58 = .ok (.lor, 1) := by decide +kernel
theorem dX5_litSeconds_59 : decode cX5_litSeconds 59 = .ok (.lstore_n 3, 1) := by decide +kernel
theorem dX5_litSeconds_60 : decode cX5_litSeconds 60 = .ok (.iinc 5 1, 3) := by decide +kernel
theorem dX5_litSeconds_63 : decode cX5_litSeconds 63 = .ok (.goto (-21), 3) := by decide +kernel
theorem dX5_litSeconds_66 : decode cX5_litSeconds 66 = .ok (.aload_n 0, 1) := by decide +kernel
theorem dX5_litSeconds_67 : decode cX5_litSeconds 67 = .ok (.getfield 35, 3) := by decide +kernel
theorem dX5_litSeconds_70 : decode cX5_litSeconds 70 = .ok (.iconst 2, 1) := by decide +kernel
theorem dX5_litSeconds_71 : decode cX5_litSeconds 71 = .ok (.if_icmp .ne 13, 3) := by decide +kernel
theorem dX5_litSeconds_74 : decode cX5_litSeconds 74 = .ok (.lload_n 1, 1) := by decide +kernel
theorem dX5_litSeconds_75 : decode cX5_litSeconds 75 = .ok (.lload_n 3, 1) := by decide +kernel
theorem dX5_litSeconds_76 : decode cX5_litSeconds 76 = .ok (.ldc2_w 68, 3) := by decide +kernel
theorem dX5_litSeconds_79 : decode cX5_litSeconds 79 = .ok (.lxor, 1) := by decide +kernel
theorem dX5_litSeconds_80 : decode cX5_litSeconds 80 = .ok (.land, 1) := by decide +kernel
theorem dX5_litSeconds_81 : decode cX5_litSeconds 81 = .ok (.goto 4, 3) := by decide +kernel
theorem dX5_litSeconds_84 : decode cX5_litSeconds 84 = .ok (.lload_n 3, 1) := by decide +kernel
theorem dX5_litSeconds_85 : decode cX5_litSeconds 85 = .ok (.lreturn, 1) := by decide +kernel
theorem dX6_init_0 : decode cX6_init 0 = .ok (.aload_n 0, 1) := by decide +kernel
theorem dX6_init_1 : decode cX6_init 1 = .ok (.invokespecial 1, 3) := by decide +kernel
theorem dX6_init_4 : decode cX6_init 4 = .ok (.aload_n 0, 1) := by decide +kernel
theorem dX6_init_5 : decode cX6_init 5 = .ok (.bipush 20, 2) := by decide +kernel
theorem dX6_init_7 : decode cX6_init 7 = .ok (.newarray .int, 2) := by decide +kernel
theorem dX6_init_9 : decode cX6_init 9 = .ok (.putfield 9, 3) := by decide +kernel
theorem dX6_init_12 : decode cX6_init 12 = .ok (.aload_n 0, 1) := by decide +kernel
theorem dX6_init_13 : decode cX6_init 13 = .ok (.bipush 20, 2) := by decide +kernel
theorem dX6_init_15 : decode cX6_init 15 = .ok (.newarray .int, 2) := by decide +kernel
theorem dX6_init_17 : decode cX6_init 17 = .ok (.putfield 13, 3) := by decide +kernel
theorem dX6_init_20 : decode cX6_init 20 = .ok (.aload_n 0, 1) := by decide +kernel
theorem dX6_init_21 : decode cX6_init 21 = .ok (.bipush 20, 2) := by decide +kernel
theorem dX6_init_23 : decode cX6_init 23 = .ok (.newarray .int, 2) := by decide +kernel
theorem dX6_init_25 : decode cX6_init 25 = .ok (.putfield 16, 3) := by decide +kernel
theorem dX6_init_28 : decode cX6_init 28 = .ok (.aload_n 0, 1) := by decide +kernel
theorem dX6_init_29 : decode cX6_init 29 = .ok (.bipush 20, 2) := by decide +kernel
theorem dX6_init_31 : decode cX6_init 31 = .ok (.newarray .int, 2) := by decide +kernel
theorem dX6_init_33 : decode cX6_init 33 = .ok (.putfield 19, 3) := by decide +kernel
theorem dX6_init_36 : decode cX6_init 36 = .ok (.aload_n 0, 1) := by decide +kernel
theorem dX6_init_37 : decode cX6_init 37 = .ok (.bipush 20, 2) := by decide +kernel
theorem dX6_init_39 : decode cX6_init 39 = .ok (.newarray .boolean, 2) := by decide +kernel
theorem dX6_init_41 : decode cX6_init 41 = .ok (.putfield 22, 3) := by decide +kernel
theorem dX6_init_44 : decode cX6_init 44 = .ok (.return_, 1) := by decide +kernel
theorem dX6_latestHour_0 : decode cX6_latestHour 0 = .ok (.aload_n 0, 1) := by decide +kernel
theorem dX6_latestHour_1 : decode cX6_latestHour 1 = .ok (.getfield 26, 3) := by decide +kernel
theorem dX6_latestHour_4 : decode cX6_latestHour 4 = .ok (.ifCond .ne 7, 3) := by decide +kernel
theorem dX6_latestHour_7 : decode cX6_latestHour 7 = .ok (.iconst 0, 1) := by decide +kernel
theorem dX6_latestHour_8 : decode cX6_latestHour 8 = .ok (.goto 14, 3) := by decide +kernel
theorem dX6_latestHour_11 : decode cX6_latestHour 11 = .ok (.aload_n 0, 1) := by decide +kernel
theorem dX6_latestHour_12 : decode cX6_latestHour 12 = .ok (.getfield 19, 3) := by decide +kernel
theorem dX6_latestHour_15 : decode cX6_latestHour 15 = .ok (.aload_n 0, 1) := by decide +kernel
theorem dX6_latestHour_16 : decode cX6_latestHour 16 = .ok (.getfield 26, 3) := by decide +kernel
theorem dX6_latestHour_19 : decode cX6_latestHour 19 = .ok (.iconst 1, 1) := by decide +kernel
theorem dX6_latestHour_20 : decode cX6_latestHour 20 = .ok (.isub, 1) := by decide +kernel
theorem dX6_latestHour_21 : decode cX6_latestHour 21 = .ok (.iaload, 1) := by decide +kernel
theorem dX6_latestHour_22 : decode cX6_latestHour 22 = .ok (.ireturn, 1) := by decide +kernel
theorem dX6_append_0 : decode cX6_append 0 = .ok (.aload_n 0, 1) := by decide +kernel
theorem dX6_append_1 : decode cX6_append 1 = .ok (.getfield 9, 3) := by decide +kernel
theorem dX6_append_4 : decode cX6_append 4 = .ok (.aload_n 0, 1) := by decide +kernel
theorem dX6_append_5 : decode cX6_append 5 = .ok (.getfield 26, 3) := by decide +kernel
theorem dX6_append_8 : decode cX6_append 8 = .ok (.iload_n 1, 1) := by decide +kernel
theorem dX6_append_9 : decode cX6_append 9 = .ok (.iastore, 1) := by decide +kernel
theorem dX6_append_10 : decode cX6_append 10 = .ok (.aload_n 0, 1) := by decide +kernel
theorem dX6_append_11 : decode cX6_append 11 = .ok (.getfield 13, 3) := by decide +kernel
theorem dX6_append_14 : decode cX6_append 14 = .ok (.aload_n 0, 1) := by decide +kernel
theorem dX6_append_15 : decode cX6_append 15 = .ok (.getfield 26, 3) := by decide +kernel
theorem dX6_append_18 : decode cX6_append 18 = .ok (.iload_n 2, 1) := by decide +kernel
theorem dX6_append_19 : decode cX6_append 19 = .ok (.iastore, 1) := by decide +kernel
theorem dX6_append_20 : decode cX6_append 20 = .ok (.aload_n 0, 1) := by decide +kernel
theorem dX6_append_21 : decode cX6_append 21 = .ok (.getfield 16, 3) := by decide +kernel
theorem dX6_append_24 : decode cX6_append 24 = .ok (.aload_n 0, 1) := by decide +kernel
theorem dX6_append_25 : decode cX6_append 25 = .ok (.getfield 26, 3) := by decide +kernel
theorem dX6_append_28 : decode cX6_append 28 = .ok (.iload_n 3, 1) := by decide +kernel
theorem dX6_append_29 : decode cX6_append 29 = .ok (.iastore, 1) := by decide +kernel
theorem dX6_append_30 : decode cX6_append 30 = .ok (.aload_n 0, 1) := by decide +kernel
theorem dX6_append_31 : decode cX6_append 31 = .ok (.getfield 19, 3) := by decide +kernel
theorem dX6_append_34 : decode cX6_append 34 = .ok (.aload_n 0, 1) := by decide +kernel
theorem dX6_append_35 : decode cX6_append 35 = .ok (.getfield 26, 3) := by decide +kernel
theorem dX6_append_38 : decode cX6_append 38 = .ok (.iload 4, 2) := by decide +kernel
theorem dX6_append_40 : decode cX6_append 40 = .ok (.iastore, 1) := by decide +kernel
theorem dX6_append_41 : decode cX6_append 41 = .ok (.aload_n 0, 1) := by decide +kernel
theorem dX6_append_42 : decode cX6_append 42 = .ok (.getfield 22, 3) := by decide +kernel
theorem dX6_append_45 : decode cX6_append 45 = .ok (.aload_n 0, 1) := by decide +kernel
theorem dX6_append_46 : decode cX6_append 46 = .ok (.getfield 26, 3) := by decide +kernel
theorem dX6_append_49 : decode cX6_append 49 = .ok (.iload 5, 2) := by decide +kernel
theorem dX6_append_51 : decode cX6_append 51 = .ok (.bastore, 1) := by decide +kernel
theorem dX6_append_52 : decode cX6_append 52 = .ok (.aload_n 0, 1) := by decide +kernel
theorem dX6_append_53 : decode cX6_append 53 = .ok (.dup, 1) := by decide +kernel
theorem dX6_append_54 : decode cX6_append 54 = .ok (.getfield 26, 3) := by decide +kernel
theorem dX6_append_57 : decode cX6_append 57 = .ok (.iconst 1, 1) := by decide +kernel
theorem dX6_append_58 : decode cX6_append 58 = .ok (.iadd, 1) := by decide +kernel
theorem dX6_append_59 : decode cX6_append 59 = .ok (.putfield 26, 3) := by decide +kernel
theorem dX6_append_62 : decode cX6_append 62 = .ok (.return_, 1) := by decide +kernel
theorem dX6_tellOut_0 : decode cX6_tellOut 0 = .ok (.aload_n 0, 1) := by decide +kernel
theorem dX6_tellOut_1 : decode cX6_tellOut 1 = .ok (.getfield 26, 3) := by decide +kernel
theorem dX6_tellOut_4 : decode cX6_tellOut 4 = .ok (.iconst 1, 1) := by decide +kernel
theorem dX6_tellOut_5 : decode cX6_tellOut 5 = .ok (.isub, 1) := by decide +kernel
theorem dX6_tellOut_6 : decode cX6_tellOut 6 = .ok (.istore 4, 2) := by decide +kernel
theorem dX6_tellOut_8 : decode cX6_tellOut 8 = .ok (.iload 4, 2) := by decide +kernel
theorem dX6_tellOut_10 : decode cX6_tellOut 10 = .ok (.ifCond .lt 61, 3) := by decide +kernel
theorem dX6_tellOut_13 : decode cX6_tellOut 13 = .ok (.aload_n 0, 1) := by decide +kernel
theorem dX6_tellOut_14 : decode cX6_tellOut 14 = .ok (.getfield 9, 3) := by decide +kernel
theorem dX6_tellOut_17 : decode cX6_tellOut 17 = .ok (.iload 4, 2) := by decide +kernel
theorem dX6_tellOut_19 : decode cX6_tellOut 19 = .ok (.iaload, 1) := by decide +kernel
theorem dX6_tellOut_20 : decode cX6_tellOut 20 = .ok (.iload_n 1, 1) := by decide +kernel
theorem dX6_tellOut_21 : decode cX6_tellOut 21 = .ok (.if_icmp .ne 44, 3) := by decide +kernel
theorem dX6_tellOut_24 : decode cX6_tellOut 24 = .ok (.aload_n 0, 1) := by decide +kernel
theorem dX6_tellOut_25 : decode cX6_tellOut 25 = .ok (.getfield 19, 3) := by decide +kernel
theorem dX6_tellOut_28 : decode cX6_tellOut 28 = .ok (.iload 4, 2) := by decide +kernel
theorem dX6_tellOut_30 : decode cX6_tellOut 30 = .ok (.iaload, 1) := by decide +kernel
theorem dX6_tellOut_31 : decode cX6_tellOut 31 = .ok (.iload_n 3, 1) := by decide +kernel
theorem dX6_tellOut_32 : decode cX6_tellOut 32 = .ok (.if_icmp .gt 33, 3) := by decide +kernel
theorem dX6_tellOut_35 : decode cX6_tellOut 35 = .ok (.aload_n 0, 1) := by decide +kernel
theorem dX6_tellOut_36 : decode cX6_tellOut 36 = .ok (.getfield 13, 3) := by decide +kernel
theorem dX6_tellOut_39 : decode cX6_tellOut 39 = .ok (.iload 4, 2) := by decide +kernel
theorem dX6_tellOut_41 : decode cX6_tellOut 41 = .ok (.iaload, 1) := by decide +kernel
theorem dX6_tellOut_42 : decode cX6_tellOut 42 = .ok (.iload_n 2, 1) := by decide +kernel
theorem dX6_tellOut_43 : decode cX6_tellOut 43 = .ok (.if_icmp .gt 22, 3) := by decide +kernel
theorem dX6_tellOut_46 : decode cX6_tellOut 46 = .ok (.iload_n 2, 1) := by decide +kernel
theorem dX6_tellOut_47 : decode cX6_tellOut 47 = .ok (.aload_n 0, 1) := by decide +kernel
theorem dX6_tellOut_48 : decode cX6_tellOut 48 = .ok (.getfield 16, 3) := by decide +kernel
theorem dX6_tellOut_51 : decode cX6_tellOut 51 = .ok (.iload 4, 2) := by decide +kernel
theorem dX6_tellOut_53 : decode cX6_tellOut 53 = .ok (.iaload, 1) := by decide +kernel
theorem dX6_tellOut_54 : decode cX6_tellOut 54 = .ok (.if_icmp .gt 11, 3) := by decide +kernel
theorem dX6_tellOut_57 : decode cX6_tellOut 57 = .ok (.aload_n 0, 1) := by decide +kernel
theorem dX6_tellOut_58 : decode cX6_tellOut 58 = .ok (.getfield 22, 3) := by decide +kernel
theorem dX6_tellOut_61 : decode cX6_tellOut 61 = .ok (.iload 4, 2) := by decide +kernel
theorem dX6_tellOut_63 : decode cX6_tellOut 63 = .ok (.baload, 1) := by decide +kernel
theorem dX6_tellOut_64 : decode cX6_tellOut 64 = .ok (.ireturn, 1) := by decide +kernel
theorem dX6_tellOut_65 : decode cX6_tellOut 65 = .ok (.iinc 4 (-1), 3) := by decide +kernel
theorem dX6_tellOut_68 : decode cX6_tellOut 68 = .ok (.goto (-60), 3) := by decide +kernel
theorem dX6_tellOut_71 : decode cX6_tellOut 71 = .ok (.iconst 0, 1) := by decide +kernel
theorem dX6_tellOut_72 : decode cX6_tellOut 72 = .ok (.ireturn, 1) := by decide +kernel
theorem dJ6_bitCount_0f7a4_0 : decode cJ6_bitCount_0f7a4 0 = .ok (.iload_n 0, 1) := by decide +kernel
theorem dJ6_bitCount_0f7a4_1 : decode cJ6_bitCount_0f7a4 1 = .ok (.iload_n 0, 1) := by decide +kernel
theorem dJ6_bitCount_0f7a4_2 : decode cJ6_bitCount_0f7a4 2 = .ok (.iconst 1, 1) := by decide +kernel
theorem dJ6_bitCount_0f7a4_3 : decode cJ6_bitCount_0f7a4 3 = .ok (.iushr, 1) := by decide +kernel
theorem dJ6_bitCount_0f7a4_4 : decode cJ6_bitCount_0f7a4 4 = .ok (.ldc_w 265, 3) := by decide +kernel
theorem dJ6_bitCount_0f7a4_7 : decode cJ6_bitCount_0f7a4 7 = .ok (.iand, 1) := by decide +kernel
theorem dJ6_bitCount_0f7a4_8 : decode cJ6_bitCount_0f7a4 8 = .ok (.isub, 1) := by decide +kernel
theorem dJ6_bitCount_0f7a4_9 : decode cJ6_bitCount_0f7a4 9 = .ok (.istore_n 0, 1) := by decide +kernel
theorem dJ6_bitCount_0f7a4_10 : decode cJ6_bitCount_0f7a4 10 = .ok (.iload_n 0, 1) := by decide +kernel
theorem dJ6_bitCount_0f7a4_11 : decode cJ6_bitCount_0f7a4 11 = .ok (.ldc_w 266, 3) := by decide +kernel
theorem dJ6_bitCount_0f7a4_14 : decode cJ6_bitCount_0f7a4 14 = .ok (.iand, 1) := by decide +kernel
theorem dJ6_bitCount_0f7a4_15 : decode cJ6_bitCount_0f7a4 15 = .ok (.iload_n 0, 1) := by decide +kernel
theorem dJ6_bitCount_0f7a4_16 : decode cJ6_bitCount_0f7a4 16 = .ok (.iconst 2, 1) := by decide +kernel
theorem dJ6_bitCount_0f7a4_17 : decode cJ6_bitCount_0f7a4 17 = .ok (.iushr, 1) := by decide +kernel
theorem dJ6_bitCount_0f7a4_18 : decode cJ6_bitCount_0f7a4 18 = .ok (.ldc_w 266, 3) := by decide +kernel
theorem dJ6_bitCount_0f7a4_21 : decode cJ6_bitCount_0f7a4 21 = .ok (.iand, 1) := by decide +kernel
theorem dJ6_bitCount_0f7a4_22 : decode cJ6_bitCount_0f7a4 22 = .ok (.iadd, 1) := by decide +kernel
theorem dJ6_bitCount_0f7a4_23 : decode cJ6_bitCount_0f7a4 23 = .ok (.istore_n 0, 1) := by decide +kernel
theorem dJ6_bitCount_0f7a4_24 : decode cJ6_bitCount_0f7a4 24 = .ok (.iload_n 0, 1) := by decide +kernel
theorem dJ6_bitCount_0f7a4_25 : decode cJ6_bitCount_0f7a4 25 = .ok (.iload_n 0, 1) := by decide +kernel
theorem dJ6_bitCount_0f7a4_26 : decode cJ6_bitCount_0f7a4 26 = .ok (.iconst 4, 1) := by decide +kernel
theorem dJ6_bitCount_0f7a4_27 : decode cJ6_bitCount_0f7a4 27 = .ok (.iushr, 1) := by decide +kernel
theorem dJ6_bitCount_0f7a4_28 : decode cJ6_bitCount_0f7a4 28 = .ok (.iadd, 1) := by decide +kernel
theorem dJ6_bitCount_0f7a4_29 : decode cJ6_bitCount_0f7a4 29 = .ok (.ldc_w 267, 3) := by decide +kernel
theorem dJ6_bitCount_0f7a4_32 : decode cJ6_bitCount_0f7a4 32 = .ok (.iand, 1) := by decide +kernel
theorem dJ6_bitCount_0f7a4_33 : decode cJ6_bitCount_0f7a4 33 = .ok (.istore_n 0, 1) := by decide +kernel
theorem dJ6_bitCount_0f7a4_34 : decode cJ6_bitCount_0f7a4 34 = .ok (.iload_n 0, 1) := by decide +kernel
theorem dJ6_bitCount_0f7a4_35 : decode cJ6_bitCount_0f7a4 35 = .ok (.iload_n 0, 1) := by decide +kernel
theorem dJ6_bitCount_0f7a4_36 : decode cJ6_bitCount_0f7a4 36 = .ok (.bipush 8, 2) := by decide +kernel
theorem dJ6_bitCount_0f7a4_38 : decode cJ6_bitCount_0f7a4 38 = .ok (.iushr, 1) := by decide +kernel
theorem dJ6_bitCount_0f7a4_39 : decode cJ6_bitCount_0f7a4 39 = .ok (.iadd, 1) := by decide +kernel
theorem dJ6_bitCount_0f7a4_40 : decode cJ6_bitCount_0f7a4 40 = .ok (.istore_n 0, 1) := by decide +kernel
theorem dJ6_bitCount_0f7a4_41 : decode cJ6_bitCount_0f7a4 41 = .ok (.iload_n 0, 1) := by decide +kernel
theorem dJ6_bitCount_0f7a4_42 : decode cJ6_bitCount_0f7a4 42 = .ok (.iload_n 0, 1) := by decide +kernel
theorem dJ6_bitCount_0f7a4_43 : decode cJ6_bitCount_0f7a4 43 = .ok (.bipush 16, 2) := by decide +kernel
theorem dJ6_bitCount_0f7a4_45 : decode cJ6_bitCount_0f7a4 45 = .ok (.iushr, 1) := by decide +kernel
theorem dJ6_bitCount_0f7a4_46 : decode cJ6_bitCount_0f7a4 46 = .ok (.iadd, 1) := by decide +kernel
theorem dJ6_bitCount_0f7a4_47 : decode cJ6_bitCount_0f7a4 47 = .ok (.istore_n 0, 1) := by decide +kernel
theorem dJ6_bitCount_0f7a4_48 : decode cJ6_bitCount_0f7a4 48 = .ok (.iload_n 0, 1) := by decide +kernel
theorem dJ6_bitCount_0f7a4_49 : decode cJ6_bitCount_0f7a4 49 = .ok (.bipush 63, 2) := by decide +kernel
theorem dJ6_bitCount_0f7a4_51 : decode cJ6_bitCount_0f7a4 51 = .ok (.iand, 1) := by decide +kernel
theorem dJ6_bitCount_0f7a4_52 : decode cJ6_bitCount_0f7a4 52 = .ok (.ireturn, 1) := by decide +kernel
theorem dJ13_bitCount_95d88_0 : decode cJ13_bitCount_95d88 0 = .ok (.lload_n 0, 1) := by decide +kernel
theorem dJ13_bitCount_95d88_1 : decode cJ13_bitCount_95d88 1 = .ok (.lload_n 0, 1) := by decide +kernel
theorem dJ13_bitCount_95d88_2 : decode cJ13_bitCount_95d88 2 = .ok (.iconst 1, 1) := by decide +kernel
theorem dJ13_bitCount_95d88_3 : decode cJ13_bitCount_95d88 3 = .ok (.lushr, 1) := by decide +kernel
theorem dJ13_bitCount_95d88_4 : decode cJ13_bitCount_95d88 4 = .ok (.ldc2_w 314, 3) := by decide +kernel
theorem dJ13_bitCount_95d88_7 : decode cJ13_bitCount_95d88 7 = .ok (.land, 1) := by decide +kernel
theorem dJ13_bitCount_95d88_8 : decode cJ13_bitCount_95d88 8 = .ok (.lsub, 1) := by decide +kernel
theorem dJ13_bitCount_95d88_9 : decode cJ13_bitCount_95d88 9 = .ok (.lstore_n 0, 1) := by decide +kernel
theorem dJ13_bitCount_95d88_10 : decode cJ13_bitCount_95d88 10 = .ok (.lload_n 0, 1) := by decide +kernel
theorem dJ13_bitCount_95d88_11 : decode cJ13_bitCount_95d88 11 = .ok (.ldc2_w 316, 3) := by decide +kernel
theorem dJ13_bitCount_95d88_14 : decode cJ13_bitCount_95d88 14 = .ok (.land, 1) := by decide +kernel
theorem dJ13_bitCount_95d88_15 : decode cJ13_bitCount_95d88 15 = .ok (.lload_n 0, 1) := by decide +kernel
theorem dJ13_bitCount_95d88_16 : decode cJ13_bitCount_95d88 16 = .ok (.iconst 2, 1) := by decide +kernel
theorem dJ13_bitCount_95d88_17 : decode cJ13_bitCount_95d88 17 = .ok (.lushr, 1) := by decide +kernel
theorem dJ13_bitCount_95d88_18 : decode cJ13_bitCount_95d88 18 = .ok (.ldc2_w 316, 3) := by decide +kernel
theorem dJ13_bitCount_95d88_21 : decode cJ13_bitCount_95d88 21 = .ok (.land, 1) := by decide +kernel
theorem dJ13_bitCount_95d88_22 : decode cJ13_bitCount_95d88 22 = .ok (.ladd, 1) := by decide +kernel
theorem dJ13_bitCount_95d88_23 : decode cJ13_bitCount_95d88 23 = .ok (.lstore_n 0, 1) := by decide +kernel
theorem dJ13_bitCount_95d88_24 : decode cJ13_bitCount_95d88 24 = .ok (.lload_n 0, 1) := by decide +kernel
theorem dJ13_bitCount_95d88_25 : decode cJ13_bitCount_95d88 25 = .ok (.lload_n 0, 1) := by decide +kernel
theorem dJ13_bitCount_95d88_26 : decode cJ13_bitCount_95d88 26 = .ok (.iconst 4, 1) := by decide +kernel
theorem dJ13_bitCount_95d88_27 : decode cJ13_bitCount_95d88 27 = .ok (.lushr, 1) := by decide +kernel
theorem dJ13_bitCount_95d88_28 : decode cJ13_bitCount_95d88 28 = .ok (.ladd, 1) := by decide +kernel
theorem dJ13_bitCount_95d88_29 : decode cJ13_bitCount_95d88 29 = .ok (.ldc2_w 318, 3) := by decide +kernel
theorem dJ13_bitCount_95d88_32 : decode cJ13_bitCount_95d88 32 = .ok (.land, 1) := by decide +kernel
theorem dJ13_bitCount_95d88_33 : decode cJ13_bitCount_95d88 33 = .ok (.lstore_n 0, 1) := by decide +kernel
theorem dJ13_bitCount_95d88_34 : decode cJ13_bitCount_95d88 34 = .ok (.lload_n 0, 1) := by decide +kernel
theorem dJ13_bitCount_95d88_35 : decode cJ13_bitCount_95d88 35 = .ok (.lload_n 0, 1) := by decide +kernel
theorem dJ13_bitCount_95d88_36 : decode cJ13_bitCount_95d88 36 = .ok (.bipush 8, 2) := by decide +kernel
theorem dJ13_bitCount_95d88_38 : decode cJ13_bitCount_95d88 38 = .ok (.lushr, 1) := by decide +kernel
theorem dJ13_bitCount_95d88_39 : decode cJ13_bitCount_95d88 39 = .ok (.ladd, 1) := by decide +kernel
theorem dJ13_bitCount_95d88_40 : decode cJ13_bitCount_95d88 40 = .ok (.lstore_n 0, 1) := by decide +kernel
theorem dJ13_bitCount_95d88_41 : decode cJ13_bitCount_95d88 41 = .ok (.lload_n 0, 1) := by decide +kernel
theorem dJ13_bitCount_95d88_42 : decode cJ13_bitCount_95d88 42 = .ok (.lload_n 0, 1) := by decide +kernel
theorem dJ13_bitCount_95d88_43 : decode cJ13_bitCount_95d88 43 = .ok (.bipush 16, 2) := by decide +kernel
theorem dJ13_bitCount_95d88_45 : decode cJ13_bitCount_95d88 45 = .ok (.lushr, 1) := by decide +kernel
theorem dJ13_bitCount_95d88_46 : decode cJ13_bitCount_95d88 46 = .ok (.ladd, 1) := by decide +kernel
theorem dJ13_bitCount_95d88_47 : decode cJ13_bitCount_95d88 47 = .ok (.lstore_n 0, 1) := by decide +kernel
theorem dJ13_bitCount_95d88_48 : decode cJ13_bitCount_95d88 48 = .ok (.lload_n 0, 1) := by decide +kernel
theorem dJ13_bitCount_95d88_49 : decode cJ13_bitCount_95d88 49 = .ok (.lload_n 0, 1) := by decide +kernel
theorem dJ13_bitCount_95d88_50 : decode cJ13_bitCount_95d88 50 = .ok (.bipush 32, 2) := by decide +kernel
theorem dJ13_bitCount_95d88_52 : decode cJ13_bitCount_95d88 52 = .ok (.lushr, 1) := by decide +kernel
theorem dJ13_bitCount_95d88_53 : decode cJ13_bitCount_95d88 53 = .ok (.ladd, 1) := by decide +kernel
theorem dJ13_bitCount_95d88_54 : decode cJ13_bitCount_95d88 54 = .ok (.lstore_n 0, 1) := by decide +kernel
theorem dJ13_bitCount_95d88_55 : decode cJ13_bitCount_95d88 55 = .ok (.lload_n 0, 1) := by decide +kernel
theorem dJ13_bitCount_95d88_56 : decode cJ13_bitCount_95d88 56 = .ok (.l2i, 1) := by decide +kernel
theorem dJ13_bitCount_95d88_57 : decode cJ13_bitCount_95d88 57 = .ok (.bipush 127, 2) := by decide +kernel
theorem dJ13_bitCount_95d88_59 : decode cJ13_bitCount_95d88 59 = .ok (.iand, 1) := by decide +kernel
theorem dJ13_bitCount_95d88_60 : decode cJ13_bitCount_95d88 60 = .ok (.ireturn, 1) := by decide +kernel
theorem dJ9_max_7cf53_0 : decode cJ9_max_7cf53 0 = .ok (.iload_n 0, 1) := by decide +kernel
theorem dJ9_max_7cf53_1 : decode cJ9_max_7cf53 1 = .ok (.iload_n 1, 1) := by decide +kernel
theorem dJ9_max_7cf53_2 : decode cJ9_max_7cf53 2 = .ok (.if_icmp .lt 7, 3) := by decide +kernel
theorem dJ9_max_7cf53_5 : decode cJ9_max_7cf53 5 = .ok (.iload_n 0, 1) := by decide +kernel
theorem dJ9_max_7cf53_6 : decode cJ9_max_7cf53 6 = .ok (.goto 4, 3) := by decide +kernel
theorem dJ9_max_7cf53_9 : decode cJ9_max_7cf53 9 = .ok (.iload_n 1, 1) := by decide +kernel
theorem dJ9_max_7cf53_10 : decode cJ9_max_7cf53 10 = .ok (.ireturn, 1) := by decide +kernel
theorem dJ9_min_7cf53_0 : decode cJ9_min_7cf53 0 = .ok (.iload_n 0, 1) := by decide +kernel
theorem dJ9_min_7cf53_1 : decode cJ9_min_7cf53 1 = .ok (.iload_n 1, 1) := by decide +kernel
theorem dJ9_min_7cf53_2 : decode cJ9_min_7cf53 2 = .ok (.if_icmp .gt 7, 3) := by decide +kernel
theorem dJ9_min_7cf53_5 : decode cJ9_min_7cf53 5 = .ok (.iload_n 0, 1) := by decide +kernel
theorem dJ9_min_7cf53_6 : decode cJ9_min_7cf53 6 = .ok (.goto 4, 3) := by decide +kernel
theorem dJ9_min_7cf53_9 : decode cJ9_min_7cf53 9 = .ok (.iload_n 1, 1) := by decide +kernel
theorem dJ9_min_7cf53_10 : decode cJ9_min_7cf53 10 = .ok (.ireturn, 1) := by decide +kernel
