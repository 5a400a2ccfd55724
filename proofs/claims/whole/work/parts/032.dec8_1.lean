theorem dX8_colourOf_70 : decode cX8_colourOf 70 = .ok (.bipush 6, 2) := by decide +kernel
theorem dX8_colourOf_72 : decode cX8_colourOf 72 = .ok (.invokestatic 45, 3) := by decide +kernel
theorem dX8_colourOf_75 : decode cX8_colourOf 75 = .ok (.iaload, 1) := by decide +kernel
theorem dX8_colourOf_76 : decode cX8_colourOf 76 = .ok (.if_icmp .ge 62, 3) := by decide +kernel
theorem dX8_colourOf_79 : decode cX8_colourOf 79 = .ok (.iload_n 1, 1) := by decide +kernel
theorem dX8_colourOf_80 : decode cX8_colourOf 80 = .ok (.bipush 10, 2) := by decide +kernel
theorem dX8_colourOf_82 : decode cX8_colourOf 82 = .ok (.iconst 3, 1) := by decide +kernel
theorem dX8_colourOf_83 : decode cX8_colourOf 83 = .ok (.iload 7, 2) := by decide +kernel
theorem dX8_colourOf_85 : decode cX8_colourOf 85 = .ok (.imul, 1) := by decide +kernel
theorem dX8_colourOf_86 : decode cX8_colourOf 86 = .ok (.iadd, 1) := by decide +kernel
theorem dX8_colourOf_87 : decode cX8_colourOf 87 = .ok (.invokestatic 45, 3) := by decide +kernel
theorem dX8_colourOf_90 : decode cX8_colourOf 90 = .ok (.istore 8, 2) := by decide +kernel
theorem dX8_colourOf_92 : decode cX8_colourOf 92 = .ok (.iload 5, 2) := by decide +kernel
theorem dX8_colourOf_94 : decode cX8_colourOf 94 = .ok (.aload_n 0, 1) := by decide +kernel
theorem dX8_colourOf_95 : decode cX8_colourOf 95 = .ok (.getfield 9, 3) := by decide +kernel
theorem dX8_colourOf_98 : decode cX8_colourOf 98 = .ok (.iload 8, 2) := by decide +kernel
theorem dX8_colourOf_100 : decode cX8_colourOf 100 = .ok (.iaload, 1) := by decide +kernel
theorem dX8_colourOf_101 : decode cX8_colourOf 101 = .ok (.aload_n 0, 1) := by decide +kernel
theorem dX8_colourOf_102 : decode cX8_colourOf 102 = .ok (.getfield 9, 3) := by decide +kernel
theorem dX8_colourOf_105 : decode cX8_colourOf 105 = .ok (.iload 8, 2) := by decide +kernel
theorem dX8_colourOf_107 : decode cX8_colourOf 107 = .ok (.iconst 1, 1) := by decide +kernel
theorem dX8_colourOf_108 : decode cX8_colourOf 108 = .ok (.iadd, 1) := by decide +kernel
theorem dX8_colourOf_109 : decode cX8_colourOf 109 = .ok (.iaload, 1) := by decide +kernel
theorem dX8_colourOf_110 : decode cX8_colourOf 110 = .ok (.invokestatic 151, 3) := by decide +kernel
theorem dX8_colourOf_113 : decode cX8_colourOf 113 = .ok (.ifCond .eq 15, 3) := by decide +kernel
theorem dX8_colourOf_116 : decode cX8_colourOf 116 = .ok (.aload_n 0, 1) := by decide +kernel
theorem dX8_colourOf_117 : decode cX8_colourOf 117 = .ok (.getfield 9, 3) := by decide +kernel
theorem dX8_colourOf_120 : decode cX8_colourOf 120 = .ok (.iload 8, 2) := by decide +kernel
theorem dX8_colourOf_122 : decode cX8_colourOf 122 = .ok (.iconst 2, 1) := by decide +kernel
theorem dX8_colourOf_123 : decode cX8_colourOf 123 = .ok (.iadd, 1) := by decide +kernel
theorem dX8_colourOf_124 : decode cX8_colourOf 124 = .ok (.iaload, 1) := by decide +kernel
theorem dX8_colourOf_125 : decode cX8_colourOf 125 = .ok (.goto 5, 3) := by decide +kernel
theorem dX8_colourOf_128 : decode cX8_colourOf 128 = .ok (.iload 6, 2) := by decide +kernel
theorem dX8_colourOf_130 : decode cX8_colourOf 130 = .ok (.istore 6, 2) := by decide +kernel
theorem dX8_colourOf_132 : decode cX8_colourOf 132 = .ok (.iinc 7 1, 3) := by decide +kernel
theorem dX8_colourOf_135 : decode cX8_colourOf 135 = .ok (.goto (-72), 3) := by decide +kernel
theorem dX8_colourOf_138 : decode cX8_colourOf 138 = .ok (.iload 6, 2) := by decide +kernel
theorem dX8_colourOf_140 : decode cX8_colourOf 140 = .ok (.ireturn, 1) := by decide +kernel
theorem dX8_colour_0 : decode cX8_colour 0 = .ok (.aload_n 0, 1) := by decide +kernel
theorem dX8_colour_1 : decode cX8_colour 1 = .ok (.iload_n 1, 1) := by decide +kernel
theorem dX8_colour_2 : decode cX8_colour 2 = .ok (.invokevirtual 120, 3) := by decide +kernel
theorem dX8_colour_5 : decode cX8_colour 5 = .ok (.ifCond .eq 19, 3) := by decide +kernel
theorem dX8_colour_8 : decode cX8_colour 8 = .ok (.iload_n 2, 1) := by decide +kernel
theorem dX8_colour_9 : decode cX8_colour 9 = .ok (.invokestatic 108, 3) := by decide +kernel
theorem dX8_colour_12 : decode cX8_colour 12 = .ok (.ifCond .eq 12, 3) := by decide +kernel
theorem dX8_colour_15 : decode cX8_colour 15 = .ok (.aload_n 0, 1) := by decide +kernel
theorem dX8_colour_16 : decode cX8_colour 16 = .ok (.iload_n 1, 1) := by decide +kernel
theorem dX8_colour_17 : decode cX8_colour 17 = .ok (.iload_n 2, 1) := by decide +kernel
theorem dX8_colour_18 : decode cX8_colour 18 = .ok (.invokevirtual 154, 3) := by decide +kernel
theorem dX8_colour_21 : decode cX8_colour 21 = .ok (.goto 9, 3) := by decide +kernel
theorem dX8_colour_24 : decode cX8_colour 24 = .ok (.aload_n 0, 1) := by decide +kernel
theorem dX8_colour_25 : decode cX8_colour 25 = .ok (.ldc 57, 2) := by decide +kernel
theorem dX8_colour_27 : decode cX8_colour 27 = .ok (.invokevirtual 53, 3) := by decide +kernel
theorem dX8_colour_30 : decode cX8_colour 30 = .ok (.ireturn, 1) := by decide +kernel
theorem dX8_isNear_0 : decode cX8_isNear 0 = .ok (.iconst 0, 1) := by decide +kernel
theorem dX8_isNear_1 : decode cX8_isNear 1 = .ok (.aload_n 0, 1) := by decide +kernel
theorem dX8_isNear_2 : decode cX8_isNear 2 = .ok (.getfield 9, 3) := by decide +kernel
theorem dX8_isNear_5 : decode cX8_isNear 5 = .ok (.iload_n 1, 1) := by decide +kernel
theorem dX8_isNear_6 : decode cX8_isNear 6 = .ok (.iconst 2, 1) := by decide +kernel
theorem dX8_isNear_7 : decode cX8_isNear 7 = .ok (.invokestatic 45, 3) := by decide +kernel
theorem dX8_isNear_10 : decode cX8_isNear 10 = .ok (.iaload, 1) := by decide +kernel
theorem dX8_isNear_11 : decode cX8_isNear 11 = .ok (.aload_n 0, 1) := by decide +kernel
theorem dX8_isNear_12 : decode cX8_isNear 12 = .ok (.getfield 9, 3) := by decide +kernel
theorem dX8_isNear_15 : decode cX8_isNear 15 = .ok (.iconst 4, 1) := by decide +kernel
theorem dX8_isNear_16 : decode cX8_isNear 16 = .ok (.iaload, 1) := by decide +kernel
theorem dX8_isNear_17 : decode cX8_isNear 17 = .ok (.isub, 1) := by decide +kernel
theorem dX8_isNear_18 : decode cX8_isNear 18 = .ok (.invokestatic 157, 3) := by decide +kernel
theorem dX8_isNear_21 : decode cX8_isNear 21 = .ok (.istore 4, 2) := by decide +kernel
theorem dX8_isNear_23 : decode cX8_isNear 23 = .ok (.iload_n 2, 1) := by decide +kernel
theorem dX8_isNear_24 : decode cX8_isNear 24 = .ok (.bipush 16, 2) := by decide +kernel
theorem dX8_isNear_26 : decode cX8_isNear 26 = .ok (.irem, 1) := by decide +kernel
theorem dX8_isNear_27 : decode cX8_isNear 27 = .ok (.iload_n 3, 1) := by decide +kernel
theorem dX8_isNear_28 : decode cX8_isNear 28 = .ok (.bipush 16, 2) := by decide +kernel
theorem dX8_isNear_30 : decode cX8_isNear 30 = .ok (.irem, 1) := by decide +kernel
theorem dX8_isNear_31 : decode cX8_isNear 31 = .ok (.isub, 1) := by decide +kernel
theorem dX8_isNear_32 : decode cX8_isNear 32 = .ok (.istore 5, 2) := by decide +kernel
theorem dX8_isNear_34 : decode cX8_isNear 34 = .ok (.iload_n 2, 1) := by decide +kernel
theorem dX8_isNear_35 : decode cX8_isNear 35 = .ok (.bipush 16, 2) := by decide +kernel
theorem dX8_isNear_37 : decode cX8_isNear 37 = .ok (.idiv, 1) := by decide +kernel
theorem dX8_isNear_38 : decode cX8_isNear 38 = .ok (.iload_n 3, 1) := by decide +kernel
theorem dX8_isNear_39 : decode cX8_isNear 39 = .ok (.bipush 16, 2) := by decide +kernel
theorem dX8_isNear_41 : decode cX8_isNear 41 = .ok (.idiv, 1) := by decide +kernel
theorem dX8_isNear_42 : decode cX8_isNear 42 = .ok (.isub, 1) := by decide +kernel
theorem dX8_isNear_43 : decode cX8_isNear 43 = .ok (.istore 6, 2) := by decide +kernel
theorem dX8_isNear_45 : decode cX8_isNear 45 = .ok (.iload 5, 2) := by decide +kernel
theorem dX8_isNear_47 : decode cX8_isNear 47 = .ok (.iload 5, 2) := by decide +kernel
theorem dX8_isNear_49 : decode cX8_isNear 49 = .ok (.imul, 1) := by decide +kernel
theorem dX8_isNear_50 : decode cX8_isNear 50 = .ok (.iload 6, 2) := by decide +kernel
theorem dX8_isNear_52 : decode cX8_isNear 52 = .ok (.iload 6, 2) := by decide +kernel
theorem dX8_isNear_54 : decode cX8_isNear 54 = .ok (.imul, 1) := by decide +kernel
theorem dX8_isNear_55 : decode cX8_isNear 55 = .ok (.iadd, 1) := by decide +kernel
theorem dX8_isNear_56 : decode cX8_isNear 56 = .ok (.iload 4, 2) := by decide +kernel
theorem dX8_isNear_58 : decode cX8_isNear 58 = .ok (.iload 4, 2) := by decide +kernel
theorem dX8_isNear_60 : decode cX8_isNear 60 = .ok (.imul, 1) := by decide +kernel
theorem dX8_isNear_61 : decode cX8_isNear 61 = .ok (.if_icmp .gt 7, 3) := by decide +kernel
theorem dX8_isNear_64 : decode cX8_isNear 64 = .ok (.iconst 1, 1) := by decide +kernel
theorem dX8_isNear_65 : decode cX8_isNear 65 = .ok (.goto 4, 3) := by decide +kernel
theorem dX8_isNear_68 : decode cX8_isNear 68 = .ok (.iconst 0, 1) := by decide +kernel
theorem dX8_isNear_69 : decode cX8_isNear 69 = .ok (.ireturn, 1) := by decide +kernel
theorem dX8_isOut_0 : decode cX8_isOut 0 = .ok (.iconst 0, 1) := by decide +kernel
theorem dX8_isOut_1 : decode cX8_isOut 1 = .ok (.istore 4, 2) := by decide +kernel
theorem dX8_isOut_3 : decode cX8_isOut 3 = .ok (.iconst 0, 1) := by decide +kernel
theorem dX8_isOut_4 : decode cX8_isOut 4 = .ok (.istore 5, 2) := by decide +kernel
theorem dX8_isOut_6 : decode cX8_isOut 6 = .ok (.iload 5, 2) := by decide +kernel
theorem dX8_isOut_8 : decode cX8_isOut 8 = .ok (.aload_n 0, 1) := by decide +kernel
theorem dX8_isOut_9 : decode cX8_isOut 9 = .ok (.getfield 9, 3) := by decide +kernel
theorem dX8_isOut_12 : decode cX8_isOut 12 = .ok (.iconst 3, 1) := by decide +kernel
theorem dX8_isOut_13 : decode cX8_isOut 13 = .ok (.iaload, 1) := by decide +kernel
theorem dX8_isOut_14 : decode cX8_isOut 14 = .ok (.if_icmp .ge 105, 3) := by decide +kernel
theorem dX8_isOut_17 : decode cX8_isOut 17 = .ok (.sipush 266, 3) := by decide +kernel
theorem dX8_isOut_20 : decode cX8_isOut 20 = .ok (.iconst 5, 1) := by decide +kernel
theorem dX8_isOut_21 : decode cX8_isOut 21 = .ok (.iload 5, 2) := by decide +kernel
theorem dX8_isOut_23 : decode cX8_isOut 23 = .ok (.imul, 1) := by decide +kernel
theorem dX8_isOut_24 : decode cX8_isOut 24 = .ok (.iadd, 1) := by decide +kernel
theorem dX8_isOut_25 : decode cX8_isOut 25 = .ok (.istore 6, 2) := by decide +kernel
theorem dX8_isOut_27 : decode cX8_isOut 27 = .ok (.aload_n 0, 1) := by decide +kernel
theorem dX8_isOut_28 : decode cX8_isOut 28 = .ok (.getfield 9, 3) := by decide +kernel
theorem dX8_isOut_31 : decode cX8_isOut 31 = .ok (.iload 6, 2) := by decide +kernel
theorem dX8_isOut_33 : decode cX8_isOut 33 = .ok (.iaload, 1) := by decide +kernel
theorem dX8_isOut_34 : decode cX8_isOut 34 = .ok (.iload_n 1, 1) := by decide +kernel
theorem dX8_isOut_35 : decode cX8_isOut 35 = .ok (.if_icmp .ne 45, 3) := by decide +kernel
theorem dX8_isOut_38 : decode cX8_isOut 38 = .ok (.iload_n 2, 1) := by decide +kernel
theorem dX8_isOut_39 : decode cX8_isOut 39 = .ok (.aload_n 0, 1) := by decide +kernel
theorem dX8_isOut_40 : decode cX8_isOut 40 = .ok (.getfield 9, 3) := by decide +kernel
theorem dX8_isOut_43 : decode cX8_isOut 43 = .ok (.iload 6, 2) := by decide +kernel
theorem dX8_isOut_45 : decode cX8_isOut 45 = .ok (.iconst 1, 1) := by decide +kernel
theorem dX8_isOut_46 : decode cX8_isOut 46 = .ok (.iadd, 1) := by decide +kernel
theorem dX8_isOut_47 : decode cX8_isOut 47 = .ok (.iaload, 1) := by decide +kernel
theorem dX8_isOut_48 : decode cX8_isOut 48 = .ok (.aload_n 0, 1) := by decide +kernel
theorem dX8_isOut_49 : decode cX8_isOut 49 = .ok (.getfield 9, 3) := by decide +kernel
theorem dX8_isOut_52 : decode cX8_isOut 52 = .ok (.iload 6, 2) := by decide +kernel
theorem dX8_isOut_54 : decode cX8_isOut 54 = .ok (.iconst 2, 1) := by decide +kernel
theorem dX8_isOut_55 : decode cX8_isOut 55 = .ok (.iadd, 1) := by decide +kernel
theorem dX8_isOut_56 : decode cX8_isOut 56 = .ok (.iaload, 1) := by decide +kernel
theorem dX8_isOut_57 : decode cX8_isOut 57 = .ok (.invokestatic 41, 3) := by decide +kernel
theorem dX8_isOut_60 : decode cX8_isOut 60 = .ok (.ifCond .eq 20, 3) := by decide +kernel
theorem dX8_isOut_63 : decode cX8_isOut 63 = .ok (.aload_n 0, 1) := by decide +kernel
theorem dX8_isOut_64 : decode cX8_isOut 64 = .ok (.getfield 9, 3) := by decide +kernel
theorem dX8_isOut_67 : decode cX8_isOut 67 = .ok (.iload 6, 2) := by decide +kernel
theorem dX8_isOut_69 : decode cX8_isOut 69 = .ok (.iconst 3, 1) := by decide +kernel
theorem dX8_isOut_70 : decode cX8_isOut 70 = .ok (.iadd, 1) := by decide +kernel
theorem dX8_isOut_71 : decode cX8_isOut 71 = .ok (.iaload, 1) := by decide +kernel
theorem dX8_isOut_72 : decode cX8_isOut 72 = .ok (.iload_n 3, 1) := by decide +kernel
theorem dX8_isOut_73 : decode cX8_isOut 73 = .ok (.if_icmp .gt 7, 3) := by decide +kernel
theorem dX8_isOut_76 : decode cX8_isOut 76 = .ok (.iconst 1, 1) := by decide +kernel
theorem dX8_isOut_77 : decode cX8_isOut 77 = .ok (.goto 4, 3) := by decide +kernel
theorem dX8_isOut_80 : decode cX8_isOut 80 = .ok (.iconst 0, 1) := by decide +kernel
theorem dX8_isOut_81 : decode cX8_isOut 81 = .ok (.istore 7, 2) := by decide +kernel
theorem dX8_isOut_83 : decode cX8_isOut 83 = .ok (.iload 7, 2) := by decide +kernel
theorem dX8_isOut_85 : decode cX8_isOut 85 = .ok (.ifCond .eq 24, 3) := by decide +kernel
theorem dX8_isOut_88 : decode cX8_isOut 88 = .ok (.aload_n 0, 1) := by decide +kernel
theorem dX8_isOut_89 : decode cX8_isOut 89 = .ok (.getfield 9, 3) := by decide +kernel
theorem dX8_isOut_92 : decode cX8_isOut 92 = .ok (.iload 6, 2) := by decide +kernel
theorem dX8_isOut_94 : decode cX8_isOut 94 = .ok (.iconst 4, 1) := by decide +kernel
theorem dX8_isOut_95 : decode cX8_isOut 95 = .ok (.iadd, 1) := by decide +kernel
theorem dX8_isOut_96 : decode cX8_isOut 96 = .ok (.iaload, 1) := by decide +kernel
theorem dX8_isOut_97 : decode cX8_isOut 97 = .ok (.iconst 1, 1) := by decide +kernel
theorem dX8_isOut_98 : decode cX8_isOut 98 = .ok (.if_icmp .ne 7, 3) := by decide +kernel
theorem dX8_isOut_101 : decode cX8_isOut 101 = .ok (.iconst 1, 1) := by decide +kernel
theorem dX8_isOut_102 : decode cX8_isOut 102 = .ok (.goto 9, 3) := by decide +kernel
theorem dX8_isOut_105 : decode cX8_isOut 105 = .ok (.iconst 0, 1) := by decide +kernel
theorem dX8_isOut_106 : decode cX8_isOut 106 = .ok (.goto 5, 3) := by decide +kernel
theorem dX8_isOut_109 : decode cX8_isOut 109 = .ok (.iload 4, 2) := by decide +kernel
theorem dX8_isOut_111 : decode cX8_isOut 111 = .ok (.istore 4, 2) := by decide +kernel
theorem dX8_isOut_113 : decode cX8_isOut 113 = .ok (.iinc 5 1, 3) := by decide +kernel
theorem dX8_isOut_116 : decode cX8_isOut 116 = .ok (.goto (-110), 3) := by decide +kernel
theorem dX8_isOut_119 : decode cX8_isOut 119 = .ok (.iload 4, 2) := by decide +kernel
theorem dX8_isOut_121 : decode cX8_isOut 121 = .ok (.ireturn, 1) := by decide +kernel
theorem dX8_seenFrom_0 : decode cX8_seenFrom 0 = .ok (.iconst 0, 1) := by decide +kernel
theorem dX8_seenFrom_1 : decode cX8_seenFrom 1 = .ok (.istore_n 2, 1) := by decide +kernel
theorem dX8_seenFrom_2 : decode cX8_seenFrom 2 = .ok (.iconst 0, 1) := by decide +kernel
theorem dX8_seenFrom_3 : decode cX8_seenFrom 3 = .ok (.istore_n 3, 1) := by decide +kernel
theorem dX8_seenFrom_4 : decode cX8_seenFrom 4 = .ok (.iload_n 3, 1) := by decide +kernel
theorem dX8_seenFrom_5 : decode cX8_seenFrom 5 = .ok (.aload_n 0, 1) := by decide +kernel
theorem dX8_seenFrom_6 : decode cX8_seenFrom 6 = .ok (.getfield 9, 3) := by decide +kernel
theorem dX8_seenFrom_9 : decode cX8_seenFrom 9 = .ok (.iconst 0, 1) := by decide +kernel
theorem dX8_seenFrom_10 : decode cX8_seenFrom 10 = .ok (.iaload, 1) := by decide +kernel
theorem dX8_seenFrom_11 : decode cX8_seenFrom 11 = .ok (.if_icmp .ge 77, 3) := by decide +kernel
theorem dX8_seenFrom_14 : decode cX8_seenFrom 14 = .ok (.aload_n 0, 1) := by decide +kernel
theorem dX8_seenFrom_15 : decode cX8_seenFrom 15 = .ok (.iload_n 3, 1) := by decide +kernel
theorem dX8_seenFrom_16 : decode cX8_seenFrom 16 = .ok (.iload_n 1, 1) := by decide +kernel
theorem dX8_seenFrom_17 : decode cX8_seenFrom 17 = .ok (.aload_n 0, 1) := by decide +kernel
theorem dX8_seenFrom_18 : decode cX8_seenFrom 18 = .ok (.getfield 9, 3) := by decide +kernel
theorem dX8_seenFrom_21 : decode cX8_seenFrom 21 = .ok (.iload_n 3, 1) := by decide +kernel
theorem dX8_seenFrom_22 : decode cX8_seenFrom 22 = .ok (.iconst 1, 1) := by decide +kernel
theorem dX8_seenFrom_23 : decode cX8_seenFrom 23 = .ok (.invokestatic 45, 3) := by decide +kernel
theorem dX8_seenFrom_26 : decode cX8_seenFrom 26 = .ok (.iaload, 1) := by decide +kernel
theorem dX8_seenFrom_27 : decode cX8_seenFrom 27 = .ok (.invokevirtual 162, 3) := by decide +kernel
theorem dX8_seenFrom_30 : decode cX8_seenFrom 30 = .ok (.ifCond .eq 34, 3) := by decide +kernel
theorem dX8_seenFrom_33 : decode cX8_seenFrom 33 = .ok (.aload_n 0, 1) := by decide +kernel
theorem dX8_seenFrom_34 : decode cX8_seenFrom 34 = .ok (.iload_n 3, 1) := by decide +kernel
theorem dX8_seenFrom_35 : decode cX8_seenFrom 35 = .ok (.iload_n 1, 1) := by decide +kernel
theorem dX8_seenFrom_36 : decode cX8_seenFrom 36 = .ok (.invokevirtual 154, 3) := by decide +kernel
theorem dX8_seenFrom_39 : decode cX8_seenFrom 39 = .ok (.iconst 3, 1) := by decide +kernel
theorem dX8_seenFrom_40 : decode cX8_seenFrom 40 = .ok (.if_icmp .eq 24, 3) := by decide +kernel
theorem dX8_seenFrom_43 : decode cX8_seenFrom 43 = .ok (.aload_n 0, 1) := by decide +kernel
theorem dX8_seenFrom_44 : decode cX8_seenFrom 44 = .ok (.iload_n 3, 1) := by decide +kernel
theorem dX8_seenFrom_45 : decode cX8_seenFrom 45 = .ok (.aload_n 0, 1) := by decide +kernel
theorem dX8_seenFrom_46 : decode cX8_seenFrom 46 = .ok (.getfield 9, 3) := by decide +kernel
theorem dX8_seenFrom_49 : decode cX8_seenFrom 49 = .ok (.iconst 5, 1) := by decide +kernel
theorem dX8_seenFrom_50 : decode cX8_seenFrom 50 = .ok (.iaload, 1) := by decide +kernel
theorem dX8_seenFrom_51 : decode cX8_seenFrom 51 = .ok (.sipush 999, 3) := by decide +kernel
theorem dX8_seenFrom_54 : decode cX8_seenFrom 54 = .ok (.invokevirtual 165, 3) := by decide +kernel
theorem dX8_seenFrom_57 : decode cX8_seenFrom 57 = .ok (.ifCond .ne 7, 3) := by decide +kernel
theorem dX8_seenFrom_60 : decode cX8_seenFrom 60 = .ok (.iconst 1, 1) := by decide +kernel
theorem dX8_seenFrom_61 : decode cX8_seenFrom 61 = .ok (.goto 4, 3) := by decide +kernel
theorem dX8_seenFrom_64 : decode cX8_seenFrom 64 = .ok (.iconst 0, 1) := by decide +kernel
theorem dX8_seenFrom_65 : decode cX8_seenFrom 65 = .ok (.istore 4, 2) := by decide +kernel
theorem dX8_seenFrom_67 : decode cX8_seenFrom 67 = .ok (.iload_n 2, 1) := by decide +kernel
theorem dX8_seenFrom_68 : decode cX8_seenFrom 68 = .ok (.iload 4, 2) := by decide +kernel
theorem dX8_seenFrom_70 : decode cX8_seenFrom 70 = .ok (.ifCond .eq 9, 3) := by decide +kernel
theorem dX8_seenFrom_73 : decode cX8_seenFrom 73 = .ok (.iconst 1, 1) := by decide +kernel
theorem dX8_seenFrom_74 : decode cX8_seenFrom 74 = .ok (.iload_n 3, 1) := by decide +kernel
theorem dX8_seenFrom_75 : decode cX8_seenFrom 75 = .ok (.ishl, 1) := by decide +kernel
theorem dX8_seenFrom_76 : decode cX8_seenFrom 76 = .ok (.goto 4, 3) := by decide +kernel
theorem dX8_seenFrom_79 : decode cX8_seenFrom 79 = .ok (.iconst 0, 1) := by decide +kernel
theorem dX8_seenFrom_80 : decode cX8_seenFrom 80 = .ok (.ior, 1) := by decide +kernel
theorem dX8_seenFrom_81 : decode cX8_seenFrom 81 = .ok (.istore_n 2, 1) := by decide +kernel
theorem dX8_seenFrom_82 : decode cX8_seenFrom 82 = .ok (.iinc 3 1, 3) := by decide +kernel
theorem dX8_seenFrom_85 : decode cX8_seenFrom 85 = .ok (.goto (-81), 3) := by decide +kernel
theorem dX8_seenFrom_88 : decode cX8_seenFrom 88 = .ok (.iload_n 2, 1) := by decide +kernel
theorem dX8_seenFrom_89 : decode cX8_seenFrom 89 = .ok (.ireturn, 1) := by decide +kernel
theorem dX8_seen_0 : decode cX8_seen 0 = .ok (.iload_n 1, 1) := by decide +kernel
theorem dX8_seen_1 : decode cX8_seen 1 = .ok (.invokestatic 108, 3) := by decide +kernel
theorem dX8_seen_4 : decode cX8_seen 4 = .ok (.ifCond .eq 11, 3) := by decide +kernel
theorem dX8_seen_7 : decode cX8_seen 7 = .ok (.aload_n 0, 1) := by decide +kernel
theorem dX8_seen_8 : decode cX8_seen 8 = .ok (.iload_n 1, 1) := by decide +kernel
theorem dX8_seen_9 : decode cX8_seen 9 = .ok (.invokevirtual 168, 3) := by decide +kernel
theorem dX8_seen_12 : decode cX8_seen 12 = .ok (.goto 9, 3) := by decide +kernel
theorem dX8_seen_15 : decode cX8_seen 15 = .ok (.aload_n 0, 1) := by decide +kernel
theorem dX8_seen_16 : decode cX8_seen 16 = .ok (.ldc 57, 2) := by decide +kernel
theorem dX8_seen_18 : decode cX8_seen 18 = .ok (.invokevirtual 53, 3) := by decide +kernel
theorem dX8_seen_21 : decode cX8_seen 21 = .ok (.ireturn, 1) := by decide +kernel
theorem dX8_becomes_0 : decode cX8_becomes 0 = .ok (.aload_n 0, 1) := by decide +kernel
theorem dX8_becomes_1 : decode cX8_becomes 1 = .ok (.invokevirtual 114, 3) := by decide +kernel
theorem dX8_becomes_4 : decode cX8_becomes 4 = .ok (.aload_n 0, 1) := by decide +kernel
theorem dX8_becomes_5 : decode cX8_becomes 5 = .ok (.getfield 9, 3) := by decide +kernel
theorem dX8_becomes_8 : decode cX8_becomes 8 = .ok (.iload_n 1, 1) := by decide +kernel
theorem dX8_becomes_9 : decode cX8_becomes 9 = .ok (.iaload, 1) := by decide +kernel
theorem dX8_becomes_10 : decode cX8_becomes 10 = .ok (.istore_n 3, 1) := by decide +kernel
theorem dX8_becomes_11 : decode cX8_becomes 11 = .ok (.aload_n 0, 1) := by decide +kernel
theorem dX8_becomes_12 : decode cX8_becomes 12 = .ok (.getfield 9, 3) := by decide +kernel
theorem dX8_becomes_15 : decode cX8_becomes 15 = .ok (.iload_n 1, 1) := by decide +kernel
theorem dX8_becomes_16 : decode cX8_becomes 16 = .ok (.iload_n 2, 1) := by decide +kernel
theorem dX8_becomes_17 : decode cX8_becomes 17 = .ok (.iastore, 1) := by decide +kernel
theorem dX8_becomes_18 : decode cX8_becomes 18 = .ok (.iload_n 3, 1) := by decide +kernel
theorem dX8_becomes_19 : decode cX8_becomes 19 = .ok (.ireturn, 1) := by decide +kernel
theorem dX8_haze_0 : decode cX8_haze 0 = .ok (.iload_n 1, 1) := by decide +kernel
theorem dX8_haze_1 : decode cX8_haze 1 = .ok (.iconst 0, 1) := by decide +kernel
theorem dX8_haze_2 : decode cX8_haze 2 = .ok (.bipush 15, 2) := by decide +kernel
theorem dX8_haze_4 : decode cX8_haze 4 = .ok (.invokestatic 41, 3) := by decide +kernel
theorem dX8_haze_7 : decode cX8_haze 7 = .ok (.ifCond .eq 12, 3) := by decide +kernel
theorem dX8_haze_10 : decode cX8_haze 10 = .ok (.aload_n 0, 1) := by decide +kernel
theorem dX8_haze_11 : decode cX8_haze 11 = .ok (.iconst 4, 1) := by decide +kernel
theorem dX8_haze_12 : decode cX8_haze 12 = .ok (.iload_n 1, 1) := by decide +kernel
theorem dX8_haze_13 : decode cX8_haze 13 = .ok (.invokevirtual 171, 3) := by decide +kernel
theorem dX8_haze_16 : decode cX8_haze 16 = .ok (.goto 9, 3) := by decide +kernel
theorem dX8_haze_19 : decode cX8_haze 19 = .ok (.aload_n 0, 1) := by decide +kernel
theorem dX8_haze_20 : decode cX8_haze 20 = .ok (.ldc 57, 2) := by decide +kernel
theorem dX8_haze_22 : decode cX8_haze 22 = .ok (.invokevirtual 53, 3) := by decide +kernel
theorem dX8_haze_25 : decode cX8_haze 25 = .ok (.ireturn, 1) := by decide +kernel
theorem dX8_day_0 : decode cX8_day 0 = .ok (.iload_n 1, 1) := by decide +kernel
theorem dX8_day_1 : decode cX8_day 1 = .ok (.iconst 0, 1) := by decide +kernel
theorem dX8_day_2 : decode cX8_day 2 = .ok (.bipush 19, 2) := by decide +kernel
theorem dX8_day_4 : decode cX8_day 4 = .ok (.invokestatic 41, 3) := by decide +kernel
theorem dX8_day_7 : decode cX8_day 7 = .ok (.ifCond .eq 12, 3) := by decide +kernel
theorem dX8_day_10 : decode cX8_day 10 = .ok (.aload_n 0, 1) := by decide +kernel
theorem dX8_day_11 : decode cX8_day 11 = .ok (.iconst 5, 1) := by decide +kernel
theorem dX8_day_12 : decode cX8_day 12 = .ok (.iload_n 1, 1) := by decide +kernel
theorem dX8_day_13 : decode cX8_day 13 = .ok (.invokevirtual 171, 3) := by decide +kernel
theorem dX8_day_16 : decode cX8_day 16 = .ok (.goto 9, 3) := by decide +kernel
theorem dX8_day_19 : decode cX8_day 19 = .ok (.aload_n 0, 1) := by decide +kernel
theorem dX8_day_20 : decode cX8_day 20 = .ok (.ldc 57, 2) := by decide +kernel
theorem dX8_day_22 : decode cX8_day 22 = .ok (.invokevirtual 53, 3) := by decide +kernel
theorem dX8_day_25 : decode cX8_day 25 = .ok (.ireturn, 1) := by decide +kernel
theorem dX8_alike_0 : decode cX8_alike 0 = .ok (.iconst 0, 1) := by decide +kernel
theorem dX8_alike_1 : decode cX8_alike 1 = .ok (.istore_n 3, 1) := by decide +kernel
theorem dX8_alike_2 : decode cX8_alike 2 = .ok (.iconst 0, 1) := by decide +kernel
theorem dX8_alike_3 : decode cX8_alike 3 = .ok (.istore 4, 2) := by decide +kernel
theorem dX8_alike_5 : decode cX8_alike 5 = .ok (.iload 4, 2) := by decide +kernel
theorem dX8_alike_7 : decode cX8_alike 7 = .ok (.aload_n 0, 1) := by decide +kernel
theorem dX8_alike_8 : decode cX8_alike 8 = .ok (.getfield 9, 3) := by decide +kernel
theorem dX8_alike_11 : decode cX8_alike 11 = .ok (.iload_n 1, 1) := by decide +kernel
theorem dX8_alike_12 : decode cX8_alike 12 = .ok (.iconst 4, 1) := by decide +kernel
theorem dX8_alike_13 : decode cX8_alike 13 = .ok (.invokestatic 45, 3) := by decide +kernel
theorem dX8_alike_16 : decode cX8_alike 16 = .ok (.iaload, 1) := by decide +kernel
theorem dX8_alike_17 : decode cX8_alike 17 = .ok (.if_icmp .ge 79, 3) := by decide +kernel
theorem dX8_alike_20 : decode cX8_alike 20 = .ok (.iconst 0, 1) := by decide +kernel
theorem dX8_alike_21 : decode cX8_alike 21 = .ok (.istore 5, 2) := by decide +kernel
theorem dX8_alike_23 : decode cX8_alike 23 = .ok (.iload 5, 2) := by decide +kernel
theorem dX8_alike_25 : decode cX8_alike 25 = .ok (.aload_n 0, 1) := by decide +kernel
theorem dX8_alike_26 : decode cX8_alike 26 = .ok (.getfield 9, 3) := by decide +kernel
theorem dX8_alike_29 : decode cX8_alike 29 = .ok (.iload_n 2, 1) := by decide +kernel
theorem dX8_alike_30 : decode cX8_alike 30 = .ok (.iconst 4, 1) := by decide +kernel
theorem dX8_alike_31 : decode cX8_alike 31 = .ok (.invokestatic 45, 3) := by decide +kernel
theorem dX8_alike_34 : decode cX8_alike 34 = .ok (.iaload, 1) := by decide +kernel
theorem dX8_alike_35 : decode cX8_alike 35 = .ok (.if_icmp .ge 55, 3) := by decide +kernel
theorem dX8_alike_38 : decode cX8_alike 38 = .ok (.iconst 0, 1) := by decide +kernel
theorem dX8_alike_39 : decode cX8_alike 39 = .ok (.istore 6, 2) := by decide +kernel
theorem dX8_alike_41 : decode cX8_alike 41 = .ok (.iload 6, 2) := by decide +kernel
theorem dX8_alike_43 : decode cX8_alike 43 = .ok (.bipush 60, 2) := by decide +kernel
theorem dX8_alike_45 : decode cX8_alike 45 = .ok (.if_icmp .ge 32, 3) := by decide +kernel
theorem dX8_alike_48 : decode cX8_alike 48 = .ok (.aload_n 0, 1) := by decide +kernel
theorem dX8_alike_49 : decode cX8_alike 49 = .ok (.iload_n 1, 1) := by decide +kernel
theorem dX8_alike_50 : decode cX8_alike 50 = .ok (.iload 4, 2) := by decide +kernel
theorem dX8_alike_52 : decode cX8_alike 52 = .ok (.iload 6, 2) := by decide +kernel
theorem dX8_alike_54 : decode cX8_alike 54 = .ok (.iadd, 1) := by decide +kernel
theorem dX8_alike_55 : decode cX8_alike 55 = .ok (.invokevirtual 127, 3) := by decide +kernel
theorem dX8_alike_58 : decode cX8_alike 58 = .ok (.aload_n 0, 1) := by decide +kernel
theorem dX8_alike_59 : decode cX8_alike 59 = .ok (.iload_n 2, 1) := by decide +kernel
theorem dX8_alike_60 : decode cX8_alike 60 = .ok (.iload 5, 2) := by decide +kernel
theorem dX8_alike_62 : decode cX8_alike 62 = .ok (.iload 6, 2) := by decide +kernel
theorem dX8_alike_64 : decode cX8_alike 64 = .ok (.iadd, 1) := by decide +kernel
theorem dX8_alike_65 : decode cX8_alike 65 = .ok (.invokevirtual 127, 3) := by decide +kernel
theorem dX8_alike_68 : decode cX8_alike 68 = .ok (.if_icmp .ne 9, 3) := by decide +kernel
theorem dX8_alike_71 : decode cX8_alike 71 = .ok (.iinc 6 1, 3) := by decide +kernel
theorem dX8_alike_74 : decode cX8_alike 74 = .ok (.goto (-33), 3) := by decide +kernel
theorem dX8_alike_77 : decode cX8_alike 77 = .ok (.iload_n 3, 1) := by decide +kernel
theorem dX8_alike_78 : decode cX8_alike 78 = .ok (.iload 6, 2) := by decide +kernel
theorem dX8_alike_80 : decode cX8_alike 80 = .ok (.invokestatic 157, 3) := by decide +kernel
theorem dX8_alike_83 : decode cX8_alike 83 = .ok (.istore_n 3, 1) := by decide +kernel
theorem dX8_alike_84 : decode cX8_alike 84 = .ok (.iinc 5 1, 3) := by decide +kernel
theorem dX8_alike_87 : decode cX8_alike 87 = .ok (.goto (-64), 3) := by decide +kernel
theorem dX8_alike_90 : decode cX8_alike 90 = .ok (.iinc 4 1, 3) := by decide +kernel
theorem dX8_alike_93 : decode cX8_alike 93 = .ok (.goto (-88), 3) := by decide +kernel
theorem dX8_alike_96 : decode cX8_alike 96 = .ok (.iload_n 3, 1) := by decide +kernel
theorem dX8_alike_97 : decode cX8_alike 97 = .ok (.ireturn, 1) := by decide +kernel
theorem dX8_apart_0 : decode cX8_apart 0 = .ok (.aload_n 0, 1) := by decide +kernel
theorem dX8_apart_1 : decode cX8_apart 1 = .ok (.iload_n 1, 1) := by decide +kernel
theorem dX8_apart_2 : decode cX8_apart 2 = .ok (.invokevirtual 120, 3) := by decide +kernel
theorem dX8_apart_5 : decode cX8_apart 5 = .ok (.ifCond .eq 11, 3) := by decide +kernel
theorem dX8_apart_8 : decode cX8_apart 8 = .ok (.aload_n 0, 1) := by decide +kernel
theorem dX8_apart_9 : decode cX8_apart 9 = .ok (.iload_n 2, 1) := by decide +kernel
theorem dX8_apart_10 : decode cX8_apart 10 = .ok (.invokevirtual 120, 3) := by decide +kernel
theorem dX8_apart_13 : decode cX8_apart 13 = .ok (.ifCond .ne 10, 3) := by decide +kernel
theorem dX8_apart_16 : decode cX8_apart 16 = .ok (.aload_n 0, 1) := by decide +kernel
theorem dX8_apart_17 : decode cX8_apart 17 = .ok (.ldc 57, 2) := by decide +kernel
theorem dX8_apart_19 : decode cX8_apart 19 = .ok (.invokevirtual 53, 3) := by decide +kernel
theorem dX8_apart_22 : decode cX8_apart 22 = .ok (.ireturn, 1) := by decide +kernel
theorem dX8_apart_23 : decode cX8_apart 23 = .ok (.iload_n 1, 1) := by decide +kernel
theorem dX8_apart_24 : decode cX8_apart 24 = .ok (.iload_n 2, 1) := by decide +kernel
theorem dX8_apart_25 : decode cX8_apart 25 = .ok (.if_icmp .ne 10, 3) := by decide +kernel
theorem dX8_apart_28 : decode cX8_apart 28 = .ok (.aload_n 0, 1) := by decide +kernel
theorem dX8_apart_29 : decode cX8_apart 29 = .ok (.ldc 147, 2) := by decide +kernel
theorem dX8_apart_31 : decode cX8_apart 31 = .ok (.invokevirtual 53, 3) := by decide +kernel
theorem dX8_apart_34 : decode cX8_apart 34 = .ok (.ireturn, 1) := by decide +kernel
theorem dX8_apart_35 : decode cX8_apart 35 = .ok (.aload_n 0, 1) := by decide +kernel
theorem dX8_apart_36 : decode cX8_apart 36 = .ok (.iload_n 1, 1) := by decide +kernel
theorem dX8_apart_37 : decode cX8_apart 37 = .ok (.iload_n 2, 1) := by decide +kernel
theorem dX8_apart_38 : decode cX8_apart 38 = .ok (.invokevirtual 174, 3) := by decide +kernel
theorem dX8_apart_41 : decode cX8_apart 41 = .ok (.istore_n 3, 1) := by decide +kernel
theorem dX8_apart_42 : decode cX8_apart 42 = .ok (.iload_n 3, 1) := by decide +kernel
theorem dX8_apart_43 : decode cX8_apart 43 = .ok (.bipush 60, 2) := by decide +kernel
theorem dX8_apart_45 : decode cX8_apart 45 = .ok (.if_icmp .lt 12, 3) := by decide +kernel
theorem dX8_apart_48 : decode cX8_apart 48 = .ok (.aload_n 0, 1) := by decide +kernel
theorem dX8_apart_49 : decode cX8_apart 49 = .ok (.ldc 52, 2) := by decide +kernel
theorem dX8_apart_51 : decode cX8_apart 51 = .ok (.invokevirtual 53, 3) := by decide +kernel
theorem dX8_apart_54 : decode cX8_apart 54 = .ok (.goto 6, 3) := by decide +kernel
theorem dX8_apart_57 : decode cX8_apart 57 = .ok (.iload_n 3, 1) := by decide +kernel
theorem dX8_apart_58 : decode cX8_apart 58 = .ok (.iconst 1, 1) := by decide +kernel
theorem dX8_apart_59 : decode cX8_apart 59 = .ok (.iadd, 1) := by decide +kernel
theorem dX8_apart_60 : decode cX8_apart 60 = .ok (.ireturn, 1) := by decide +kernel
theorem dX8_allApart_0 : decode cX8_allApart 0 = .ok (.iload_n 1, 1) := by decide +kernel
theorem dX8_allApart_1 : decode cX8_allApart 1 = .ok (.ifCond .lt 15, 3) := by decide +kernel
theorem dX8_allApart_4 : decode cX8_allApart 4 = .ok (.iload_n 1, 1) := by decide +kernel
theorem dX8_allApart_5 : decode cX8_allApart 5 = .ok (.iconst 1, 1) := by decide +kernel
theorem dX8_allApart_6 : decode cX8_allApart 6 = .ok (.aload_n 0, 1) := by decide +kernel
theorem dX8_allApart_7 : decode cX8_allApart 7 = .ok (.getfield 9, 3) := by decide +kernel
theorem dX8_allApart_10 : decode cX8_allApart 10 = .ok (.iconst 0, 1) := by decide +kernel
theorem dX8_allApart_11 : decode cX8_allApart 11 = .ok (.iaload, 1) := by decide +kernel
theorem dX8_allApart_12 : decode cX8_allApart 12 = .ok (.ishl, 1) := by decide +kernel
theorem dX8_allApart_13 : decode cX8_allApart 13 = .ok (.if_icmp .lt 10, 3) := by decide +kernel
theorem dX8_allApart_16 : decode cX8_allApart 16 = .ok (.aload_n 0, 1) := by decide +kernel
theorem dX8_allApart_17 : decode cX8_allApart 17 = .ok (.ldc 57, 2) := by decide +kernel
theorem dX8_allApart_19 : decode cX8_allApart 19 = .ok (.invokevirtual 53, 3) := by decide +kernel
theorem dX8_allApart_22 : decode cX8_allApart 22 = .ok (.ireturn, 1) := by decide +kernel
theorem dX8_allApart_23 : decode cX8_allApart 23 = .ok (.iconst 0, 1) := by decide +kernel
theorem dX8_allApart_24 : decode cX8_allApart 24 = .ok (.istore_n 2, 1) := by decide +kernel
theorem dX8_allApart_25 : decode cX8_allApart 25 = .ok (.iconst 0, 1) := by decide +kernel
theorem dX8_allApart_26 : decode cX8_allApart 26 = .ok (.istore_n 3, 1) := by decide +kernel
theorem dX8_allApart_27 : decode cX8_allApart 27 = .ok (.iload_n 3, 1) := by decide +kernel
theorem dX8_allApart_28 : decode cX8_allApart 28 = .ok (.aload_n 0, 1) := by decide +kernel
theorem dX8_allApart_29 : decode cX8_allApart 29 = .ok (.getfield 9, 3) := by decide +kernel
theorem dX8_allApart_32 : decode cX8_allApart 32 = .ok (.iconst 0, 1) := by decide +kernel
theorem dX8_allApart_33 : decode cX8_allApart 33 = .ok (.iaload, 1) := by decide +kernel
theorem dX8_allApart_34 : decode cX8_allApart 34 = .ok (.if_icmp .ge 66, 3) := by decide +kernel
theorem dX8_allApart_37 : decode cX8_allApart 37 = .ok (.iload_n 3, 1) := by decide +kernel
theorem dX8_allApart_38 : decode cX8_allApart 38 = .ok (.iconst 1, 1) := by decide +kernel
theorem dX8_allApart_39 : decode cX8_allApart 39 = .ok (.iadd, 1) := by decide +kernel
theorem dX8_allApart_40 : decode cX8_allApart 40 = .ok (.istore 4, 2) := by decide +kernel
theorem dX8_allApart_42 : decode cX8_allApart 42 = .ok (.iload 4, 2) := by decide +kernel
theorem dX8_allApart_44 : decode cX8_allApart 44 = .ok (.aload_n 0, 1) := by decide +kernel
theorem dX8_allApart_45 : decode cX8_allApart 45 = .ok (.getfield 9, 3) := by decide +kernel
theorem dX8_allApart_48 : decode cX8_allApart 48 = .ok (.iconst 0, 1) := by decide +kernel
theorem dX8_allApart_49 : decode cX8_allApart 49 = .ok (.iaload, 1) := by decide +kernel
theorem dX8_allApart_50 : decode cX8_allApart 50 = .ok (.if_icmp .ge 44, 3) := by decide +kernel
theorem dX8_allApart_53 : decode cX8_allApart 53 = .ok (.iload_n 1, 1) := by decide +kernel
theorem dX8_allApart_54 : decode cX8_allApart 54 = .ok (.iload_n 3, 1) := by decide +kernel
theorem dX8_allApart_55 : decode cX8_allApart 55 = .ok (.ishr, 1) := by decide +kernel
theorem dX8_allApart_56 : decode cX8_allApart 56 = .ok (.iconst 1, 1) := by decide +kernel
theorem dX8_allApart_57 : decode cX8_allApart 57 = .ok (.iand, 1) := by decide +kernel
theorem dX8_allApart_58 : decode cX8_allApart 58 = .ok (.iconst 1, 1) := by decide +kernel
theorem dX8_allApart_59 : decode cX8_allApart 59 = .ok (.if_icmp .ne 27, 3) := by decide +kernel
theorem dX8_allApart_62 : decode cX8_allApart 62 = .ok (.iload_n 1, 1) := by decide +kernel
theorem dX8_allApart_63 : decode cX8_allApart 63 = .ok (.iload 4, 2) := by decide +kernel
theorem dX8_allApart_65 : decode cX8_allApart 65 = .ok (.ishr, 1) := by decide +kernel
theorem dX8_allApart_66 : decode cX8_allApart 66 = .ok (.iconst 1, 1) := by decide +kernel
theorem dX8_allApart_67 : decode cX8_allApart 67 = .ok (.iand, 1) := by decide +kernel
theorem dX8_allApart_68 : decode cX8_allApart 68 = .ok (.iconst 1, 1) := by decide +kernel
theorem dX8_allApart_69 : decode cX8_allApart 69 = .ok (.if_icmp .ne 17, 3) := by decide +kernel
theorem dX8_allApart_72 : decode cX8_allApart 72 = .ok (.iload_n 2, 1) := by decide +kernel
theorem dX8_allApart_73 : decode cX8_allApart 73 = .ok (.aload_n 0, 1) := by decide +kernel
theorem dX8_allApart_74 : decode cX8_allApart 74 = .ok (.iload_n 3, 1) := by decide +kernel
theorem dX8_allApart_75 : decode cX8_allApart 75 = .ok (.iload 4, 2) := by decide +kernel
theorem dX8_allApart_77 : decode cX8_allApart 77 = .ok (.invokevirtual 174, 3) := by decide +kernel
theorem dX8_allApart_80 : decode cX8_allApart 80 = .ok (.invokestatic 157, 3) := by decide +kernel
theorem dX8_allApart_83 : decode cX8_allApart 83 = .ok (.goto 4, 3) := by decide +kernel
theorem dX8_allApart_86 : decode cX8_allApart 86 = .ok (.iload_n 2, 1) := by decide +kernel
theorem dX8_allApart_87 : decode cX8_allApart 87 = .ok (.istore_n 2, 1) := by decide +kernel
theorem dX8_allApart_88 : decode cX8_allApart 88 = .ok (.iinc 4 1, 3) := by decide +kernel
theorem dX8_allApart_91 : decode cX8_allApart 91 = .ok (.goto (-49), 3) := by decide +kernel
theorem dX8_allApart_94 : decode cX8_allApart 94 = .ok (.iinc 3 1, 3) := by decide +kernel
theorem dX8_allApart_97 : decode cX8_allApart 97 = .ok (.goto (-70), 3) := by decide +kernel
theorem dX8_allApart_100 : decode cX8_allApart 100 = .ok (.iload_n 2, 1) := by decide +kernel
theorem dX8_allApart_101 : decode cX8_allApart 101 = .ok (.bipush 60, 2) := by decide +kernel
theorem dX8_allApart_103 : decode cX8_allApart 103 = .ok (.if_icmp .lt 12, 3) := by decide +kernel
theorem dX8_allApart_106 : decode cX8_allApart 106 = .ok (.aload_n 0, 1) := by decide +kernel
theorem dX8_allApart_107 : decode cX8_allApart 107 = .ok (.ldc 52, 2) := by decide +kernel
theorem dX8_allApart_109 : decode cX8_allApart 109 = .ok (.invokevirtual 53, 3) := by decide +kernel
theorem dX8_allApart_112 : decode cX8_allApart 112 = .ok (.goto 6, 3) := by decide +kernel
theorem dX8_allApart_115 : decode cX8_allApart 115 = .ok (.iload_n 2, 1) := by decide +kernel
theorem dX8_allApart_116 : decode cX8_allApart 116 = .ok (.iconst 1, 1) := by decide +kernel
theorem dX8_allApart_117 : decode cX8_allApart 117 = .ok (.iadd, 1) := by decide +kernel
theorem dX8_allApart_118 : decode cX8_allApart 118 = .ok (.ireturn, 1) := by decide +kernel
theorem dX8_fitsFrom_0 : decode cX8_fitsFrom 0 = .ok (.iconst 0, 1) := by decide +kernel
theorem dX8_fitsFrom_1 : decode cX8_fitsFrom 1 = .ok (.istore 4, 2) := by decide +kernel
theorem dX8_fitsFrom_3 : decode cX8_fitsFrom 3 = .ok (.iload 4, 2) := by decide +kernel
theorem dX8_fitsFrom_5 : decode cX8_fitsFrom 5 = .ok (.aload_n 0, 1) := by decide +kernel
theorem dX8_fitsFrom_6 : decode cX8_fitsFrom 6 = .ok (.getfield 22, 3) := by decide +kernel
theorem dX8_fitsFrom_9 : decode cX8_fitsFrom 9 = .ok (.iload_n 3, 1) := by decide +kernel
theorem dX8_fitsFrom_10 : decode cX8_fitsFrom 10 = .ok (.iaload, 1) := by decide +kernel
theorem dX8_fitsFrom_11 : decode cX8_fitsFrom 11 = .ok (.if_icmp .ge 43, 3) := by decide +kernel
theorem dX8_fitsFrom_14 : decode cX8_fitsFrom 14 = .ok (.aload_n 0, 1) := by decide +kernel
theorem dX8_fitsFrom_15 : decode cX8_fitsFrom 15 = .ok (.iload_n 1, 1) := by decide +kernel
theorem dX8_fitsFrom_16 : decode cX8_fitsFrom 16 = .ok (.iload_n 2, 1) := by decide +kernel
theorem dX8_fitsFrom_17 : decode cX8_fitsFrom 17 = .ok (.iload 4, 2) := by decide +kernel
theorem dX8_fitsFrom_19 : decode cX8_fitsFrom 19 = .ok (.iadd, 1) := by decide +kernel
theorem dX8_fitsFrom_20 : decode cX8_fitsFrom 20 = .ok (.invokevirtual 127, 3) := by decide +kernel
theorem dX8_fitsFrom_23 : decode cX8_fitsFrom 23 = .ok (.aload_n 0, 1) := by decide +kernel
theorem dX8_fitsFrom_24 : decode cX8_fitsFrom 24 = .ok (.getfield 25, 3) := by decide +kernel
theorem dX8_fitsFrom_27 : decode cX8_fitsFrom 27 = .ok (.bipush 30, 2) := by decide +kernel
theorem dX8_fitsFrom_29 : decode cX8_fitsFrom 29 = .ok (.iload_n 3, 1) := by decide +kernel
theorem dX8_fitsFrom_30 : decode cX8_fitsFrom 30 = .ok (.imul, 1) := by decide +kernel
theorem dX8_fitsFrom_31 : decode cX8_fitsFrom 31 = .ok (.iload 4, 2) := by decide +kernel
theorem dX8_fitsFrom_33 : decode cX8_fitsFrom 33 = .ok (.iadd, 1) := by decide +kernel
theorem dX8_fitsFrom_34 : decode cX8_fitsFrom 34 = .ok (.iaload, 1) := by decide +kernel
theorem dX8_fitsFrom_35 : decode cX8_fitsFrom 35 = .ok (.ifCond .eq 7, 3) := by decide +kernel
theorem dX8_fitsFrom_38 : decode cX8_fitsFrom 38 = .ok (.iconst 1, 1) := by decide +kernel
theorem dX8_fitsFrom_39 : decode cX8_fitsFrom 39 = .ok (.goto 4, 3) := by decide +kernel
theorem dX8_fitsFrom_42 : decode cX8_fitsFrom 42 = .ok (.iconst 0, 1) := by decide +kernel
theorem dX8_fitsFrom_43 : decode cX8_fitsFrom 43 = .ok (.if_icmp .eq 5, 3) := by decide +kernel
theorem dX8_fitsFrom_46 : decode cX8_fitsFrom 46 = .ok (.iconst 0, 1) := by decide +kernel
theorem dX8_fitsFrom_47 : decode cX8_fitsFrom 47 = .ok (.ireturn, 1) := by decide +kernel
theorem dX8_fitsFrom_48 : decode cX8_fitsFrom 48 = .ok (.iinc 4 1, 3) := by decide +kernel
theorem dX8_fitsFrom_51 : decode cX8_fitsFrom 51 = .ok (.goto (-48), 3) := by decide +kernel
theorem dX8_fitsFrom_54 : decode cX8_fitsFrom 54 = .ok (.iconst 1, 1) := by decide +kernel
theorem dX8_fitsFrom_55 : decode cX8_fitsFrom 55 = .ok (.ireturn, 1) := by decide +kernel
theorem dX8_fits_0 : decode cX8_fits 0 = .ok (.iload_n 1, 1) := by decide +kernel
theorem dX8_fits_1 : decode cX8_fits 1 = .ok (.invokestatic 177, 3) := by decide +kernel
theorem dX8_fits_4 : decode cX8_fits 4 = .ok (.ifCond .ne 10, 3) := by decide +kernel
theorem dX8_fits_7 : decode cX8_fits 7 = .ok (.aload_n 0, 1) := by decide +kernel
theorem dX8_fits_8 : decode cX8_fits 8 = .ok (.ldc 57, 2) := by decide +kernel
theorem dX8_fits_10 : decode cX8_fits 10 = .ok (.invokevirtual 53, 3) := by decide +kernel
theorem dX8_fits_13 : decode cX8_fits 13 = .ok (.ireturn, 1) := by decide +kernel
theorem dX8_fits_14 : decode cX8_fits 14 = .ok (.aload_n 0, 1) := by decide +kernel
theorem dX8_fits_15 : decode cX8_fits 15 = .ok (.getfield 19, 3) := by decide +kernel
theorem dX8_fits_18 : decode cX8_fits 18 = .ok (.iload_n 1, 1) := by decide +kernel
theorem dX8_fits_19 : decode cX8_fits 19 = .ok (.iaload, 1) := by decide +kernel
theorem dX8_fits_20 : decode cX8_fits 20 = .ok (.ifCond .ne 10, 3) := by decide +kernel
theorem dX8_fits_23 : decode cX8_fits 23 = .ok (.aload_n 0, 1) := by decide +kernel
theorem dX8_fits_24 : decode cX8_fits 24 = .ok (.ldc 180, 2) := by decide +kernel
theorem dX8_fits_26 : decode cX8_fits 26 = .ok (.invokevirtual 53, 3) := by decide +kernel
theorem dX8_fits_29 : decode cX8_fits 29 = .ok (.ireturn, 1) := by decide +kernel
theorem dX8_fits_30 : decode cX8_fits 30 = .ok (.iconst 0, 1) := by decide +kernel
theorem dX8_fits_31 : decode cX8_fits 31 = .ok (.istore_n 2, 1) := by decide +kernel
theorem dX8_fits_32 : decode cX8_fits 32 = .ok (.iconst 0, 1) := by decide +kernel
theorem dX8_fits_33 : decode cX8_fits 33 = .ok (.istore_n 3, 1) := by decide +kernel
theorem dX8_fits_34 : decode cX8_fits 34 = .ok (.iload_n 3, 1) := by decide +kernel
theorem dX8_fits_35 : decode cX8_fits 35 = .ok (.aload_n 0, 1) := by decide +kernel
theorem dX8_fits_36 : decode cX8_fits 36 = .ok (.getfield 9, 3) := by decide +kernel
theorem dX8_fits_39 : decode cX8_fits 39 = .ok (.iconst 0, 1) := by decide +kernel
theorem dX8_fits_40 : decode cX8_fits 40 = .ok (.iaload, 1) := by decide +kernel
theorem dX8_fits_41 : decode cX8_fits 41 = .ok (.if_icmp .ge 54, 3) := by decide +kernel
theorem dX8_fits_44 : decode cX8_fits 44 = .ok (.iconst 0, 1) := by decide +kernel
theorem dX8_fits_45 : decode cX8_fits 45 = .ok (.istore 4, 2) := by decide +kernel
theorem dX8_fits_47 : decode cX8_fits 47 = .ok (.iload 4, 2) := by decide +kernel
theorem dX8_fits_49 : decode cX8_fits 49 = .ok (.aload_n 0, 1) := by decide +kernel
theorem dX8_fits_50 : decode cX8_fits 50 = .ok (.getfield 9, 3) := by decide +kernel
theorem dX8_fits_53 : decode cX8_fits 53 = .ok (.iload_n 3, 1) := by decide +kernel
theorem dX8_fits_54 : decode cX8_fits 54 = .ok (.iconst 4, 1) := by decide +kernel
theorem dX8_fits_55 : decode cX8_fits 55 = .ok (.invokestatic 45, 3) := by decide +kernel
theorem dX8_fits_58 : decode cX8_fits 58 = .ok (.iaload, 1) := by decide +kernel
theorem dX8_fits_59 : decode cX8_fits 59 = .ok (.if_icmp .ge 30, 3) := by decide +kernel
theorem dX8_fits_62 : decode cX8_fits 62 = .ok (.iload_n 2, 1) := by decide +kernel
theorem dX8_fits_63 : decode cX8_fits 63 = .ok (.aload_n 0, 1) := by decide +kernel
theorem dX8_fits_64 : decode cX8_fits 64 = .ok (.iload_n 3, 1) := by decide +kernel
theorem dX8_fits_65 : decode cX8_fits 65 = .ok (.iload 4, 2) := by decide +kernel
theorem dX8_fits_67 : decode cX8_fits 67 = .ok (.iload_n 1, 1) := by decide +kernel
theorem dX8_fits_68 : decode cX8_fits 68 = .ok (.invokevirtual 181, 3) := by decide +kernel
theorem dX8_fits_71 : decode cX8_fits 71 = .ok (.ifCond .eq 9, 3) := by decide +kernel
theorem dX8_fits_74 : decode cX8_fits 74 = .ok (.iconst 1, 1) := by decide +kernel
theorem dX8_fits_75 : decode cX8_fits 75 = .ok (.iload_n 3, 1) := by decide +kernel
theorem dX8_fits_76 : decode cX8_fits 76 = .ok (.ishl, 1) := by decide +kernel
theorem dX8_fits_77 : decode cX8_fits 77 = .ok (.goto 4, 3) := by decide +kernel
theorem dX8_fits_80 : decode cX8_fits 80 = .ok (.iconst 0, 1) := by decide +kernel
theorem dX8_fits_81 : decode cX8_fits 81 = .ok (.ior, 1) := by decide +kernel
theorem dX8_fits_82 : decode cX8_fits 82 = .ok (.istore_n 2, 1) := by decide +kernel
theorem dX8_fits_83 : decode cX8_fits 83 = .ok (.iinc 4 1, 3) := by decide +kernel
theorem dX8_fits_86 : decode cX8_fits 86 = .ok (.goto (-39), 3) := by decide +kernel
theorem dX8_fits_89 : decode cX8_fits 89 = .ok (.iinc 3 1, 3) := by decide +kernel
theorem dX8_fits_92 : decode cX8_fits 92 = .ok (.goto (-58), 3) := by decide +kernel
theorem dX8_fits_95 : decode cX8_fits 95 = .ok (.iload_n 2, 1) := by decide +kernel
theorem dX8_fits_96 : decode cX8_fits 96 = .ok (.ireturn, 1) := by decide +kernel
theorem dX8_bearing_0 : decode cX8_bearing 0 = .ok (.aload_n 0, 1) := by decide +kernel
theorem dX8_bearing_1 : decode cX8_bearing 1 = .ok (.iload_n 1, 1) := by decide +kernel
theorem dX8_bearing_2 : decode cX8_bearing 2 = .ok (.invokevirtual 120, 3) := by decide +kernel
theorem dX8_bearing_5 : decode cX8_bearing 5 = .ok (.ifCond .eq 17, 3) := by decide +kernel
theorem dX8_bearing_8 : decode cX8_bearing 8 = .ok (.iload_n 2, 1) := by decide +kernel
theorem dX8_bearing_9 : decode cX8_bearing 9 = .ok (.invokestatic 131, 3) := by decide +kernel
theorem dX8_bearing_12 : decode cX8_bearing 12 = .ok (.ifCond .eq 10, 3) := by decide +kernel
theorem dX8_bearing_15 : decode cX8_bearing 15 = .ok (.iload_n 3, 1) := by decide +kernel
theorem dX8_bearing_16 : decode cX8_bearing 16 = .ok (.invokestatic 131, 3) := by decide +kernel
theorem dX8_bearing_19 : decode cX8_bearing 19 = .ok (.ifCond .ne 10, 3) := by decide +kernel
theorem dX8_bearing_22 : decode cX8_bearing 22 = .ok (.aload_n 0, 1) := by decide +kernel
theorem dX8_bearing_23 : decode cX8_bearing 23 = .ok (.ldc 57, 2) := by decide +kernel
theorem dX8_bearing_25 : decode cX8_bearing 25 = .ok (.invokevirtual 53, 3) := by decide +kernel
theorem dX8_bearing_28 : decode cX8_bearing 28 = .ok (.ireturn, 1) := by decide +kernel
theorem dX8_bearing_29 : decode cX8_bearing 29 = .ok (.aload_n 0, 1) := by decide +kernel
theorem dX8_bearing_30 : decode cX8_bearing 30 = .ok (.getfield 9, 3) := by decide +kernel
theorem dX8_bearing_33 : decode cX8_bearing 33 = .ok (.iconst 1, 1) := by decide +kernel
theorem dX8_bearing_34 : decode cX8_bearing 34 = .ok (.iaload, 1) := by decide +kernel
theorem dX8_bearing_35 : decode cX8_bearing 35 = .ok (.istore 4, 2) := by decide +kernel
theorem dX8_bearing_37 : decode cX8_bearing 37 = .ok (.iload 4, 2) := by decide +kernel
theorem dX8_bearing_39 : decode cX8_bearing 39 = .ok (.bipush 8, 2) := by decide +kernel
theorem dX8_bearing_41 : decode cX8_bearing 41 = .ok (.if_icmp .ne 10, 3) := by decide +kernel
theorem dX8_bearing_44 : decode cX8_bearing 44 = .ok (.aload_n 0, 1) := by decide +kernel
theorem dX8_bearing_45 : decode cX8_bearing 45 = .ok (.ldc 61, 2) := by decide +kernel
theorem dX8_bearing_47 : decode cX8_bearing 47 = .ok (.invokevirtual 53, 3) := by decide +kernel
theorem dX8_bearing_50 : decode cX8_bearing 50 = .ok (.ireturn, 1) := by decide +kernel
theorem dX8_bearing_51 : decode cX8_bearing 51 = .ok (.aload_n 0, 1) := by decide +kernel
theorem dX8_bearing_52 : decode cX8_bearing 52 = .ok (.invokevirtual 114, 3) := by decide +kernel
theorem dX8_bearing_55 : decode cX8_bearing 55 = .ok (.aload_n 0, 1) := by decide +kernel
theorem dX8_bearing_56 : decode cX8_bearing 56 = .ok (.getfield 9, 3) := by decide +kernel
theorem dX8_bearing_59 : decode cX8_bearing 59 = .ok (.sipush 230, 3) := by decide +kernel
theorem dX8_bearing_62 : decode cX8_bearing 62 = .ok (.iconst 3, 1) := by decide +kernel
theorem dX8_bearing_63 : decode cX8_bearing 63 = .ok (.iload 4, 2) := by decide +kernel
theorem dX8_bearing_65 : decode cX8_bearing 65 = .ok (.imul, 1) := by decide +kernel
theorem dX8_bearing_66 : decode cX8_bearing 66 = .ok (.iadd, 1) := by decide +kernel
theorem dX8_bearing_67 : decode cX8_bearing 67 = .ok (.iload_n 1, 1) := by decide +kernel
theorem dX8_bearing_68 : decode cX8_bearing 68 = .ok (.iastore, 1) := by decide +kernel
theorem dX8_bearing_69 : decode cX8_bearing 69 = .ok (.aload_n 0, 1) := by decide +kernel
theorem dX8_bearing_70 : decode cX8_bearing 70 = .ok (.getfield 9, 3) := by decide +kernel
theorem dX8_bearing_73 : decode cX8_bearing 73 = .ok (.sipush 230, 3) := by decide +kernel
theorem dX8_bearing_76 : decode cX8_bearing 76 = .ok (.iconst 3, 1) := by decide +kernel
theorem dX8_bearing_77 : decode cX8_bearing 77 = .ok (.iload 4, 2) := by decide +kernel
theorem dX8_bearing_79 : decode cX8_bearing 79 = .ok (.imul, 1) := by decide +kernel
theorem dX8_bearing_80 : decode cX8_bearing 80 = .ok (.iadd, 1) := by decide +kernel
theorem dX8_bearing_81 : decode cX8_bearing 81 = .ok (.iconst 1, 1) := by decide +kernel
theorem dX8_bearing_82 : decode cX8_bearing 82 = .ok (.iadd, 1) := by decide +kernel
theorem dX8_bearing_83 : decode cX8_bearing 83 = .ok (.iload_n 2, 1) := by decide +kernel
theorem dX8_bearing_84 : decode cX8_bearing 84 = .ok (.iastore, 1) := by decide +kernel
theorem dX8_bearing_85 : decode cX8_bearing 85 = .ok (.aload_n 0, 1) := by decide +kernel
theorem dX8_bearing_86 : decode cX8_bearing 86 = .ok (.getfield 9, 3) := by decide +kernel
theorem dX8_bearing_89 : decode cX8_bearing 89 = .ok (.sipush 230, 3) := by decide +kernel
theorem dX8_bearing_92 : decode cX8_bearing 92 = .ok (.iconst 3, 1) := by decide +kernel
theorem dX8_bearing_93 : decode cX8_bearing 93 = .ok (.iload 4, 2) := by decide +kernel
theorem dX8_bearing_95 : decode cX8_bearing 95 = .ok (.imul, 1) := by decide +kernel
theorem dX8_bearing_96 : decode cX8_bearing 96 = .ok (.iadd, 1) := by decide +kernel
theorem dX8_bearing_97 : decode cX8_bearing 97 = .ok (.iconst 2, 1) := by decide +kernel
theorem dX8_bearing_98 : decode cX8_bearing 98 = .ok (.iadd, 1) := by decide +kernel
theorem dX8_bearing_99 : decode cX8_bearing 99 = .ok (.iload_n 3, 1) := by decide +kernel
theorem dX8_bearing_100 : decode cX8_bearing 100 = .ok (.iastore, 1) := by decide +kernel
theorem dX8_bearing_101 : decode cX8_bearing 101 = .ok (.aload_n 0, 1) := by decide +kernel
theorem dX8_bearing_102 : decode cX8_bearing 102 = .ok (.getfield 9, 3) := by decide +kernel
theorem dX8_bearing_105 : decode cX8_bearing 105 = .ok (.iconst 1, 1) := by decide +kernel
theorem dX8_bearing_106 : decode cX8_bearing 106 = .ok (.dup2, 1) := by decide +kernel
theorem dX8_bearing_107 : decode cX8_bearing 107 = .ok (.iaload, 1) := by decide +kernel
theorem dX8_bearing_108 : decode cX8_bearing 108 = .ok (.iconst 1, 1) := by decide +kernel
theorem dX8_bearing_109 : decode cX8_bearing 109 = .ok (.iadd, 1) := by decide +kernel
theorem dX8_bearing_110 : decode cX8_bearing 110 = .ok (.iastore, 1) := by decide +kernel
theorem dX8_bearing_111 : decode cX8_bearing 111 = .ok (.iload 4, 2) := by decide +kernel
theorem dX8_bearing_113 : decode cX8_bearing 113 = .ok (.iconst 1, 1) := by decide +kernel
theorem dX8_bearing_114 : decode cX8_bearing 114 = .ok (.iadd, 1) := by decide +kernel
theorem dX8_bearing_115 : decode cX8_bearing 115 = .ok (.ireturn, 1) := by decide +kernel
theorem dX8_clear_0 : decode cX8_clear 0 = .ok (.aload_n 0, 1) := by decide +kernel
theorem dX8_clear_1 : decode cX8_clear 1 = .ok (.invokevirtual 114, 3) := by decide +kernel
theorem dX8_clear_4 : decode cX8_clear 4 = .ok (.aload_n 0, 1) := by decide +kernel
theorem dX8_clear_5 : decode cX8_clear 5 = .ok (.getfield 9, 3) := by decide +kernel
theorem dX8_clear_8 : decode cX8_clear 8 = .ok (.iconst 1, 1) := by decide +kernel
theorem dX8_clear_9 : decode cX8_clear 9 = .ok (.iaload, 1) := by decide +kernel
theorem dX8_clear_10 : decode cX8_clear 10 = .ok (.istore_n 1, 1) := by decide +kernel
theorem dX8_clear_11 : decode cX8_clear 11 = .ok (.aload_n 0, 1) := by decide +kernel
theorem dX8_clear_12 : decode cX8_clear 12 = .ok (.getfield 9, 3) := by decide +kernel
theorem dX8_clear_15 : decode cX8_clear 15 = .ok (.iconst 1, 1) := by decide +kernel
theorem dX8_clear_16 : decode cX8_clear 16 = .ok (.iconst 0, 1) := by decide +kernel
theorem dX8_clear_17 : decode cX8_clear 17 = .ok (.iastore, 1) := by decide +kernel
theorem dX8_clear_18 : decode cX8_clear 18 = .ok (.iload_n 1, 1) := by decide +kernel
theorem dX8_clear_19 : decode cX8_clear 19 = .ok (.ireturn, 1) := by decide +kernel
theorem dX8_holds_0 : decode cX8_holds 0 = .ok (.aload_n 0, 1) := by decide +kernel
theorem dX8_holds_1 : decode cX8_holds 1 = .ok (.getfield 9, 3) := by decide +kernel
theorem dX8_holds_4 : decode cX8_holds 4 = .ok (.sipush 230, 3) := by decide +kernel
theorem dX8_holds_7 : decode cX8_holds 7 = .ok (.iconst 3, 1) := by decide +kernel
theorem dX8_holds_8 : decode cX8_holds 8 = .ok (.iload_n 1, 1) := by decide +kernel
theorem dX8_holds_9 : decode cX8_holds 9 = .ok (.imul, 1) := by decide +kernel
theorem dX8_holds_10 : decode cX8_holds 10 = .ok (.iadd, 1) := by decide +kernel
theorem dX8_holds_11 : decode cX8_holds 11 = .ok (.iaload, 1) := by decide +kernel
theorem dX8_holds_12 : decode cX8_holds 12 = .ok (.istore_n 3, 1) := by decide +kernel
theorem dX8_holds_13 : decode cX8_holds 13 = .ok (.aload_n 0, 1) := by decide +kernel
theorem dX8_holds_14 : decode cX8_holds 14 = .ok (.getfield 9, 3) := by decide +kernel
theorem dX8_holds_17 : decode cX8_holds 17 = .ok (.iload_n 3, 1) := by decide +kernel
theorem dX8_holds_18 : decode cX8_holds 18 = .ok (.bipush 7, 2) := by decide +kernel
theorem dX8_holds_20 : decode cX8_holds 20 = .ok (.invokestatic 45, 3) := by decide +kernel
theorem dX8_holds_23 : decode cX8_holds 23 = .ok (.iaload, 1) := by decide +kernel
theorem dX8_holds_24 : decode cX8_holds 24 = .ok (.istore 4, 2) := by decide +kernel
theorem dX8_holds_26 : decode cX8_holds 26 = .ok (.aload_n 0, 1) := by decide +kernel
theorem dX8_holds_27 : decode cX8_holds 27 = .ok (.getfield 9, 3) := by decide +kernel
theorem dX8_holds_30 : decode cX8_holds 30 = .ok (.iload_n 3, 1) := by decide +kernel
theorem dX8_holds_31 : decode cX8_holds 31 = .ok (.iconst 1, 1) := by decide +kernel
theorem dX8_holds_32 : decode cX8_holds 32 = .ok (.invokestatic 45, 3) := by decide +kernel
theorem dX8_holds_35 : decode cX8_holds 35 = .ok (.iaload, 1) := by decide +kernel
theorem dX8_holds_36 : decode cX8_holds 36 = .ok (.bipush 16, 2) := by decide +kernel
theorem dX8_holds_38 : decode cX8_holds 38 = .ok (.irem, 1) := by decide +kernel
theorem dX8_holds_39 : decode cX8_holds 39 = .ok (.istore 5, 2) := by decide +kernel
theorem dX8_holds_41 : decode cX8_holds 41 = .ok (.aload_n 0, 1) := by decide +kernel
theorem dX8_holds_42 : decode cX8_holds 42 = .ok (.getfield 9, 3) := by decide +kernel
theorem dX8_holds_45 : decode cX8_holds 45 = .ok (.iload_n 3, 1) := by decide +kernel
theorem dX8_holds_46 : decode cX8_holds 46 = .ok (.iconst 1, 1) := by decide +kernel
theorem dX8_holds_47 : decode cX8_holds 47 = .ok (.invokestatic 45, 3) := by decide +kernel
theorem dX8_holds_50 : decode cX8_holds 50 = .ok (.iaload, 1) := by decide +kernel
theorem dX8_holds_51 : decode cX8_holds 51 = .ok (.bipush 16, 2) := by decide +kernel
theorem dX8_holds_53 : decode cX8_holds 53 = .ok (.idiv, 1) := by decide +kernel
theorem dX8_holds_54 : decode cX8_holds 54 = .ok (.istore 6, 2) := by decide +kernel
theorem dX8_holds_56 : decode cX8_holds 56 = .ok (.iconst 0, 1) := by decide +kernel
theorem dX8_holds_57 : decode cX8_holds 57 = .ok (.iload 6, 2) := by decide +kernel
theorem dX8_holds_59 : decode cX8_holds 59 = .ok (.iload 4, 2) := by decide +kernel
theorem dX8_holds_61 : decode cX8_holds 61 = .ok (.isub, 1) := by decide +kernel
theorem dX8_holds_62 : decode cX8_holds 62 = .ok (.invokestatic 157, 3) := by decide +kernel
theorem dX8_holds_65 : decode cX8_holds 65 = .ok (.istore 7, 2) := by decide +kernel
theorem dX8_holds_67 : decode cX8_holds 67 = .ok (.iload 7, 2) := by decide +kernel
theorem dX8_holds_69 : decode cX8_holds 69 = .ok (.bipush 15, 2) := by decide +kernel
theorem dX8_holds_71 : decode cX8_holds 71 = .ok (.iload 6, 2) := by decide +kernel
theorem dX8_holds_73 : decode cX8_holds 73 = .ok (.iload 4, 2) := by decide +kernel
theorem dX8_holds_75 : decode cX8_holds 75 = .ok (.iadd, 1) := by decide +kernel
theorem dX8_holds_76 : decode cX8_holds 76 = .ok (.invokestatic 184, 3) := by decide +kernel
theorem dX8_holds_79 : decode cX8_holds 79 = .ok (.if_icmp .gt 110, 3) := by decide +kernel
theorem dX8_holds_82 : decode cX8_holds 82 = .ok (.iconst 0, 1) := by decide +kernel
theorem dX8_holds_83 : decode cX8_holds 83 = .ok (.iload 5, 2) := by decide +kernel
theorem dX8_holds_85 : decode cX8_holds 85 = .ok (.iload 4, 2) := by decide +kernel
theorem dX8_holds_87 : decode cX8_holds 87 = .ok (.isub, 1) := by decide +kernel
theorem dX8_holds_88 : decode cX8_holds 88 = .ok (.invokestatic 157, 3) := by decide +kernel
theorem dX8_holds_91 : decode cX8_holds 91 = .ok (.istore 8, 2) := by decide +kernel
theorem dX8_holds_93 : decode cX8_holds 93 = .ok (.iload 8, 2) := by decide +kernel
theorem dX8_holds_95 : decode cX8_holds 95 = .ok (.bipush 15, 2) := by decide +kernel
theorem dX8_holds_97 : decode cX8_holds 97 = .ok (.iload 5, 2) := by decide +kernel
theorem dX8_holds_99 : decode cX8_holds 99 = .ok (.iload 4, 2) := by decide +kernel
theorem dX8_holds_101 : decode cX8_holds 101 = .ok (.iadd, 1) := by decide +kernel
theorem dX8_holds_102 : decode cX8_holds 102 = .ok (.invokestatic 184, 3) := by decide +kernel
theorem dX8_holds_105 : decode cX8_holds 105 = .ok (.if_icmp .gt 78, 3) := by decide +kernel
theorem dX8_holds_108 : decode cX8_holds 108 = .ok (.bipush 16, 2) := by decide +kernel
theorem dX8_holds_110 : decode cX8_holds 110 = .ok (.iload 7, 2) := by decide +kernel
theorem dX8_holds_112 : decode cX8_holds 112 = .ok (.imul, 1) := by decide +kernel
theorem dX8_holds_113 : decode cX8_holds 113 = .ok (.iload 8, 2) := by decide +kernel
theorem dX8_holds_115 : decode cX8_holds 115 = .ok (.iadd, 1) := by decide +kernel
theorem dX8_holds_116 : decode cX8_holds 116 = .ok (.istore 9, 2) := by decide +kernel
theorem dX8_holds_118 : decode cX8_holds 118 = .ok (.aload_n 0, 1) := by decide +kernel
theorem dX8_holds_119 : decode cX8_holds 119 = .ok (.iload_n 3, 1) := by decide +kernel
theorem dX8_holds_120 : decode cX8_holds 120 = .ok (.iload_n 2, 1) := by decide +kernel
theorem dX8_holds_121 : decode cX8_holds 121 = .ok (.iload 9, 2) := by decide +kernel
theorem dX8_holds_123 : decode cX8_holds 123 = .ok (.invokevirtual 162, 3) := by decide +kernel
theorem dX8_holds_126 : decode cX8_holds 126 = .ok (.ifCond .eq 51, 3) := by decide +kernel
theorem dX8_holds_129 : decode cX8_holds 129 = .ok (.iload 9, 2) := by decide +kernel
theorem dX8_holds_131 : decode cX8_holds 131 = .ok (.iload_n 2, 1) := by decide +kernel
theorem dX8_holds_132 : decode cX8_holds 132 = .ok (.if_icmp .eq 43, 3) := by decide +kernel
theorem dX8_holds_135 : decode cX8_holds 135 = .ok (.iload_n 2, 1) := by decide +kernel
theorem dX8_holds_136 : decode cX8_holds 136 = .ok (.iload 9, 2) := by decide +kernel
theorem dX8_holds_138 : decode cX8_holds 138 = .ok (.invokestatic 148, 3) := by decide +kernel
theorem dX8_holds_141 : decode cX8_holds 141 = .ok (.aload_n 0, 1) := by decide +kernel
theorem dX8_holds_142 : decode cX8_holds 142 = .ok (.getfield 9, 3) := by decide +kernel
theorem dX8_holds_145 : decode cX8_holds 145 = .ok (.sipush 230, 3) := by decide +kernel
theorem dX8_holds_148 : decode cX8_holds 148 = .ok (.iconst 3, 1) := by decide +kernel
theorem dX8_holds_149 : decode cX8_holds 149 = .ok (.iload_n 1, 1) := by decide +kernel
theorem dX8_holds_150 : decode cX8_holds 150 = .ok (.imul, 1) := by decide +kernel
theorem dX8_holds_151 : decode cX8_holds 151 = .ok (.iadd, 1) := by decide +kernel
theorem dX8_holds_152 : decode cX8_holds 152 = .ok (.iconst 1, 1) := by decide +kernel
theorem dX8_holds_153 : decode cX8_holds 153 = .ok (.iadd, 1) := by decide +kernel
theorem dX8_holds_154 : decode cX8_holds 154 = .ok (.iaload, 1) := by decide +kernel
theorem dX8_holds_155 : decode cX8_holds 155 = .ok (.aload_n 0, 1) := by decide +kernel
theorem dX8_holds_156 : decode cX8_holds 156 = .ok (.getfield 9, 3) := by decide +kernel
theorem dX8_holds_159 : decode cX8_holds 159 = .ok (.sipush 230, 3) := by decide +kernel
theorem dX8_holds_162 : decode cX8_holds 162 = .ok (.iconst 3, 1) := by decide +kernel
theorem dX8_holds_163 : decode cX8_holds 163 = .ok (.iload_n 1, 1) := by decide +kernel
theorem dX8_holds_164 : decode cX8_holds 164 = .ok (.imul, 1) := by decide +kernel
theorem dX8_holds_165 : decode cX8_holds 165 = .ok (.iadd, 1) := by decide +kernel
theorem dX8_holds_166 : decode cX8_holds 166 = .ok (.iconst 2, 1) := by decide +kernel
theorem dX8_holds_167 : decode cX8_holds 167 = .ok (.iadd, 1) := by decide +kernel
theorem dX8_holds_168 : decode cX8_holds 168 = .ok (.iaload, 1) := by decide +kernel
theorem dX8_holds_169 : decode cX8_holds 169 = .ok (.invokestatic 151, 3) := by decide +kernel
theorem dX8_holds_172 : decode cX8_holds 172 = .ok (.ifCond .eq 5, 3) := by decide +kernel
theorem dX8_holds_175 : decode cX8_holds 175 = .ok (.iconst 1, 1) := by decide +kernel
theorem dX8_holds_176 : decode cX8_holds 176 = .ok (.ireturn, 1) := by decide +kernel
theorem dX8_holds_177 : decode cX8_holds 177 = .ok (.iinc 8 1, 3) := by decide +kernel
theorem dX8_holds_180 : decode cX8_holds 180 = .ok (.goto (-87), 3) := by decide +kernel
theorem dX8_holds_183 : decode cX8_holds 183 = .ok (.iinc 7 1, 3) := by decide +kernel
theorem dX8_holds_186 : decode cX8_holds 186 = .ok (.goto (-119), 3) := by decide +kernel
theorem dX8_holds_189 : decode cX8_holds 189 = .ok (.iconst 0, 1) := by decide +kernel
theorem dX8_holds_190 : decode cX8_holds 190 = .ok (.ireturn, 1) := by decide +kernel
theorem dX8_isInFix_0 : decode cX8_isInFix 0 = .ok (.iconst 1, 1) := by decide +kernel
theorem dX8_isInFix_1 : decode cX8_isInFix 1 = .ok (.istore_n 2, 1) := by decide +kernel
theorem dX8_isInFix_2 : decode cX8_isInFix 2 = .ok (.iconst 0, 1) := by decide +kernel
theorem dX8_isInFix_3 : decode cX8_isInFix 3 = .ok (.istore_n 3, 1) := by decide +kernel
theorem dX8_isInFix_4 : decode cX8_isInFix 4 = .ok (.iload_n 3, 1) := by decide +kernel
theorem dX8_isInFix_5 : decode cX8_isInFix 5 = .ok (.aload_n 0, 1) := by decide +kernel
theorem dX8_isInFix_6 : decode cX8_isInFix 6 = .ok (.getfield 9, 3) := by decide +kernel
theorem dX8_isInFix_9 : decode cX8_isInFix 9 = .ok (.iconst 1, 1) := by decide +kernel
theorem dX8_isInFix_10 : decode cX8_isInFix 10 = .ok (.iaload, 1) := by decide +kernel
theorem dX8_isInFix_11 : decode cX8_isInFix 11 = .ok (.if_icmp .ge 28, 3) := by decide +kernel
theorem dX8_isInFix_14 : decode cX8_isInFix 14 = .ok (.iload_n 2, 1) := by decide +kernel
theorem dX8_isInFix_15 : decode cX8_isInFix 15 = .ok (.ifCond .eq 16, 3) := by decide +kernel
theorem dX8_isInFix_18 : decode cX8_isInFix 18 = .ok (.aload_n 0, 1) := by decide +kernel
theorem dX8_isInFix_19 : decode cX8_isInFix 19 = .ok (.iload_n 3, 1) := by decide +kernel
theorem dX8_isInFix_20 : decode cX8_isInFix 20 = .ok (.iload_n 1, 1) := by decide +kernel
theorem dX8_isInFix_21 : decode cX8_isInFix 21 = .ok (.invokevirtual 187, 3) := by decide +kernel
theorem dX8_isInFix_24 : decode cX8_isInFix 24 = .ok (.ifCond .eq 7, 3) := by decide +kernel
theorem dX8_isInFix_27 : decode cX8_isInFix 27 = .ok (.iconst 1, 1) := by decide +kernel
theorem dX8_isInFix_28 : decode cX8_isInFix 28 = .ok (.goto 4, 3) := by decide +kernel
theorem dX8_isInFix_31 : decode cX8_isInFix 31 = .ok (.iconst 0, 1) := by decide +kernel
theorem dX8_isInFix_32 : decode cX8_isInFix 32 = .ok (.istore_n 2, 1) := by decide +kernel
theorem dX8_isInFix_33 : decode cX8_isInFix 33 = .ok (.iinc 3 1, 3) := by decide +kernel
theorem dX8_isInFix_36 : decode cX8_isInFix 36 = .ok (.goto (-32), 3) := by decide +kernel
theorem dX8_isInFix_39 : decode cX8_isInFix 39 = .ok (.iload_n 2, 1) := by decide +kernel
theorem dX8_isInFix_40 : decode cX8_isInFix 40 = .ok (.ireturn, 1) := by decide +kernel
theorem dX8_fix_0 : decode cX8_fix 0 = .ok (.iconst 0, 1) := by decide +kernel
theorem dX8_fix_1 : decode cX8_fix 1 = .ok (.istore_n 2, 1) := by decide +kernel
theorem dX8_fix_2 : decode cX8_fix 2 = .ok (.iconst 0, 1) := by decide +kernel
theorem dX8_fix_3 : decode cX8_fix 3 = .ok (.istore_n 3, 1) := by decide +kernel
theorem dX8_fix_4 : decode cX8_fix 4 = .ok (.iload_n 3, 1) := by decide +kernel
theorem dX8_fix_5 : decode cX8_fix 5 = .ok (.sipush 256, 3) := by decide +kernel
theorem dX8_fix_8 : decode cX8_fix 8 = .ok (.if_icmp .ge 40, 3) := by decide +kernel
theorem dX8_fix_11 : decode cX8_fix 11 = .ok (.aload_n 0, 1) := by decide +kernel
theorem dX8_fix_12 : decode cX8_fix 12 = .ok (.iload_n 3, 1) := by decide +kernel
theorem dX8_fix_13 : decode cX8_fix 13 = .ok (.invokevirtual 190, 3) := by decide +kernel
theorem dX8_fix_16 : decode cX8_fix 16 = .ok (.istore 4, 2) := by decide +kernel
theorem dX8_fix_18 : decode cX8_fix 18 = .ok (.iload 4, 2) := by decide +kernel
theorem dX8_fix_20 : decode cX8_fix 20 = .ok (.ifCond .eq 9, 3) := by decide +kernel
theorem dX8_fix_23 : decode cX8_fix 23 = .ok (.iload_n 1, 1) := by decide +kernel
theorem dX8_fix_24 : decode cX8_fix 24 = .ok (.ifCond .eq 5, 3) := by decide +kernel
theorem dX8_fix_27 : decode cX8_fix 27 = .ok (.iload_n 3, 1) := by decide +kernel
theorem dX8_fix_28 : decode cX8_fix 28 = .ok (.ireturn, 1) := by decide +kernel
theorem dX8_fix_29 : decode cX8_fix 29 = .ok (.iload_n 2, 1) := by decide +kernel
theorem dX8_fix_30 : decode cX8_fix 30 = .ok (.iload 4, 2) := by decide +kernel
theorem dX8_fix_32 : decode cX8_fix 32 = .ok (.ifCond .eq 7, 3) := by decide +kernel
theorem dX8_fix_35 : decode cX8_fix 35 = .ok (.iconst 1, 1) := by decide +kernel
theorem dX8_fix_36 : decode cX8_fix 36 = .ok (.goto 4, 3) := by decide +kernel
theorem dX8_fix_39 : decode cX8_fix 39 = .ok (.iconst 0, 1) := by decide +kernel
theorem dX8_fix_40 : decode cX8_fix 40 = .ok (.iadd, 1) := by decide +kernel
theorem dX8_fix_41 : decode cX8_fix 41 = .ok (.istore_n 2, 1) := by decide +kernel
theorem dX8_fix_42 : decode cX8_fix 42 = .ok (.iinc 3 1, 3) := by decide +kernel
theorem dX8_fix_45 : decode cX8_fix 45 = .ok (.goto (-41), 3) := by decide +kernel
theorem dX8_fix_48 : decode cX8_fix 48 = .ok (.iload_n 1, 1) := by decide +kernel
theorem dX8_fix_49 : decode cX8_fix 49 = .ok (.ifCond .eq 12, 3) := by decide +kernel
theorem dX8_fix_52 : decode cX8_fix 52 = .ok (.aload_n 0, 1) := by decide +kernel
theorem dX8_fix_53 : decode cX8_fix 53 = .ok (.ldc 52, 2) := by decide +kernel
theorem dX8_fix_55 : decode cX8_fix 55 = .ok (.invokevirtual 53, 3) := by decide +kernel
theorem dX8_fix_58 : decode cX8_fix 58 = .ok (.goto 4, 3) := by decide +kernel
theorem dX8_fix_61 : decode cX8_fix 61 = .ok (.iload_n 2, 1) := by decide +kernel
theorem dX8_fix_62 : decode cX8_fix 62 = .ok (.ireturn, 1) := by decide +kernel
theorem dX8_may_0 : decode cX8_may 0 = .ok (.iload_n 1, 1) := by decide +kernel
theorem dX8_may_1 : decode cX8_may 1 = .ok (.invokestatic 108, 3) := by decide +kernel
theorem dX8_may_4 : decode cX8_may 4 = .ok (.ifCond .ne 12, 3) := by decide +kernel
theorem dX8_may_7 : decode cX8_may 7 = .ok (.aload_n 0, 1) := by decide +kernel
theorem dX8_may_8 : decode cX8_may 8 = .ok (.ldc 57, 2) := by decide +kernel
theorem dX8_may_10 : decode cX8_may 10 = .ok (.invokevirtual 53, 3) := by decide +kernel
theorem dX8_may_13 : decode cX8_may 13 = .ok (.goto 16, 3) := by decide +kernel
theorem dX8_may_16 : decode cX8_may 16 = .ok (.aload_n 0, 1) := by decide +kernel
theorem dX8_may_17 : decode cX8_may 17 = .ok (.iload_n 1, 1) := by decide +kernel
theorem dX8_may_18 : decode cX8_may 18 = .ok (.invokevirtual 190, 3) := by decide +kernel
theorem dX8_may_21 : decode cX8_may 21 = .ok (.ifCond .eq 7, 3) := by decide +kernel
theorem dX8_may_24 : decode cX8_may 24 = .ok (.iconst 1, 1) := by decide +kernel
theorem dX8_may_25 : decode cX8_may 25 = .ok (.goto 4, 3) := by decide +kernel
theorem dX8_may_28 : decode cX8_may 28 = .ok (.iconst 0, 1) := by decide +kernel
theorem dX8_may_29 : decode cX8_may 29 = .ok (.ireturn, 1) := by decide +kernel
theorem dX8_fairway_0 : decode cX8_fairway 0 = .ok (.iload_n 1, 1) := by decide +kernel
theorem dX8_fairway_1 : decode cX8_fairway 1 = .ok (.invokestatic 108, 3) := by decide +kernel
theorem dX8_fairway_4 : decode cX8_fairway 4 = .ok (.ifCond .ne 10, 3) := by decide +kernel
theorem dX8_fairway_7 : decode cX8_fairway 7 = .ok (.aload_n 0, 1) := by decide +kernel
theorem dX8_fairway_8 : decode cX8_fairway 8 = .ok (.ldc 57, 2) := by decide +kernel
theorem dX8_fairway_10 : decode cX8_fairway 10 = .ok (.invokevirtual 53, 3) := by decide +kernel
theorem dX8_fairway_13 : decode cX8_fairway 13 = .ok (.ireturn, 1) := by decide +kernel
theorem dX8_fairway_14 : decode cX8_fairway 14 = .ok (.aload_n 0, 1) := by decide +kernel
theorem dX8_fairway_15 : decode cX8_fairway 15 = .ok (.getfield 9, 3) := by decide +kernel
theorem dX8_fairway_18 : decode cX8_fairway 18 = .ok (.iconst 2, 1) := by decide +kernel
theorem dX8_fairway_19 : decode cX8_fairway 19 = .ok (.iaload, 1) := by decide +kernel
theorem dX8_fairway_20 : decode cX8_fairway 20 = .ok (.istore_n 3, 1) := by decide +kernel
theorem dX8_fairway_21 : decode cX8_fairway 21 = .ok (.iconst 0, 1) := by decide +kernel
theorem dX8_fairway_22 : decode cX8_fairway 22 = .ok (.istore 4, 2) := by decide +kernel
theorem dX8_fairway_24 : decode cX8_fairway 24 = .ok (.iload 4, 2) := by decide +kernel
theorem dX8_fairway_26 : decode cX8_fairway 26 = .ok (.iload_n 3, 1) := by decide +kernel
theorem dX8_fairway_27 : decode cX8_fairway 27 = .ok (.if_icmp .ge 24, 3) := by decide +kernel
theorem dX8_fairway_30 : decode cX8_fairway 30 = .ok (.aload_n 0, 1) := by decide +kernel
theorem dX8_fairway_31 : decode cX8_fairway 31 = .ok (.getfield 9, 3) := by decide +kernel
theorem dX8_fairway_34 : decode cX8_fairway 34 = .ok (.sipush 254, 3) := by decide +kernel
theorem dX8_fairway_37 : decode cX8_fairway 37 = .ok (.iload 4, 2) := by decide +kernel
theorem dX8_fairway_39 : decode cX8_fairway 39 = .ok (.iadd, 1) := by decide +kernel
theorem dX8_fairway_40 : decode cX8_fairway 40 = .ok (.iaload, 1) := by decide +kernel
theorem dX8_fairway_41 : decode cX8_fairway 41 = .ok (.iload_n 1, 1) := by decide +kernel
theorem dX8_fairway_42 : decode cX8_fairway 42 = .ok (.if_icmp .eq 9, 3) := by decide +kernel
theorem dX8_fairway_45 : decode cX8_fairway 45 = .ok (.iinc 4 1, 3) := by decide +kernel
theorem dX8_fairway_48 : decode cX8_fairway 48 = .ok (.goto (-24), 3) := by decide +kernel
theorem dX8_fairway_51 : decode cX8_fairway 51 = .ok (.iload_n 2, 1) := by decide +kernel
theorem dX8_fairway_52 : decode cX8_fairway 52 = .ok (.ifCond .eq 22, 3) := by decide +kernel
theorem dX8_fairway_55 : decode cX8_fairway 55 = .ok (.iload 4, 2) := by decide +kernel
theorem dX8_fairway_57 : decode cX8_fairway 57 = .ok (.iload_n 3, 1) := by decide +kernel
theorem dX8_fairway_58 : decode cX8_fairway 58 = .ok (.if_icmp .ne 16, 3) := by decide +kernel
theorem dX8_fairway_61 : decode cX8_fairway 61 = .ok (.iload_n 3, 1) := by decide +kernel
theorem dX8_fairway_62 : decode cX8_fairway 62 = .ok (.bipush 12, 2) := by decide +kernel
theorem dX8_fairway_64 : decode cX8_fairway 64 = .ok (.if_icmp .ne 10, 3) := by decide +kernel
theorem dX8_fairway_67 : decode cX8_fairway 67 = .ok (.aload_n 0, 1) := by decide +kernel
theorem dX8_fairway_68 : decode cX8_fairway 68 = .ok (.ldc 61, 2) := by decide +kernel
theorem dX8_fairway_70 : decode cX8_fairway 70 = .ok (.invokevirtual 53, 3) := by decide +kernel
theorem dX8_fairway_73 : decode cX8_fairway 73 = .ok (.ireturn, 1) := by decide +kernel
theorem dX8_fairway_74 : decode cX8_fairway 74 = .ok (.aload_n 0, 1) := by decide +kernel
theorem dX8_fairway_75 : decode cX8_fairway 75 = .ok (.invokevirtual 114, 3) := by decide +kernel
theorem dX8_fairway_78 : decode cX8_fairway 78 = .ok (.iload_n 2, 1) := by decide +kernel
theorem dX8_fairway_79 : decode cX8_fairway 79 = .ok (.ifCond .eq 33, 3) := by decide +kernel
theorem dX8_fairway_82 : decode cX8_fairway 82 = .ok (.iload 4, 2) := by decide +kernel
theorem dX8_fairway_84 : decode cX8_fairway 84 = .ok (.iload_n 3, 1) := by decide +kernel
theorem dX8_fairway_85 : decode cX8_fairway 85 = .ok (.if_icmp .ne 27, 3) := by decide +kernel
theorem dX8_fairway_88 : decode cX8_fairway 88 = .ok (.aload_n 0, 1) := by decide +kernel
theorem dX8_fairway_89 : decode cX8_fairway 89 = .ok (.getfield 9, 3) := by decide +kernel
theorem dX8_fairway_92 : decode cX8_fairway 92 = .ok (.sipush 254, 3) := by decide +kernel
theorem dX8_fairway_95 : decode cX8_fairway 95 = .ok (.iload_n 3, 1) := by decide +kernel
theorem dX8_fairway_96 : decode cX8_fairway 96 = .ok (.iadd, 1) := by decide +kernel
theorem dX8_fairway_97 : decode cX8_fairway 97 = .ok (.iload_n 1, 1) := by decide +kernel
theorem dX8_fairway_98 : decode cX8_fairway 98 = .ok (.iastore, 1) := by decide +kernel
theorem dX8_fairway_99 : decode cX8_fairway 99 = .ok (.aload_n 0, 1) := by decide +kernel
theorem dX8_fairway_100 : decode cX8_fairway 100 = .ok (.getfield 9, 3) := by decide +kernel
theorem dX8_fairway_103 : decode cX8_fairway 103 = .ok (.iconst 2, 1) := by decide +kernel
theorem dX8_fairway_104 : decode cX8_fairway 104 = .ok (.dup2, 1) := by decide +kernel
theorem dX8_fairway_105 : decode cX8_fairway 105 = .ok (.iaload, 1) := by decide +kernel
theorem dX8_fairway_106 : decode cX8_fairway 106 = .ok (.iconst 1, 1) := by decide +kernel
theorem dX8_fairway_107 : decode cX8_fairway 107 = .ok (.iadd, 1) := by decide +kernel
theorem dX8_fairway_108 : decode cX8_fairway 108 = .ok (.iastore, 1) := by decide +kernel
theorem dX8_fairway_109 : decode cX8_fairway 109 = .ok (.goto 46, 3) := by decide +kernel
theorem dX8_fairway_112 : decode cX8_fairway 112 = .ok (.iload_n 2, 1) := by decide +kernel
theorem dX8_fairway_113 : decode cX8_fairway 113 = .ok (.ifCond .ne 42, 3) := by decide +kernel
theorem dX8_fairway_116 : decode cX8_fairway 116 = .ok (.iload 4, 2) := by decide +kernel
theorem dX8_fairway_118 : decode cX8_fairway 118 = .ok (.iload_n 3, 1) := by decide +kernel
theorem dX8_fairway_119 : decode cX8_fairway 119 = .ok (.if_icmp .ge 36, 3) := by decide +kernel
theorem dX8_fairway_122 : decode cX8_fairway 122 = .ok (.aload_n 0, 1) := by decide +kernel
theorem dX8_fairway_123 : decode cX8_fairway 123 = .ok (.getfield 9, 3) := by decide +kernel
theorem dX8_fairway_126 : decode cX8_fairway 126 = .ok (.sipush 254, 3) := by decide +kernel
theorem dX8_fairway_129 : decode cX8_fairway 129 = .ok (.iload 4, 2) := by decide +kernel
theorem dX8_fairway_131 : decode cX8_fairway 131 = .ok (.iadd, 1) := by decide +kernel
theorem dX8_fairway_132 : decode cX8_fairway 132 = .ok (.aload_n 0, 1) := by decide +kernel
theorem dX8_fairway_133 : decode cX8_fairway 133 = .ok (.getfield 9, 3) := by decide +kernel
theorem dX8_fairway_136 : decode cX8_fairway 136 = .ok (.sipush 254, 3) := by decide +kernel
theorem dX8_fairway_139 : decode cX8_fairway 139 = .ok (.iload_n 3, 1) := by decide +kernel
theorem dX8_fairway_140 : decode cX8_fairway 140 = .ok (.iadd, 1) := by decide +kernel
theorem dX8_fairway_141 : decode cX8_fairway 141 = .ok (.iconst 1, 1) := by decide +kernel
theorem dX8_fairway_142 : decode cX8_fairway 142 = .ok (.isub, 1) := by decide +kernel
theorem dX8_fairway_143 : decode cX8_fairway 143 = .ok (.iaload, 1) := by decide +kernel
theorem dX8_fairway_144 : decode cX8_fairway 144 = .ok (.iastore, 1) := by decide +kernel
theorem dX8_fairway_145 : decode cX8_fairway 145 = .ok (.aload_n 0, 1) := by decide +kernel
theorem dX8_fairway_146 : decode cX8_fairway 146 = .ok (.getfield 9, 3) := by decide +kernel
theorem dX8_fairway_149 : decode cX8_fairway 149 = .ok (.iconst 2, 1) := by decide +kernel
theorem dX8_fairway_150 : decode cX8_fairway 150 = .ok (.dup2, 1) := by decide +kernel
theorem dX8_fairway_151 : decode cX8_fairway 151 = .ok (.iaload, 1) := by decide +kernel
theorem dX8_fairway_152 : decode cX8_fairway 152 = .ok (.iconst 1, 1) := by decide +kernel
theorem dX8_fairway_153 : decode cX8_fairway 153 = .ok (.isub, 1) := by decide +kernel
theorem dX8_fairway_154 : decode cX8_fairway 154 = .ok (.iastore, 1) := by decide +kernel
theorem dX8_fairway_155 : decode cX8_fairway 155 = .ok (.aload_n 0, 1) := by decide +kernel
theorem dX8_fairway_156 : decode cX8_fairway 156 = .ok (.getfield 9, 3) := by decide +kernel
theorem dX8_fairway_159 : decode cX8_fairway 159 = .ok (.iconst 2, 1) := by decide +kernel
theorem dX8_fairway_160 : decode cX8_fairway 160 = .ok (.iaload, 1) := by decide +kernel
theorem dX8_fairway_161 : decode cX8_fairway 161 = .ok (.ireturn, 1) := by decide +kernel
theorem dX8_kept_0 : decode cX8_kept 0 = .ok (.iconst 0, 1) := by decide +kernel
theorem dX8_kept_1 : decode cX8_kept 1 = .ok (.istore_n 1, 1) := by decide +kernel
theorem dX8_kept_2 : decode cX8_kept 2 = .ok (.iload_n 1, 1) := by decide +kernel
theorem dX8_kept_3 : decode cX8_kept 3 = .ok (.aload_n 0, 1) := by decide +kernel
theorem dX8_kept_4 : decode cX8_kept 4 = .ok (.getfield 9, 3) := by decide +kernel
theorem dX8_kept_7 : decode cX8_kept 7 = .ok (.iconst 2, 1) := by decide +kernel
theorem dX8_kept_8 : decode cX8_kept 8 = .ok (.iaload, 1) := by decide +kernel
theorem dX8_kept_9 : decode cX8_kept 9 = .ok (.if_icmp .ge 29, 3) := by decide +kernel
theorem dX8_kept_12 : decode cX8_kept 12 = .ok (.aload_n 0, 1) := by decide +kernel
theorem dX8_kept_13 : decode cX8_kept 13 = .ok (.getfield 28, 3) := by decide +kernel
theorem dX8_kept_16 : decode cX8_kept 16 = .ok (.iload_n 1, 1) := by decide +kernel
theorem dX8_kept_17 : decode cX8_kept 17 = .ok (.aload_n 0, 1) := by decide +kernel
theorem dX8_kept_18 : decode cX8_kept 18 = .ok (.aload_n 0, 1) := by decide +kernel
theorem dX8_kept_19 : decode cX8_kept 19 = .ok (.getfield 9, 3) := by decide +kernel
theorem dX8_kept_22 : decode cX8_kept 22 = .ok (.sipush 254, 3) := by decide +kernel
theorem dX8_kept_25 : decode cX8_kept 25 = .ok (.iload_n 1, 1) := by decide +kernel
theorem dX8_kept_26 : decode cX8_kept 26 = .ok (.iadd, 1) := by decide +kernel
theorem dX8_kept_27 : decode cX8_kept 27 = .ok (.iaload, 1) := by decide +kernel
theorem dX8_kept_28 : decode cX8_kept 28 = .ok (.invokevirtual 168, 3) := by decide +kernel
theorem dX8_kept_31 : decode cX8_kept 31 = .ok (.iastore, 1) := by decide +kernel
theorem dX8_kept_32 : decode cX8_kept 32 = .ok (.iinc 1 1, 3) := by decide +kernel
theorem dX8_kept_35 : decode cX8_kept 35 = .ok (.goto (-33), 3) := by decide +kernel
theorem dX8_kept_38 : decode cX8_kept 38 = .ok (.iconst (-1), 1) := by decide +kernel
theorem dX8_kept_39 : decode cX8_kept 39 = .ok (.istore_n 1, 1) := by decide +kernel
theorem dX8_kept_40 : decode cX8_kept 40 = .ok (.iconst 0, 1) := by decide +kernel
theorem dX8_kept_41 : decode cX8_kept 41 = .ok (.istore_n 2, 1) := by decide +kernel
theorem dX8_kept_42 : decode cX8_kept 42 = .ok (.iload_n 2, 1) := by decide +kernel
theorem dX8_kept_43 : decode cX8_kept 43 = .ok (.iconst 1, 1) := by decide +kernel
theorem dX8_kept_44 : decode cX8_kept 44 = .ok (.aload_n 0, 1) := by decide +kernel
theorem dX8_kept_45 : decode cX8_kept 45 = .ok (.getfield 9, 3) := by decide +kernel
theorem dX8_kept_48 : decode cX8_kept 48 = .ok (.iconst 0, 1) := by decide +kernel
theorem dX8_kept_49 : decode cX8_kept 49 = .ok (.iaload, 1) := by decide +kernel
theorem dX8_kept_50 : decode cX8_kept 50 = .ok (.ishl, 1) := by decide +kernel
theorem dX8_kept_51 : decode cX8_kept 51 = .ok (.if_icmp .ge 86, 3) := by decide +kernel
theorem dX8_kept_54 : decode cX8_kept 54 = .ok (.iload_n 1, 1) := by decide +kernel
theorem dX8_kept_55 : decode cX8_kept 55 = .ok (.ifCond .lt 14, 3) := by decide +kernel
theorem dX8_kept_58 : decode cX8_kept 58 = .ok (.iload_n 2, 1) := by decide +kernel
theorem dX8_kept_59 : decode cX8_kept 59 = .ok (.invokestatic 124, 3) := by decide +kernel
theorem dX8_kept_62 : decode cX8_kept 62 = .ok (.iload_n 1, 1) := by decide +kernel
theorem dX8_kept_63 : decode cX8_kept 63 = .ok (.invokestatic 124, 3) := by decide +kernel
theorem dX8_kept_66 : decode cX8_kept 66 = .ok (.if_icmp .ge 7, 3) := by decide +kernel
theorem dX8_kept_69 : decode cX8_kept 69 = .ok (.iconst 1, 1) := by decide +kernel
theorem dX8_kept_70 : decode cX8_kept 70 = .ok (.goto 4, 3) := by decide +kernel
theorem dX8_kept_73 : decode cX8_kept 73 = .ok (.iconst 0, 1) := by decide +kernel
theorem dX8_kept_74 : decode cX8_kept 74 = .ok (.istore_n 3, 1) := by decide +kernel
theorem dX8_kept_75 : decode cX8_kept 75 = .ok (.iconst 0, 1) := by decide +kernel
theorem dX8_kept_76 : decode cX8_kept 76 = .ok (.istore 4, 2) := by decide +kernel
theorem dX8_kept_78 : decode cX8_kept 78 = .ok (.iload 4, 2) := by decide +kernel
theorem dX8_kept_80 : decode cX8_kept 80 = .ok (.aload_n 0, 1) := by decide +kernel
theorem dX8_kept_81 : decode cX8_kept 81 = .ok (.getfield 9, 3) := by decide +kernel
theorem dX8_kept_84 : decode cX8_kept 84 = .ok (.iconst 2, 1) := by decide +kernel
theorem dX8_kept_85 : decode cX8_kept 85 = .ok (.iaload, 1) := by decide +kernel
theorem dX8_kept_86 : decode cX8_kept 86 = .ok (.if_icmp .ge 35, 3) := by decide +kernel
theorem dX8_kept_89 : decode cX8_kept 89 = .ok (.iload_n 3, 1) := by decide +kernel
theorem dX8_kept_90 : decode cX8_kept 90 = .ok (.ifCond .eq 23, 3) := by decide +kernel
theorem dX8_kept_93 : decode cX8_kept 93 = .ok (.iload_n 2, 1) := by decide +kernel
theorem dX8_kept_94 : decode cX8_kept 94 = .ok (.aload_n 0, 1) := by decide +kernel
theorem dX8_kept_95 : decode cX8_kept 95 = .ok (.getfield 28, 3) := by decide +kernel
theorem dX8_kept_98 : decode cX8_kept 98 = .ok (.iload 4, 2) := by decide +kernel
theorem dX8_kept_100 : decode cX8_kept 100 = .ok (.iaload, 1) := by decide +kernel
theorem dX8_kept_101 : decode cX8_kept 101 = .ok (.iand, 1) := by decide +kernel
theorem dX8_kept_102 : decode cX8_kept 102 = .ok (.invokestatic 124, 3) := by decide +kernel
theorem dX8_kept_105 : decode cX8_kept 105 = .ok (.iconst 2, 1) := by decide +kernel
theorem dX8_kept_106 : decode cX8_kept 106 = .ok (.if_icmp .lt 7, 3) := by decide +kernel
theorem dX8_kept_109 : decode cX8_kept 109 = .ok (.iconst 1, 1) := by decide +kernel
theorem dX8_kept_110 : decode cX8_kept 110 = .ok (.goto 4, 3) := by decide +kernel
theorem dX8_kept_113 : decode cX8_kept 113 = .ok (.iconst 0, 1) := by decide +kernel
theorem dX8_kept_114 : decode cX8_kept 114 = .ok (.istore_n 3, 1) := by decide +kernel
theorem dX8_kept_115 : decode cX8_kept 115 = .ok (.iinc 4 1, 3) := by decide +kernel
theorem dX8_kept_118 : decode cX8_kept 118 = .ok (.goto (-40), 3) := by decide +kernel
theorem dX8_kept_121 : decode cX8_kept 121 = .ok (.iload_n 3, 1) := by decide +kernel
theorem dX8_kept_122 : decode cX8_kept 122 = .ok (.ifCond .eq 7, 3) := by decide +kernel
theorem dX8_kept_125 : decode cX8_kept 125 = .ok (.iload_n 2, 1) := by decide +kernel
theorem dX8_kept_126 : decode cX8_kept 126 = .ok (.goto 4, 3) := by decide +kernel
theorem dX8_kept_129 : decode cX8_kept 129 = .ok (.iload_n 1, 1) := by decide +kernel
theorem dX8_kept_130 : decode cX8_kept 130 = .ok (.istore_n 1, 1) := by decide +kernel
theorem dX8_kept_131 : decode cX8_kept 131 = .ok (.iinc 2 1, 3) := by decide +kernel
theorem dX8_kept_134 : decode cX8_kept 134 = .ok (.goto (-92), 3) := by decide +kernel
theorem dX8_kept_137 : decode cX8_kept 137 = .ok (.iload_n 1, 1) := by decide +kernel
theorem dX8_kept_138 : decode cX8_kept 138 = .ok (.ifCond .ge 12, 3) := by decide +kernel
theorem dX8_kept_141 : decode cX8_kept 141 = .ok (.aload_n 0, 1) := by decide +kernel
theorem dX8_kept_142 : decode cX8_kept 142 = .ok (.ldc 52, 2) := by decide +kernel
theorem dX8_kept_144 : decode cX8_kept 144 = .ok (.invokevirtual 53, 3) := by decide +kernel
theorem dX8_kept_147 : decode cX8_kept 147 = .ok (.goto 4, 3) := by decide +kernel
theorem dX8_kept_150 : decode cX8_kept 150 = .ok (.iload_n 1, 1) := by decide +kernel
theorem dX8_kept_151 : decode cX8_kept 151 = .ok (.ireturn, 1) := by decide +kernel
theorem dX8_word_0 : decode cX8_word 0 = .ok (.aload_n 0, 1) := by decide +kernel
theorem dX8_word_1 : decode cX8_word 1 = .ok (.iload_n 1, 1) := by decide +kernel
theorem dX8_word_2 : decode cX8_word 2 = .ok (.invokevirtual 120, 3) := by decide +kernel
theorem dX8_word_5 : decode cX8_word 5 = .ok (.ifCond .eq 25, 3) := by decide +kernel
theorem dX8_word_8 : decode cX8_word 8 = .ok (.iload_n 2, 1) := by decide +kernel
theorem dX8_word_9 : decode cX8_word 9 = .ok (.iconst 0, 1) := by decide +kernel
theorem dX8_word_10 : decode cX8_word 10 = .ok (.sipush 9999, 3) := by decide +kernel
theorem dX8_word_13 : decode cX8_word 13 = .ok (.invokestatic 41, 3) := by decide +kernel
theorem dX8_word_16 : decode cX8_word 16 = .ok (.ifCond .eq 14, 3) := by decide +kernel
theorem dX8_word_19 : decode cX8_word 19 = .ok (.iload_n 3, 1) := by decide +kernel
theorem dX8_word_20 : decode cX8_word 20 = .ok (.iconst 0, 1) := by decide +kernel
theorem dX8_word_21 : decode cX8_word 21 = .ok (.sipush 999, 3) := by decide +kernel
theorem dX8_word_24 : decode cX8_word 24 = .ok (.invokestatic 41, 3) := by decide +kernel
theorem dX8_word_27 : decode cX8_word 27 = .ok (.ifCond .ne 10, 3) := by decide +kernel
theorem dX8_word_30 : decode cX8_word 30 = .ok (.aload_n 0, 1) := by decide +kernel
theorem dX8_word_31 : decode cX8_word 31 = .ok (.ldc 57, 2) := by decide +kernel
theorem dX8_word_33 : decode cX8_word 33 = .ok (.invokevirtual 53, 3) := by decide +kernel
theorem dX8_word_36 : decode cX8_word 36 = .ok (.ireturn, 1) := by decide +kernel
theorem dX8_word_37 : decode cX8_word 37 = .ok (.aload_n 0, 1) := by decide +kernel
theorem dX8_word_38 : decode cX8_word 38 = .ok (.getfield 9, 3) := by decide +kernel
theorem dX8_word_41 : decode cX8_word 41 = .ok (.iconst 3, 1) := by decide +kernel
theorem dX8_word_42 : decode cX8_word 42 = .ok (.iaload, 1) := by decide +kernel
theorem dX8_word_43 : decode cX8_word 43 = .ok (.istore 5, 2) := by decide +kernel
theorem dX8_word_45 : decode cX8_word 45 = .ok (.iload_n 2, 1) := by decide +kernel
theorem dX8_word_46 : decode cX8_word 46 = .ok (.bipush 100, 2) := by decide +kernel
theorem dX8_word_48 : decode cX8_word 48 = .ok (.idiv, 1) := by decide +kernel
theorem dX8_word_49 : decode cX8_word 49 = .ok (.iload_n 2, 1) := by decide +kernel
theorem dX8_word_50 : decode cX8_word 50 = .ok (.bipush 100, 2) := by decide +kernel
theorem dX8_word_52 : decode cX8_word 52 = .ok (.irem, 1) := by decide +kernel
theorem dX8_word_53 : decode cX8_word 53 = .ok (.if_icmp .gt 27, 3) := by decide +kernel
theorem dX8_word_56 : decode cX8_word 56 = .ok (.iload 5, 2) := by decide +kernel
theorem dX8_word_58 : decode cX8_word 58 = .ok (.ifCond .le 29, 3) := by decide +kernel
theorem dX8_word_61 : decode cX8_word 61 = .ok (.iload_n 3, 1) := by decide +kernel
theorem dX8_word_62 : decode cX8_word 62 = .ok (.aload_n 0, 1) := by decide +kernel
theorem dX8_word_63 : decode cX8_word 63 = .ok (.getfield 9, 3) := by decide +kernel
theorem dX8_word_66 : decode cX8_word 66 = .ok (.sipush 266, 3) := by decide +kernel
theorem dX8_word_69 : decode cX8_word 69 = .ok (.iconst 5, 1) := by decide +kernel
theorem dX8_word_70 : decode cX8_word 70 = .ok (.iload 5, 2) := by decide +kernel
theorem dX8_word_72 : decode cX8_word 72 = .ok (.imul, 1) := by decide +kernel
theorem dX8_word_73 : decode cX8_word 73 = .ok (.iadd, 1) := by decide +kernel
theorem dX8_word_74 : decode cX8_word 74 = .ok (.iconst 2, 1) := by decide +kernel
theorem dX8_word_75 : decode cX8_word 75 = .ok (.isub, 1) := by decide +kernel
theorem dX8_word_76 : decode cX8_word 76 = .ok (.iaload, 1) := by decide +kernel
theorem dX8_word_77 : decode cX8_word 77 = .ok (.if_icmp .ge 10, 3) := by decide +kernel
theorem dX8_word_80 : decode cX8_word 80 = .ok (.aload_n 0, 1) := by decide +kernel
theorem dX8_word_81 : decode cX8_word 81 = .ok (.ldc 147, 2) := by decide +kernel
theorem dX8_word_83 : decode cX8_word 83 = .ok (.invokevirtual 53, 3) := by decide +kernel
theorem dX8_word_86 : decode cX8_word 86 = .ok (.ireturn, 1) := by decide +kernel
theorem dX8_word_87 : decode cX8_word 87 = .ok (.iload 5, 2) := by decide +kernel
theorem dX8_word_89 : decode cX8_word 89 = .ok (.bipush 20, 2) := by decide +kernel
theorem dX8_word_91 : decode cX8_word 91 = .ok (.if_icmp .ne 10, 3) := by decide +kernel
theorem dX8_word_94 : decode cX8_word 94 = .ok (.aload_n 0, 1) := by decide +kernel
theorem dX8_word_95 : decode cX8_word 95 = .ok (.ldc 61, 2) := by decide +kernel
theorem dX8_word_97 : decode cX8_word 97 = .ok (.invokevirtual 53, 3) := by decide +kernel
theorem dX8_word_100 : decode cX8_word 100 = .ok (.ireturn, 1) := by decide +kernel
theorem dX8_word_101 : decode cX8_word 101 = .ok (.aload_n 0, 1) := by decide +kernel
theorem dX8_word_102 : decode cX8_word 102 = .ok (.invokevirtual 114, 3) := by decide +kernel
theorem dX8_word_105 : decode cX8_word 105 = .ok (.aload_n 0, 1) := by decide +kernel
theorem dX8_word_106 : decode cX8_word 106 = .ok (.getfield 9, 3) := by decide +kernel
theorem dX8_word_109 : decode cX8_word 109 = .ok (.sipush 266, 3) := by decide +kernel
theorem dX8_word_112 : decode cX8_word 112 = .ok (.iconst 5, 1) := by decide +kernel
theorem dX8_word_113 : decode cX8_word 113 = .ok (.iload 5, 2) := by decide +kernel
theorem dX8_word_115 : decode cX8_word 115 = .ok (.imul, 1) := by decide +kernel
theorem dX8_word_116 : decode cX8_word 116 = .ok (.iadd, 1) := by decide +kernel
theorem dX8_word_117 : decode cX8_word 117 = .ok (.iload_n 1, 1) := by decide +kernel
theorem dX8_word_118 : decode cX8_word 118 = .ok (.iastore, 1) := by decide +kernel
theorem dX8_word_119 : decode cX8_word 119 = .ok (.aload_n 0, 1) := by decide +kernel
theorem dX8_word_120 : decode cX8_word 120 = .ok (.getfield 9, 3) := by decide +kernel
theorem dX8_word_123 : decode cX8_word 123 = .ok (.sipush 266, 3) := by decide +kernel
theorem dX8_word_126 : decode cX8_word 126 = .ok (.iconst 5, 1) := by decide +kernel
theorem dX8_word_127 : decode cX8_word 127 = .ok (.iload 5, 2) := by decide +kernel
theorem dX8_word_129 : decode cX8_word 129 = .ok (.imul, 1) := by decide +kernel
theorem dX8_word_130 : decode cX8_word 130 = .ok (.iadd, 1) := by decide +kernel
theorem dX8_word_131 : decode cX8_word 131 = .ok (.iconst 1, 1) := by decide +kernel
theorem dX8_word_132 : decode cX8_word 132 = .ok (.iadd, 1) := by decide +kernel
theorem dX8_word_133 : decode cX8_word 133 = .ok (.iload_n 2, 1) := by decide +kernel
theorem dX8_word_134 : decode cX8_word 134 = .ok (.bipush 100, 2) := by decide +kernel
theorem dX8_word_136 : decode cX8_word 136 = .ok (.idiv, 1) := by decide +kernel
theorem dX8_word_137 : decode cX8_word 137 = .ok (.iastore, 1) := by decide +kernel
theorem dX8_word_138 : decode cX8_word 138 = .ok (.aload_n 0, 1) := by decide +kernel
theorem dX8_word_139 : decode cX8_word 139 = .ok (.getfield 9, 3) := by decide +kernel
theorem dX8_word_142 : decode cX8_word 142 = .ok (.sipush 266, 3) := by decide +kernel
theorem dX8_word_145 : decode cX8_word 145 = .ok (.iconst 5, 1) := by decide +kernel
theorem dX8_word_146 : decode cX8_word 146 = .ok (.iload 5, 2) := by decide +kernel
theorem dX8_word_148 : decode cX8_word 148 = .ok (.imul, 1) := by decide +kernel
theorem dX8_word_149 : decode cX8_word 149 = .ok (.iadd, 1) := by decide +kernel
theorem dX8_word_150 : decode cX8_word 150 = .ok (.iconst 2, 1) := by decide +kernel
theorem dX8_word_151 : decode cX8_word 151 = .ok (.iadd, 1) := by decide +kernel
theorem dX8_word_152 : decode cX8_word 152 = .ok (.iload_n 2, 1) := by decide +kernel
theorem dX8_word_153 : decode cX8_word 153 = .ok (.bipush 100, 2) := by decide +kernel
theorem dX8_word_155 : decode cX8_word 155 = .ok (.irem, 1) := by decide +kernel
theorem dX8_word_156 : decode cX8_word 156 = .ok (.iastore, 1) := by decide +kernel
theorem dX8_word_157 : decode cX8_word 157 = .ok (.aload_n 0, 1) := by decide +kernel
theorem dX8_word_158 : decode cX8_word 158 = .ok (.getfield 9, 3) := by decide +kernel
theorem dX8_word_161 : decode cX8_word 161 = .ok (.sipush 266, 3) := by decide +kernel
theorem dX8_word_164 : decode cX8_word 164 = .ok (.iconst 5, 1) := by decide +kernel
theorem dX8_word_165 : decode cX8_word 165 = .ok (.iload 5, 2) := by decide +kernel
theorem dX8_word_167 : decode cX8_word 167 = .ok (.imul, 1) := by decide +kernel
theorem dX8_word_168 : decode cX8_word 168 = .ok (.iadd, 1) := by decide +kernel
theorem dX8_word_169 : decode cX8_word 169 = .ok (.iconst 3, 1) := by decide +kernel
theorem dX8_word_170 : decode cX8_word 170 = .ok (.iadd, 1) := by decide +kernel
theorem dX8_word_171 : decode cX8_word 171 = .ok (.iload_n 3, 1) := by decide +kernel
theorem dX8_word_172 : decode cX8_word 172 = .ok (.iastore, 1) := by decide +kernel
theorem dX8_word_173 : decode cX8_word 173 = .ok (.aload_n 0, 1) := by decide +kernel
theorem dX8_word_174 : decode cX8_word 174 = .ok (.getfield 9, 3) := by decide +kernel
theorem dX8_word_177 : decode cX8_word 177 = .ok (.sipush 266, 3) := by decide +kernel
theorem dX8_word_180 : decode cX8_word 180 = .ok (.iconst 5, 1) := by decide +kernel
theorem dX8_word_181 : decode cX8_word 181 = .ok (.iload 5, 2) := by decide +kernel
theorem dX8_word_183 : decode cX8_word 183 = .ok (.imul, 1) := by decide +kernel
theorem dX8_word_184 : decode cX8_word 184 = .ok (.iadd, 1) := by decide +kernel
theorem dX8_word_185 : decode cX8_word 185 = .ok (.iconst 4, 1) := by decide +kernel
theorem dX8_word_186 : decode cX8_word 186 = .ok (.iadd, 1) := by decide +kernel
theorem dX8_word_187 : decode cX8_word 187 = .ok (.iload 4, 2) := by decide +kernel
theorem dX8_word_189 : decode cX8_word 189 = .ok (.ifCond .eq 7, 3) := by decide +kernel
theorem dX8_word_192 : decode cX8_word 192 = .ok (.iconst 1, 1) := by decide +kernel
theorem dX8_word_193 : decode cX8_word 193 = .ok (.goto 4, 3) := by decide +kernel
theorem dX8_word_196 : decode cX8_word 196 = .ok (.iconst 0, 1) := by decide +kernel
theorem dX8_word_197 : decode cX8_word 197 = .ok (.iastore, 1) := by decide +kernel
theorem dX8_word_198 : decode cX8_word 198 = .ok (.aload_n 0, 1) := by decide +kernel
theorem dX8_word_199 : decode cX8_word 199 = .ok (.getfield 9, 3) := by decide +kernel
theorem dX8_word_202 : decode cX8_word 202 = .ok (.iconst 3, 1) := by decide +kernel
theorem dX8_word_203 : decode cX8_word 203 = .ok (.dup2, 1) := by decide +kernel
theorem dX8_word_204 : decode cX8_word 204 = .ok (.iaload, 1) := by decide +kernel
theorem dX8_word_205 : decode cX8_word 205 = .ok (.iconst 1, 1) := by decide +kernel
theorem dX8_word_206 : decode cX8_word 206 = .ok (.iadd, 1) := by decide +kernel
theorem dX8_word_207 : decode cX8_word 207 = .ok (.iastore, 1) := by decide +kernel
theorem dX8_word_208 : decode cX8_word 208 = .ok (.iload 5, 2) := by decide +kernel
theorem dX8_word_210 : decode cX8_word 210 = .ok (.iconst 1, 1) := by decide +kernel
theorem dX8_word_211 : decode cX8_word 211 = .ok (.iadd, 1) := by decide +kernel
theorem dX8_word_212 : decode cX8_word 212 = .ok (.ireturn, 1) := by decide +kernel
theorem dX8_out_0 : decode cX8_out 0 = .ok (.aload_n 0, 1) := by decide +kernel
theorem dX8_out_1 : decode cX8_out 1 = .ok (.iload_n 1, 1) := by decide +kernel
theorem dX8_out_2 : decode cX8_out 2 = .ok (.invokevirtual 120, 3) := by decide +kernel
theorem dX8_out_5 : decode cX8_out 5 = .ok (.ifCond .eq 24, 3) := by decide +kernel
theorem dX8_out_8 : decode cX8_out 8 = .ok (.iload_n 2, 1) := by decide +kernel
theorem dX8_out_9 : decode cX8_out 9 = .ok (.iconst 0, 1) := by decide +kernel
theorem dX8_out_10 : decode cX8_out 10 = .ok (.bipush 99, 2) := by decide +kernel
theorem dX8_out_12 : decode cX8_out 12 = .ok (.invokestatic 41, 3) := by decide +kernel
theorem dX8_out_15 : decode cX8_out 15 = .ok (.ifCond .eq 14, 3) := by decide +kernel
theorem dX8_out_18 : decode cX8_out 18 = .ok (.iload_n 3, 1) := by decide +kernel
theorem dX8_out_19 : decode cX8_out 19 = .ok (.iconst 0, 1) := by decide +kernel
theorem dX8_out_20 : decode cX8_out 20 = .ok (.sipush 999, 3) := by decide +kernel
theorem dX8_out_23 : decode cX8_out 23 = .ok (.invokestatic 41, 3) := by decide +kernel
theorem dX8_out_26 : decode cX8_out 26 = .ok (.ifCond .ne 10, 3) := by decide +kernel
theorem dX8_out_29 : decode cX8_out 29 = .ok (.aload_n 0, 1) := by decide +kernel
theorem dX8_out_30 : decode cX8_out 30 = .ok (.ldc 57, 2) := by decide +kernel
theorem dX8_out_32 : decode cX8_out 32 = .ok (.invokevirtual 53, 3) := by decide +kernel
theorem dX8_out_35 : decode cX8_out 35 = .ok (.ireturn, 1) := by decide +kernel
theorem dX8_out_36 : decode cX8_out 36 = .ok (.aload_n 0, 1) := by decide +kernel
theorem dX8_out_37 : decode cX8_out 37 = .ok (.iload_n 1, 1) := by decide +kernel
theorem dX8_out_38 : decode cX8_out 38 = .ok (.iload_n 2, 1) := by decide +kernel
theorem dX8_out_39 : decode cX8_out 39 = .ok (.iload_n 3, 1) := by decide +kernel
theorem dX8_out_40 : decode cX8_out 40 = .ok (.invokevirtual 165, 3) := by decide +kernel
theorem dX8_out_43 : decode cX8_out 43 = .ok (.ifCond .eq 7, 3) := by decide +kernel
theorem dX8_out_46 : decode cX8_out 46 = .ok (.iconst 1, 1) := by decide +kernel
theorem dX8_out_47 : decode cX8_out 47 = .ok (.goto 4, 3) := by decide +kernel
theorem dX8_out_50 : decode cX8_out 50 = .ok (.iconst 0, 1) := by decide +kernel
theorem dX8_out_51 : decode cX8_out 51 = .ok (.ireturn, 1) := by decide +kernel
theorem dX8_ofRock_0 : decode cX8_ofRock 0 = .ok (.aload_n 0, 1) := by decide +kernel
theorem dX8_ofRock_1 : decode cX8_ofRock 1 = .ok (.iload_n 1, 1) := by decide +kernel
theorem dX8_ofRock_2 : decode cX8_ofRock 2 = .ok (.invokevirtual 120, 3) := by decide +kernel
theorem dX8_ofRock_5 : decode cX8_ofRock 5 = .ok (.ifCond .eq 12, 3) := by decide +kernel
theorem dX8_ofRock_8 : decode cX8_ofRock 8 = .ok (.iload_n 2, 1) := by decide +kernel
theorem dX8_ofRock_9 : decode cX8_ofRock 9 = .ok (.iconst 0, 1) := by decide +kernel
theorem dX8_ofRock_10 : decode cX8_ofRock 10 = .ok (.iload_n 3, 1) := by decide +kernel
theorem dX8_ofRock_11 : decode cX8_ofRock 11 = .ok (.invokestatic 41, 3) := by decide +kernel
theorem dX8_ofRock_14 : decode cX8_ofRock 14 = .ok (.ifCond .ne 10, 3) := by decide +kernel
theorem dX8_ofRock_17 : decode cX8_ofRock 17 = .ok (.aload_n 0, 1) := by decide +kernel
theorem dX8_ofRock_18 : decode cX8_ofRock 18 = .ok (.ldc 57, 2) := by decide +kernel
theorem dX8_ofRock_20 : decode cX8_ofRock 20 = .ok (.invokevirtual 53, 3) := by decide +kernel
theorem dX8_ofRock_23 : decode cX8_ofRock 23 = .ok (.ireturn, 1) := by decide +kernel
theorem dX8_ofRock_24 : decode cX8_ofRock 24 = .ok (.aload_n 0, 1) := by decide +kernel
theorem dX8_ofRock_25 : decode cX8_ofRock 25 = .ok (.iload_n 1, 1) := by decide +kernel
theorem dX8_ofRock_26 : decode cX8_ofRock 26 = .ok (.invokevirtual 193, 3) := by decide +kernel
theorem dX8_ofRock_29 : decode cX8_ofRock 29 = .ok (.ifCond .eq 17, 3) := by decide +kernel
theorem dX8_ofRock_32 : decode cX8_ofRock 32 = .ok (.aload_n 0, 1) := by decide +kernel
theorem dX8_ofRock_33 : decode cX8_ofRock 33 = .ok (.iload_n 1, 1) := by decide +kernel
theorem dX8_ofRock_34 : decode cX8_ofRock 34 = .ok (.iload 4, 2) := by decide +kernel
theorem dX8_ofRock_36 : decode cX8_ofRock 36 = .ok (.invokestatic 45, 3) := by decide +kernel
theorem dX8_ofRock_39 : decode cX8_ofRock 39 = .ok (.iload_n 2, 1) := by decide +kernel
theorem dX8_ofRock_40 : decode cX8_ofRock 40 = .ok (.invokevirtual 171, 3) := by decide +kernel
theorem dX8_ofRock_43 : decode cX8_ofRock 43 = .ok (.goto 9, 3) := by decide +kernel
theorem dX8_ofRock_46 : decode cX8_ofRock 46 = .ok (.aload_n 0, 1) := by decide +kernel
theorem dX8_ofRock_47 : decode cX8_ofRock 47 = .ok (.ldc 123, 2) := by decide +kernel
theorem dX8_ofRock_49 : decode cX8_ofRock 49 = .ok (.invokevirtual 53, 3) := by decide +kernel
theorem dX8_ofRock_52 : decode cX8_ofRock 52 = .ok (.ireturn, 1) := by decide +kernel
theorem dX8_keeper_0 : decode cX8_keeper 0 = .ok (.aload_n 0, 1) := by decide +kernel
theorem dX8_keeper_1 : decode cX8_keeper 1 = .ok (.iload_n 1, 1) := by decide +kernel
theorem dX8_keeper_2 : decode cX8_keeper 2 = .ok (.iload_n 2, 1) := by decide +kernel
theorem dX8_keeper_3 : decode cX8_keeper 3 = .ok (.bipush 19, 2) := by decide +kernel
theorem dX8_keeper_5 : decode cX8_keeper 5 = .ok (.bipush 8, 2) := by decide +kernel
theorem dX8_keeper_7 : decode cX8_keeper 7 = .ok (.invokevirtual 196, 3) := by decide +kernel
theorem dX8_keeper_10 : decode cX8_keeper 10 = .ok (.ireturn, 1) := by decide +kernel
theorem dX8_limit_0 : decode cX8_limit 0 = .ok (.aload_n 0, 1) := by decide +kernel
theorem dX8_limit_1 : decode cX8_limit 1 = .ok (.iload_n 1, 1) := by decide +kernel
theorem dX8_limit_2 : decode cX8_limit 2 = .ok (.iload_n 2, 1) := by decide +kernel
theorem dX8_limit_3 : decode cX8_limit 3 = .ok (.bipush 9, 2) := by decide +kernel
theorem dX8_limit_5 : decode cX8_limit 5 = .ok (.bipush 9, 2) := by decide +kernel
theorem dX8_limit_7 : decode cX8_limit 7 = .ok (.invokevirtual 196, 3) := by decide +kernel
theorem dX8_limit_10 : decode cX8_limit 10 = .ok (.ireturn, 1) := by decide +kernel
theorem dX8_seas_0 : decode cX8_seas 0 = .ok (.iload_n 1, 1) := by decide +kernel
theorem dX8_seas_1 : decode cX8_seas 1 = .ok (.invokestatic 177, 3) := by decide +kernel
theorem dX8_seas_4 : decode cX8_seas 4 = .ok (.ifCond .ne 10, 3) := by decide +kernel
theorem dX8_seas_7 : decode cX8_seas 7 = .ok (.aload_n 0, 1) := by decide +kernel
theorem dX8_seas_8 : decode cX8_seas 8 = .ok (.ldc 57, 2) := by decide +kernel
theorem dX8_seas_10 : decode cX8_seas 10 = .ok (.invokevirtual 53, 3) := by decide +kernel
theorem dX8_seas_13 : decode cX8_seas 13 = .ok (.ireturn, 1) := by decide +kernel
theorem dX8_seas_14 : decode cX8_seas 14 = .ok (.aload_n 0, 1) := by decide +kernel
theorem dX8_seas_15 : decode cX8_seas 15 = .ok (.getfield 19, 3) := by decide +kernel
theorem dX8_seas_18 : decode cX8_seas 18 = .ok (.iload_n 1, 1) := by decide +kernel
theorem dX8_seas_19 : decode cX8_seas 19 = .ok (.iaload, 1) := by decide +kernel
theorem dX8_seas_20 : decode cX8_seas 20 = .ok (.ifCond .ne 10, 3) := by decide +kernel
theorem dX8_seas_23 : decode cX8_seas 23 = .ok (.aload_n 0, 1) := by decide +kernel
theorem dX8_seas_24 : decode cX8_seas 24 = .ok (.ldc 180, 2) := by decide +kernel
theorem dX8_seas_26 : decode cX8_seas 26 = .ok (.invokevirtual 53, 3) := by decide +kernel
theorem dX8_seas_29 : decode cX8_seas 29 = .ok (.ireturn, 1) := by decide +kernel
theorem dX8_seas_30 : decode cX8_seas 30 = .ok (.aload_n 0, 1) := by decide +kernel
theorem dX8_seas_31 : decode cX8_seas 31 = .ok (.invokevirtual 114, 3) := by decide +kernel
theorem dX8_seas_34 : decode cX8_seas 34 = .ok (.iconst 0, 1) := by decide +kernel
theorem dX8_seas_35 : decode cX8_seas 35 = .ok (.istore_n 2, 1) := by decide +kernel
theorem dX8_seas_36 : decode cX8_seas 36 = .ok (.iconst 0, 1) := by decide +kernel
theorem dX8_seas_37 : decode cX8_seas 37 = .ok (.istore_n 3, 1) := by decide +kernel
theorem dX8_seas_38 : decode cX8_seas 38 = .ok (.iload_n 3, 1) := by decide +kernel
theorem dX8_seas_39 : decode cX8_seas 39 = .ok (.bipush 20, 2) := by decide +kernel
theorem dX8_seas_41 : decode cX8_seas 41 = .ok (.if_icmp .ge 58, 3) := by decide +kernel
theorem dX8_seas_44 : decode cX8_seas 44 = .ok (.iload_n 3, 1) := by decide +kernel
theorem dX8_seas_45 : decode cX8_seas 45 = .ok (.aload_n 0, 1) := by decide +kernel
theorem dX8_seas_46 : decode cX8_seas 46 = .ok (.getfield 22, 3) := by decide +kernel
theorem dX8_seas_49 : decode cX8_seas 49 = .ok (.iload_n 1, 1) := by decide +kernel
