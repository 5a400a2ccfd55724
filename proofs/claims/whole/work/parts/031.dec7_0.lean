theorem dX7_init_0 : decode cX7_init 0 = .ok (.aload_n 0, 1) := by decide +kernel
theorem dX7_init_1 : decode cX7_init 1 = .ok (.invokespecial 1, 3) := by decide +kernel
theorem dX7_init_4 : decode cX7_init 4 = .ok (.aload_n 0, 1) := by decide +kernel
theorem dX7_init_5 : decode cX7_init 5 = .ok (.new 7, 3) := by decide +kernel
theorem dX7_init_8 : decode cX7_init 8 = .ok (.dup, 1) := by decide +kernel
theorem dX7_init_9 : decode cX7_init 9 = .ok (.invokespecial 9, 3) := by decide +kernel
theorem dX7_init_12 : decode cX7_init 12 = .ok (.putfield 10, 3) := by decide +kernel
theorem dX7_init_15 : decode cX7_init 15 = .ok (.aload_n 0, 1) := by decide +kernel
theorem dX7_init_16 : decode cX7_init 16 = .ok (.bipush 10, 2) := by decide +kernel
theorem dX7_init_18 : decode cX7_init 18 = .ok (.anewarray 16, 3) := by decide +kernel
theorem dX7_init_21 : decode cX7_init 21 = .ok (.putfield 18, 3) := by decide +kernel
theorem dX7_init_24 : decode cX7_init 24 = .ok (.aload_n 0, 1) := by decide +kernel
theorem dX7_init_25 : decode cX7_init 25 = .ok (.bipush 8, 2) := by decide +kernel
theorem dX7_init_27 : decode cX7_init 27 = .ok (.newarray .int, 2) := by decide +kernel
theorem dX7_init_29 : decode cX7_init 29 = .ok (.putfield 22, 3) := by decide +kernel
theorem dX7_init_32 : decode cX7_init 32 = .ok (.aload_n 0, 1) := by decide +kernel
theorem dX7_init_33 : decode cX7_init 33 = .ok (.bipush 12, 2) := by decide +kernel
theorem dX7_init_35 : decode cX7_init 35 = .ok (.newarray .int, 2) := by decide +kernel
theorem dX7_init_37 : decode cX7_init 37 = .ok (.putfield 26, 3) := by decide +kernel
theorem dX7_init_40 : decode cX7_init 40 = .ok (.aload_n 0, 1) := by decide +kernel
theorem dX7_init_41 : decode cX7_init 41 = .ok (.bipush 12, 2) := by decide +kernel
theorem dX7_init_43 : decode cX7_init 43 = .ok (.newarray .int, 2) := by decide +kernel
theorem dX7_init_45 : decode cX7_init 45 = .ok (.putfield 29, 3) := by decide +kernel
theorem dX7_init_48 : decode cX7_init 48 = .ok (.aload_n 0, 1) := by decide +kernel
theorem dX7_init_49 : decode cX7_init 49 = .ok (.new 32, 3) := by decide +kernel
theorem dX7_init_52 : decode cX7_init 52 = .ok (.dup, 1) := by decide +kernel
theorem dX7_init_53 : decode cX7_init 53 = .ok (.invokespecial 34, 3) := by decide +kernel
theorem dX7_init_56 : decode cX7_init 56 = .ok (.putfield 35, 3) := by decide +kernel
theorem dX7_init_59 : decode cX7_init 59 = .ok (.aload_n 0, 1) := by decide +kernel
theorem dX7_init_60 : decode cX7_init 60 = .ok (.bipush 20, 2) := by decide +kernel
theorem dX7_init_62 : decode cX7_init 62 = .ok (.newarray .int, 2) := by decide +kernel
theorem dX7_init_64 : decode cX7_init 64 = .ok (.putfield 39, 3) := by decide +kernel
theorem dX7_init_67 : decode cX7_init 67 = .ok (.aload_n 0, 1) := by decide +kernel
theorem dX7_init_68 : decode cX7_init 68 = .ok (.new 42, 3) := by decide +kernel
theorem dX7_init_71 : decode cX7_init 71 = .ok (.dup, 1) := by decide +kernel
theorem dX7_init_72 : decode cX7_init 72 = .ok (.invokespecial 44, 3) := by decide +kernel
theorem dX7_init_75 : decode cX7_init 75 = .ok (.putfield 45, 3) := by decide +kernel
theorem dX7_init_78 : decode cX7_init 78 = .ok (.aload_n 0, 1) := by decide +kernel
theorem dX7_init_79 : decode cX7_init 79 = .ok (.sipush 256, 3) := by decide +kernel
theorem dX7_init_82 : decode cX7_init 82 = .ok (.newarray .boolean, 2) := by decide +kernel
theorem dX7_init_84 : decode cX7_init 84 = .ok (.putfield 49, 3) := by decide +kernel
theorem dX7_init_87 : decode cX7_init 87 = .ok (.aload_n 0, 1) := by decide +kernel
theorem dX7_init_88 : decode cX7_init 88 = .ok (.iconst 4, 1) := by decide +kernel
theorem dX7_init_89 : decode cX7_init 89 = .ok (.anewarray 53, 3) := by decide +kernel
theorem dX7_init_92 : decode cX7_init 92 = .ok (.putfield 55, 3) := by decide +kernel
theorem dX7_init_95 : decode cX7_init 95 = .ok (.aload_n 0, 1) := by decide +kernel
theorem dX7_init_96 : decode cX7_init 96 = .ok (.new 59, 3) := by decide +kernel
theorem dX7_init_99 : decode cX7_init 99 = .ok (.dup, 1) := by decide +kernel
theorem dX7_init_100 : decode cX7_init 100 = .ok (.invokespecial 61, 3) := by decide +kernel
theorem dX7_init_103 : decode cX7_init 103 = .ok (.putfield 62, 3) := by decide +kernel
theorem dX7_init_106 : decode cX7_init 106 = .ok (.iconst 0, 1) := by decide +kernel
theorem dX7_init_107 : decode cX7_init 107 = .ok (.istore_n 1, 1) := by decide +kernel
theorem dX7_init_108 : decode cX7_init 108 = .ok (.iload_n 1, 1) := by decide +kernel
theorem dX7_init_109 : decode cX7_init 109 = .ok (.bipush 10, 2) := by decide +kernel
theorem dX7_init_111 : decode cX7_init 111 = .ok (.if_icmp .ge 22, 3) := by decide +kernel
theorem dX7_init_114 : decode cX7_init 114 = .ok (.aload_n 0, 1) := by decide +kernel
theorem dX7_init_115 : decode cX7_init 115 = .ok (.getfield 18, 3) := by decide +kernel
theorem dX7_init_118 : decode cX7_init 118 = .ok (.iload_n 1, 1) := by decide +kernel
theorem dX7_init_119 : decode cX7_init 119 = .ok (.new 16, 3) := by decide +kernel
theorem dX7_init_122 : decode cX7_init 122 = .ok (.dup, 1) := by decide +kernel
theorem dX7_init_123 : decode cX7_init 123 = .ok (.invokespecial 66, 3) := by decide +kernel
theorem dX7_init_126 : decode cX7_init 126 = .ok (.aastore, 1) := by decide +kernel
theorem dX7_init_127 : decode cX7_init 127 = .ok (.iinc 1 1, 3) := by decide +kernel
theorem dX7_init_130 : decode cX7_init 130 = .ok (.goto (-22), 3) := by decide +kernel
theorem dX7_init_133 : decode cX7_init 133 = .ok (.iconst 0, 1) := by decide +kernel
theorem dX7_init_134 : decode cX7_init 134 = .ok (.istore_n 1, 1) := by decide +kernel
theorem dX7_init_135 : decode cX7_init 135 = .ok (.iload_n 1, 1) := by decide +kernel
theorem dX7_init_136 : decode cX7_init 136 = .ok (.iconst 4, 1) := by decide +kernel
theorem dX7_init_137 : decode cX7_init 137 = .ok (.if_icmp .ge 22, 3) := by decide +kernel
theorem dX7_init_140 : decode cX7_init 140 = .ok (.aload_n 0, 1) := by decide +kernel
theorem dX7_init_141 : decode cX7_init 141 = .ok (.getfield 55, 3) := by decide +kernel
theorem dX7_init_144 : decode cX7_init 144 = .ok (.iload_n 1, 1) := by decide +kernel
theorem dX7_init_145 : decode cX7_init 145 = .ok (.new 53, 3) := by decide +kernel
theorem dX7_init_148 : decode cX7_init 148 = .ok (.dup, 1) := by decide +kernel
theorem dX7_init_149 : decode cX7_init 149 = .ok (.invokespecial 67, 3) := by decide +kernel
theorem dX7_init_152 : decode cX7_init 152 = .ok (.aastore, 1) := by decide +kernel
theorem dX7_init_153 : decode cX7_init 153 = .ok (.iinc 1 1, 3) := by decide +kernel
theorem dX7_init_156 : decode cX7_init 156 = .ok (.goto (-21), 3) := by decide +kernel
theorem dX7_init_159 : decode cX7_init 159 = .ok (.return_, 1) := by decide +kernel
theorem dX7_feed_0 : decode cX7_feed 0 = .ok (.iload_n 1, 1) := by decide +kernel
theorem dX7_feed_1 : decode cX7_feed 1 = .ok (.iconst 1, 1) := by decide +kernel
theorem dX7_feed_2 : decode cX7_feed 2 = .ok (.if_icmp .lt 9, 3) := by decide +kernel
theorem dX7_feed_5 : decode cX7_feed 5 = .ok (.iload_n 1, 1) := by decide +kernel
theorem dX7_feed_6 : decode cX7_feed 6 = .ok (.bipush 8, 2) := by decide +kernel
theorem dX7_feed_8 : decode cX7_feed 8 = .ok (.if_icmp .le 10, 3) := by decide +kernel
theorem dX7_feed_11 : decode cX7_feed 11 = .ok (.aload_n 0, 1) := by decide +kernel
theorem dX7_feed_12 : decode cX7_feed 12 = .ok (.ldc 68, 2) := by decide +kernel
theorem dX7_feed_14 : decode cX7_feed 14 = .ok (.invokevirtual 69, 3) := by decide +kernel
theorem dX7_feed_17 : decode cX7_feed 17 = .ok (.ireturn, 1) := by decide +kernel
theorem dX7_feed_18 : decode cX7_feed 18 = .ok (.aload_n 0, 1) := by decide +kernel
theorem dX7_feed_19 : decode cX7_feed 19 = .ok (.getfield 10, 3) := by decide +kernel
theorem dX7_feed_22 : decode cX7_feed 22 = .ok (.getfield 73, 3) := by decide +kernel
theorem dX7_feed_25 : decode cX7_feed 25 = .ok (.iload_n 1, 1) := by decide +kernel
theorem dX7_feed_26 : decode cX7_feed 26 = .ok (.iadd, 1) := by decide +kernel
theorem dX7_feed_27 : decode cX7_feed 27 = .ok (.bipush 40, 2) := by decide +kernel
theorem dX7_feed_29 : decode cX7_feed 29 = .ok (.if_icmp .le 10, 3) := by decide +kernel
theorem dX7_feed_32 : decode cX7_feed 32 = .ok (.aload_n 0, 1) := by decide +kernel
theorem dX7_feed_33 : decode cX7_feed 33 = .ok (.ldc 77, 2) := by decide +kernel
theorem dX7_feed_35 : decode cX7_feed 35 = .ok (.invokevirtual 69, 3) := by decide +kernel
theorem dX7_feed_38 : decode cX7_feed 38 = .ok (.ireturn, 1) := by decide +kernel
theorem dX7_feed_39 : decode cX7_feed 39 = .ok (.aload_n 0, 1) := by decide +kernel
theorem dX7_feed_40 : decode cX7_feed 40 = .ok (.getfield 10, 3) := by decide +kernel
theorem dX7_feed_43 : decode cX7_feed 43 = .ok (.iload_n 1, 1) := by decide +kernel
theorem dX7_feed_44 : decode cX7_feed 44 = .ok (.lload_n 2, 1) := by decide +kernel
theorem dX7_feed_45 : decode cX7_feed 45 = .ok (.invokevirtual 78, 3) := by decide +kernel
theorem dX7_feed_48 : decode cX7_feed 48 = .ok (.aload_n 0, 1) := by decide +kernel
theorem dX7_feed_49 : decode cX7_feed 49 = .ok (.getfield 10, 3) := by decide +kernel
theorem dX7_feed_52 : decode cX7_feed 52 = .ok (.getfield 73, 3) := by decide +kernel
theorem dX7_feed_55 : decode cX7_feed 55 = .ok (.ireturn, 1) := by decide +kernel
theorem dX7_light_0 : decode cX7_light 0 = .ok (.iload_n 1, 1) := by decide +kernel
theorem dX7_light_1 : decode cX7_light 1 = .ok (.invokestatic 82, 3) := by decide +kernel
theorem dX7_light_4 : decode cX7_light 4 = .ok (.ifCond .eq 21, 3) := by decide +kernel
theorem dX7_light_7 : decode cX7_light 7 = .ok (.iload_n 2, 1) := by decide +kernel
theorem dX7_light_8 : decode cX7_light 8 = .ok (.invokestatic 86, 3) := by decide +kernel
theorem dX7_light_11 : decode cX7_light 11 = .ok (.ifCond .eq 14, 3) := by decide +kernel
theorem dX7_light_14 : decode cX7_light 14 = .ok (.iload_n 3, 1) := by decide +kernel
theorem dX7_light_15 : decode cX7_light 15 = .ok (.iconst 1, 1) := by decide +kernel
theorem dX7_light_16 : decode cX7_light 16 = .ok (.if_icmp .lt 9, 3) := by decide +kernel
theorem dX7_light_19 : decode cX7_light 19 = .ok (.iload_n 3, 1) := by decide +kernel
theorem dX7_light_20 : decode cX7_light 20 = .ok (.bipush 15, 2) := by decide +kernel
theorem dX7_light_22 : decode cX7_light 22 = .ok (.if_icmp .le 10, 3) := by decide +kernel
theorem dX7_light_25 : decode cX7_light 25 = .ok (.aload_n 0, 1) := by decide +kernel
theorem dX7_light_26 : decode cX7_light 26 = .ok (.ldc 68, 2) := by decide +kernel
theorem dX7_light_28 : decode cX7_light 28 = .ok (.invokevirtual 69, 3) := by decide +kernel
theorem dX7_light_31 : decode cX7_light 31 = .ok (.ireturn, 1) := by decide +kernel
theorem dX7_light_32 : decode cX7_light 32 = .ok (.aload_n 0, 1) := by decide +kernel
theorem dX7_light_33 : decode cX7_light 33 = .ok (.getfield 89, 3) := by decide +kernel
theorem dX7_light_36 : decode cX7_light 36 = .ok (.bipush 10, 2) := by decide +kernel
theorem dX7_light_38 : decode cX7_light 38 = .ok (.if_icmp .lt 10, 3) := by decide +kernel
theorem dX7_light_41 : decode cX7_light 41 = .ok (.aload_n 0, 1) := by decide +kernel
theorem dX7_light_42 : decode cX7_light 42 = .ok (.ldc 77, 2) := by decide +kernel
theorem dX7_light_44 : decode cX7_light 44 = .ok (.invokevirtual 69, 3) := by decide +kernel
theorem dX7_light_47 : decode cX7_light 47 = .ok (.ireturn, 1) := by decide +kernel
theorem dX7_light_48 : decode cX7_light 48 = .ok (.aload_n 0, 1) := by decide +kernel
theorem dX7_light_49 : decode cX7_light 49 = .ok (.getfield 10, 3) := by decide +kernel
theorem dX7_light_52 : decode cX7_light 52 = .ok (.invokevirtual 92, 3) := by decide +kernel
theorem dX7_light_55 : decode cX7_light 55 = .ok (.istore 4, 2) := by decide +kernel
theorem dX7_light_57 : decode cX7_light 57 = .ok (.aload_n 0, 1) := by decide +kernel
theorem dX7_light_58 : decode cX7_light 58 = .ok (.getfield 10, 3) := by decide +kernel
theorem dX7_light_61 : decode cX7_light 61 = .ok (.iconst 0, 1) := by decide +kernel
theorem dX7_light_62 : decode cX7_light 62 = .ok (.putfield 73, 3) := by decide +kernel
theorem dX7_light_65 : decode cX7_light 65 = .ok (.iload 4, 2) := by decide +kernel
theorem dX7_light_67 : decode cX7_light 67 = .ok (.ifCond .lt 8, 3) := by decide +kernel
theorem dX7_light_70 : decode cX7_light 70 = .ok (.iconst (-1), 1) := by decide +kernel
theorem dX7_light_71 : decode cX7_light 71 = .ok (.iload 4, 2) := by decide +kernel
theorem dX7_light_73 : decode cX7_light 73 = .ok (.isub, 1) := by decide +kernel
theorem dX7_light_74 : decode cX7_light 74 = .ok (.ireturn, 1) := by decide +kernel
theorem dX7_light_75 : decode cX7_light 75 = .ok (.aload_n 0, 1) := by decide +kernel
theorem dX7_light_76 : decode cX7_light 76 = .ok (.iconst 0, 1) := by decide +kernel
theorem dX7_light_77 : decode cX7_light 77 = .ok (.aload_n 0, 1) := by decide +kernel
theorem dX7_light_78 : decode cX7_light 78 = .ok (.getfield 89, 3) := by decide +kernel
theorem dX7_light_81 : decode cX7_light 81 = .ok (.iconst 0, 1) := by decide +kernel
theorem dX7_light_82 : decode cX7_light 82 = .ok (.invokevirtual 96, 3) := by decide +kernel
theorem dX7_light_85 : decode cX7_light 85 = .ok (.pop, 1) := by decide +kernel
theorem dX7_light_86 : decode cX7_light 86 = .ok (.aload_n 0, 1) := by decide +kernel
theorem dX7_light_87 : decode cX7_light 87 = .ok (.getfield 18, 3) := by decide +kernel
theorem dX7_light_90 : decode cX7_light 90 = .ok (.aload_n 0, 1) := by decide +kernel
theorem dX7_light_91 : decode cX7_light 91 = .ok (.getfield 89, 3) := by decide +kernel
theorem dX7_light_94 : decode cX7_light 94 = .ok (.aaload, 1) := by decide +kernel
theorem dX7_light_95 : decode cX7_light 95 = .ok (.iload_n 1, 1) := by decide +kernel
theorem dX7_light_96 : decode cX7_light 96 = .ok (.iload_n 2, 1) := by decide +kernel
theorem dX7_light_97 : decode cX7_light 97 = .ok (.iload_n 3, 1) := by decide +kernel
theorem dX7_light_98 : decode cX7_light 98 = .ok (.invokevirtual 100, 3) := by decide +kernel
theorem dX7_light_101 : decode cX7_light 101 = .ok (.aload_n 0, 1) := by decide +kernel
theorem dX7_light_102 : decode cX7_light 102 = .ok (.getfield 18, 3) := by decide +kernel
theorem dX7_light_105 : decode cX7_light 105 = .ok (.aload_n 0, 1) := by decide +kernel
theorem dX7_light_106 : decode cX7_light 106 = .ok (.getfield 89, 3) := by decide +kernel
theorem dX7_light_109 : decode cX7_light 109 = .ok (.aaload, 1) := by decide +kernel
theorem dX7_light_110 : decode cX7_light 110 = .ok (.aload_n 0, 1) := by decide +kernel
theorem dX7_light_111 : decode cX7_light 111 = .ok (.getfield 10, 3) := by decide +kernel
theorem dX7_light_114 : decode cX7_light 114 = .ok (.invokevirtual 104, 3) := by decide +kernel
theorem dX7_light_117 : decode cX7_light 117 = .ok (.aload_n 0, 1) := by decide +kernel
theorem dX7_light_118 : decode cX7_light 118 = .ok (.dup, 1) := by decide +kernel
theorem dX7_light_119 : decode cX7_light 119 = .ok (.getfield 89, 3) := by decide +kernel
theorem dX7_light_122 : decode cX7_light 122 = .ok (.iconst 1, 1) := by decide +kernel
theorem dX7_light_123 : decode cX7_light 123 = .ok (.iadd, 1) := by decide +kernel
theorem dX7_light_124 : decode cX7_light 124 = .ok (.putfield 89, 3) := by decide +kernel
theorem dX7_light_127 : decode cX7_light 127 = .ok (.aload_n 0, 1) := by decide +kernel
theorem dX7_light_128 : decode cX7_light 128 = .ok (.getfield 89, 3) := by decide +kernel
theorem dX7_light_131 : decode cX7_light 131 = .ok (.iconst 1, 1) := by decide +kernel
theorem dX7_light_132 : decode cX7_light 132 = .ok (.isub, 1) := by decide +kernel
theorem dX7_light_133 : decode cX7_light 133 = .ok (.ireturn, 1) := by decide +kernel
theorem dX7_as_0 : decode cX7_as 0 = .ok (.aload_n 0, 1) := by decide +kernel
theorem dX7_as_1 : decode cX7_as 1 = .ok (.iload_n 1, 1) := by decide +kernel
theorem dX7_as_2 : decode cX7_as 2 = .ok (.invokevirtual 108, 3) := by decide +kernel
theorem dX7_as_5 : decode cX7_as 5 = .ok (.ifCond .eq 10, 3) := by decide +kernel
theorem dX7_as_8 : decode cX7_as 8 = .ok (.iload_n 2, 1) := by decide +kernel
theorem dX7_as_9 : decode cX7_as 9 = .ok (.invokestatic 82, 3) := by decide +kernel
theorem dX7_as_12 : decode cX7_as 12 = .ok (.ifCond .ne 10, 3) := by decide +kernel
theorem dX7_as_15 : decode cX7_as 15 = .ok (.aload_n 0, 1) := by decide +kernel
theorem dX7_as_16 : decode cX7_as 16 = .ok (.ldc 68, 2) := by decide +kernel
theorem dX7_as_18 : decode cX7_as 18 = .ok (.invokevirtual 69, 3) := by decide +kernel
theorem dX7_as_21 : decode cX7_as 21 = .ok (.ireturn, 1) := by decide +kernel
theorem dX7_as_22 : decode cX7_as 22 = .ok (.aload_n 0, 1) := by decide +kernel
theorem dX7_as_23 : decode cX7_as 23 = .ok (.getfield 18, 3) := by decide +kernel
theorem dX7_as_26 : decode cX7_as 26 = .ok (.iload_n 1, 1) := by decide +kernel
theorem dX7_as_27 : decode cX7_as 27 = .ok (.aaload, 1) := by decide +kernel
theorem dX7_as_28 : decode cX7_as 28 = .ok (.getfield 111, 3) := by decide +kernel
theorem dX7_as_31 : decode cX7_as 31 = .ok (.iload_n 2, 1) := by decide +kernel
theorem dX7_as_32 : decode cX7_as 32 = .ok (.invokestatic 114, 3) := by decide +kernel
theorem dX7_as_35 : decode cX7_as 35 = .ok (.ifCond .eq 7, 3) := by decide +kernel
theorem dX7_as_38 : decode cX7_as 38 = .ok (.iload_n 1, 1) := by decide +kernel
theorem dX7_as_39 : decode cX7_as 39 = .ok (.goto 9, 3) := by decide +kernel
theorem dX7_as_42 : decode cX7_as 42 = .ok (.aload_n 0, 1) := by decide +kernel
theorem dX7_as_43 : decode cX7_as 43 = .ok (.ldc 118, 2) := by decide +kernel
theorem dX7_as_45 : decode cX7_as 45 = .ok (.invokevirtual 69, 3) := by decide +kernel
theorem dX7_as_48 : decode cX7_as 48 = .ok (.ireturn, 1) := by decide +kernel
theorem dX7_lightIs_0 : decode cX7_lightIs 0 = .ok (.aload_n 0, 1) := by decide +kernel
theorem dX7_lightIs_1 : decode cX7_lightIs 1 = .ok (.iload_n 1, 1) := by decide +kernel
theorem dX7_lightIs_2 : decode cX7_lightIs 2 = .ok (.invokevirtual 108, 3) := by decide +kernel
theorem dX7_lightIs_5 : decode cX7_lightIs 5 = .ok (.ifCond .ne 10, 3) := by decide +kernel
theorem dX7_lightIs_8 : decode cX7_lightIs 8 = .ok (.aload_n 0, 1) := by decide +kernel
theorem dX7_lightIs_9 : decode cX7_lightIs 9 = .ok (.ldc 68, 2) := by decide +kernel
theorem dX7_lightIs_11 : decode cX7_lightIs 11 = .ok (.invokevirtual 69, 3) := by decide +kernel
theorem dX7_lightIs_14 : decode cX7_lightIs 14 = .ok (.ireturn, 1) := by decide +kernel
theorem dX7_lightIs_15 : decode cX7_lightIs 15 = .ok (.aload_n 0, 1) := by decide +kernel
theorem dX7_lightIs_16 : decode cX7_lightIs 16 = .ok (.getfield 18, 3) := by decide +kernel
theorem dX7_lightIs_19 : decode cX7_lightIs 19 = .ok (.iload_n 1, 1) := by decide +kernel
theorem dX7_lightIs_20 : decode cX7_lightIs 20 = .ok (.aaload, 1) := by decide +kernel
theorem dX7_lightIs_21 : decode cX7_lightIs 21 = .ok (.astore_n 3, 1) := by decide +kernel
theorem dX7_lightIs_22 : decode cX7_lightIs 22 = .ok (.iload_n 2, 1) := by decide +kernel
theorem dX7_lightIs_23 : decode cX7_lightIs 23 = .ok (.tableswitch 88 0 7 #[45, 50, 55, 60, 65, 70, 78, 83], 45) := by decide +kernel
theorem dX7_lightIs_68 : decode cX7_lightIs 68 = .ok (.aload_n 3, 1) := by decide +kernel
theorem dX7_lightIs_69 : decode cX7_lightIs 69 = .ok (.getfield 111, 3) := by decide +kernel
theorem dX7_lightIs_72 : decode cX7_lightIs 72 = .ok (.ireturn, 1) := by decide +kernel
theorem dX7_lightIs_73 : decode cX7_lightIs 73 = .ok (.aload_n 3, 1) := by decide +kernel
theorem dX7_lightIs_74 : decode cX7_lightIs 74 = .ok (.getfield 119, 3) := by decide +kernel
theorem dX7_lightIs_77 : decode cX7_lightIs 77 = .ok (.ireturn, 1) := by decide +kernel
theorem dX7_lightIs_78 : decode cX7_lightIs 78 = .ok (.aload_n 3, 1) := by decide +kernel
theorem dX7_lightIs_79 : decode cX7_lightIs 79 = .ok (.getfield 122, 3) := by decide +kernel
theorem dX7_lightIs_82 : decode cX7_lightIs 82 = .ok (.ireturn, 1) := by decide +kernel
theorem dX7_lightIs_83 : decode cX7_lightIs 83 = .ok (.aload_n 3, 1) := by decide +kernel
theorem dX7_lightIs_84 : decode cX7_lightIs 84 = .ok (.getfield 125, 3) := by decide +kernel
theorem dX7_lightIs_87 : decode cX7_lightIs 87 = .ok (.ireturn, 1) := by decide +kernel
theorem dX7_lightIs_88 : decode cX7_lightIs 88 = .ok (.aload_n 3, 1) := by decide +kernel
theorem dX7_lightIs_89 : decode cX7_lightIs 89 = .ok (.getfield 128, 3) := by decide +kernel
theorem dX7_lightIs_92 : decode cX7_lightIs 92 = .ok (.ireturn, 1) := by decide +kernel
theorem dX7_lightIs_93 : decode cX7_lightIs 93 = .ok (.aload_n 3, 1) := by decide +kernel
theorem dX7_lightIs_94 : decode cX7_lightIs 94 = .ok (.getfield 131, 3) := by decide +kernel
theorem dX7_lightIs_97 : decode cX7_lightIs 97 = .ok (.invokestatic 135, 3) := by decide +kernel
theorem dX7_lightIs_100 : decode cX7_lightIs 100 = .ok (.ireturn, 1) := by decide +kernel
theorem dX7_lightIs_101 : decode cX7_lightIs 101 = .ok (.aload_n 3, 1) := by decide +kernel
theorem dX7_lightIs_102 : decode cX7_lightIs 102 = .ok (.getfield 141, 3) := by decide +kernel
theorem dX7_lightIs_105 : decode cX7_lightIs 105 = .ok (.ireturn, 1) := by decide +kernel
theorem dX7_lightIs_106 : decode cX7_lightIs 106 = .ok (.aload_n 3, 1) := by decide +kernel
theorem dX7_lightIs_107 : decode cX7_lightIs 107 = .ok (.getfield 144, 3) := by decide +kernel
theorem dX7_lightIs_110 : decode cX7_lightIs 110 = .ok (.ireturn, 1) := by decide +kernel
theorem dX7_lightIs_111 : decode cX7_lightIs 111 = .ok (.aload_n 0, 1) := by decide +kernel
theorem dX7_lightIs_112 : decode cX7_lightIs 112 = .ok (.ldc 68, 2) := by decide +kernel
theorem dX7_lightIs_114 : decode cX7_lightIs 114 = .ok (.invokevirtual 69, 3) := by decide +kernel
theorem dX7_lightIs_117 : decode cX7_lightIs 117 = .ok (.ireturn, 1) := by decide +kernel
theorem dX7_at_0 : decode cX7_at 0 = .ok (.aload_n 0, 1) := by decide +kernel
theorem dX7_at_1 : decode cX7_at 1 = .ok (.iload_n 1, 1) := by decide +kernel
theorem dX7_at_2 : decode cX7_at 2 = .ok (.invokevirtual 108, 3) := by decide +kernel
theorem dX7_at_5 : decode cX7_at 5 = .ok (.ifCond .eq 7, 3) := by decide +kernel
theorem dX7_at_8 : decode cX7_at 8 = .ok (.iload_n 2, 1) := by decide +kernel
theorem dX7_at_9 : decode cX7_at 9 = .ok (.ifCond .ge 10, 3) := by decide +kernel
theorem dX7_at_12 : decode cX7_at 12 = .ok (.aload_n 0, 1) := by decide +kernel
theorem dX7_at_13 : decode cX7_at 13 = .ok (.ldc 68, 2) := by decide +kernel
theorem dX7_at_15 : decode cX7_at 15 = .ok (.invokevirtual 69, 3) := by decide +kernel
theorem dX7_at_18 : decode cX7_at 18 = .ok (.ireturn, 1) := by decide +kernel
theorem dX7_at_19 : decode cX7_at 19 = .ok (.aload_n 0, 1) := by decide +kernel
theorem dX7_at_20 : decode cX7_at 20 = .ok (.getfield 18, 3) := by decide +kernel
theorem dX7_at_23 : decode cX7_at 23 = .ok (.iload_n 1, 1) := by decide +kernel
theorem dX7_at_24 : decode cX7_at 24 = .ok (.aaload, 1) := by decide +kernel
theorem dX7_at_25 : decode cX7_at 25 = .ok (.iload_n 2, 1) := by decide +kernel
theorem dX7_at_26 : decode cX7_at 26 = .ok (.invokevirtual 147, 3) := by decide +kernel
theorem dX7_at_29 : decode cX7_at 29 = .ok (.ifCond .eq 7, 3) := by decide +kernel
theorem dX7_at_32 : decode cX7_at 32 = .ok (.iconst 1, 1) := by decide +kernel
theorem dX7_at_33 : decode cX7_at 33 = .ok (.goto 4, 3) := by decide +kernel
theorem dX7_at_36 : decode cX7_at 36 = .ok (.iconst 0, 1) := by decide +kernel
theorem dX7_at_37 : decode cX7_at 37 = .ok (.ireturn, 1) := by decide +kernel
theorem dX7_sector_0 : decode cX7_sector 0 = .ok (.aload_n 0, 1) := by decide +kernel
theorem dX7_sector_1 : decode cX7_sector 1 = .ok (.iload_n 1, 1) := by decide +kernel
theorem dX7_sector_2 : decode cX7_sector 2 = .ok (.invokevirtual 108, 3) := by decide +kernel
theorem dX7_sector_5 : decode cX7_sector 5 = .ok (.ifCond .eq 28, 3) := by decide +kernel
theorem dX7_sector_8 : decode cX7_sector 8 = .ok (.iload_n 2, 1) := by decide +kernel
theorem dX7_sector_9 : decode cX7_sector 9 = .ok (.invokestatic 150, 3) := by decide +kernel
theorem dX7_sector_12 : decode cX7_sector 12 = .ok (.ifCond .eq 21, 3) := by decide +kernel
theorem dX7_sector_15 : decode cX7_sector 15 = .ok (.iload_n 3, 1) := by decide +kernel
theorem dX7_sector_16 : decode cX7_sector 16 = .ok (.invokestatic 150, 3) := by decide +kernel
theorem dX7_sector_19 : decode cX7_sector 19 = .ok (.ifCond .eq 14, 3) := by decide +kernel
theorem dX7_sector_22 : decode cX7_sector 22 = .ok (.iload 4, 2) := by decide +kernel
theorem dX7_sector_24 : decode cX7_sector 24 = .ok (.ifCond .lt 9, 3) := by decide +kernel
theorem dX7_sector_27 : decode cX7_sector 27 = .ok (.iload 4, 2) := by decide +kernel
theorem dX7_sector_29 : decode cX7_sector 29 = .ok (.iconst 3, 1) := by decide +kernel
theorem dX7_sector_30 : decode cX7_sector 30 = .ok (.if_icmp .le 10, 3) := by decide +kernel
theorem dX7_sector_33 : decode cX7_sector 33 = .ok (.aload_n 0, 1) := by decide +kernel
theorem dX7_sector_34 : decode cX7_sector 34 = .ok (.ldc 68, 2) := by decide +kernel
theorem dX7_sector_36 : decode cX7_sector 36 = .ok (.invokevirtual 69, 3) := by decide +kernel
theorem dX7_sector_39 : decode cX7_sector 39 = .ok (.ireturn, 1) := by decide +kernel
theorem dX7_sector_40 : decode cX7_sector 40 = .ok (.aload_n 0, 1) := by decide +kernel
theorem dX7_sector_41 : decode cX7_sector 41 = .ok (.getfield 18, 3) := by decide +kernel
theorem dX7_sector_44 : decode cX7_sector 44 = .ok (.iload_n 1, 1) := by decide +kernel
theorem dX7_sector_45 : decode cX7_sector 45 = .ok (.aaload, 1) := by decide +kernel
theorem dX7_sector_46 : decode cX7_sector 46 = .ok (.astore 5, 2) := by decide +kernel
theorem dX7_sector_48 : decode cX7_sector 48 = .ok (.aload 5, 2) := by decide +kernel
theorem dX7_sector_50 : decode cX7_sector 50 = .ok (.getfield 141, 3) := by decide +kernel
theorem dX7_sector_53 : decode cX7_sector 53 = .ok (.iconst 4, 1) := by decide +kernel
theorem dX7_sector_54 : decode cX7_sector 54 = .ok (.if_icmp .lt 10, 3) := by decide +kernel
theorem dX7_sector_57 : decode cX7_sector 57 = .ok (.aload_n 0, 1) := by decide +kernel
theorem dX7_sector_58 : decode cX7_sector 58 = .ok (.ldc 77, 2) := by decide +kernel
theorem dX7_sector_60 : decode cX7_sector 60 = .ok (.invokevirtual 69, 3) := by decide +kernel
theorem dX7_sector_63 : decode cX7_sector 63 = .ok (.ireturn, 1) := by decide +kernel
theorem dX7_sector_64 : decode cX7_sector 64 = .ok (.aload_n 0, 1) := by decide +kernel
theorem dX7_sector_65 : decode cX7_sector 65 = .ok (.iconst 1, 1) := by decide +kernel
theorem dX7_sector_66 : decode cX7_sector 66 = .ok (.iload_n 1, 1) := by decide +kernel
theorem dX7_sector_67 : decode cX7_sector 67 = .ok (.iconst 0, 1) := by decide +kernel
theorem dX7_sector_68 : decode cX7_sector 68 = .ok (.invokevirtual 96, 3) := by decide +kernel
theorem dX7_sector_71 : decode cX7_sector 71 = .ok (.pop, 1) := by decide +kernel
theorem dX7_sector_72 : decode cX7_sector 72 = .ok (.aload 5, 2) := by decide +kernel
theorem dX7_sector_74 : decode cX7_sector 74 = .ok (.getfield 153, 3) := by decide +kernel
theorem dX7_sector_77 : decode cX7_sector 77 = .ok (.aload 5, 2) := by decide +kernel
theorem dX7_sector_79 : decode cX7_sector 79 = .ok (.getfield 141, 3) := by decide +kernel
theorem dX7_sector_82 : decode cX7_sector 82 = .ok (.iload 4, 2) := by decide +kernel
theorem dX7_sector_84 : decode cX7_sector 84 = .ok (.bipush 16, 2) := by decide +kernel
theorem dX7_sector_86 : decode cX7_sector 86 = .ok (.ishl, 1) := by decide +kernel
theorem dX7_sector_87 : decode cX7_sector 87 = .ok (.iload_n 2, 1) := by decide +kernel
theorem dX7_sector_88 : decode cX7_sector 88 = .ok (.iload_n 3, 1) := by decide +kernel
theorem dX7_sector_89 : decode cX7_sector 89 = .ok (.invokestatic 156, 3) := by decide +kernel
theorem dX7_sector_92 : decode cX7_sector 92 = .ok (.ior, 1) := by decide +kernel
theorem dX7_sector_93 : decode cX7_sector 93 = .ok (.iastore, 1) := by decide +kernel
theorem dX7_sector_94 : decode cX7_sector 94 = .ok (.aload 5, 2) := by decide +kernel
theorem dX7_sector_96 : decode cX7_sector 96 = .ok (.dup, 1) := by decide +kernel
theorem dX7_sector_97 : decode cX7_sector 97 = .ok (.getfield 141, 3) := by decide +kernel
theorem dX7_sector_100 : decode cX7_sector 100 = .ok (.iconst 1, 1) := by decide +kernel
theorem dX7_sector_101 : decode cX7_sector 101 = .ok (.iadd, 1) := by decide +kernel
theorem dX7_sector_102 : decode cX7_sector 102 = .ok (.putfield 141, 3) := by decide +kernel
theorem dX7_sector_105 : decode cX7_sector 105 = .ok (.aload 5, 2) := by decide +kernel
theorem dX7_sector_107 : decode cX7_sector 107 = .ok (.getfield 141, 3) := by decide +kernel
theorem dX7_sector_110 : decode cX7_sector 110 = .ok (.ireturn, 1) := by decide +kernel
theorem dX7_doubt_0 : decode cX7_doubt 0 = .ok (.aload_n 0, 1) := by decide +kernel
theorem dX7_doubt_1 : decode cX7_doubt 1 = .ok (.iload_n 1, 1) := by decide +kernel
theorem dX7_doubt_2 : decode cX7_doubt 2 = .ok (.invokevirtual 108, 3) := by decide +kernel
theorem dX7_doubt_5 : decode cX7_doubt 5 = .ok (.ifCond .eq 12, 3) := by decide +kernel
theorem dX7_doubt_8 : decode cX7_doubt 8 = .ok (.iload_n 2, 1) := by decide +kernel
theorem dX7_doubt_9 : decode cX7_doubt 9 = .ok (.ifCond .lt 8, 3) := by decide +kernel
theorem dX7_doubt_12 : decode cX7_doubt 12 = .ok (.iload_n 2, 1) := by decide +kernel
theorem dX7_doubt_13 : decode cX7_doubt 13 = .ok (.iconst 3, 1) := by decide +kernel
theorem dX7_doubt_14 : decode cX7_doubt 14 = .ok (.if_icmp .le 10, 3) := by decide +kernel
theorem dX7_doubt_17 : decode cX7_doubt 17 = .ok (.aload_n 0, 1) := by decide +kernel
theorem dX7_doubt_18 : decode cX7_doubt 18 = .ok (.ldc 68, 2) := by decide +kernel
theorem dX7_doubt_20 : decode cX7_doubt 20 = .ok (.invokevirtual 69, 3) := by decide +kernel
theorem dX7_doubt_23 : decode cX7_doubt 23 = .ok (.ireturn, 1) := by decide +kernel
theorem dX7_doubt_24 : decode cX7_doubt 24 = .ok (.aload_n 0, 1) := by decide +kernel
theorem dX7_doubt_25 : decode cX7_doubt 25 = .ok (.getfield 18, 3) := by decide +kernel
theorem dX7_doubt_28 : decode cX7_doubt 28 = .ok (.iload_n 1, 1) := by decide +kernel
theorem dX7_doubt_29 : decode cX7_doubt 29 = .ok (.aaload, 1) := by decide +kernel
theorem dX7_doubt_30 : decode cX7_doubt 30 = .ok (.astore_n 3, 1) := by decide +kernel
theorem dX7_doubt_31 : decode cX7_doubt 31 = .ok (.aload_n 3, 1) := by decide +kernel
theorem dX7_doubt_32 : decode cX7_doubt 32 = .ok (.getfield 111, 3) := by decide +kernel
theorem dX7_doubt_35 : decode cX7_doubt 35 = .ok (.iconst 2, 1) := by decide +kernel
theorem dX7_doubt_36 : decode cX7_doubt 36 = .ok (.if_icmp .eq 10, 3) := by decide +kernel
theorem dX7_doubt_39 : decode cX7_doubt 39 = .ok (.aload_n 0, 1) := by decide +kernel
theorem dX7_doubt_40 : decode cX7_doubt 40 = .ok (.ldc 118, 2) := by decide +kernel
theorem dX7_doubt_42 : decode cX7_doubt 42 = .ok (.invokevirtual 69, 3) := by decide +kernel
theorem dX7_doubt_45 : decode cX7_doubt 45 = .ok (.ireturn, 1) := by decide +kernel
theorem dX7_doubt_46 : decode cX7_doubt 46 = .ok (.aload_n 3, 1) := by decide +kernel
theorem dX7_doubt_47 : decode cX7_doubt 47 = .ok (.getfield 144, 3) := by decide +kernel
theorem dX7_doubt_50 : decode cX7_doubt 50 = .ok (.istore 4, 2) := by decide +kernel
theorem dX7_doubt_52 : decode cX7_doubt 52 = .ok (.aload_n 0, 1) := by decide +kernel
theorem dX7_doubt_53 : decode cX7_doubt 53 = .ok (.iconst 2, 1) := by decide +kernel
theorem dX7_doubt_54 : decode cX7_doubt 54 = .ok (.iload_n 1, 1) := by decide +kernel
theorem dX7_doubt_55 : decode cX7_doubt 55 = .ok (.iload 4, 2) := by decide +kernel
theorem dX7_doubt_57 : decode cX7_doubt 57 = .ok (.invokevirtual 96, 3) := by decide +kernel
theorem dX7_doubt_60 : decode cX7_doubt 60 = .ok (.pop, 1) := by decide +kernel
theorem dX7_doubt_61 : decode cX7_doubt 61 = .ok (.aload_n 3, 1) := by decide +kernel
theorem dX7_doubt_62 : decode cX7_doubt 62 = .ok (.iload_n 2, 1) := by decide +kernel
theorem dX7_doubt_63 : decode cX7_doubt 63 = .ok (.putfield 144, 3) := by decide +kernel
theorem dX7_doubt_66 : decode cX7_doubt 66 = .ok (.iload 4, 2) := by decide +kernel
theorem dX7_doubt_68 : decode cX7_doubt 68 = .ok (.ireturn, 1) := by decide +kernel
theorem dX7_direction_0 : decode cX7_direction 0 = .ok (.iload_n 1, 1) := by decide +kernel
theorem dX7_direction_1 : decode cX7_direction 1 = .ok (.invokestatic 86, 3) := by decide +kernel
theorem dX7_direction_4 : decode cX7_direction 4 = .ok (.ifCond .eq 10, 3) := by decide +kernel
theorem dX7_direction_7 : decode cX7_direction 7 = .ok (.iload_n 2, 1) := by decide +kernel
theorem dX7_direction_8 : decode cX7_direction 8 = .ok (.invokestatic 86, 3) := by decide +kernel
theorem dX7_direction_11 : decode cX7_direction 11 = .ok (.ifCond .ne 10, 3) := by decide +kernel
theorem dX7_direction_14 : decode cX7_direction 14 = .ok (.aload_n 0, 1) := by decide +kernel
theorem dX7_direction_15 : decode cX7_direction 15 = .ok (.ldc 68, 2) := by decide +kernel
theorem dX7_direction_17 : decode cX7_direction 17 = .ok (.invokevirtual 69, 3) := by decide +kernel
theorem dX7_direction_20 : decode cX7_direction 20 = .ok (.ireturn, 1) := by decide +kernel
theorem dX7_direction_21 : decode cX7_direction 21 = .ok (.iload_n 1, 1) := by decide +kernel
theorem dX7_direction_22 : decode cX7_direction 22 = .ok (.iload_n 2, 1) := by decide +kernel
theorem dX7_direction_23 : decode cX7_direction 23 = .ok (.if_icmp .ne 12, 3) := by decide +kernel
theorem dX7_direction_26 : decode cX7_direction 26 = .ok (.aload_n 0, 1) := by decide +kernel
theorem dX7_direction_27 : decode cX7_direction 27 = .ok (.ldc 160, 2) := by decide +kernel
theorem dX7_direction_29 : decode cX7_direction 29 = .ok (.invokevirtual 69, 3) := by decide +kernel
theorem dX7_direction_32 : decode cX7_direction 32 = .ok (.goto 8, 3) := by decide +kernel
theorem dX7_direction_35 : decode cX7_direction 35 = .ok (.iload_n 1, 1) := by decide +kernel
theorem dX7_direction_36 : decode cX7_direction 36 = .ok (.iload_n 2, 1) := by decide +kernel
theorem dX7_direction_37 : decode cX7_direction 37 = .ok (.invokestatic 161, 3) := by decide +kernel
theorem dX7_direction_40 : decode cX7_direction 40 = .ok (.ireturn, 1) := by decide +kernel
theorem dX7_colour_0 : decode cX7_colour 0 = .ok (.aload_n 0, 1) := by decide +kernel
theorem dX7_colour_1 : decode cX7_colour 1 = .ok (.iload_n 1, 1) := by decide +kernel
theorem dX7_colour_2 : decode cX7_colour 2 = .ok (.invokevirtual 108, 3) := by decide +kernel
theorem dX7_colour_5 : decode cX7_colour 5 = .ok (.ifCond .eq 10, 3) := by decide +kernel
theorem dX7_colour_8 : decode cX7_colour 8 = .ok (.iload_n 2, 1) := by decide +kernel
theorem dX7_colour_9 : decode cX7_colour 9 = .ok (.invokestatic 86, 3) := by decide +kernel
theorem dX7_colour_12 : decode cX7_colour 12 = .ok (.ifCond .ne 10, 3) := by decide +kernel
theorem dX7_colour_15 : decode cX7_colour 15 = .ok (.aload_n 0, 1) := by decide +kernel
theorem dX7_colour_16 : decode cX7_colour 16 = .ok (.ldc 68, 2) := by decide +kernel
theorem dX7_colour_18 : decode cX7_colour 18 = .ok (.invokevirtual 69, 3) := by decide +kernel
theorem dX7_colour_21 : decode cX7_colour 21 = .ok (.ireturn, 1) := by decide +kernel
theorem dX7_colour_22 : decode cX7_colour 22 = .ok (.aload_n 0, 1) := by decide +kernel
theorem dX7_colour_23 : decode cX7_colour 23 = .ok (.getfield 18, 3) := by decide +kernel
theorem dX7_colour_26 : decode cX7_colour 26 = .ok (.iload_n 1, 1) := by decide +kernel
theorem dX7_colour_27 : decode cX7_colour 27 = .ok (.aaload, 1) := by decide +kernel
theorem dX7_colour_28 : decode cX7_colour 28 = .ok (.iload_n 2, 1) := by decide +kernel
theorem dX7_colour_29 : decode cX7_colour 29 = .ok (.invokestatic 164, 3) := by decide +kernel
theorem dX7_colour_32 : decode cX7_colour 32 = .ok (.ireturn, 1) := by decide +kernel
theorem dX7_seen_0 : decode cX7_seen 0 = .ok (.iload_n 1, 1) := by decide +kernel
theorem dX7_seen_1 : decode cX7_seen 1 = .ok (.invokestatic 86, 3) := by decide +kernel
theorem dX7_seen_4 : decode cX7_seen 4 = .ok (.ifCond .eq 11, 3) := by decide +kernel
theorem dX7_seen_7 : decode cX7_seen 7 = .ok (.aload_n 0, 1) := by decide +kernel
theorem dX7_seen_8 : decode cX7_seen 8 = .ok (.iload_n 1, 1) := by decide +kernel
theorem dX7_seen_9 : decode cX7_seen 9 = .ok (.invokevirtual 168, 3) := by decide +kernel
theorem dX7_seen_12 : decode cX7_seen 12 = .ok (.goto 9, 3) := by decide +kernel
theorem dX7_seen_15 : decode cX7_seen 15 = .ok (.aload_n 0, 1) := by decide +kernel
theorem dX7_seen_16 : decode cX7_seen 16 = .ok (.ldc 68, 2) := by decide +kernel
theorem dX7_seen_18 : decode cX7_seen 18 = .ok (.invokevirtual 69, 3) := by decide +kernel
theorem dX7_seen_21 : decode cX7_seen 21 = .ok (.ireturn, 1) := by decide +kernel
theorem dX7_haze_0 : decode cX7_haze 0 = .ok (.iload_n 1, 1) := by decide +kernel
theorem dX7_haze_1 : decode cX7_haze 1 = .ok (.ifCond .lt 9, 3) := by decide +kernel
theorem dX7_haze_4 : decode cX7_haze 4 = .ok (.iload_n 1, 1) := by decide +kernel
theorem dX7_haze_5 : decode cX7_haze 5 = .ok (.bipush 15, 2) := by decide +kernel
theorem dX7_haze_7 : decode cX7_haze 7 = .ok (.if_icmp .le 10, 3) := by decide +kernel
theorem dX7_haze_10 : decode cX7_haze 10 = .ok (.aload_n 0, 1) := by decide +kernel
theorem dX7_haze_11 : decode cX7_haze 11 = .ok (.ldc 68, 2) := by decide +kernel
theorem dX7_haze_13 : decode cX7_haze 13 = .ok (.invokevirtual 69, 3) := by decide +kernel
theorem dX7_haze_16 : decode cX7_haze 16 = .ok (.ireturn, 1) := by decide +kernel
theorem dX7_haze_17 : decode cX7_haze 17 = .ok (.aload_n 0, 1) := by decide +kernel
theorem dX7_haze_18 : decode cX7_haze 18 = .ok (.getfield 171, 3) := by decide +kernel
theorem dX7_haze_21 : decode cX7_haze 21 = .ok (.istore_n 2, 1) := by decide +kernel
theorem dX7_haze_22 : decode cX7_haze 22 = .ok (.aload_n 0, 1) := by decide +kernel
theorem dX7_haze_23 : decode cX7_haze 23 = .ok (.iconst 3, 1) := by decide +kernel
theorem dX7_haze_24 : decode cX7_haze 24 = .ok (.iconst 0, 1) := by decide +kernel
theorem dX7_haze_25 : decode cX7_haze 25 = .ok (.iload_n 2, 1) := by decide +kernel
theorem dX7_haze_26 : decode cX7_haze 26 = .ok (.invokevirtual 96, 3) := by decide +kernel
theorem dX7_haze_29 : decode cX7_haze 29 = .ok (.pop, 1) := by decide +kernel
theorem dX7_haze_30 : decode cX7_haze 30 = .ok (.aload_n 0, 1) := by decide +kernel
theorem dX7_haze_31 : decode cX7_haze 31 = .ok (.iload_n 1, 1) := by decide +kernel
theorem dX7_haze_32 : decode cX7_haze 32 = .ok (.putfield 171, 3) := by decide +kernel
theorem dX7_haze_35 : decode cX7_haze 35 = .ok (.iload_n 2, 1) := by decide +kernel
theorem dX7_haze_36 : decode cX7_haze 36 = .ok (.ireturn, 1) := by decide +kernel
theorem dX7_day_0 : decode cX7_day 0 = .ok (.iload_n 1, 1) := by decide +kernel
theorem dX7_day_1 : decode cX7_day 1 = .ok (.invokestatic 174, 3) := by decide +kernel
theorem dX7_day_4 : decode cX7_day 4 = .ok (.ifCond .ne 10, 3) := by decide +kernel
theorem dX7_day_7 : decode cX7_day 7 = .ok (.aload_n 0, 1) := by decide +kernel
theorem dX7_day_8 : decode cX7_day 8 = .ok (.ldc 68, 2) := by decide +kernel
theorem dX7_day_10 : decode cX7_day 10 = .ok (.invokevirtual 69, 3) := by decide +kernel
theorem dX7_day_13 : decode cX7_day 13 = .ok (.ireturn, 1) := by decide +kernel
theorem dX7_day_14 : decode cX7_day 14 = .ok (.aload_n 0, 1) := by decide +kernel
theorem dX7_day_15 : decode cX7_day 15 = .ok (.getfield 177, 3) := by decide +kernel
theorem dX7_day_18 : decode cX7_day 18 = .ok (.istore_n 2, 1) := by decide +kernel
theorem dX7_day_19 : decode cX7_day 19 = .ok (.aload_n 0, 1) := by decide +kernel
theorem dX7_day_20 : decode cX7_day 20 = .ok (.iconst 4, 1) := by decide +kernel
theorem dX7_day_21 : decode cX7_day 21 = .ok (.iconst 0, 1) := by decide +kernel
theorem dX7_day_22 : decode cX7_day 22 = .ok (.iload_n 2, 1) := by decide +kernel
theorem dX7_day_23 : decode cX7_day 23 = .ok (.invokevirtual 96, 3) := by decide +kernel
theorem dX7_day_26 : decode cX7_day 26 = .ok (.pop, 1) := by decide +kernel
theorem dX7_day_27 : decode cX7_day 27 = .ok (.aload_n 0, 1) := by decide +kernel
theorem dX7_day_28 : decode cX7_day 28 = .ok (.iload_n 1, 1) := by decide +kernel
theorem dX7_day_29 : decode cX7_day 29 = .ok (.putfield 177, 3) := by decide +kernel
theorem dX7_day_32 : decode cX7_day 32 = .ok (.iload_n 2, 1) := by decide +kernel
theorem dX7_day_33 : decode cX7_day 33 = .ok (.ireturn, 1) := by decide +kernel
theorem dX7_apart_0 : decode cX7_apart 0 = .ok (.aload_n 0, 1) := by decide +kernel
theorem dX7_apart_1 : decode cX7_apart 1 = .ok (.iload_n 1, 1) := by decide +kernel
theorem dX7_apart_2 : decode cX7_apart 2 = .ok (.invokevirtual 108, 3) := by decide +kernel
theorem dX7_apart_5 : decode cX7_apart 5 = .ok (.ifCond .eq 11, 3) := by decide +kernel
theorem dX7_apart_8 : decode cX7_apart 8 = .ok (.aload_n 0, 1) := by decide +kernel
theorem dX7_apart_9 : decode cX7_apart 9 = .ok (.iload_n 2, 1) := by decide +kernel
theorem dX7_apart_10 : decode cX7_apart 10 = .ok (.invokevirtual 108, 3) := by decide +kernel
theorem dX7_apart_13 : decode cX7_apart 13 = .ok (.ifCond .ne 10, 3) := by decide +kernel
theorem dX7_apart_16 : decode cX7_apart 16 = .ok (.aload_n 0, 1) := by decide +kernel
theorem dX7_apart_17 : decode cX7_apart 17 = .ok (.ldc 68, 2) := by decide +kernel
theorem dX7_apart_19 : decode cX7_apart 19 = .ok (.invokevirtual 69, 3) := by decide +kernel
theorem dX7_apart_22 : decode cX7_apart 22 = .ok (.ireturn, 1) := by decide +kernel
theorem dX7_apart_23 : decode cX7_apart 23 = .ok (.iload_n 1, 1) := by decide +kernel
theorem dX7_apart_24 : decode cX7_apart 24 = .ok (.iload_n 2, 1) := by decide +kernel
theorem dX7_apart_25 : decode cX7_apart 25 = .ok (.if_icmp .ne 10, 3) := by decide +kernel
theorem dX7_apart_28 : decode cX7_apart 28 = .ok (.aload_n 0, 1) := by decide +kernel
theorem dX7_apart_29 : decode cX7_apart 29 = .ok (.ldc 160, 2) := by decide +kernel
theorem dX7_apart_31 : decode cX7_apart 31 = .ok (.invokevirtual 69, 3) := by decide +kernel
theorem dX7_apart_34 : decode cX7_apart 34 = .ok (.ireturn, 1) := by decide +kernel
theorem dX7_apart_35 : decode cX7_apart 35 = .ok (.aload_n 0, 1) := by decide +kernel
theorem dX7_apart_36 : decode cX7_apart 36 = .ok (.getfield 18, 3) := by decide +kernel
theorem dX7_apart_39 : decode cX7_apart 39 = .ok (.iload_n 1, 1) := by decide +kernel
theorem dX7_apart_40 : decode cX7_apart 40 = .ok (.aaload, 1) := by decide +kernel
theorem dX7_apart_41 : decode cX7_apart 41 = .ok (.aload_n 0, 1) := by decide +kernel
theorem dX7_apart_42 : decode cX7_apart 42 = .ok (.getfield 18, 3) := by decide +kernel
theorem dX7_apart_45 : decode cX7_apart 45 = .ok (.iload_n 2, 1) := by decide +kernel
theorem dX7_apart_46 : decode cX7_apart 46 = .ok (.aaload, 1) := by decide +kernel
theorem dX7_apart_47 : decode cX7_apart 47 = .ok (.invokestatic 180, 3) := by decide +kernel
theorem dX7_apart_50 : decode cX7_apart 50 = .ok (.istore_n 3, 1) := by decide +kernel
theorem dX7_apart_51 : decode cX7_apart 51 = .ok (.iload_n 3, 1) := by decide +kernel
theorem dX7_apart_52 : decode cX7_apart 52 = .ok (.ifCond .ge 12, 3) := by decide +kernel
theorem dX7_apart_55 : decode cX7_apart 55 = .ok (.aload_n 0, 1) := by decide +kernel
theorem dX7_apart_56 : decode cX7_apart 56 = .ok (.ldc 184, 2) := by decide +kernel
theorem dX7_apart_58 : decode cX7_apart 58 = .ok (.invokevirtual 69, 3) := by decide +kernel
theorem dX7_apart_61 : decode cX7_apart 61 = .ok (.goto 6, 3) := by decide +kernel
theorem dX7_apart_64 : decode cX7_apart 64 = .ok (.iload_n 3, 1) := by decide +kernel
theorem dX7_apart_65 : decode cX7_apart 65 = .ok (.iconst 1, 1) := by decide +kernel
theorem dX7_apart_66 : decode cX7_apart 66 = .ok (.iadd, 1) := by decide +kernel
theorem dX7_apart_67 : decode cX7_apart 67 = .ok (.ireturn, 1) := by decide +kernel
theorem dX7_allApart_0 : decode cX7_allApart 0 = .ok (.iload_n 1, 1) := by decide +kernel
theorem dX7_allApart_1 : decode cX7_allApart 1 = .ok (.aload_n 0, 1) := by decide +kernel
theorem dX7_allApart_2 : decode cX7_allApart 2 = .ok (.invokevirtual 185, 3) := by decide +kernel
theorem dX7_allApart_5 : decode cX7_allApart 5 = .ok (.iconst (-1), 1) := by decide +kernel
theorem dX7_allApart_6 : decode cX7_allApart 6 = .ok (.ixor, 1) := by decide +kernel
theorem dX7_allApart_7 : decode cX7_allApart 7 = .ok (.iand, 1) := by decide +kernel
theorem dX7_allApart_8 : decode cX7_allApart 8 = .ok (.ifCond .eq 10, 3) := by decide +kernel
theorem dX7_allApart_11 : decode cX7_allApart 11 = .ok (.aload_n 0, 1) := by decide +kernel
theorem dX7_allApart_12 : decode cX7_allApart 12 = .ok (.ldc 68, 2) := by decide +kernel
theorem dX7_allApart_14 : decode cX7_allApart 14 = .ok (.invokevirtual 69, 3) := by decide +kernel
theorem dX7_allApart_17 : decode cX7_allApart 17 = .ok (.ireturn, 1) := by decide +kernel
theorem dX7_allApart_18 : decode cX7_allApart 18 = .ok (.iconst 0, 1) := by decide +kernel
theorem dX7_allApart_19 : decode cX7_allApart 19 = .ok (.istore_n 2, 1) := by decide +kernel
theorem dX7_allApart_20 : decode cX7_allApart 20 = .ok (.iconst 0, 1) := by decide +kernel
theorem dX7_allApart_21 : decode cX7_allApart 21 = .ok (.istore_n 3, 1) := by decide +kernel
theorem dX7_allApart_22 : decode cX7_allApart 22 = .ok (.iload_n 3, 1) := by decide +kernel
theorem dX7_allApart_23 : decode cX7_allApart 23 = .ok (.aload_n 0, 1) := by decide +kernel
theorem dX7_allApart_24 : decode cX7_allApart 24 = .ok (.getfield 89, 3) := by decide +kernel
theorem dX7_allApart_27 : decode cX7_allApart 27 = .ok (.if_icmp .ge 86, 3) := by decide +kernel
theorem dX7_allApart_30 : decode cX7_allApart 30 = .ok (.iload_n 3, 1) := by decide +kernel
theorem dX7_allApart_31 : decode cX7_allApart 31 = .ok (.iconst 1, 1) := by decide +kernel
theorem dX7_allApart_32 : decode cX7_allApart 32 = .ok (.iadd, 1) := by decide +kernel
theorem dX7_allApart_33 : decode cX7_allApart 33 = .ok (.istore 4, 2) := by decide +kernel
theorem dX7_allApart_35 : decode cX7_allApart 35 = .ok (.iload 4, 2) := by decide +kernel
theorem dX7_allApart_37 : decode cX7_allApart 37 = .ok (.aload_n 0, 1) := by decide +kernel
theorem dX7_allApart_38 : decode cX7_allApart 38 = .ok (.getfield 89, 3) := by decide +kernel
theorem dX7_allApart_41 : decode cX7_allApart 41 = .ok (.if_icmp .ge 66, 3) := by decide +kernel
theorem dX7_allApart_44 : decode cX7_allApart 44 = .ok (.iload_n 1, 1) := by decide +kernel
theorem dX7_allApart_45 : decode cX7_allApart 45 = .ok (.iload_n 3, 1) := by decide +kernel
theorem dX7_allApart_46 : decode cX7_allApart 46 = .ok (.ishr, 1) := by decide +kernel
theorem dX7_allApart_47 : decode cX7_allApart 47 = .ok (.iconst 1, 1) := by decide +kernel
theorem dX7_allApart_48 : decode cX7_allApart 48 = .ok (.iand, 1) := by decide +kernel
theorem dX7_allApart_49 : decode cX7_allApart 49 = .ok (.ifCond .eq 52, 3) := by decide +kernel
theorem dX7_allApart_52 : decode cX7_allApart 52 = .ok (.iload_n 1, 1) := by decide +kernel
theorem dX7_allApart_53 : decode cX7_allApart 53 = .ok (.iload 4, 2) := by decide +kernel
theorem dX7_allApart_55 : decode cX7_allApart 55 = .ok (.ishr, 1) := by decide +kernel
theorem dX7_allApart_56 : decode cX7_allApart 56 = .ok (.iconst 1, 1) := by decide +kernel
theorem dX7_allApart_57 : decode cX7_allApart 57 = .ok (.iand, 1) := by decide +kernel
theorem dX7_allApart_58 : decode cX7_allApart 58 = .ok (.ifCond .ne 6, 3) := by decide +kernel
theorem dX7_allApart_61 : decode cX7_allApart 61 = .ok (.goto 40, 3) := by decide +kernel
theorem dX7_allApart_64 : decode cX7_allApart 64 = .ok (.aload_n 0, 1) := by decide +kernel
theorem dX7_allApart_65 : decode cX7_allApart 65 = .ok (.getfield 18, 3) := by decide +kernel
theorem dX7_allApart_68 : decode cX7_allApart 68 = .ok (.iload_n 3, 1) := by decide +kernel
theorem dX7_allApart_69 : decode cX7_allApart 69 = .ok (.aaload, 1) := by decide +kernel
theorem dX7_allApart_70 : decode cX7_allApart 70 = .ok (.aload_n 0, 1) := by decide +kernel
theorem dX7_allApart_71 : decode cX7_allApart 71 = .ok (.getfield 18, 3) := by decide +kernel
theorem dX7_allApart_74 : decode cX7_allApart 74 = .ok (.iload 4, 2) := by decide +kernel
theorem dX7_allApart_76 : decode cX7_allApart 76 = .ok (.aaload, 1) := by decide +kernel
theorem dX7_allApart_77 : decode cX7_allApart 77 = .ok (.invokestatic 180, 3) := by decide +kernel
theorem dX7_allApart_80 : decode cX7_allApart 80 = .ok (.istore 5, 2) := by decide +kernel
theorem dX7_allApart_82 : decode cX7_allApart 82 = .ok (.iload 5, 2) := by decide +kernel
theorem dX7_allApart_84 : decode cX7_allApart 84 = .ok (.ifCond .ge 10, 3) := by decide +kernel
theorem dX7_allApart_87 : decode cX7_allApart 87 = .ok (.aload_n 0, 1) := by decide +kernel
theorem dX7_allApart_88 : decode cX7_allApart 88 = .ok (.ldc 184, 2) := by decide +kernel
theorem dX7_allApart_90 : decode cX7_allApart 90 = .ok (.invokevirtual 69, 3) := by decide +kernel
theorem dX7_allApart_93 : decode cX7_allApart 93 = .ok (.ireturn, 1) := by decide +kernel
theorem dX7_allApart_94 : decode cX7_allApart 94 = .ok (.iload_n 2, 1) := by decide +kernel
theorem dX7_allApart_95 : decode cX7_allApart 95 = .ok (.iload 5, 2) := by decide +kernel
theorem dX7_allApart_97 : decode cX7_allApart 97 = .ok (.invokestatic 188, 3) := by decide +kernel
theorem dX7_allApart_100 : decode cX7_allApart 100 = .ok (.istore_n 2, 1) := by decide +kernel
theorem dX7_allApart_101 : decode cX7_allApart 101 = .ok (.iinc 4 1, 3) := by decide +kernel
theorem dX7_allApart_104 : decode cX7_allApart 104 = .ok (.goto (-69), 3) := by decide +kernel
theorem dX7_allApart_107 : decode cX7_allApart 107 = .ok (.iinc 3 1, 3) := by decide +kernel
theorem dX7_allApart_110 : decode cX7_allApart 110 = .ok (.goto (-88), 3) := by decide +kernel
theorem dX7_allApart_113 : decode cX7_allApart 113 = .ok (.iload_n 2, 1) := by decide +kernel
theorem dX7_allApart_114 : decode cX7_allApart 114 = .ok (.iconst 1, 1) := by decide +kernel
theorem dX7_allApart_115 : decode cX7_allApart 115 = .ok (.iadd, 1) := by decide +kernel
theorem dX7_allApart_116 : decode cX7_allApart 116 = .ok (.ireturn, 1) := by decide +kernel
theorem dX7_fits_0 : decode cX7_fits 0 = .ok (.iload_n 1, 1) := by decide +kernel
theorem dX7_fits_1 : decode cX7_fits 1 = .ok (.invokestatic 193, 3) := by decide +kernel
theorem dX7_fits_4 : decode cX7_fits 4 = .ok (.ifCond .ne 10, 3) := by decide +kernel
theorem dX7_fits_7 : decode cX7_fits 7 = .ok (.aload_n 0, 1) := by decide +kernel
theorem dX7_fits_8 : decode cX7_fits 8 = .ok (.ldc 68, 2) := by decide +kernel
theorem dX7_fits_10 : decode cX7_fits 10 = .ok (.invokevirtual 69, 3) := by decide +kernel
theorem dX7_fits_13 : decode cX7_fits 13 = .ok (.ireturn, 1) := by decide +kernel
theorem dX7_fits_14 : decode cX7_fits 14 = .ok (.aload_n 0, 1) := by decide +kernel
theorem dX7_fits_15 : decode cX7_fits 15 = .ok (.getfield 55, 3) := by decide +kernel
theorem dX7_fits_18 : decode cX7_fits 18 = .ok (.iload_n 1, 1) := by decide +kernel
theorem dX7_fits_19 : decode cX7_fits 19 = .ok (.aaload, 1) := by decide +kernel
theorem dX7_fits_20 : decode cX7_fits 20 = .ok (.astore_n 2, 1) := by decide +kernel
theorem dX7_fits_21 : decode cX7_fits 21 = .ok (.aload_n 2, 1) := by decide +kernel
theorem dX7_fits_22 : decode cX7_fits 22 = .ok (.getfield 196, 3) := by decide +kernel
theorem dX7_fits_25 : decode cX7_fits 25 = .ok (.ifCond .ne 10, 3) := by decide +kernel
theorem dX7_fits_28 : decode cX7_fits 28 = .ok (.aload_n 0, 1) := by decide +kernel
theorem dX7_fits_29 : decode cX7_fits 29 = .ok (.ldc 199, 2) := by decide +kernel
theorem dX7_fits_31 : decode cX7_fits 31 = .ok (.invokevirtual 69, 3) := by decide +kernel
theorem dX7_fits_34 : decode cX7_fits 34 = .ok (.ireturn, 1) := by decide +kernel
theorem dX7_fits_35 : decode cX7_fits 35 = .ok (.aload_n 2, 1) := by decide +kernel
theorem dX7_fits_36 : decode cX7_fits 36 = .ok (.invokevirtual 200, 3) := by decide +kernel
theorem dX7_fits_39 : decode cX7_fits 39 = .ok (.lstore_n 3, 1) := by decide +kernel
theorem dX7_fits_40 : decode cX7_fits 40 = .ok (.iconst 0, 1) := by decide +kernel
theorem dX7_fits_41 : decode cX7_fits 41 = .ok (.istore 5, 2) := by decide +kernel
theorem dX7_fits_43 : decode cX7_fits 43 = .ok (.iconst 0, 1) := by decide +kernel
theorem dX7_fits_44 : decode cX7_fits 44 = .ok (.istore 6, 2) := by decide +kernel
theorem dX7_fits_46 : decode cX7_fits 46 = .ok (.iload 6, 2) := by decide +kernel
theorem dX7_fits_48 : decode cX7_fits 48 = .ok (.aload_n 0, 1) := by decide +kernel
theorem dX7_fits_49 : decode cX7_fits 49 = .ok (.getfield 89, 3) := by decide +kernel
theorem dX7_fits_52 : decode cX7_fits 52 = .ok (.if_icmp .ge 36, 3) := by decide +kernel
theorem dX7_fits_55 : decode cX7_fits 55 = .ok (.aload_n 0, 1) := by decide +kernel
theorem dX7_fits_56 : decode cX7_fits 56 = .ok (.getfield 18, 3) := by decide +kernel
theorem dX7_fits_59 : decode cX7_fits 59 = .ok (.iload 6, 2) := by decide +kernel
theorem dX7_fits_61 : decode cX7_fits 61 = .ok (.aaload, 1) := by decide +kernel
theorem dX7_fits_62 : decode cX7_fits 62 = .ok (.lload_n 3, 1) := by decide +kernel
theorem dX7_fits_63 : decode cX7_fits 63 = .ok (.aload_n 2, 1) := by decide +kernel
theorem dX7_fits_64 : decode cX7_fits 64 = .ok (.getfield 204, 3) := by decide +kernel
theorem dX7_fits_67 : decode cX7_fits 67 = .ok (.invokevirtual 207, 3) := by decide +kernel
theorem dX7_fits_70 : decode cX7_fits 70 = .ok (.ifCond .eq 12, 3) := by decide +kernel
theorem dX7_fits_73 : decode cX7_fits 73 = .ok (.iload 5, 2) := by decide +kernel
theorem dX7_fits_75 : decode cX7_fits 75 = .ok (.iconst 1, 1) := by decide +kernel
theorem dX7_fits_76 : decode cX7_fits 76 = .ok (.iload 6, 2) := by decide +kernel
theorem dX7_fits_78 : decode cX7_fits 78 = .ok (.ishl, 1) := by decide +kernel
theorem dX7_fits_79 : decode cX7_fits 79 = .ok (.ior, 1) := by decide +kernel
theorem dX7_fits_80 : decode cX7_fits 80 = .ok (.istore 5, 2) := by decide +kernel
theorem dX7_fits_82 : decode cX7_fits 82 = .ok (.iinc 6 1, 3) := by decide +kernel
theorem dX7_fits_85 : decode cX7_fits 85 = .ok (.goto (-39), 3) := by decide +kernel
theorem dX7_fits_88 : decode cX7_fits 88 = .ok (.iload 5, 2) := by decide +kernel
theorem dX7_fits_90 : decode cX7_fits 90 = .ok (.ireturn, 1) := by decide +kernel
theorem dX7_bearing_0 : decode cX7_bearing 0 = .ok (.aload_n 0, 1) := by decide +kernel
theorem dX7_bearing_1 : decode cX7_bearing 1 = .ok (.iload_n 1, 1) := by decide +kernel
theorem dX7_bearing_2 : decode cX7_bearing 2 = .ok (.invokevirtual 108, 3) := by decide +kernel
theorem dX7_bearing_5 : decode cX7_bearing 5 = .ok (.ifCond .eq 17, 3) := by decide +kernel
theorem dX7_bearing_8 : decode cX7_bearing 8 = .ok (.iload_n 2, 1) := by decide +kernel
theorem dX7_bearing_9 : decode cX7_bearing 9 = .ok (.invokestatic 150, 3) := by decide +kernel
theorem dX7_bearing_12 : decode cX7_bearing 12 = .ok (.ifCond .eq 10, 3) := by decide +kernel
theorem dX7_bearing_15 : decode cX7_bearing 15 = .ok (.iload_n 3, 1) := by decide +kernel
theorem dX7_bearing_16 : decode cX7_bearing 16 = .ok (.invokestatic 150, 3) := by decide +kernel
theorem dX7_bearing_19 : decode cX7_bearing 19 = .ok (.ifCond .ne 10, 3) := by decide +kernel
theorem dX7_bearing_22 : decode cX7_bearing 22 = .ok (.aload_n 0, 1) := by decide +kernel
theorem dX7_bearing_23 : decode cX7_bearing 23 = .ok (.ldc 68, 2) := by decide +kernel
theorem dX7_bearing_25 : decode cX7_bearing 25 = .ok (.invokevirtual 69, 3) := by decide +kernel
theorem dX7_bearing_28 : decode cX7_bearing 28 = .ok (.ireturn, 1) := by decide +kernel
theorem dX7_bearing_29 : decode cX7_bearing 29 = .ok (.aload_n 0, 1) := by decide +kernel
theorem dX7_bearing_30 : decode cX7_bearing 30 = .ok (.getfield 211, 3) := by decide +kernel
theorem dX7_bearing_33 : decode cX7_bearing 33 = .ok (.bipush 8, 2) := by decide +kernel
theorem dX7_bearing_35 : decode cX7_bearing 35 = .ok (.if_icmp .lt 10, 3) := by decide +kernel
theorem dX7_bearing_38 : decode cX7_bearing 38 = .ok (.aload_n 0, 1) := by decide +kernel
theorem dX7_bearing_39 : decode cX7_bearing 39 = .ok (.ldc 77, 2) := by decide +kernel
theorem dX7_bearing_41 : decode cX7_bearing 41 = .ok (.invokevirtual 69, 3) := by decide +kernel
theorem dX7_bearing_44 : decode cX7_bearing 44 = .ok (.ireturn, 1) := by decide +kernel
theorem dX7_bearing_45 : decode cX7_bearing 45 = .ok (.aload_n 0, 1) := by decide +kernel
theorem dX7_bearing_46 : decode cX7_bearing 46 = .ok (.iconst 5, 1) := by decide +kernel
theorem dX7_bearing_47 : decode cX7_bearing 47 = .ok (.iconst 0, 1) := by decide +kernel
theorem dX7_bearing_48 : decode cX7_bearing 48 = .ok (.iconst 0, 1) := by decide +kernel
theorem dX7_bearing_49 : decode cX7_bearing 49 = .ok (.invokevirtual 96, 3) := by decide +kernel
theorem dX7_bearing_52 : decode cX7_bearing 52 = .ok (.pop, 1) := by decide +kernel
theorem dX7_bearing_53 : decode cX7_bearing 53 = .ok (.aload_n 0, 1) := by decide +kernel
theorem dX7_bearing_54 : decode cX7_bearing 54 = .ok (.getfield 22, 3) := by decide +kernel
theorem dX7_bearing_57 : decode cX7_bearing 57 = .ok (.aload_n 0, 1) := by decide +kernel
theorem dX7_bearing_58 : decode cX7_bearing 58 = .ok (.getfield 211, 3) := by decide +kernel
theorem dX7_bearing_61 : decode cX7_bearing 61 = .ok (.iload_n 1, 1) := by decide +kernel
theorem dX7_bearing_62 : decode cX7_bearing 62 = .ok (.bipush 16, 2) := by decide +kernel
theorem dX7_bearing_64 : decode cX7_bearing 64 = .ok (.ishl, 1) := by decide +kernel
theorem dX7_bearing_65 : decode cX7_bearing 65 = .ok (.iload_n 2, 1) := by decide +kernel
theorem dX7_bearing_66 : decode cX7_bearing 66 = .ok (.iload_n 3, 1) := by decide +kernel
theorem dX7_bearing_67 : decode cX7_bearing 67 = .ok (.invokestatic 156, 3) := by decide +kernel
theorem dX7_bearing_70 : decode cX7_bearing 70 = .ok (.ior, 1) := by decide +kernel
theorem dX7_bearing_71 : decode cX7_bearing 71 = .ok (.iastore, 1) := by decide +kernel
theorem dX7_bearing_72 : decode cX7_bearing 72 = .ok (.aload_n 0, 1) := by decide +kernel
theorem dX7_bearing_73 : decode cX7_bearing 73 = .ok (.dup, 1) := by decide +kernel
theorem dX7_bearing_74 : decode cX7_bearing 74 = .ok (.getfield 211, 3) := by decide +kernel
theorem dX7_bearing_77 : decode cX7_bearing 77 = .ok (.iconst 1, 1) := by decide +kernel
theorem dX7_bearing_78 : decode cX7_bearing 78 = .ok (.iadd, 1) := by decide +kernel
theorem dX7_bearing_79 : decode cX7_bearing 79 = .ok (.putfield 211, 3) := by decide +kernel
theorem dX7_bearing_82 : decode cX7_bearing 82 = .ok (.aload_n 0, 1) := by decide +kernel
theorem dX7_bearing_83 : decode cX7_bearing 83 = .ok (.getfield 211, 3) := by decide +kernel
theorem dX7_bearing_86 : decode cX7_bearing 86 = .ok (.ireturn, 1) := by decide +kernel
theorem dX7_clear_0 : decode cX7_clear 0 = .ok (.aload_n 0, 1) := by decide +kernel
theorem dX7_clear_1 : decode cX7_clear 1 = .ok (.getfield 211, 3) := by decide +kernel
theorem dX7_clear_4 : decode cX7_clear 4 = .ok (.istore_n 1, 1) := by decide +kernel
theorem dX7_clear_5 : decode cX7_clear 5 = .ok (.aload_n 0, 1) := by decide +kernel
theorem dX7_clear_6 : decode cX7_clear 6 = .ok (.bipush 6, 2) := by decide +kernel
theorem dX7_clear_8 : decode cX7_clear 8 = .ok (.iconst 0, 1) := by decide +kernel
theorem dX7_clear_9 : decode cX7_clear 9 = .ok (.iload_n 1, 1) := by decide +kernel
theorem dX7_clear_10 : decode cX7_clear 10 = .ok (.invokevirtual 96, 3) := by decide +kernel
theorem dX7_clear_13 : decode cX7_clear 13 = .ok (.astore_n 2, 1) := by decide +kernel
theorem dX7_clear_14 : decode cX7_clear 14 = .ok (.aload_n 0, 1) := by decide +kernel
theorem dX7_clear_15 : decode cX7_clear 15 = .ok (.getfield 22, 3) := by decide +kernel
theorem dX7_clear_18 : decode cX7_clear 18 = .ok (.iconst 0, 1) := by decide +kernel
theorem dX7_clear_19 : decode cX7_clear 19 = .ok (.aload_n 2, 1) := by decide +kernel
theorem dX7_clear_20 : decode cX7_clear 20 = .ok (.getfield 214, 3) := by decide +kernel
theorem dX7_clear_23 : decode cX7_clear 23 = .ok (.iconst 0, 1) := by decide +kernel
theorem dX7_clear_24 : decode cX7_clear 24 = .ok (.iload_n 1, 1) := by decide +kernel
theorem dX7_clear_25 : decode cX7_clear 25 = .ok (.invokestatic 219, 3) := by decide +kernel
theorem dX7_clear_28 : decode cX7_clear 28 = .ok (.aload_n 0, 1) := by decide +kernel
theorem dX7_clear_29 : decode cX7_clear 29 = .ok (.iconst 0, 1) := by decide +kernel
theorem dX7_clear_30 : decode cX7_clear 30 = .ok (.putfield 211, 3) := by decide +kernel
theorem dX7_clear_33 : decode cX7_clear 33 = .ok (.iload_n 1, 1) := by decide +kernel
theorem dX7_clear_34 : decode cX7_clear 34 = .ok (.ireturn, 1) := by decide +kernel
theorem dX7_fix_0 : decode cX7_fix 0 = .ok (.aload_n 0, 1) := by decide +kernel
theorem dX7_fix_1 : decode cX7_fix 1 = .ok (.invokevirtual 225, 3) := by decide +kernel
theorem dX7_fix_4 : decode cX7_fix 4 = .ok (.iconst 0, 1) := by decide +kernel
theorem dX7_fix_5 : decode cX7_fix 5 = .ok (.istore_n 2, 1) := by decide +kernel
theorem dX7_fix_6 : decode cX7_fix 6 = .ok (.iconst 0, 1) := by decide +kernel
theorem dX7_fix_7 : decode cX7_fix 7 = .ok (.istore_n 3, 1) := by decide +kernel
theorem dX7_fix_8 : decode cX7_fix 8 = .ok (.iload_n 3, 1) := by decide +kernel
theorem dX7_fix_9 : decode cX7_fix 9 = .ok (.sipush 256, 3) := by decide +kernel
theorem dX7_fix_12 : decode cX7_fix 12 = .ok (.if_icmp .ge 27, 3) := by decide +kernel
theorem dX7_fix_15 : decode cX7_fix 15 = .ok (.aload_n 0, 1) := by decide +kernel
theorem dX7_fix_16 : decode cX7_fix 16 = .ok (.getfield 49, 3) := by decide +kernel
theorem dX7_fix_19 : decode cX7_fix 19 = .ok (.iload_n 3, 1) := by decide +kernel
theorem dX7_fix_20 : decode cX7_fix 20 = .ok (.baload, 1) := by decide +kernel
theorem dX7_fix_21 : decode cX7_fix 21 = .ok (.ifCond .eq 12, 3) := by decide +kernel
theorem dX7_fix_24 : decode cX7_fix 24 = .ok (.iload_n 1, 1) := by decide +kernel
theorem dX7_fix_25 : decode cX7_fix 25 = .ok (.ifCond .eq 5, 3) := by decide +kernel
theorem dX7_fix_28 : decode cX7_fix 28 = .ok (.iload_n 3, 1) := by decide +kernel
theorem dX7_fix_29 : decode cX7_fix 29 = .ok (.ireturn, 1) := by decide +kernel
theorem dX7_fix_30 : decode cX7_fix 30 = .ok (.iinc 2 1, 3) := by decide +kernel
theorem dX7_fix_33 : decode cX7_fix 33 = .ok (.iinc 3 1, 3) := by decide +kernel
theorem dX7_fix_36 : decode cX7_fix 36 = .ok (.goto (-28), 3) := by decide +kernel
theorem dX7_fix_39 : decode cX7_fix 39 = .ok (.iload_n 1, 1) := by decide +kernel
theorem dX7_fix_40 : decode cX7_fix 40 = .ok (.ifCond .eq 12, 3) := by decide +kernel
theorem dX7_fix_43 : decode cX7_fix 43 = .ok (.aload_n 0, 1) := by decide +kernel
theorem dX7_fix_44 : decode cX7_fix 44 = .ok (.ldc 184, 2) := by decide +kernel
theorem dX7_fix_46 : decode cX7_fix 46 = .ok (.invokevirtual 69, 3) := by decide +kernel
theorem dX7_fix_49 : decode cX7_fix 49 = .ok (.goto 4, 3) := by decide +kernel
theorem dX7_fix_52 : decode cX7_fix 52 = .ok (.iload_n 2, 1) := by decide +kernel
theorem dX7_fix_53 : decode cX7_fix 53 = .ok (.ireturn, 1) := by decide +kernel
theorem dX7_may_0 : decode cX7_may 0 = .ok (.iload_n 1, 1) := by decide +kernel
theorem dX7_may_1 : decode cX7_may 1 = .ok (.invokestatic 86, 3) := by decide +kernel
theorem dX7_may_4 : decode cX7_may 4 = .ok (.ifCond .ne 10, 3) := by decide +kernel
theorem dX7_may_7 : decode cX7_may 7 = .ok (.aload_n 0, 1) := by decide +kernel
theorem dX7_may_8 : decode cX7_may 8 = .ok (.ldc 68, 2) := by decide +kernel
theorem dX7_may_10 : decode cX7_may 10 = .ok (.invokevirtual 69, 3) := by decide +kernel
theorem dX7_may_13 : decode cX7_may 13 = .ok (.ireturn, 1) := by decide +kernel
theorem dX7_may_14 : decode cX7_may 14 = .ok (.aload_n 0, 1) := by decide +kernel
theorem dX7_may_15 : decode cX7_may 15 = .ok (.invokevirtual 225, 3) := by decide +kernel
theorem dX7_may_18 : decode cX7_may 18 = .ok (.aload_n 0, 1) := by decide +kernel
theorem dX7_may_19 : decode cX7_may 19 = .ok (.getfield 49, 3) := by decide +kernel
theorem dX7_may_22 : decode cX7_may 22 = .ok (.iload_n 1, 1) := by decide +kernel
theorem dX7_may_23 : decode cX7_may 23 = .ok (.baload, 1) := by decide +kernel
theorem dX7_may_24 : decode cX7_may 24 = .ok (.ifCond .eq 7, 3) := by decide +kernel
theorem dX7_may_27 : decode cX7_may 27 = .ok (.iconst 1, 1) := by decide +kernel
theorem dX7_may_28 : decode cX7_may 28 = .ok (.goto 4, 3) := by decide +kernel
theorem dX7_may_31 : decode cX7_may 31 = .ok (.iconst 0, 1) := by decide +kernel
theorem dX7_may_32 : decode cX7_may 32 = .ok (.ireturn, 1) := by decide +kernel
theorem dX7_fairway_0 : decode cX7_fairway 0 = .ok (.iload_n 1, 1) := by decide +kernel
theorem dX7_fairway_1 : decode cX7_fairway 1 = .ok (.invokestatic 86, 3) := by decide +kernel
theorem dX7_fairway_4 : decode cX7_fairway 4 = .ok (.ifCond .ne 10, 3) := by decide +kernel
theorem dX7_fairway_7 : decode cX7_fairway 7 = .ok (.aload_n 0, 1) := by decide +kernel
theorem dX7_fairway_8 : decode cX7_fairway 8 = .ok (.ldc 68, 2) := by decide +kernel
theorem dX7_fairway_10 : decode cX7_fairway 10 = .ok (.invokevirtual 69, 3) := by decide +kernel
theorem dX7_fairway_13 : decode cX7_fairway 13 = .ok (.ireturn, 1) := by decide +kernel
theorem dX7_fairway_14 : decode cX7_fairway 14 = .ok (.aload_n 0, 1) := by decide +kernel
theorem dX7_fairway_15 : decode cX7_fairway 15 = .ok (.iload_n 1, 1) := by decide +kernel
theorem dX7_fairway_16 : decode cX7_fairway 16 = .ok (.invokevirtual 228, 3) := by decide +kernel
theorem dX7_fairway_19 : decode cX7_fairway 19 = .ok (.ifCond .lt 7, 3) := by decide +kernel
theorem dX7_fairway_22 : decode cX7_fairway 22 = .ok (.iconst 1, 1) := by decide +kernel
theorem dX7_fairway_23 : decode cX7_fairway 23 = .ok (.goto 4, 3) := by decide +kernel
theorem dX7_fairway_26 : decode cX7_fairway 26 = .ok (.iconst 0, 1) := by decide +kernel
theorem dX7_fairway_27 : decode cX7_fairway 27 = .ok (.istore_n 3, 1) := by decide +kernel
theorem dX7_fairway_28 : decode cX7_fairway 28 = .ok (.iload_n 2, 1) := by decide +kernel
theorem dX7_fairway_29 : decode cX7_fairway 29 = .ok (.ifCond .eq 23, 3) := by decide +kernel
theorem dX7_fairway_32 : decode cX7_fairway 32 = .ok (.iload_n 3, 1) := by decide +kernel
theorem dX7_fairway_33 : decode cX7_fairway 33 = .ok (.ifCond .ne 19, 3) := by decide +kernel
theorem dX7_fairway_36 : decode cX7_fairway 36 = .ok (.aload_n 0, 1) := by decide +kernel
theorem dX7_fairway_37 : decode cX7_fairway 37 = .ok (.getfield 231, 3) := by decide +kernel
theorem dX7_fairway_40 : decode cX7_fairway 40 = .ok (.bipush 12, 2) := by decide +kernel
theorem dX7_fairway_42 : decode cX7_fairway 42 = .ok (.if_icmp .lt 10, 3) := by decide +kernel
theorem dX7_fairway_45 : decode cX7_fairway 45 = .ok (.aload_n 0, 1) := by decide +kernel
theorem dX7_fairway_46 : decode cX7_fairway 46 = .ok (.ldc 77, 2) := by decide +kernel
theorem dX7_fairway_48 : decode cX7_fairway 48 = .ok (.invokevirtual 69, 3) := by decide +kernel
theorem dX7_fairway_51 : decode cX7_fairway 51 = .ok (.ireturn, 1) := by decide +kernel
theorem dX7_fairway_52 : decode cX7_fairway 52 = .ok (.aload_n 0, 1) := by decide +kernel
theorem dX7_fairway_53 : decode cX7_fairway 53 = .ok (.bipush 7, 2) := by decide +kernel
theorem dX7_fairway_55 : decode cX7_fairway 55 = .ok (.iload_n 1, 1) := by decide +kernel
theorem dX7_fairway_56 : decode cX7_fairway 56 = .ok (.iload_n 3, 1) := by decide +kernel
theorem dX7_fairway_57 : decode cX7_fairway 57 = .ok (.ifCond .eq 7, 3) := by decide +kernel
theorem dX7_fairway_60 : decode cX7_fairway 60 = .ok (.iconst 1, 1) := by decide +kernel
theorem dX7_fairway_61 : decode cX7_fairway 61 = .ok (.goto 4, 3) := by decide +kernel
theorem dX7_fairway_64 : decode cX7_fairway 64 = .ok (.iconst 0, 1) := by decide +kernel
theorem dX7_fairway_65 : decode cX7_fairway 65 = .ok (.invokevirtual 96, 3) := by decide +kernel
theorem dX7_fairway_68 : decode cX7_fairway 68 = .ok (.pop, 1) := by decide +kernel
theorem dX7_fairway_69 : decode cX7_fairway 69 = .ok (.aload_n 0, 1) := by decide +kernel
theorem dX7_fairway_70 : decode cX7_fairway 70 = .ok (.iload_n 1, 1) := by decide +kernel
theorem dX7_fairway_71 : decode cX7_fairway 71 = .ok (.iload_n 2, 1) := by decide +kernel
theorem dX7_fairway_72 : decode cX7_fairway 72 = .ok (.invokevirtual 234, 3) := by decide +kernel
theorem dX7_fairway_75 : decode cX7_fairway 75 = .ok (.aload_n 0, 1) := by decide +kernel
theorem dX7_fairway_76 : decode cX7_fairway 76 = .ok (.getfield 231, 3) := by decide +kernel
theorem dX7_fairway_79 : decode cX7_fairway 79 = .ok (.ireturn, 1) := by decide +kernel
theorem dX7_kept_0 : decode cX7_kept 0 = .ok (.iconst 0, 1) := by decide +kernel
theorem dX7_kept_1 : decode cX7_kept 1 = .ok (.istore_n 1, 1) := by decide +kernel
theorem dX7_kept_2 : decode cX7_kept 2 = .ok (.iload_n 1, 1) := by decide +kernel
theorem dX7_kept_3 : decode cX7_kept 3 = .ok (.aload_n 0, 1) := by decide +kernel
theorem dX7_kept_4 : decode cX7_kept 4 = .ok (.getfield 231, 3) := by decide +kernel
theorem dX7_kept_7 : decode cX7_kept 7 = .ok (.if_icmp .ge 25, 3) := by decide +kernel
theorem dX7_kept_10 : decode cX7_kept 10 = .ok (.aload_n 0, 1) := by decide +kernel
theorem dX7_kept_11 : decode cX7_kept 11 = .ok (.getfield 29, 3) := by decide +kernel
theorem dX7_kept_14 : decode cX7_kept 14 = .ok (.iload_n 1, 1) := by decide +kernel
theorem dX7_kept_15 : decode cX7_kept 15 = .ok (.aload_n 0, 1) := by decide +kernel
theorem dX7_kept_16 : decode cX7_kept 16 = .ok (.aload_n 0, 1) := by decide +kernel
theorem dX7_kept_17 : decode cX7_kept 17 = .ok (.getfield 26, 3) := by decide +kernel
theorem dX7_kept_20 : decode cX7_kept 20 = .ok (.iload_n 1, 1) := by decide +kernel
theorem dX7_kept_21 : decode cX7_kept 21 = .ok (.iaload, 1) := by decide +kernel
theorem dX7_kept_22 : decode cX7_kept 22 = .ok (.invokevirtual 168, 3) := by decide +kernel
theorem dX7_kept_25 : decode cX7_kept 25 = .ok (.iastore, 1) := by decide +kernel
theorem dX7_kept_26 : decode cX7_kept 26 = .ok (.iinc 1 1, 3) := by decide +kernel
theorem dX7_kept_29 : decode cX7_kept 29 = .ok (.goto (-27), 3) := by decide +kernel
theorem dX7_kept_32 : decode cX7_kept 32 = .ok (.iconst (-1), 1) := by decide +kernel
theorem dX7_kept_33 : decode cX7_kept 33 = .ok (.istore_n 1, 1) := by decide +kernel
theorem dX7_kept_34 : decode cX7_kept 34 = .ok (.iconst 1, 1) := by decide +kernel
theorem dX7_kept_35 : decode cX7_kept 35 = .ok (.aload_n 0, 1) := by decide +kernel
theorem dX7_kept_36 : decode cX7_kept 36 = .ok (.getfield 89, 3) := by decide +kernel
theorem dX7_kept_39 : decode cX7_kept 39 = .ok (.ishl, 1) := by decide +kernel
theorem dX7_kept_40 : decode cX7_kept 40 = .ok (.istore_n 2, 1) := by decide +kernel
theorem dX7_kept_41 : decode cX7_kept 41 = .ok (.iconst 0, 1) := by decide +kernel
theorem dX7_kept_42 : decode cX7_kept 42 = .ok (.istore_n 3, 1) := by decide +kernel
theorem dX7_kept_43 : decode cX7_kept 43 = .ok (.iload_n 3, 1) := by decide +kernel
theorem dX7_kept_44 : decode cX7_kept 44 = .ok (.iload_n 2, 1) := by decide +kernel
theorem dX7_kept_45 : decode cX7_kept 45 = .ok (.if_icmp .ge 46, 3) := by decide +kernel
theorem dX7_kept_48 : decode cX7_kept 48 = .ok (.iload_n 1, 1) := by decide +kernel
theorem dX7_kept_49 : decode cX7_kept 49 = .ok (.ifCond .lt 14, 3) := by decide +kernel
theorem dX7_kept_52 : decode cX7_kept 52 = .ok (.iload_n 3, 1) := by decide +kernel
theorem dX7_kept_53 : decode cX7_kept 53 = .ok (.invokestatic 238, 3) := by decide +kernel
theorem dX7_kept_56 : decode cX7_kept 56 = .ok (.iload_n 1, 1) := by decide +kernel
theorem dX7_kept_57 : decode cX7_kept 57 = .ok (.invokestatic 238, 3) := by decide +kernel
theorem dX7_kept_60 : decode cX7_kept 60 = .ok (.if_icmp .ge 7, 3) := by decide +kernel
theorem dX7_kept_63 : decode cX7_kept 63 = .ok (.iconst 1, 1) := by decide +kernel
theorem dX7_kept_64 : decode cX7_kept 64 = .ok (.goto 4, 3) := by decide +kernel
theorem dX7_kept_67 : decode cX7_kept 67 = .ok (.iconst 0, 1) := by decide +kernel
theorem dX7_kept_68 : decode cX7_kept 68 = .ok (.istore 4, 2) := by decide +kernel
theorem dX7_kept_70 : decode cX7_kept 70 = .ok (.iload 4, 2) := by decide +kernel
theorem dX7_kept_72 : decode cX7_kept 72 = .ok (.ifCond .eq 13, 3) := by decide +kernel
theorem dX7_kept_75 : decode cX7_kept 75 = .ok (.aload_n 0, 1) := by decide +kernel
theorem dX7_kept_76 : decode cX7_kept 76 = .ok (.iload_n 3, 1) := by decide +kernel
theorem dX7_kept_77 : decode cX7_kept 77 = .ok (.invokevirtual 242, 3) := by decide +kernel
theorem dX7_kept_80 : decode cX7_kept 80 = .ok (.ifCond .eq 5, 3) := by decide +kernel
theorem dX7_kept_83 : decode cX7_kept 83 = .ok (.iload_n 3, 1) := by decide +kernel
theorem dX7_kept_84 : decode cX7_kept 84 = .ok (.istore_n 1, 1) := by decide +kernel
theorem dX7_kept_85 : decode cX7_kept 85 = .ok (.iinc 3 1, 3) := by decide +kernel
theorem dX7_kept_88 : decode cX7_kept 88 = .ok (.goto (-45), 3) := by decide +kernel
theorem dX7_kept_91 : decode cX7_kept 91 = .ok (.iload_n 1, 1) := by decide +kernel
theorem dX7_kept_92 : decode cX7_kept 92 = .ok (.ifCond .ge 12, 3) := by decide +kernel
theorem dX7_kept_95 : decode cX7_kept 95 = .ok (.aload_n 0, 1) := by decide +kernel
theorem dX7_kept_96 : decode cX7_kept 96 = .ok (.ldc 184, 2) := by decide +kernel
theorem dX7_kept_98 : decode cX7_kept 98 = .ok (.invokevirtual 69, 3) := by decide +kernel
theorem dX7_kept_101 : decode cX7_kept 101 = .ok (.goto 4, 3) := by decide +kernel
theorem dX7_kept_104 : decode cX7_kept 104 = .ok (.iload_n 1, 1) := by decide +kernel
theorem dX7_kept_105 : decode cX7_kept 105 = .ok (.ireturn, 1) := by decide +kernel
theorem dX7_word_0 : decode cX7_word 0 = .ok (.aload_n 0, 1) := by decide +kernel
theorem dX7_word_1 : decode cX7_word 1 = .ok (.iload_n 1, 1) := by decide +kernel
theorem dX7_word_2 : decode cX7_word 2 = .ok (.invokevirtual 108, 3) := by decide +kernel
theorem dX7_word_5 : decode cX7_word 5 = .ok (.ifCond .eq 21, 3) := by decide +kernel
theorem dX7_word_8 : decode cX7_word 8 = .ok (.iload_n 2, 1) := by decide +kernel
theorem dX7_word_9 : decode cX7_word 9 = .ok (.ifCond .lt 17, 3) := by decide +kernel
theorem dX7_word_12 : decode cX7_word 12 = .ok (.iload_n 2, 1) := by decide +kernel
theorem dX7_word_13 : decode cX7_word 13 = .ok (.sipush 9999, 3) := by decide +kernel
theorem dX7_word_16 : decode cX7_word 16 = .ok (.if_icmp .gt 10, 3) := by decide +kernel
theorem dX7_word_19 : decode cX7_word 19 = .ok (.iload_n 3, 1) := by decide +kernel
theorem dX7_word_20 : decode cX7_word 20 = .ok (.invokestatic 245, 3) := by decide +kernel
theorem dX7_word_23 : decode cX7_word 23 = .ok (.ifCond .ne 10, 3) := by decide +kernel
theorem dX7_word_26 : decode cX7_word 26 = .ok (.aload_n 0, 1) := by decide +kernel
theorem dX7_word_27 : decode cX7_word 27 = .ok (.ldc 68, 2) := by decide +kernel
theorem dX7_word_29 : decode cX7_word 29 = .ok (.invokevirtual 69, 3) := by decide +kernel
theorem dX7_word_32 : decode cX7_word 32 = .ok (.ireturn, 1) := by decide +kernel
theorem dX7_word_33 : decode cX7_word 33 = .ok (.iload_n 2, 1) := by decide +kernel
theorem dX7_word_34 : decode cX7_word 34 = .ok (.bipush 100, 2) := by decide +kernel
theorem dX7_word_36 : decode cX7_word 36 = .ok (.idiv, 1) := by decide +kernel
theorem dX7_word_37 : decode cX7_word 37 = .ok (.istore 5, 2) := by decide +kernel
theorem dX7_word_39 : decode cX7_word 39 = .ok (.iload_n 2, 1) := by decide +kernel
theorem dX7_word_40 : decode cX7_word 40 = .ok (.bipush 100, 2) := by decide +kernel
theorem dX7_word_42 : decode cX7_word 42 = .ok (.irem, 1) := by decide +kernel
theorem dX7_word_43 : decode cX7_word 43 = .ok (.istore 6, 2) := by decide +kernel
theorem dX7_word_45 : decode cX7_word 45 = .ok (.iload 5, 2) := by decide +kernel
theorem dX7_word_47 : decode cX7_word 47 = .ok (.iload 6, 2) := by decide +kernel
theorem dX7_word_49 : decode cX7_word 49 = .ok (.if_icmp .gt 14, 3) := by decide +kernel
theorem dX7_word_52 : decode cX7_word 52 = .ok (.iload_n 3, 1) := by decide +kernel
theorem dX7_word_53 : decode cX7_word 53 = .ok (.aload_n 0, 1) := by decide +kernel
theorem dX7_word_54 : decode cX7_word 54 = .ok (.getfield 35, 3) := by decide +kernel
theorem dX7_word_57 : decode cX7_word 57 = .ok (.invokevirtual 248, 3) := by decide +kernel
theorem dX7_word_60 : decode cX7_word 60 = .ok (.if_icmp .ge 10, 3) := by decide +kernel
theorem dX7_word_63 : decode cX7_word 63 = .ok (.aload_n 0, 1) := by decide +kernel
theorem dX7_word_64 : decode cX7_word 64 = .ok (.ldc 160, 2) := by decide +kernel
theorem dX7_word_66 : decode cX7_word 66 = .ok (.invokevirtual 69, 3) := by decide +kernel
theorem dX7_word_69 : decode cX7_word 69 = .ok (.ireturn, 1) := by decide +kernel
theorem dX7_word_70 : decode cX7_word 70 = .ok (.aload_n 0, 1) := by decide +kernel
theorem dX7_word_71 : decode cX7_word 71 = .ok (.getfield 35, 3) := by decide +kernel
theorem dX7_word_74 : decode cX7_word 74 = .ok (.getfield 251, 3) := by decide +kernel
theorem dX7_word_77 : decode cX7_word 77 = .ok (.bipush 20, 2) := by decide +kernel
theorem dX7_word_79 : decode cX7_word 79 = .ok (.if_icmp .lt 10, 3) := by decide +kernel
theorem dX7_word_82 : decode cX7_word 82 = .ok (.aload_n 0, 1) := by decide +kernel
theorem dX7_word_83 : decode cX7_word 83 = .ok (.ldc 77, 2) := by decide +kernel
theorem dX7_word_85 : decode cX7_word 85 = .ok (.invokevirtual 69, 3) := by decide +kernel
theorem dX7_word_88 : decode cX7_word 88 = .ok (.ireturn, 1) := by decide +kernel
theorem dX7_word_89 : decode cX7_word 89 = .ok (.aload_n 0, 1) := by decide +kernel
theorem dX7_word_90 : decode cX7_word 90 = .ok (.bipush 8, 2) := by decide +kernel
theorem dX7_word_92 : decode cX7_word 92 = .ok (.iconst 0, 1) := by decide +kernel
theorem dX7_word_93 : decode cX7_word 93 = .ok (.iconst 0, 1) := by decide +kernel
theorem dX7_word_94 : decode cX7_word 94 = .ok (.invokevirtual 96, 3) := by decide +kernel
theorem dX7_word_97 : decode cX7_word 97 = .ok (.pop, 1) := by decide +kernel
theorem dX7_word_98 : decode cX7_word 98 = .ok (.aload_n 0, 1) := by decide +kernel
theorem dX7_word_99 : decode cX7_word 99 = .ok (.getfield 35, 3) := by decide +kernel
theorem dX7_word_102 : decode cX7_word 102 = .ok (.iload_n 1, 1) := by decide +kernel
theorem dX7_word_103 : decode cX7_word 103 = .ok (.iload 5, 2) := by decide +kernel
theorem dX7_word_105 : decode cX7_word 105 = .ok (.iload 6, 2) := by decide +kernel
theorem dX7_word_107 : decode cX7_word 107 = .ok (.iload_n 3, 1) := by decide +kernel
theorem dX7_word_108 : decode cX7_word 108 = .ok (.iload 4, 2) := by decide +kernel
theorem dX7_word_110 : decode cX7_word 110 = .ok (.invokevirtual 252, 3) := by decide +kernel
theorem dX7_word_113 : decode cX7_word 113 = .ok (.aload_n 0, 1) := by decide +kernel
theorem dX7_word_114 : decode cX7_word 114 = .ok (.getfield 35, 3) := by decide +kernel
theorem dX7_word_117 : decode cX7_word 117 = .ok (.getfield 251, 3) := by decide +kernel
theorem dX7_word_120 : decode cX7_word 120 = .ok (.ireturn, 1) := by decide +kernel
theorem dX7_out_0 : decode cX7_out 0 = .ok (.aload_n 0, 1) := by decide +kernel
theorem dX7_out_1 : decode cX7_out 1 = .ok (.iload_n 1, 1) := by decide +kernel
theorem dX7_out_2 : decode cX7_out 2 = .ok (.invokevirtual 108, 3) := by decide +kernel
theorem dX7_out_5 : decode cX7_out 5 = .ok (.ifCond .eq 20, 3) := by decide +kernel
theorem dX7_out_8 : decode cX7_out 8 = .ok (.iload_n 2, 1) := by decide +kernel
theorem dX7_out_9 : decode cX7_out 9 = .ok (.ifCond .lt 16, 3) := by decide +kernel
theorem dX7_out_12 : decode cX7_out 12 = .ok (.iload_n 2, 1) := by decide +kernel
theorem dX7_out_13 : decode cX7_out 13 = .ok (.bipush 99, 2) := by decide +kernel
theorem dX7_out_15 : decode cX7_out 15 = .ok (.if_icmp .gt 10, 3) := by decide +kernel
theorem dX7_out_18 : decode cX7_out 18 = .ok (.iload_n 3, 1) := by decide +kernel
theorem dX7_out_19 : decode cX7_out 19 = .ok (.invokestatic 245, 3) := by decide +kernel
theorem dX7_out_22 : decode cX7_out 22 = .ok (.ifCond .ne 10, 3) := by decide +kernel
theorem dX7_out_25 : decode cX7_out 25 = .ok (.aload_n 0, 1) := by decide +kernel
theorem dX7_out_26 : decode cX7_out 26 = .ok (.ldc 68, 2) := by decide +kernel
theorem dX7_out_28 : decode cX7_out 28 = .ok (.invokevirtual 69, 3) := by decide +kernel
theorem dX7_out_31 : decode cX7_out 31 = .ok (.ireturn, 1) := by decide +kernel
theorem dX7_out_32 : decode cX7_out 32 = .ok (.aload_n 0, 1) := by decide +kernel
theorem dX7_out_33 : decode cX7_out 33 = .ok (.getfield 35, 3) := by decide +kernel
theorem dX7_out_36 : decode cX7_out 36 = .ok (.iload_n 1, 1) := by decide +kernel
theorem dX7_out_37 : decode cX7_out 37 = .ok (.iload_n 2, 1) := by decide +kernel
theorem dX7_out_38 : decode cX7_out 38 = .ok (.iload_n 3, 1) := by decide +kernel
theorem dX7_out_39 : decode cX7_out 39 = .ok (.invokevirtual 255, 3) := by decide +kernel
theorem dX7_out_42 : decode cX7_out 42 = .ok (.ifCond .eq 7, 3) := by decide +kernel
theorem dX7_out_45 : decode cX7_out 45 = .ok (.iconst 1, 1) := by decide +kernel
theorem dX7_out_46 : decode cX7_out 46 = .ok (.goto 4, 3) := by decide +kernel
theorem dX7_out_49 : decode cX7_out 49 = .ok (.iconst 0, 1) := by decide +kernel
theorem dX7_out_50 : decode cX7_out 50 = .ok (.ireturn, 1) := by decide +kernel
theorem dX7_keeper_0 : decode cX7_keeper 0 = .ok (.aload_n 0, 1) := by decide +kernel
theorem dX7_keeper_1 : decode cX7_keeper 1 = .ok (.iload_n 1, 1) := by decide +kernel
theorem dX7_keeper_2 : decode cX7_keeper 2 = .ok (.invokevirtual 108, 3) := by decide +kernel
theorem dX7_keeper_5 : decode cX7_keeper 5 = .ok (.ifCond .eq 10, 3) := by decide +kernel
theorem dX7_keeper_8 : decode cX7_keeper 8 = .ok (.iload_n 2, 1) := by decide +kernel
theorem dX7_keeper_9 : decode cX7_keeper 9 = .ok (.invokestatic 174, 3) := by decide +kernel
theorem dX7_keeper_12 : decode cX7_keeper 12 = .ok (.ifCond .ne 10, 3) := by decide +kernel
theorem dX7_keeper_15 : decode cX7_keeper 15 = .ok (.aload_n 0, 1) := by decide +kernel
theorem dX7_keeper_16 : decode cX7_keeper 16 = .ok (.ldc 68, 2) := by decide +kernel
theorem dX7_keeper_18 : decode cX7_keeper 18 = .ok (.invokevirtual 69, 3) := by decide +kernel
theorem dX7_keeper_21 : decode cX7_keeper 21 = .ok (.ireturn, 1) := by decide +kernel
theorem dX7_keeper_22 : decode cX7_keeper 22 = .ok (.aload_n 0, 1) := by decide +kernel
theorem dX7_keeper_23 : decode cX7_keeper 23 = .ok (.getfield 18, 3) := by decide +kernel
theorem dX7_keeper_26 : decode cX7_keeper 26 = .ok (.iload_n 1, 1) := by decide +kernel
theorem dX7_keeper_27 : decode cX7_keeper 27 = .ok (.aaload, 1) := by decide +kernel
theorem dX7_keeper_28 : decode cX7_keeper 28 = .ok (.astore_n 3, 1) := by decide +kernel
theorem dX7_keeper_29 : decode cX7_keeper 29 = .ok (.aload_n 3, 1) := by decide +kernel
theorem dX7_keeper_30 : decode cX7_keeper 30 = .ok (.invokevirtual 259, 3) := by decide +kernel
theorem dX7_keeper_33 : decode cX7_keeper 33 = .ok (.ifCond .ne 10, 3) := by decide +kernel
theorem dX7_keeper_36 : decode cX7_keeper 36 = .ok (.aload_n 0, 1) := by decide +kernel
theorem dX7_keeper_37 : decode cX7_keeper 37 = .ok (.ldc 118, 2) := by decide +kernel
theorem dX7_keeper_39 : decode cX7_keeper 39 = .ok (.invokevirtual 69, 3) := by decide +kernel
theorem dX7_keeper_42 : decode cX7_keeper 42 = .ok (.ireturn, 1) := by decide +kernel
theorem dX7_keeper_43 : decode cX7_keeper 43 = .ok (.aload_n 3, 1) := by decide +kernel
theorem dX7_keeper_44 : decode cX7_keeper 44 = .ok (.getfield 263, 3) := by decide +kernel
theorem dX7_keeper_47 : decode cX7_keeper 47 = .ok (.istore 4, 2) := by decide +kernel
theorem dX7_keeper_49 : decode cX7_keeper 49 = .ok (.aload_n 0, 1) := by decide +kernel
theorem dX7_keeper_50 : decode cX7_keeper 50 = .ok (.bipush 9, 2) := by decide +kernel
theorem dX7_keeper_52 : decode cX7_keeper 52 = .ok (.iload_n 1, 1) := by decide +kernel
theorem dX7_keeper_53 : decode cX7_keeper 53 = .ok (.iload 4, 2) := by decide +kernel
theorem dX7_keeper_55 : decode cX7_keeper 55 = .ok (.invokevirtual 96, 3) := by decide +kernel
theorem dX7_keeper_58 : decode cX7_keeper 58 = .ok (.pop, 1) := by decide +kernel
theorem dX7_keeper_59 : decode cX7_keeper 59 = .ok (.aload_n 3, 1) := by decide +kernel
theorem dX7_keeper_60 : decode cX7_keeper 60 = .ok (.iload_n 2, 1) := by decide +kernel
theorem dX7_keeper_61 : decode cX7_keeper 61 = .ok (.putfield 263, 3) := by decide +kernel
theorem dX7_keeper_64 : decode cX7_keeper 64 = .ok (.iload 4, 2) := by decide +kernel
theorem dX7_keeper_66 : decode cX7_keeper 66 = .ok (.ireturn, 1) := by decide +kernel
theorem dX7_limit_0 : decode cX7_limit 0 = .ok (.aload_n 0, 1) := by decide +kernel
theorem dX7_limit_1 : decode cX7_limit 1 = .ok (.iload_n 1, 1) := by decide +kernel
theorem dX7_limit_2 : decode cX7_limit 2 = .ok (.invokevirtual 108, 3) := by decide +kernel
theorem dX7_limit_5 : decode cX7_limit 5 = .ok (.ifCond .eq 13, 3) := by decide +kernel
theorem dX7_limit_8 : decode cX7_limit 8 = .ok (.iload_n 2, 1) := by decide +kernel
theorem dX7_limit_9 : decode cX7_limit 9 = .ok (.ifCond .lt 9, 3) := by decide +kernel
theorem dX7_limit_12 : decode cX7_limit 12 = .ok (.iload_n 2, 1) := by decide +kernel
theorem dX7_limit_13 : decode cX7_limit 13 = .ok (.bipush 9, 2) := by decide +kernel
theorem dX7_limit_15 : decode cX7_limit 15 = .ok (.if_icmp .le 10, 3) := by decide +kernel
theorem dX7_limit_18 : decode cX7_limit 18 = .ok (.aload_n 0, 1) := by decide +kernel
theorem dX7_limit_19 : decode cX7_limit 19 = .ok (.ldc 68, 2) := by decide +kernel
theorem dX7_limit_21 : decode cX7_limit 21 = .ok (.invokevirtual 69, 3) := by decide +kernel
theorem dX7_limit_24 : decode cX7_limit 24 = .ok (.ireturn, 1) := by decide +kernel
theorem dX7_limit_25 : decode cX7_limit 25 = .ok (.aload_n 0, 1) := by decide +kernel
theorem dX7_limit_26 : decode cX7_limit 26 = .ok (.getfield 18, 3) := by decide +kernel
theorem dX7_limit_29 : decode cX7_limit 29 = .ok (.iload_n 1, 1) := by decide +kernel
theorem dX7_limit_30 : decode cX7_limit 30 = .ok (.aaload, 1) := by decide +kernel
theorem dX7_limit_31 : decode cX7_limit 31 = .ok (.astore_n 3, 1) := by decide +kernel
theorem dX7_limit_32 : decode cX7_limit 32 = .ok (.aload_n 3, 1) := by decide +kernel
theorem dX7_limit_33 : decode cX7_limit 33 = .ok (.invokevirtual 259, 3) := by decide +kernel
theorem dX7_limit_36 : decode cX7_limit 36 = .ok (.ifCond .ne 10, 3) := by decide +kernel
theorem dX7_limit_39 : decode cX7_limit 39 = .ok (.aload_n 0, 1) := by decide +kernel
theorem dX7_limit_40 : decode cX7_limit 40 = .ok (.ldc 118, 2) := by decide +kernel
theorem dX7_limit_42 : decode cX7_limit 42 = .ok (.invokevirtual 69, 3) := by decide +kernel
theorem dX7_limit_45 : decode cX7_limit 45 = .ok (.ireturn, 1) := by decide +kernel
theorem dX7_limit_46 : decode cX7_limit 46 = .ok (.aload_n 3, 1) := by decide +kernel
theorem dX7_limit_47 : decode cX7_limit 47 = .ok (.getfield 266, 3) := by decide +kernel
theorem dX7_limit_50 : decode cX7_limit 50 = .ok (.istore 4, 2) := by decide +kernel
theorem dX7_limit_52 : decode cX7_limit 52 = .ok (.aload_n 0, 1) := by decide +kernel
theorem dX7_limit_53 : decode cX7_limit 53 = .ok (.bipush 10, 2) := by decide +kernel
theorem dX7_limit_55 : decode cX7_limit 55 = .ok (.iload_n 1, 1) := by decide +kernel
theorem dX7_limit_56 : decode cX7_limit 56 = .ok (.iload 4, 2) := by decide +kernel
theorem dX7_limit_58 : decode cX7_limit 58 = .ok (.invokevirtual 96, 3) := by decide +kernel
theorem dX7_limit_61 : decode cX7_limit 61 = .ok (.pop, 1) := by decide +kernel
theorem dX7_limit_62 : decode cX7_limit 62 = .ok (.aload_n 3, 1) := by decide +kernel
theorem dX7_limit_63 : decode cX7_limit 63 = .ok (.iload_n 2, 1) := by decide +kernel
theorem dX7_limit_64 : decode cX7_limit 64 = .ok (.putfield 266, 3) := by decide +kernel
theorem dX7_limit_67 : decode cX7_limit 67 = .ok (.iload 4, 2) := by decide +kernel
theorem dX7_limit_69 : decode cX7_limit 69 = .ok (.ireturn, 1) := by decide +kernel
theorem dX7_seas_0 : decode cX7_seas 0 = .ok (.iload_n 1, 1) := by decide +kernel
theorem dX7_seas_1 : decode cX7_seas 1 = .ok (.invokestatic 193, 3) := by decide +kernel
theorem dX7_seas_4 : decode cX7_seas 4 = .ok (.ifCond .ne 10, 3) := by decide +kernel
theorem dX7_seas_7 : decode cX7_seas 7 = .ok (.aload_n 0, 1) := by decide +kernel
theorem dX7_seas_8 : decode cX7_seas 8 = .ok (.ldc 68, 2) := by decide +kernel
theorem dX7_seas_10 : decode cX7_seas 10 = .ok (.invokevirtual 69, 3) := by decide +kernel
theorem dX7_seas_13 : decode cX7_seas 13 = .ok (.ireturn, 1) := by decide +kernel
theorem dX7_seas_14 : decode cX7_seas 14 = .ok (.aload_n 0, 1) := by decide +kernel
theorem dX7_seas_15 : decode cX7_seas 15 = .ok (.getfield 55, 3) := by decide +kernel
theorem dX7_seas_18 : decode cX7_seas 18 = .ok (.iload_n 1, 1) := by decide +kernel
theorem dX7_seas_19 : decode cX7_seas 19 = .ok (.aaload, 1) := by decide +kernel
theorem dX7_seas_20 : decode cX7_seas 20 = .ok (.astore_n 2, 1) := by decide +kernel
theorem dX7_seas_21 : decode cX7_seas 21 = .ok (.aload_n 2, 1) := by decide +kernel
theorem dX7_seas_22 : decode cX7_seas 22 = .ok (.getfield 196, 3) := by decide +kernel
theorem dX7_seas_25 : decode cX7_seas 25 = .ok (.ifCond .ne 10, 3) := by decide +kernel
theorem dX7_seas_28 : decode cX7_seas 28 = .ok (.aload_n 0, 1) := by decide +kernel
theorem dX7_seas_29 : decode cX7_seas 29 = .ok (.ldc 199, 2) := by decide +kernel
theorem dX7_seas_31 : decode cX7_seas 31 = .ok (.invokevirtual 69, 3) := by decide +kernel
theorem dX7_seas_34 : decode cX7_seas 34 = .ok (.ireturn, 1) := by decide +kernel
theorem dX7_seas_35 : decode cX7_seas 35 = .ok (.aload_n 0, 1) := by decide +kernel
theorem dX7_seas_36 : decode cX7_seas 36 = .ok (.bipush 11, 2) := by decide +kernel
theorem dX7_seas_38 : decode cX7_seas 38 = .ok (.iconst 0, 1) := by decide +kernel
theorem dX7_seas_39 : decode cX7_seas 39 = .ok (.iconst 0, 1) := by decide +kernel
theorem dX7_seas_40 : decode cX7_seas 40 = .ok (.invokevirtual 96, 3) := by decide +kernel
theorem dX7_seas_43 : decode cX7_seas 43 = .ok (.astore_n 3, 1) := by decide +kernel
theorem dX7_seas_44 : decode cX7_seas 44 = .ok (.aload_n 0, 1) := by decide +kernel
theorem dX7_seas_45 : decode cX7_seas 45 = .ok (.getfield 39, 3) := by decide +kernel
theorem dX7_seas_48 : decode cX7_seas 48 = .ok (.iconst 0, 1) := by decide +kernel
theorem dX7_seas_49 : decode cX7_seas 49 = .ok (.aload_n 3, 1) := by decide +kernel
theorem dX7_seas_50 : decode cX7_seas 50 = .ok (.getfield 214, 3) := by decide +kernel
theorem dX7_seas_53 : decode cX7_seas 53 = .ok (.iconst 0, 1) := by decide +kernel
theorem dX7_seas_54 : decode cX7_seas 54 = .ok (.bipush 20, 2) := by decide +kernel
theorem dX7_seas_56 : decode cX7_seas 56 = .ok (.invokestatic 219, 3) := by decide +kernel
theorem dX7_seas_59 : decode cX7_seas 59 = .ok (.iconst 0, 1) := by decide +kernel
theorem dX7_seas_60 : decode cX7_seas 60 = .ok (.istore 4, 2) := by decide +kernel
theorem dX7_seas_62 : decode cX7_seas 62 = .ok (.iconst 0, 1) := by decide +kernel
theorem dX7_seas_63 : decode cX7_seas 63 = .ok (.istore 5, 2) := by decide +kernel
theorem dX7_seas_65 : decode cX7_seas 65 = .ok (.iload 5, 2) := by decide +kernel
theorem dX7_seas_67 : decode cX7_seas 67 = .ok (.aload_n 2, 1) := by decide +kernel
theorem dX7_seas_68 : decode cX7_seas 68 = .ok (.getfield 204, 3) := by decide +kernel
theorem dX7_seas_71 : decode cX7_seas 71 = .ok (.if_icmp .ge 49, 3) := by decide +kernel
theorem dX7_seas_74 : decode cX7_seas 74 = .ok (.iload 5, 2) := by decide +kernel
theorem dX7_seas_76 : decode cX7_seas 76 = .ok (.bipush 20, 2) := by decide +kernel
theorem dX7_seas_78 : decode cX7_seas 78 = .ok (.if_icmp .ge 42, 3) := by decide +kernel
theorem dX7_seas_81 : decode cX7_seas 81 = .ok (.aload_n 2, 1) := by decide +kernel
theorem dX7_seas_82 : decode cX7_seas 82 = .ok (.getfield 269, 3) := by decide +kernel
theorem dX7_seas_85 : decode cX7_seas 85 = .ok (.iload 5, 2) := by decide +kernel
theorem dX7_seas_87 : decode cX7_seas 87 = .ok (.iaload, 1) := by decide +kernel
theorem dX7_seas_88 : decode cX7_seas 88 = .ok (.istore 6, 2) := by decide +kernel
theorem dX7_seas_90 : decode cX7_seas 90 = .ok (.iload 6, 2) := by decide +kernel
theorem dX7_seas_92 : decode cX7_seas 92 = .ok (.ifCond .lt 22, 3) := by decide +kernel
theorem dX7_seas_95 : decode cX7_seas 95 = .ok (.iload 6, 2) := by decide +kernel
theorem dX7_seas_97 : decode cX7_seas 97 = .ok (.bipush 9, 2) := by decide +kernel
theorem dX7_seas_99 : decode cX7_seas 99 = .ok (.if_icmp .gt 15, 3) := by decide +kernel
theorem dX7_seas_102 : decode cX7_seas 102 = .ok (.aload_n 0, 1) := by decide +kernel
theorem dX7_seas_103 : decode cX7_seas 103 = .ok (.getfield 39, 3) := by decide +kernel
theorem dX7_seas_106 : decode cX7_seas 106 = .ok (.iload 5, 2) := by decide +kernel
theorem dX7_seas_108 : decode cX7_seas 108 = .ok (.iload 6, 2) := by decide +kernel
theorem dX7_seas_110 : decode cX7_seas 110 = .ok (.iastore, 1) := by decide +kernel
theorem dX7_seas_111 : decode cX7_seas 111 = .ok (.iinc 4 1, 3) := by decide +kernel
theorem dX7_seas_114 : decode cX7_seas 114 = .ok (.iinc 5 1, 3) := by decide +kernel
theorem dX7_seas_117 : decode cX7_seas 117 = .ok (.goto (-52), 3) := by decide +kernel
theorem dX7_seas_120 : decode cX7_seas 120 = .ok (.iload 4, 2) := by decide +kernel
theorem dX7_seas_122 : decode cX7_seas 122 = .ok (.ireturn, 1) := by decide +kernel
theorem dX7_overdue_0 : decode cX7_overdue 0 = .ok (.aload_n 0, 1) := by decide +kernel
theorem dX7_overdue_1 : decode cX7_overdue 1 = .ok (.invokevirtual 272, 3) := by decide +kernel
theorem dX7_overdue_4 : decode cX7_overdue 4 = .ok (.aload_n 0, 1) := by decide +kernel
theorem dX7_overdue_5 : decode cX7_overdue 5 = .ok (.getfield 45, 3) := by decide +kernel
theorem dX7_overdue_8 : decode cX7_overdue 8 = .ok (.getfield 275, 3) := by decide +kernel
theorem dX7_overdue_11 : decode cX7_overdue 11 = .ok (.ireturn, 1) := by decide +kernel
theorem dX7_landing_0 : decode cX7_landing 0 = .ok (.iload_n 1, 1) := by decide +kernel
theorem dX7_landing_1 : decode cX7_landing 1 = .ok (.invokestatic 174, 3) := by decide +kernel
theorem dX7_landing_4 : decode cX7_landing 4 = .ok (.ifCond .ne 10, 3) := by decide +kernel
theorem dX7_landing_7 : decode cX7_landing 7 = .ok (.aload_n 0, 1) := by decide +kernel
theorem dX7_landing_8 : decode cX7_landing 8 = .ok (.ldc 68, 2) := by decide +kernel
theorem dX7_landing_10 : decode cX7_landing 10 = .ok (.invokevirtual 69, 3) := by decide +kernel
theorem dX7_landing_13 : decode cX7_landing 13 = .ok (.ireturn, 1) := by decide +kernel
theorem dX7_landing_14 : decode cX7_landing 14 = .ok (.iload_n 1, 1) := by decide +kernel
theorem dX7_landing_15 : decode cX7_landing 15 = .ok (.aload_n 0, 1) := by decide +kernel
theorem dX7_landing_16 : decode cX7_landing 16 = .ok (.getfield 177, 3) := by decide +kernel
theorem dX7_landing_19 : decode cX7_landing 19 = .ok (.if_icmp .ge 10, 3) := by decide +kernel
theorem dX7_landing_22 : decode cX7_landing 22 = .ok (.aload_n 0, 1) := by decide +kernel
theorem dX7_landing_23 : decode cX7_landing 23 = .ok (.ldc 184, 2) := by decide +kernel
theorem dX7_landing_25 : decode cX7_landing 25 = .ok (.invokevirtual 69, 3) := by decide +kernel
theorem dX7_landing_28 : decode cX7_landing 28 = .ok (.ireturn, 1) := by decide +kernel
theorem dX7_landing_29 : decode cX7_landing 29 = .ok (.aload_n 0, 1) := by decide +kernel
theorem dX7_landing_30 : decode cX7_landing 30 = .ok (.invokevirtual 272, 3) := by decide +kernel
theorem dX7_landing_33 : decode cX7_landing 33 = .ok (.aload_n 0, 1) := by decide +kernel
theorem dX7_landing_34 : decode cX7_landing 34 = .ok (.getfield 45, 3) := by decide +kernel
theorem dX7_landing_37 : decode cX7_landing 37 = .ok (.getfield 278, 3) := by decide +kernel
theorem dX7_landing_40 : decode cX7_landing 40 = .ok (.iload_n 1, 1) := by decide +kernel
theorem dX7_landing_41 : decode cX7_landing 41 = .ok (.iaload, 1) := by decide +kernel
theorem dX7_landing_42 : decode cX7_landing 42 = .ok (.istore_n 2, 1) := by decide +kernel
theorem dX7_landing_43 : decode cX7_landing 43 = .ok (.iload_n 2, 1) := by decide +kernel
theorem dX7_landing_44 : decode cX7_landing 44 = .ok (.ifCond .ge 12, 3) := by decide +kernel
theorem dX7_landing_47 : decode cX7_landing 47 = .ok (.aload_n 0, 1) := by decide +kernel
theorem dX7_landing_48 : decode cX7_landing 48 = .ok (.ldc 184, 2) := by decide +kernel
theorem dX7_landing_50 : decode cX7_landing 50 = .ok (.invokevirtual 69, 3) := by decide +kernel
theorem dX7_landing_53 : decode cX7_landing 53 = .ok (.goto 4, 3) := by decide +kernel
theorem dX7_landing_56 : decode cX7_landing 56 = .ok (.iload_n 2, 1) := by decide +kernel
theorem dX7_landing_57 : decode cX7_landing 57 = .ok (.ireturn, 1) := by decide +kernel
theorem dX7_proves_0 : decode cX7_proves 0 = .ok (.iload_n 1, 1) := by decide +kernel
theorem dX7_proves_1 : decode cX7_proves 1 = .ok (.invokestatic 193, 3) := by decide +kernel
theorem dX7_proves_4 : decode cX7_proves 4 = .ok (.ifCond .ne 10, 3) := by decide +kernel
theorem dX7_proves_7 : decode cX7_proves 7 = .ok (.aload_n 0, 1) := by decide +kernel
theorem dX7_proves_8 : decode cX7_proves 8 = .ok (.ldc 68, 2) := by decide +kernel
theorem dX7_proves_10 : decode cX7_proves 10 = .ok (.invokevirtual 69, 3) := by decide +kernel
theorem dX7_proves_13 : decode cX7_proves 13 = .ok (.ireturn, 1) := by decide +kernel
theorem dX7_proves_14 : decode cX7_proves 14 = .ok (.aload_n 0, 1) := by decide +kernel
theorem dX7_proves_15 : decode cX7_proves 15 = .ok (.getfield 55, 3) := by decide +kernel
theorem dX7_proves_18 : decode cX7_proves 18 = .ok (.iload_n 1, 1) := by decide +kernel
theorem dX7_proves_19 : decode cX7_proves 19 = .ok (.aaload, 1) := by decide +kernel
theorem dX7_proves_20 : decode cX7_proves 20 = .ok (.astore_n 2, 1) := by decide +kernel
theorem dX7_proves_21 : decode cX7_proves 21 = .ok (.aload_n 2, 1) := by decide +kernel
theorem dX7_proves_22 : decode cX7_proves 22 = .ok (.getfield 196, 3) := by decide +kernel
theorem dX7_proves_25 : decode cX7_proves 25 = .ok (.ifCond .ne 10, 3) := by decide +kernel
theorem dX7_proves_28 : decode cX7_proves 28 = .ok (.aload_n 0, 1) := by decide +kernel
theorem dX7_proves_29 : decode cX7_proves 29 = .ok (.ldc 199, 2) := by decide +kernel
theorem dX7_proves_31 : decode cX7_proves 31 = .ok (.invokevirtual 69, 3) := by decide +kernel
theorem dX7_proves_34 : decode cX7_proves 34 = .ok (.ireturn, 1) := by decide +kernel
theorem dX7_proves_35 : decode cX7_proves 35 = .ok (.aload_n 2, 1) := by decide +kernel
theorem dX7_proves_36 : decode cX7_proves 36 = .ok (.getfield 204, 3) := by decide +kernel
theorem dX7_proves_39 : decode cX7_proves 39 = .ok (.bipush 20, 2) := by decide +kernel
theorem dX7_proves_41 : decode cX7_proves 41 = .ok (.aload_n 0, 1) := by decide +kernel
theorem dX7_proves_42 : decode cX7_proves 42 = .ok (.getfield 177, 3) := by decide +kernel
theorem dX7_proves_45 : decode cX7_proves 45 = .ok (.isub, 1) := by decide +kernel
theorem dX7_proves_46 : decode cX7_proves 46 = .ok (.if_icmp .eq 10, 3) := by decide +kernel
theorem dX7_proves_49 : decode cX7_proves 49 = .ok (.aload_n 0, 1) := by decide +kernel
theorem dX7_proves_50 : decode cX7_proves 50 = .ok (.ldc 160, 2) := by decide +kernel
theorem dX7_proves_52 : decode cX7_proves 52 = .ok (.invokevirtual 69, 3) := by decide +kernel
theorem dX7_proves_55 : decode cX7_proves 55 = .ok (.ireturn, 1) := by decide +kernel
theorem dX7_proves_56 : decode cX7_proves 56 = .ok (.aload_n 0, 1) := by decide +kernel
theorem dX7_proves_57 : decode cX7_proves 57 = .ok (.invokevirtual 272, 3) := by decide +kernel
theorem dX7_proves_60 : decode cX7_proves 60 = .ok (.aload_n 0, 1) := by decide +kernel
theorem dX7_proves_61 : decode cX7_proves 61 = .ok (.aload_n 2, 1) := by decide +kernel
theorem dX7_proves_62 : decode cX7_proves 62 = .ok (.invokevirtual 281, 3) := by decide +kernel
theorem dX7_proves_65 : decode cX7_proves 65 = .ok (.ireturn, 1) := by decide +kernel
theorem dX7_sheet_0 : decode cX7_sheet 0 = .ok (.iload_n 2, 1) := by decide +kernel
theorem dX7_sheet_1 : decode cX7_sheet 1 = .ok (.ifCond .eq 21, 3) := by decide +kernel
theorem dX7_sheet_4 : decode cX7_sheet 4 = .ok (.iload_n 2, 1) := by decide +kernel
theorem dX7_sheet_5 : decode cX7_sheet 5 = .ok (.bipush 8, 2) := by decide +kernel
theorem dX7_sheet_7 : decode cX7_sheet 7 = .ok (.if_icmp .eq 15, 3) := by decide +kernel
theorem dX7_sheet_10 : decode cX7_sheet 10 = .ok (.iload_n 2, 1) := by decide +kernel
theorem dX7_sheet_11 : decode cX7_sheet 11 = .ok (.bipush 16, 2) := by decide +kernel
theorem dX7_sheet_13 : decode cX7_sheet 13 = .ok (.if_icmp .eq 9, 3) := by decide +kernel
theorem dX7_sheet_16 : decode cX7_sheet 16 = .ok (.iload_n 2, 1) := by decide +kernel
theorem dX7_sheet_17 : decode cX7_sheet 17 = .ok (.bipush 32, 2) := by decide +kernel
theorem dX7_sheet_19 : decode cX7_sheet 19 = .ok (.if_icmp .ne 7, 3) := by decide +kernel
theorem dX7_sheet_22 : decode cX7_sheet 22 = .ok (.iconst 1, 1) := by decide +kernel
theorem dX7_sheet_23 : decode cX7_sheet 23 = .ok (.goto 4, 3) := by decide +kernel
theorem dX7_sheet_26 : decode cX7_sheet 26 = .ok (.iconst 0, 1) := by decide +kernel
theorem dX7_sheet_27 : decode cX7_sheet 27 = .ok (.istore 4, 2) := by decide +kernel
theorem dX7_sheet_29 : decode cX7_sheet 29 = .ok (.iload_n 1, 1) := by decide +kernel
theorem dX7_sheet_30 : decode cX7_sheet 30 = .ok (.invokestatic 193, 3) := by decide +kernel
theorem dX7_sheet_33 : decode cX7_sheet 33 = .ok (.ifCond .eq 8, 3) := by decide +kernel
theorem dX7_sheet_36 : decode cX7_sheet 36 = .ok (.iload 4, 2) := by decide +kernel
theorem dX7_sheet_38 : decode cX7_sheet 38 = .ok (.ifCond .ne 10, 3) := by decide +kernel
theorem dX7_sheet_41 : decode cX7_sheet 41 = .ok (.aload_n 0, 1) := by decide +kernel
theorem dX7_sheet_42 : decode cX7_sheet 42 = .ok (.ldc 68, 2) := by decide +kernel
theorem dX7_sheet_44 : decode cX7_sheet 44 = .ok (.invokevirtual 69, 3) := by decide +kernel
theorem dX7_sheet_47 : decode cX7_sheet 47 = .ok (.ireturn, 1) := by decide +kernel
theorem dX7_sheet_48 : decode cX7_sheet 48 = .ok (.iload_n 3, 1) := by decide +kernel
theorem dX7_sheet_49 : decode cX7_sheet 49 = .ok (.ifCond .ge 10, 3) := by decide +kernel
theorem dX7_sheet_52 : decode cX7_sheet 52 = .ok (.aload_n 0, 1) := by decide +kernel
theorem dX7_sheet_53 : decode cX7_sheet 53 = .ok (.ldc 160, 2) := by decide +kernel
theorem dX7_sheet_55 : decode cX7_sheet 55 = .ok (.invokevirtual 69, 3) := by decide +kernel
theorem dX7_sheet_58 : decode cX7_sheet 58 = .ok (.ireturn, 1) := by decide +kernel
theorem dX7_sheet_59 : decode cX7_sheet 59 = .ok (.iload_n 3, 1) := by decide +kernel
theorem dX7_sheet_60 : decode cX7_sheet 60 = .ok (.bipush 30, 2) := by decide +kernel
theorem dX7_sheet_62 : decode cX7_sheet 62 = .ok (.if_icmp .le 10, 3) := by decide +kernel
theorem dX7_sheet_65 : decode cX7_sheet 65 = .ok (.aload_n 0, 1) := by decide +kernel
theorem dX7_sheet_66 : decode cX7_sheet 66 = .ok (.ldc 68, 2) := by decide +kernel
theorem dX7_sheet_68 : decode cX7_sheet 68 = .ok (.invokevirtual 69, 3) := by decide +kernel
theorem dX7_sheet_71 : decode cX7_sheet 71 = .ok (.ireturn, 1) := by decide +kernel
theorem dX7_sheet_72 : decode cX7_sheet 72 = .ok (.aload_n 0, 1) := by decide +kernel
theorem dX7_sheet_73 : decode cX7_sheet 73 = .ok (.getfield 55, 3) := by decide +kernel
theorem dX7_sheet_76 : decode cX7_sheet 76 = .ok (.iload_n 1, 1) := by decide +kernel
theorem dX7_sheet_77 : decode cX7_sheet 77 = .ok (.aaload, 1) := by decide +kernel
theorem dX7_sheet_78 : decode cX7_sheet 78 = .ok (.iload_n 2, 1) := by decide +kernel
theorem dX7_sheet_79 : decode cX7_sheet 79 = .ok (.iload_n 2, 1) := by decide +kernel
theorem dX7_sheet_80 : decode cX7_sheet 80 = .ok (.ifCond .ne 7, 3) := by decide +kernel
theorem dX7_sheet_83 : decode cX7_sheet 83 = .ok (.iconst 0, 1) := by decide +kernel
theorem dX7_sheet_84 : decode cX7_sheet 84 = .ok (.goto 4, 3) := by decide +kernel
theorem dX7_sheet_87 : decode cX7_sheet 87 = .ok (.iload_n 3, 1) := by decide +kernel
theorem dX7_sheet_88 : decode cX7_sheet 88 = .ok (.invokevirtual 285, 3) := by decide +kernel
theorem dX7_sheet_91 : decode cX7_sheet 91 = .ok (.aload_n 0, 1) := by decide +kernel
theorem dX7_sheet_92 : decode cX7_sheet 92 = .ok (.getfield 55, 3) := by decide +kernel
theorem dX7_sheet_95 : decode cX7_sheet 95 = .ok (.iload_n 1, 1) := by decide +kernel
theorem dX7_sheet_96 : decode cX7_sheet 96 = .ok (.aaload, 1) := by decide +kernel
theorem dX7_sheet_97 : decode cX7_sheet 97 = .ok (.getfield 204, 3) := by decide +kernel
theorem dX7_sheet_100 : decode cX7_sheet 100 = .ok (.ireturn, 1) := by decide +kernel
theorem dX7_put_0 : decode cX7_put 0 = .ok (.iload_n 1, 1) := by decide +kernel
