theorem dX4_endItem_110 : decode cX4_endItem 110 = .ok (.aload_n 0, 1) := by decide +kernel
theorem dX4_endItem_111 : decode cX4_endItem 111 = .ok (.iconst 0, 1) := by decide +kernel
theorem dX4_endItem_112 : decode cX4_endItem 112 = .ok (.putfield 17, 3) := by decide +kernel
theorem dX4_endItem_115 : decode cX4_endItem 115 = .ok (.aload_n 0, 1) := by decide +kernel
theorem dX4_endItem_116 : decode cX4_endItem 116 = .ok (.dup, 1) := by decide +kernel
theorem dX4_endItem_117 : decode cX4_endItem 117 = .ok (.getfield 26, 3) := by decide +kernel
theorem dX4_endItem_120 : decode cX4_endItem 120 = .ok (.iconst 1, 1) := by decide +kernel
theorem dX4_endItem_121 : decode cX4_endItem 121 = .ok (.iadd, 1) := by decide +kernel
theorem dX4_endItem_122 : decode cX4_endItem 122 = .ok (.putfield 26, 3) := by decide +kernel
theorem dX4_endItem_125 : decode cX4_endItem 125 = .ok (.return_, 1) := by decide +kernel
theorem dX4_tokenEnd_0 : decode cX4_tokenEnd 0 = .ok (.aload_n 0, 1) := by decide +kernel
theorem dX4_tokenEnd_1 : decode cX4_tokenEnd 1 = .ok (.getfield 9, 3) := by decide +kernel
theorem dX4_tokenEnd_4 : decode cX4_tokenEnd 4 = .ok (.iload_n 1, 1) := by decide +kernel
theorem dX4_tokenEnd_5 : decode cX4_tokenEnd 5 = .ok (.iaload, 1) := by decide +kernel
theorem dX4_tokenEnd_6 : decode cX4_tokenEnd 6 = .ok (.invokestatic 56, 3) := by decide +kernel
theorem dX4_tokenEnd_9 : decode cX4_tokenEnd 9 = .ok (.ifCond .ne 7, 3) := by decide +kernel
theorem dX4_tokenEnd_12 : decode cX4_tokenEnd 12 = .ok (.iload_n 1, 1) := by decide +kernel
theorem dX4_tokenEnd_13 : decode cX4_tokenEnd 13 = .ok (.iconst 1, 1) := by decide +kernel
theorem dX4_tokenEnd_14 : decode cX4_tokenEnd 14 = .ok (.iadd, 1) := by decide +kernel
theorem dX4_tokenEnd_15 : decode cX4_tokenEnd 15 = .ok (.ireturn, 1) := by decide +kernel
theorem dX4_tokenEnd_16 : decode cX4_tokenEnd 16 = .ok (.iload_n 1, 1) := by decide +kernel
theorem dX4_tokenEnd_17 : decode cX4_tokenEnd 17 = .ok (.istore_n 2, 1) := by decide +kernel
theorem dX4_tokenEnd_18 : decode cX4_tokenEnd 18 = .ok (.iload_n 2, 1) := by decide +kernel
theorem dX4_tokenEnd_19 : decode cX4_tokenEnd 19 = .ok (.aload_n 0, 1) := by decide +kernel
theorem dX4_tokenEnd_20 : decode cX4_tokenEnd 20 = .ok (.getfield 13, 3) := by decide +kernel
theorem dX4_tokenEnd_23 : decode cX4_tokenEnd 23 = .ok (.if_icmp .ge 23, 3) := by decide +kernel
theorem dX4_tokenEnd_26 : decode cX4_tokenEnd 26 = .ok (.aload_n 0, 1) := by decide +kernel
theorem dX4_tokenEnd_27 : decode cX4_tokenEnd 27 = .ok (.getfield 9, 3) := by decide +kernel
theorem dX4_tokenEnd_30 : decode cX4_tokenEnd 30 = .ok (.iload_n 2, 1) := by decide +kernel
theorem dX4_tokenEnd_31 : decode cX4_tokenEnd 31 = .ok (.iaload, 1) := by decide +kernel
theorem dX4_tokenEnd_32 : decode cX4_tokenEnd 32 = .ok (.invokestatic 56, 3) := by decide +kernel
theorem dX4_tokenEnd_35 : decode cX4_tokenEnd 35 = .ok (.ifCond .ne 5, 3) := by decide +kernel
theorem dX4_tokenEnd_38 : decode cX4_tokenEnd 38 = .ok (.iload_n 2, 1) := by decide +kernel
theorem dX4_tokenEnd_39 : decode cX4_tokenEnd 39 = .ok (.ireturn, 1) := by decide +kernel
theorem dX4_tokenEnd_40 : decode cX4_tokenEnd 40 = .ok (.iinc 2 1, 3) := by decide +kernel
theorem dX4_tokenEnd_43 : decode cX4_tokenEnd 43 = .ok (.goto (-25), 3) := by decide +kernel
theorem dX4_tokenEnd_46 : decode cX4_tokenEnd 46 = .ok (.aload_n 0, 1) := by decide +kernel
theorem dX4_tokenEnd_47 : decode cX4_tokenEnd 47 = .ok (.getfield 13, 3) := by decide +kernel
theorem dX4_tokenEnd_50 : decode cX4_tokenEnd 50 = .ok (.ireturn, 1) := by decide +kernel
theorem dX4_numberAt_0 : decode cX4_numberAt 0 = .ok (.aload_n 0, 1) := by decide +kernel
theorem dX4_numberAt_1 : decode cX4_numberAt 1 = .ok (.iload_n 1, 1) := by decide +kernel
theorem dX4_numberAt_2 : decode cX4_numberAt 2 = .ok (.invokevirtual 45, 3) := by decide +kernel
theorem dX4_numberAt_5 : decode cX4_numberAt 5 = .ok (.istore_n 2, 1) := by decide +kernel
theorem dX4_numberAt_6 : decode cX4_numberAt 6 = .ok (.aload_n 0, 1) := by decide +kernel
theorem dX4_numberAt_7 : decode cX4_numberAt 7 = .ok (.getfield 9, 3) := by decide +kernel
theorem dX4_numberAt_10 : decode cX4_numberAt 10 = .ok (.iload_n 1, 1) := by decide +kernel
theorem dX4_numberAt_11 : decode cX4_numberAt 11 = .ok (.iaload, 1) := by decide +kernel
theorem dX4_numberAt_12 : decode cX4_numberAt 12 = .ok (.bipush 48, 2) := by decide +kernel
theorem dX4_numberAt_14 : decode cX4_numberAt 14 = .ok (.if_icmp .ne 14, 3) := by decide +kernel
theorem dX4_numberAt_17 : decode cX4_numberAt 17 = .ok (.iload_n 2, 1) := by decide +kernel
theorem dX4_numberAt_18 : decode cX4_numberAt 18 = .ok (.iload_n 1, 1) := by decide +kernel
theorem dX4_numberAt_19 : decode cX4_numberAt 19 = .ok (.iconst 1, 1) := by decide +kernel
theorem dX4_numberAt_20 : decode cX4_numberAt 20 = .ok (.iadd, 1) := by decide +kernel
theorem dX4_numberAt_21 : decode cX4_numberAt 21 = .ok (.if_icmp .le 7, 3) := by decide +kernel
theorem dX4_numberAt_24 : decode cX4_numberAt 24 = .ok (.sipush 1000, 3) := by decide +kernel
theorem dX4_numberAt_27 : decode cX4_numberAt 27 = .ok (.ireturn, 1) := by decide +kernel
theorem dX4_numberAt_28 : decode cX4_numberAt 28 = .ok (.iconst 0, 1) := by decide +kernel
theorem dX4_numberAt_29 : decode cX4_numberAt 29 = .ok (.istore_n 3, 1) := by decide +kernel
theorem dX4_numberAt_30 : decode cX4_numberAt 30 = .ok (.iload_n 1, 1) := by decide +kernel
theorem dX4_numberAt_31 : decode cX4_numberAt 31 = .ok (.istore 4, 2) := by decide +kernel
theorem dX4_numberAt_33 : decode cX4_numberAt 33 = .ok (.iload 4, 2) := by decide +kernel
theorem dX4_numberAt_35 : decode cX4_numberAt 35 = .ok (.iload_n 2, 1) := by decide +kernel
theorem dX4_numberAt_36 : decode cX4_numberAt 36 = .ok (.if_icmp .ge 31, 3) := by decide +kernel
theorem dX4_numberAt_39 : decode cX4_numberAt 39 = .ok (.sipush 1000, 3) := by decide +kernel
theorem dX4_numberAt_42 : decode cX4_numberAt 42 = .ok (.iload_n 3, 1) := by decide +kernel
theorem dX4_numberAt_43 : decode cX4_numberAt 43 = .ok (.bipush 10, 2) := by decide +kernel
theorem dX4_numberAt_45 : decode cX4_numberAt 45 = .ok (.imul, 1) := by decide +kernel
theorem dX4_numberAt_46 : decode cX4_numberAt 46 = .ok (.aload_n 0, 1) := by decide +kernel
theorem dX4_numberAt_47 : decode cX4_numberAt 47 = .ok (.getfield 9, 3) := by decide +kernel
theorem dX4_numberAt_50 : decode cX4_numberAt 50 = .ok (.iload 4, 2) := by decide +kernel
theorem dX4_numberAt_52 : decode cX4_numberAt 52 = .ok (.iaload, 1) := by decide +kernel
theorem dX4_numberAt_53 : decode cX4_numberAt 53 = .ok (.iadd, 1) := by decide +kernel
theorem dX4_numberAt_54 : decode cX4_numberAt 54 = .ok (.bipush 48, 2) := by decide +kernel
theorem dX4_numberAt_56 : decode cX4_numberAt 56 = .ok (.isub, 1) := by decide +kernel
theorem dX4_numberAt_57 : decode cX4_numberAt 57 = .ok (.invokestatic 93, 3) := by decide +kernel
theorem dX4_numberAt_60 : decode cX4_numberAt 60 = .ok (.istore_n 3, 1) := by decide +kernel
theorem dX4_numberAt_61 : decode cX4_numberAt 61 = .ok (.iinc 4 1, 3) := by decide +kernel
theorem dX4_numberAt_64 : decode cX4_numberAt 64 = .ok (.goto (-31), 3) := by decide +kernel
theorem dX4_numberAt_67 : decode cX4_numberAt 67 = .ok (.iload_n 3, 1) := by decide +kernel
theorem dX4_numberAt_68 : decode cX4_numberAt 68 = .ok (.ireturn, 1) := by decide +kernel
theorem dX4_isFigure_0 : decode cX4_isFigure 0 = .ok (.iload_n 0, 1) := by decide +kernel
theorem dX4_isFigure_1 : decode cX4_isFigure 1 = .ok (.bipush 48, 2) := by decide +kernel
theorem dX4_isFigure_3 : decode cX4_isFigure 3 = .ok (.if_icmp .lt 13, 3) := by decide +kernel
theorem dX4_isFigure_6 : decode cX4_isFigure 6 = .ok (.iload_n 0, 1) := by decide +kernel
theorem dX4_isFigure_7 : decode cX4_isFigure 7 = .ok (.bipush 57, 2) := by decide +kernel
theorem dX4_isFigure_9 : decode cX4_isFigure 9 = .ok (.if_icmp .gt 7, 3) := by decide +kernel
theorem dX4_isFigure_12 : decode cX4_isFigure 12 = .ok (.iconst 1, 1) := by decide +kernel
theorem dX4_isFigure_13 : decode cX4_isFigure 13 = .ok (.goto 4, 3) := by decide +kernel
theorem dX4_isFigure_16 : decode cX4_isFigure 16 = .ok (.iconst 0, 1) := by decide +kernel
theorem dX4_isFigure_17 : decode cX4_isFigure 17 = .ok (.ireturn, 1) := by decide +kernel
theorem dX5_init_0 : decode cX5_init 0 = .ok (.aload_n 0, 1) := by decide +kernel
theorem dX5_init_1 : decode cX5_init 1 = .ok (.invokespecial 1, 3) := by decide +kernel
theorem dX5_init_4 : decode cX5_init 4 = .ok (.aload_n 0, 1) := by decide +kernel
theorem dX5_init_5 : decode cX5_init 5 = .ok (.new 7, 3) := by decide +kernel
theorem dX5_init_8 : decode cX5_init 8 = .ok (.dup, 1) := by decide +kernel
theorem dX5_init_9 : decode cX5_init 9 = .ok (.invokespecial 9, 3) := by decide +kernel
theorem dX5_init_12 : decode cX5_init 12 = .ok (.putfield 10, 3) := by decide +kernel
theorem dX5_init_15 : decode cX5_init 15 = .ok (.aload_n 0, 1) := by decide +kernel
theorem dX5_init_16 : decode cX5_init 16 = .ok (.new 16, 3) := by decide +kernel
theorem dX5_init_19 : decode cX5_init 19 = .ok (.dup, 1) := by decide +kernel
theorem dX5_init_20 : decode cX5_init 20 = .ok (.invokespecial 18, 3) := by decide +kernel
theorem dX5_init_23 : decode cX5_init 23 = .ok (.putfield 19, 3) := by decide +kernel
theorem dX5_init_26 : decode cX5_init 26 = .ok (.aload_n 0, 1) := by decide +kernel
theorem dX5_init_27 : decode cX5_init 27 = .ok (.iconst 2, 1) := by decide +kernel
theorem dX5_init_28 : decode cX5_init 28 = .ok (.anewarray 7, 3) := by decide +kernel
theorem dX5_init_31 : decode cX5_init 31 = .ok (.putfield 23, 3) := by decide +kernel
theorem dX5_init_34 : decode cX5_init 34 = .ok (.aload_n 0, 1) := by decide +kernel
theorem dX5_init_35 : decode cX5_init 35 = .ok (.iconst 2, 1) := by decide +kernel
theorem dX5_init_36 : decode cX5_init 36 = .ok (.newarray .boolean, 2) := by decide +kernel
theorem dX5_init_38 : decode cX5_init 38 = .ok (.putfield 27, 3) := by decide +kernel
theorem dX5_init_41 : decode cX5_init 41 = .ok (.aload_n 0, 1) := by decide +kernel
theorem dX5_init_42 : decode cX5_init 42 = .ok (.new 31, 3) := by decide +kernel
theorem dX5_init_45 : decode cX5_init 45 = .ok (.dup, 1) := by decide +kernel
theorem dX5_init_46 : decode cX5_init 46 = .ok (.invokespecial 33, 3) := by decide +kernel
theorem dX5_init_49 : decode cX5_init 49 = .ok (.putfield 34, 3) := by decide +kernel
theorem dX5_init_52 : decode cX5_init 52 = .ok (.aload_n 0, 1) := by decide +kernel
theorem dX5_init_53 : decode cX5_init 53 = .ok (.new 38, 3) := by decide +kernel
theorem dX5_init_56 : decode cX5_init 56 = .ok (.dup, 1) := by decide +kernel
theorem dX5_init_57 : decode cX5_init 57 = .ok (.invokespecial 40, 3) := by decide +kernel
theorem dX5_init_60 : decode cX5_init 60 = .ok (.putfield 41, 3) := by decide +kernel
theorem dX5_init_63 : decode cX5_init 63 = .ok (.aload_n 0, 1) := by decide +kernel
theorem dX5_init_64 : decode cX5_init 64 = .ok (.new 45, 3) := by decide +kernel
theorem dX5_init_67 : decode cX5_init 67 = .ok (.dup, 1) := by decide +kernel
theorem dX5_init_68 : decode cX5_init 68 = .ok (.invokespecial 47, 3) := by decide +kernel
theorem dX5_init_71 : decode cX5_init 71 = .ok (.putfield 48, 3) := by decide +kernel
theorem dX5_init_74 : decode cX5_init 74 = .ok (.aload_n 0, 1) := by decide +kernel
theorem dX5_init_75 : decode cX5_init 75 = .ok (.iconst 4, 1) := by decide +kernel
theorem dX5_init_76 : decode cX5_init 76 = .ok (.anewarray 45, 3) := by decide +kernel
theorem dX5_init_79 : decode cX5_init 79 = .ok (.putfield 52, 3) := by decide +kernel
theorem dX5_init_82 : decode cX5_init 82 = .ok (.aload_n 0, 1) := by decide +kernel
theorem dX5_init_83 : decode cX5_init 83 = .ok (.bipush 6, 2) := by decide +kernel
theorem dX5_init_85 : decode cX5_init 85 = .ok (.newarray .int, 2) := by decide +kernel
theorem dX5_init_87 : decode cX5_init 87 = .ok (.putfield 56, 3) := by decide +kernel
theorem dX5_init_90 : decode cX5_init 90 = .ok (.aload_n 0, 1) := by decide +kernel
theorem dX5_init_91 : decode cX5_init 91 = .ok (.bipush 6, 2) := by decide +kernel
theorem dX5_init_93 : decode cX5_init 93 = .ok (.newarray .int, 2) := by decide +kernel
theorem dX5_init_95 : decode cX5_init 95 = .ok (.putfield 60, 3) := by decide +kernel
theorem dX5_init_98 : decode cX5_init 98 = .ok (.aload_n 0, 1) := by decide +kernel
theorem dX5_init_99 : decode cX5_init 99 = .ok (.iconst 0, 1) := by decide +kernel
theorem dX5_init_100 : decode cX5_init 100 = .ok (.putfield 63, 3) := by decide +kernel
theorem dX5_init_103 : decode cX5_init 103 = .ok (.aload_n 0, 1) := by decide +kernel
theorem dX5_init_104 : decode cX5_init 104 = .ok (.iconst 4, 1) := by decide +kernel
theorem dX5_init_105 : decode cX5_init 105 = .ok (.newarray .int, 2) := by decide +kernel
theorem dX5_init_107 : decode cX5_init 107 = .ok (.putfield 67, 3) := by decide +kernel
theorem dX5_init_110 : decode cX5_init 110 = .ok (.iconst 0, 1) := by decide +kernel
theorem dX5_init_111 : decode cX5_init 111 = .ok (.istore_n 1, 1) := by decide +kernel
theorem dX5_init_112 : decode cX5_init 112 = .ok (.iload_n 1, 1) := by decide +kernel
theorem dX5_init_113 : decode cX5_init 113 = .ok (.iconst 2, 1) := by decide +kernel
theorem dX5_init_114 : decode cX5_init 114 = .ok (.if_icmp .ge 22, 3) := by decide +kernel
theorem dX5_init_117 : decode cX5_init 117 = .ok (.aload_n 0, 1) := by decide +kernel
theorem dX5_init_118 : decode cX5_init 118 = .ok (.getfield 23, 3) := by decide +kernel
theorem dX5_init_121 : decode cX5_init 121 = .ok (.iload_n 1, 1) := by decide +kernel
theorem dX5_init_122 : decode cX5_init 122 = .ok (.new 7, 3) := by decide +kernel
theorem dX5_init_125 : decode cX5_init 125 = .ok (.dup, 1) := by decide +kernel
theorem dX5_init_126 : decode cX5_init 126 = .ok (.invokespecial 9, 3) := by decide +kernel
theorem dX5_init_129 : decode cX5_init 129 = .ok (.aastore, 1) := by decide +kernel
theorem dX5_init_130 : decode cX5_init 130 = .ok (.iinc 1 1, 3) := by decide +kernel
theorem dX5_init_133 : decode cX5_init 133 = .ok (.goto (-21), 3) := by decide +kernel
theorem dX5_init_136 : decode cX5_init 136 = .ok (.iconst 0, 1) := by decide +kernel
theorem dX5_init_137 : decode cX5_init 137 = .ok (.istore_n 1, 1) := by decide +kernel
theorem dX5_init_138 : decode cX5_init 138 = .ok (.iload_n 1, 1) := by decide +kernel
theorem dX5_init_139 : decode cX5_init 139 = .ok (.iconst 4, 1) := by decide +kernel
theorem dX5_init_140 : decode cX5_init 140 = .ok (.if_icmp .ge 22, 3) := by decide +kernel
theorem dX5_init_143 : decode cX5_init 143 = .ok (.aload_n 0, 1) := by decide +kernel
theorem dX5_init_144 : decode cX5_init 144 = .ok (.getfield 52, 3) := by decide +kernel
theorem dX5_init_147 : decode cX5_init 147 = .ok (.iload_n 1, 1) := by decide +kernel
theorem dX5_init_148 : decode cX5_init 148 = .ok (.new 45, 3) := by decide +kernel
theorem dX5_init_151 : decode cX5_init 151 = .ok (.dup, 1) := by decide +kernel
theorem dX5_init_152 : decode cX5_init 152 = .ok (.invokespecial 47, 3) := by decide +kernel
theorem dX5_init_155 : decode cX5_init 155 = .ok (.aastore, 1) := by decide +kernel
theorem dX5_init_156 : decode cX5_init 156 = .ok (.iinc 1 1, 3) := by decide +kernel
theorem dX5_init_159 : decode cX5_init 159 = .ok (.goto (-21), 3) := by decide +kernel
theorem dX5_init_162 : decode cX5_init 162 = .ok (.return_, 1) := by decide +kernel
theorem dX5_type_0 : decode cX5_type 0 = .ok (.iload_n 1, 1) := by decide +kernel
theorem dX5_type_1 : decode cX5_type 1 = .ok (.ifCond .lt 10, 3) := by decide +kernel
theorem dX5_type_4 : decode cX5_type 4 = .ok (.iload_n 1, 1) := by decide +kernel
theorem dX5_type_5 : decode cX5_type 5 = .ok (.sipush 255, 3) := by decide +kernel
theorem dX5_type_8 : decode cX5_type 8 = .ok (.if_icmp .le 5, 3) := by decide +kernel
theorem dX5_type_11 : decode cX5_type 11 = .ok (.iconst (-1), 1) := by decide +kernel
theorem dX5_type_12 : decode cX5_type 12 = .ok (.ireturn, 1) := by decide +kernel
theorem dX5_type_13 : decode cX5_type 13 = .ok (.aload_n 0, 1) := by decide +kernel
theorem dX5_type_14 : decode cX5_type 14 = .ok (.getfield 34, 3) := by decide +kernel
theorem dX5_type_17 : decode cX5_type 17 = .ok (.iload_n 1, 1) := by decide +kernel
theorem dX5_type_18 : decode cX5_type 18 = .ok (.invokevirtual 70, 3) := by decide +kernel
theorem dX5_type_21 : decode cX5_type 21 = .ok (.ifCond .eq 13, 3) := by decide +kernel
theorem dX5_type_24 : decode cX5_type 24 = .ok (.aload_n 0, 1) := by decide +kernel
theorem dX5_type_25 : decode cX5_type 25 = .ok (.getfield 34, 3) := by decide +kernel
theorem dX5_type_28 : decode cX5_type 28 = .ok (.invokevirtual 74, 3) := by decide +kernel
theorem dX5_type_31 : decode cX5_type 31 = .ok (.goto 5, 3) := by decide +kernel
theorem dX5_type_34 : decode cX5_type 34 = .ok (.bipush (-3), 2) := by decide +kernel
theorem dX5_type_36 : decode cX5_type 36 = .ok (.ireturn, 1) := by decide +kernel
theorem dX5_clear_0 : decode cX5_clear 0 = .ok (.aload_n 0, 1) := by decide +kernel
theorem dX5_clear_1 : decode cX5_clear 1 = .ok (.getfield 34, 3) := by decide +kernel
theorem dX5_clear_4 : decode cX5_clear 4 = .ok (.invokevirtual 74, 3) := by decide +kernel
theorem dX5_clear_7 : decode cX5_clear 7 = .ok (.istore_n 1, 1) := by decide +kernel
theorem dX5_clear_8 : decode cX5_clear 8 = .ok (.aload_n 0, 1) := by decide +kernel
theorem dX5_clear_9 : decode cX5_clear 9 = .ok (.getfield 34, 3) := by decide +kernel
theorem dX5_clear_12 : decode cX5_clear 12 = .ok (.invokevirtual 78, 3) := by decide +kernel
theorem dX5_clear_15 : decode cX5_clear 15 = .ok (.iload_n 1, 1) := by decide +kernel
theorem dX5_clear_16 : decode cX5_clear 16 = .ok (.ireturn, 1) := by decide +kernel
theorem dX5_tells_0 : decode cX5_tells 0 = .ok (.iload_n 1, 1) := by decide +kernel
theorem dX5_tells_1 : decode cX5_tells 1 = .ok (.invokestatic 81, 3) := by decide +kernel
theorem dX5_tells_4 : decode cX5_tells 4 = .ok (.ifCond .eq 5, 3) := by decide +kernel
theorem dX5_tells_7 : decode cX5_tells 7 = .ok (.iconst (-1), 1) := by decide +kernel
theorem dX5_tells_8 : decode cX5_tells 8 = .ok (.ireturn, 1) := by decide +kernel
theorem dX5_tells_9 : decode cX5_tells 9 = .ok (.aload_n 0, 1) := by decide +kernel
theorem dX5_tells_10 : decode cX5_tells 10 = .ok (.getfield 34, 3) := by decide +kernel
theorem dX5_tells_13 : decode cX5_tells 13 = .ok (.aload_n 0, 1) := by decide +kernel
theorem dX5_tells_14 : decode cX5_tells 14 = .ok (.getfield 41, 3) := by decide +kernel
theorem dX5_tells_17 : decode cX5_tells 17 = .ok (.invokevirtual 84, 3) := by decide +kernel
theorem dX5_tells_20 : decode cX5_tells 20 = .ok (.istore_n 2, 1) := by decide +kernel
theorem dX5_tells_21 : decode cX5_tells 21 = .ok (.iload_n 2, 1) := by decide +kernel
theorem dX5_tells_22 : decode cX5_tells 22 = .ok (.ifCond .ge 5, 3) := by decide +kernel
theorem dX5_tells_25 : decode cX5_tells 25 = .ok (.iload_n 2, 1) := by decide +kernel
theorem dX5_tells_26 : decode cX5_tells 26 = .ok (.ireturn, 1) := by decide +kernel
theorem dX5_tells_27 : decode cX5_tells 27 = .ok (.aload_n 0, 1) := by decide +kernel
theorem dX5_tells_28 : decode cX5_tells 28 = .ok (.getfield 19, 3) := by decide +kernel
theorem dX5_tells_31 : decode cX5_tells 31 = .ok (.aload_n 0, 1) := by decide +kernel
theorem dX5_tells_32 : decode cX5_tells 32 = .ok (.getfield 10, 3) := by decide +kernel
theorem dX5_tells_35 : decode cX5_tells 35 = .ok (.invokevirtual 88, 3) := by decide +kernel
theorem dX5_tells_38 : decode cX5_tells 38 = .ok (.aload_n 0, 1) := by decide +kernel
theorem dX5_tells_39 : decode cX5_tells 39 = .ok (.getfield 10, 3) := by decide +kernel
theorem dX5_tells_42 : decode cX5_tells 42 = .ok (.getfield 92, 3) := by decide +kernel
theorem dX5_tells_45 : decode cX5_tells 45 = .ok (.iload_n 1, 1) := by decide +kernel
theorem dX5_tells_46 : decode cX5_tells 46 = .ok (.aaload, 1) := by decide +kernel
theorem dX5_tells_47 : decode cX5_tells 47 = .ok (.aload_n 0, 1) := by decide +kernel
theorem dX5_tells_48 : decode cX5_tells 48 = .ok (.getfield 41, 3) := by decide +kernel
theorem dX5_tells_51 : decode cX5_tells 51 = .ok (.invokevirtual 96, 3) := by decide +kernel
theorem dX5_tells_54 : decode cX5_tells 54 = .ok (.aload_n 0, 1) := by decide +kernel
theorem dX5_tells_55 : decode cX5_tells 55 = .ok (.getfield 34, 3) := by decide +kernel
theorem dX5_tells_58 : decode cX5_tells 58 = .ok (.invokevirtual 78, 3) := by decide +kernel
theorem dX5_tells_61 : decode cX5_tells 61 = .ok (.iload_n 2, 1) := by decide +kernel
theorem dX5_tells_62 : decode cX5_tells 62 = .ok (.ireturn, 1) := by decide +kernel
theorem dX5_sails_0 : decode cX5_sails 0 = .ok (.iload_n 1, 1) := by decide +kernel
theorem dX5_sails_1 : decode cX5_sails 1 = .ok (.invokestatic 81, 3) := by decide +kernel
theorem dX5_sails_4 : decode cX5_sails 4 = .ok (.ifCond .eq 5, 3) := by decide +kernel
theorem dX5_sails_7 : decode cX5_sails 7 = .ok (.iconst (-1), 1) := by decide +kernel
theorem dX5_sails_8 : decode cX5_sails 8 = .ok (.ireturn, 1) := by decide +kernel
theorem dX5_sails_9 : decode cX5_sails 9 = .ok (.aload_n 0, 1) := by decide +kernel
theorem dX5_sails_10 : decode cX5_sails 10 = .ok (.getfield 10, 3) := by decide +kernel
theorem dX5_sails_13 : decode cX5_sails 13 = .ok (.getfield 92, 3) := by decide +kernel
theorem dX5_sails_16 : decode cX5_sails 16 = .ok (.iload_n 1, 1) := by decide +kernel
theorem dX5_sails_17 : decode cX5_sails 17 = .ok (.aaload, 1) := by decide +kernel
theorem dX5_sails_18 : decode cX5_sails 18 = .ok (.astore_n 2, 1) := by decide +kernel
theorem dX5_sails_19 : decode cX5_sails 19 = .ok (.aload_n 0, 1) := by decide +kernel
theorem dX5_sails_20 : decode cX5_sails 20 = .ok (.iload_n 1, 1) := by decide +kernel
theorem dX5_sails_21 : decode cX5_sails 21 = .ok (.invokevirtual 100, 3) := by decide +kernel
theorem dX5_sails_24 : decode cX5_sails 24 = .ok (.astore_n 3, 1) := by decide +kernel
theorem dX5_sails_25 : decode cX5_sails 25 = .ok (.aload_n 3, 1) := by decide +kernel
theorem dX5_sails_26 : decode cX5_sails 26 = .ok (.invokevirtual 104, 3) := by decide +kernel
theorem dX5_sails_29 : decode cX5_sails 29 = .ok (.ifCond .ne 6, 3) := by decide +kernel
theorem dX5_sails_32 : decode cX5_sails 32 = .ok (.bipush (-2), 2) := by decide +kernel
theorem dX5_sails_34 : decode cX5_sails 34 = .ok (.ireturn, 1) := by decide +kernel
theorem dX5_sails_35 : decode cX5_sails 35 = .ok (.aload_n 2, 1) := by decide +kernel
theorem dX5_sails_36 : decode cX5_sails 36 = .ok (.iconst 2, 1) := by decide +kernel
theorem dX5_sails_37 : decode cX5_sails 37 = .ok (.invokevirtual 108, 3) := by decide +kernel
theorem dX5_sails_40 : decode cX5_sails 40 = .ok (.istore 4, 2) := by decide +kernel
theorem dX5_sails_42 : decode cX5_sails 42 = .ok (.iload 4, 2) := by decide +kernel
theorem dX5_sails_44 : decode cX5_sails 44 = .ok (.iconst 1, 1) := by decide +kernel
theorem dX5_sails_45 : decode cX5_sails 45 = .ok (.iadd, 1) := by decide +kernel
theorem dX5_sails_46 : decode cX5_sails 46 = .ok (.istore 5, 2) := by decide +kernel
theorem dX5_sails_48 : decode cX5_sails 48 = .ok (.aload_n 3, 1) := by decide +kernel
theorem dX5_sails_49 : decode cX5_sails 49 = .ok (.iload 5, 2) := by decide +kernel
theorem dX5_sails_51 : decode cX5_sails 51 = .ok (.invokevirtual 112, 3) := by decide +kernel
theorem dX5_sails_54 : decode cX5_sails 54 = .ok (.aload_n 2, 1) := by decide +kernel
theorem dX5_sails_55 : decode cX5_sails 55 = .ok (.iload 4, 2) := by decide +kernel
theorem dX5_sails_57 : decode cX5_sails 57 = .ok (.iconst 1, 1) := by decide +kernel
theorem dX5_sails_58 : decode cX5_sails 58 = .ok (.invokevirtual 115, 3) := by decide +kernel
theorem dX5_sails_61 : decode cX5_sails 61 = .ok (.iadd, 1) := by decide +kernel
theorem dX5_sails_62 : decode cX5_sails 62 = .ok (.istore 6, 2) := by decide +kernel
theorem dX5_sails_64 : decode cX5_sails 64 = .ok (.aload_n 2, 1) := by decide +kernel
theorem dX5_sails_65 : decode cX5_sails 65 = .ok (.iconst 4, 1) := by decide +kernel
theorem dX5_sails_66 : decode cX5_sails 66 = .ok (.invokevirtual 108, 3) := by decide +kernel
theorem dX5_sails_69 : decode cX5_sails 69 = .ok (.aload_n 3, 1) := by decide +kernel
theorem dX5_sails_70 : decode cX5_sails 70 = .ok (.iload 4, 2) := by decide +kernel
theorem dX5_sails_72 : decode cX5_sails 72 = .ok (.invokevirtual 119, 3) := by decide +kernel
theorem dX5_sails_75 : decode cX5_sails 75 = .ok (.iadd, 1) := by decide +kernel
theorem dX5_sails_76 : decode cX5_sails 76 = .ok (.istore 7, 2) := by decide +kernel
theorem dX5_sails_78 : decode cX5_sails 78 = .ok (.aload_n 0, 1) := by decide +kernel
theorem dX5_sails_79 : decode cX5_sails 79 = .ok (.getfield 19, 3) := by decide +kernel
theorem dX5_sails_82 : decode cX5_sails 82 = .ok (.aload_n 0, 1) := by decide +kernel
theorem dX5_sails_83 : decode cX5_sails 83 = .ok (.getfield 10, 3) := by decide +kernel
theorem dX5_sails_86 : decode cX5_sails 86 = .ok (.invokevirtual 88, 3) := by decide +kernel
theorem dX5_sails_89 : decode cX5_sails 89 = .ok (.aload_n 2, 1) := by decide +kernel
theorem dX5_sails_90 : decode cX5_sails 90 = .ok (.iconst 2, 1) := by decide +kernel
theorem dX5_sails_91 : decode cX5_sails 91 = .ok (.iload 5, 2) := by decide +kernel
theorem dX5_sails_93 : decode cX5_sails 93 = .ok (.invokevirtual 122, 3) := by decide +kernel
theorem dX5_sails_96 : decode cX5_sails 96 = .ok (.aload_n 2, 1) := by decide +kernel
theorem dX5_sails_97 : decode cX5_sails 97 = .ok (.iconst 3, 1) := by decide +kernel
theorem dX5_sails_98 : decode cX5_sails 98 = .ok (.iload 6, 2) := by decide +kernel
theorem dX5_sails_100 : decode cX5_sails 100 = .ok (.invokevirtual 122, 3) := by decide +kernel
theorem dX5_sails_103 : decode cX5_sails 103 = .ok (.aload_n 2, 1) := by decide +kernel
theorem dX5_sails_104 : decode cX5_sails 104 = .ok (.iconst 4, 1) := by decide +kernel
theorem dX5_sails_105 : decode cX5_sails 105 = .ok (.iload 7, 2) := by decide +kernel
theorem dX5_sails_107 : decode cX5_sails 107 = .ok (.invokevirtual 122, 3) := by decide +kernel
theorem dX5_sails_110 : decode cX5_sails 110 = .ok (.iload 6, 2) := by decide +kernel
theorem dX5_sails_112 : decode cX5_sails 112 = .ok (.ireturn, 1) := by decide +kernel
theorem dX5_holds_0 : decode cX5_holds 0 = .ok (.iload_n 1, 1) := by decide +kernel
theorem dX5_holds_1 : decode cX5_holds 1 = .ok (.invokestatic 81, 3) := by decide +kernel
theorem dX5_holds_4 : decode cX5_holds 4 = .ok (.ifCond .ne 14, 3) := by decide +kernel
theorem dX5_holds_7 : decode cX5_holds 7 = .ok (.iload_n 2, 1) := by decide +kernel
theorem dX5_holds_8 : decode cX5_holds 8 = .ok (.iconst 1, 1) := by decide +kernel
theorem dX5_holds_9 : decode cX5_holds 9 = .ok (.if_icmp .lt 9, 3) := by decide +kernel
theorem dX5_holds_12 : decode cX5_holds 12 = .ok (.iload_n 2, 1) := by decide +kernel
theorem dX5_holds_13 : decode cX5_holds 13 = .ok (.bipush 99, 2) := by decide +kernel
theorem dX5_holds_15 : decode cX5_holds 15 = .ok (.if_icmp .le 5, 3) := by decide +kernel
theorem dX5_holds_18 : decode cX5_holds 18 = .ok (.iconst (-1), 1) := by decide +kernel
theorem dX5_holds_19 : decode cX5_holds 19 = .ok (.ireturn, 1) := by decide +kernel
theorem dX5_holds_20 : decode cX5_holds 20 = .ok (.aload_n 0, 1) := by decide +kernel
theorem dX5_holds_21 : decode cX5_holds 21 = .ok (.getfield 10, 3) := by decide +kernel
theorem dX5_holds_24 : decode cX5_holds 24 = .ok (.getfield 92, 3) := by decide +kernel
theorem dX5_holds_27 : decode cX5_holds 27 = .ok (.iload_n 1, 1) := by decide +kernel
theorem dX5_holds_28 : decode cX5_holds 28 = .ok (.aaload, 1) := by decide +kernel
theorem dX5_holds_29 : decode cX5_holds 29 = .ok (.astore_n 3, 1) := by decide +kernel
theorem dX5_holds_30 : decode cX5_holds 30 = .ok (.aload_n 3, 1) := by decide +kernel
theorem dX5_holds_31 : decode cX5_holds 31 = .ok (.iconst 3, 1) := by decide +kernel
theorem dX5_holds_32 : decode cX5_holds 32 = .ok (.invokevirtual 108, 3) := by decide +kernel
theorem dX5_holds_35 : decode cX5_holds 35 = .ok (.iload_n 2, 1) := by decide +kernel
theorem dX5_holds_36 : decode cX5_holds 36 = .ok (.iadd, 1) := by decide +kernel
theorem dX5_holds_37 : decode cX5_holds 37 = .ok (.istore 4, 2) := by decide +kernel
theorem dX5_holds_39 : decode cX5_holds 39 = .ok (.iload 4, 2) := by decide +kernel
theorem dX5_holds_41 : decode cX5_holds 41 = .ok (.sipush 9999, 3) := by decide +kernel
theorem dX5_holds_44 : decode cX5_holds 44 = .ok (.if_icmp .le 6, 3) := by decide +kernel
theorem dX5_holds_47 : decode cX5_holds 47 = .ok (.bipush (-3), 2) := by decide +kernel
theorem dX5_holds_49 : decode cX5_holds 49 = .ok (.ireturn, 1) := by decide +kernel
theorem dX5_holds_50 : decode cX5_holds 50 = .ok (.aload_n 0, 1) := by decide +kernel
theorem dX5_holds_51 : decode cX5_holds 51 = .ok (.getfield 19, 3) := by decide +kernel
theorem dX5_holds_54 : decode cX5_holds 54 = .ok (.aload_n 0, 1) := by decide +kernel
theorem dX5_holds_55 : decode cX5_holds 55 = .ok (.getfield 10, 3) := by decide +kernel
theorem dX5_holds_58 : decode cX5_holds 58 = .ok (.invokevirtual 88, 3) := by decide +kernel
theorem dX5_holds_61 : decode cX5_holds 61 = .ok (.aload_n 3, 1) := by decide +kernel
theorem dX5_holds_62 : decode cX5_holds 62 = .ok (.iconst 3, 1) := by decide +kernel
theorem dX5_holds_63 : decode cX5_holds 63 = .ok (.iload 4, 2) := by decide +kernel
theorem dX5_holds_65 : decode cX5_holds 65 = .ok (.invokevirtual 122, 3) := by decide +kernel
theorem dX5_holds_68 : decode cX5_holds 68 = .ok (.iload 4, 2) := by decide +kernel
theorem dX5_holds_70 : decode cX5_holds 70 = .ok (.ireturn, 1) := by decide +kernel
theorem dX5_moves_0 : decode cX5_moves 0 = .ok (.iload_n 1, 1) := by decide +kernel
theorem dX5_moves_1 : decode cX5_moves 1 = .ok (.invokestatic 81, 3) := by decide +kernel
theorem dX5_moves_4 : decode cX5_moves 4 = .ok (.ifCond .ne 19, 3) := by decide +kernel
theorem dX5_moves_7 : decode cX5_moves 7 = .ok (.aload_n 0, 1) := by decide +kernel
theorem dX5_moves_8 : decode cX5_moves 8 = .ok (.getfield 10, 3) := by decide +kernel
theorem dX5_moves_11 : decode cX5_moves 11 = .ok (.getfield 92, 3) := by decide +kernel
theorem dX5_moves_14 : decode cX5_moves 14 = .ok (.iload_n 1, 1) := by decide +kernel
theorem dX5_moves_15 : decode cX5_moves 15 = .ok (.aaload, 1) := by decide +kernel
theorem dX5_moves_16 : decode cX5_moves 16 = .ok (.iload_n 2, 1) := by decide +kernel
theorem dX5_moves_17 : decode cX5_moves 17 = .ok (.invokevirtual 126, 3) := by decide +kernel
theorem dX5_moves_20 : decode cX5_moves 20 = .ok (.ifCond .ne 5, 3) := by decide +kernel
theorem dX5_moves_23 : decode cX5_moves 23 = .ok (.iconst (-1), 1) := by decide +kernel
theorem dX5_moves_24 : decode cX5_moves 24 = .ok (.ireturn, 1) := by decide +kernel
theorem dX5_moves_25 : decode cX5_moves 25 = .ok (.iload_n 3, 1) := by decide +kernel
theorem dX5_moves_26 : decode cX5_moves 26 = .ok (.ifCond .lt 17, 3) := by decide +kernel
theorem dX5_moves_29 : decode cX5_moves 29 = .ok (.iload 4, 2) := by decide +kernel
theorem dX5_moves_31 : decode cX5_moves 31 = .ok (.iload_n 3, 1) := by decide +kernel
theorem dX5_moves_32 : decode cX5_moves 32 = .ok (.if_icmp .lt 11, 3) := by decide +kernel
theorem dX5_moves_35 : decode cX5_moves 35 = .ok (.iload 4, 2) := by decide +kernel
theorem dX5_moves_37 : decode cX5_moves 37 = .ok (.sipush 999, 3) := by decide +kernel
theorem dX5_moves_40 : decode cX5_moves 40 = .ok (.if_icmp .le 5, 3) := by decide +kernel
theorem dX5_moves_43 : decode cX5_moves 43 = .ok (.iconst (-1), 1) := by decide +kernel
theorem dX5_moves_44 : decode cX5_moves 44 = .ok (.ireturn, 1) := by decide +kernel
theorem dX5_moves_45 : decode cX5_moves 45 = .ok (.aload_n 0, 1) := by decide +kernel
theorem dX5_moves_46 : decode cX5_moves 46 = .ok (.getfield 10, 3) := by decide +kernel
theorem dX5_moves_49 : decode cX5_moves 49 = .ok (.getfield 92, 3) := by decide +kernel
theorem dX5_moves_52 : decode cX5_moves 52 = .ok (.iload_n 1, 1) := by decide +kernel
theorem dX5_moves_53 : decode cX5_moves 53 = .ok (.aaload, 1) := by decide +kernel
theorem dX5_moves_54 : decode cX5_moves 54 = .ok (.astore 5, 2) := by decide +kernel
theorem dX5_moves_56 : decode cX5_moves 56 = .ok (.iload_n 2, 1) := by decide +kernel
theorem dX5_moves_57 : decode cX5_moves 57 = .ok (.iconst 1, 1) := by decide +kernel
theorem dX5_moves_58 : decode cX5_moves 58 = .ok (.isub, 1) := by decide +kernel
theorem dX5_moves_59 : decode cX5_moves 59 = .ok (.istore 6, 2) := by decide +kernel
theorem dX5_moves_61 : decode cX5_moves 61 = .ok (.aload 5, 2) := by decide +kernel
theorem dX5_moves_63 : decode cX5_moves 63 = .ok (.iload 6, 2) := by decide +kernel
theorem dX5_moves_65 : decode cX5_moves 65 = .ok (.iconst 2, 1) := by decide +kernel
theorem dX5_moves_66 : decode cX5_moves 66 = .ok (.invokevirtual 115, 3) := by decide +kernel
theorem dX5_moves_69 : decode cX5_moves 69 = .ok (.iload_n 3, 1) := by decide +kernel
theorem dX5_moves_70 : decode cX5_moves 70 = .ok (.if_icmp .ne 19, 3) := by decide +kernel
theorem dX5_moves_73 : decode cX5_moves 73 = .ok (.aload 5, 2) := by decide +kernel
theorem dX5_moves_75 : decode cX5_moves 75 = .ok (.iload 6, 2) := by decide +kernel
theorem dX5_moves_77 : decode cX5_moves 77 = .ok (.iconst 3, 1) := by decide +kernel
theorem dX5_moves_78 : decode cX5_moves 78 = .ok (.invokevirtual 115, 3) := by decide +kernel
theorem dX5_moves_81 : decode cX5_moves 81 = .ok (.iload 4, 2) := by decide +kernel
theorem dX5_moves_83 : decode cX5_moves 83 = .ok (.if_icmp .ne 6, 3) := by decide +kernel
theorem dX5_moves_86 : decode cX5_moves 86 = .ok (.bipush (-2), 2) := by decide +kernel
theorem dX5_moves_88 : decode cX5_moves 88 = .ok (.ireturn, 1) := by decide +kernel
theorem dX5_moves_89 : decode cX5_moves 89 = .ok (.aload_n 0, 1) := by decide +kernel
theorem dX5_moves_90 : decode cX5_moves 90 = .ok (.getfield 19, 3) := by decide +kernel
theorem dX5_moves_93 : decode cX5_moves 93 = .ok (.aload_n 0, 1) := by decide +kernel
theorem dX5_moves_94 : decode cX5_moves 94 = .ok (.getfield 10, 3) := by decide +kernel
theorem dX5_moves_97 : decode cX5_moves 97 = .ok (.invokevirtual 88, 3) := by decide +kernel
theorem dX5_moves_100 : decode cX5_moves 100 = .ok (.aload 5, 2) := by decide +kernel
theorem dX5_moves_102 : decode cX5_moves 102 = .ok (.iload 6, 2) := by decide +kernel
theorem dX5_moves_104 : decode cX5_moves 104 = .ok (.iconst 2, 1) := by decide +kernel
theorem dX5_moves_105 : decode cX5_moves 105 = .ok (.iload_n 3, 1) := by decide +kernel
theorem dX5_moves_106 : decode cX5_moves 106 = .ok (.invokevirtual 129, 3) := by decide +kernel
theorem dX5_moves_109 : decode cX5_moves 109 = .ok (.aload 5, 2) := by decide +kernel
theorem dX5_moves_111 : decode cX5_moves 111 = .ok (.iload 6, 2) := by decide +kernel
theorem dX5_moves_113 : decode cX5_moves 113 = .ok (.iconst 3, 1) := by decide +kernel
theorem dX5_moves_114 : decode cX5_moves 114 = .ok (.iload 4, 2) := by decide +kernel
theorem dX5_moves_116 : decode cX5_moves 116 = .ok (.invokevirtual 129, 3) := by decide +kernel
theorem dX5_moves_119 : decode cX5_moves 119 = .ok (.iconst 1, 1) := by decide +kernel
theorem dX5_moves_120 : decode cX5_moves 120 = .ok (.ireturn, 1) := by decide +kernel
theorem dX5_fastens_0 : decode cX5_fastens 0 = .ok (.iload_n 1, 1) := by decide +kernel
theorem dX5_fastens_1 : decode cX5_fastens 1 = .ok (.invokestatic 81, 3) := by decide +kernel
theorem dX5_fastens_4 : decode cX5_fastens 4 = .ok (.ifCond .ne 14, 3) := by decide +kernel
theorem dX5_fastens_7 : decode cX5_fastens 7 = .ok (.iload_n 2, 1) := by decide +kernel
theorem dX5_fastens_8 : decode cX5_fastens 8 = .ok (.iconst 1, 1) := by decide +kernel
theorem dX5_fastens_9 : decode cX5_fastens 9 = .ok (.if_icmp .lt 9, 3) := by decide +kernel
theorem dX5_fastens_12 : decode cX5_fastens 12 = .ok (.iload_n 2, 1) := by decide +kernel
theorem dX5_fastens_13 : decode cX5_fastens 13 = .ok (.bipush 60, 2) := by decide +kernel
theorem dX5_fastens_15 : decode cX5_fastens 15 = .ok (.if_icmp .le 5, 3) := by decide +kernel
theorem dX5_fastens_18 : decode cX5_fastens 18 = .ok (.iconst (-1), 1) := by decide +kernel
theorem dX5_fastens_19 : decode cX5_fastens 19 = .ok (.ireturn, 1) := by decide +kernel
theorem dX5_fastens_20 : decode cX5_fastens 20 = .ok (.aload_n 0, 1) := by decide +kernel
theorem dX5_fastens_21 : decode cX5_fastens 21 = .ok (.getfield 10, 3) := by decide +kernel
theorem dX5_fastens_24 : decode cX5_fastens 24 = .ok (.getfield 92, 3) := by decide +kernel
theorem dX5_fastens_27 : decode cX5_fastens 27 = .ok (.iload_n 1, 1) := by decide +kernel
theorem dX5_fastens_28 : decode cX5_fastens 28 = .ok (.aaload, 1) := by decide +kernel
theorem dX5_fastens_29 : decode cX5_fastens 29 = .ok (.astore_n 3, 1) := by decide +kernel
theorem dX5_fastens_30 : decode cX5_fastens 30 = .ok (.aload_n 3, 1) := by decide +kernel
theorem dX5_fastens_31 : decode cX5_fastens 31 = .ok (.iconst 1, 1) := by decide +kernel
theorem dX5_fastens_32 : decode cX5_fastens 32 = .ok (.invokevirtual 108, 3) := by decide +kernel
theorem dX5_fastens_35 : decode cX5_fastens 35 = .ok (.istore 4, 2) := by decide +kernel
theorem dX5_fastens_37 : decode cX5_fastens 37 = .ok (.iload 4, 2) := by decide +kernel
theorem dX5_fastens_39 : decode cX5_fastens 39 = .ok (.iload_n 2, 1) := by decide +kernel
theorem dX5_fastens_40 : decode cX5_fastens 40 = .ok (.if_icmp .ne 6, 3) := by decide +kernel
theorem dX5_fastens_43 : decode cX5_fastens 43 = .ok (.bipush (-2), 2) := by decide +kernel
theorem dX5_fastens_45 : decode cX5_fastens 45 = .ok (.ireturn, 1) := by decide +kernel
theorem dX5_fastens_46 : decode cX5_fastens 46 = .ok (.aload_n 0, 1) := by decide +kernel
theorem dX5_fastens_47 : decode cX5_fastens 47 = .ok (.getfield 19, 3) := by decide +kernel
theorem dX5_fastens_50 : decode cX5_fastens 50 = .ok (.aload_n 0, 1) := by decide +kernel
theorem dX5_fastens_51 : decode cX5_fastens 51 = .ok (.getfield 10, 3) := by decide +kernel
theorem dX5_fastens_54 : decode cX5_fastens 54 = .ok (.invokevirtual 88, 3) := by decide +kernel
theorem dX5_fastens_57 : decode cX5_fastens 57 = .ok (.aload_n 3, 1) := by decide +kernel
theorem dX5_fastens_58 : decode cX5_fastens 58 = .ok (.iconst 1, 1) := by decide +kernel
theorem dX5_fastens_59 : decode cX5_fastens 59 = .ok (.iload_n 2, 1) := by decide +kernel
theorem dX5_fastens_60 : decode cX5_fastens 60 = .ok (.invokevirtual 122, 3) := by decide +kernel
theorem dX5_fastens_63 : decode cX5_fastens 63 = .ok (.iload 4, 2) := by decide +kernel
theorem dX5_fastens_65 : decode cX5_fastens 65 = .ok (.ireturn, 1) := by decide +kernel
theorem dX5_undo_0 : decode cX5_undo 0 = .ok (.aload_n 0, 1) := by decide +kernel
theorem dX5_undo_1 : decode cX5_undo 1 = .ok (.getfield 19, 3) := by decide +kernel
theorem dX5_undo_4 : decode cX5_undo 4 = .ok (.invokevirtual 133, 3) := by decide +kernel
theorem dX5_undo_7 : decode cX5_undo 7 = .ok (.ifCond .ne 6, 3) := by decide +kernel
theorem dX5_undo_10 : decode cX5_undo 10 = .ok (.bipush (-2), 2) := by decide +kernel
theorem dX5_undo_12 : decode cX5_undo 12 = .ok (.ireturn, 1) := by decide +kernel
theorem dX5_undo_13 : decode cX5_undo 13 = .ok (.aload_n 0, 1) := by decide +kernel
theorem dX5_undo_14 : decode cX5_undo 14 = .ok (.getfield 19, 3) := by decide +kernel
theorem dX5_undo_17 : decode cX5_undo 17 = .ok (.aload_n 0, 1) := by decide +kernel
theorem dX5_undo_18 : decode cX5_undo 18 = .ok (.getfield 10, 3) := by decide +kernel
theorem dX5_undo_21 : decode cX5_undo 21 = .ok (.invokevirtual 136, 3) := by decide +kernel
theorem dX5_undo_24 : decode cX5_undo 24 = .ok (.aload_n 0, 1) := by decide +kernel
theorem dX5_undo_25 : decode cX5_undo 25 = .ok (.getfield 19, 3) := by decide +kernel
theorem dX5_undo_28 : decode cX5_undo 28 = .ok (.invokevirtual 133, 3) := by decide +kernel
theorem dX5_undo_31 : decode cX5_undo 31 = .ok (.ireturn, 1) := by decide +kernel
theorem dX5_ship_0 : decode cX5_ship 0 = .ok (.iload_n 1, 1) := by decide +kernel
theorem dX5_ship_1 : decode cX5_ship 1 = .ok (.invokestatic 81, 3) := by decide +kernel
theorem dX5_ship_4 : decode cX5_ship 4 = .ok (.ifCond .ne 13, 3) := by decide +kernel
theorem dX5_ship_7 : decode cX5_ship 7 = .ok (.iload_n 2, 1) := by decide +kernel
theorem dX5_ship_8 : decode cX5_ship 8 = .ok (.ifCond .lt 9, 3) := by decide +kernel
theorem dX5_ship_11 : decode cX5_ship 11 = .ok (.iload_n 2, 1) := by decide +kernel
theorem dX5_ship_12 : decode cX5_ship 12 = .ok (.bipush 9, 2) := by decide +kernel
theorem dX5_ship_14 : decode cX5_ship 14 = .ok (.if_icmp .lt 5, 3) := by decide +kernel
theorem dX5_ship_17 : decode cX5_ship 17 = .ok (.iconst (-1), 1) := by decide +kernel
theorem dX5_ship_18 : decode cX5_ship 18 = .ok (.ireturn, 1) := by decide +kernel
theorem dX5_ship_19 : decode cX5_ship 19 = .ok (.aload_n 0, 1) := by decide +kernel
theorem dX5_ship_20 : decode cX5_ship 20 = .ok (.getfield 10, 3) := by decide +kernel
theorem dX5_ship_23 : decode cX5_ship 23 = .ok (.getfield 92, 3) := by decide +kernel
theorem dX5_ship_26 : decode cX5_ship 26 = .ok (.iload_n 1, 1) := by decide +kernel
theorem dX5_ship_27 : decode cX5_ship 27 = .ok (.aaload, 1) := by decide +kernel
theorem dX5_ship_28 : decode cX5_ship 28 = .ok (.iload_n 2, 1) := by decide +kernel
theorem dX5_ship_29 : decode cX5_ship 29 = .ok (.invokevirtual 108, 3) := by decide +kernel
theorem dX5_ship_32 : decode cX5_ship 32 = .ok (.ireturn, 1) := by decide +kernel
theorem dX5_leg_0 : decode cX5_leg 0 = .ok (.iload_n 1, 1) := by decide +kernel
theorem dX5_leg_1 : decode cX5_leg 1 = .ok (.invokestatic 81, 3) := by decide +kernel
theorem dX5_leg_4 : decode cX5_leg 4 = .ok (.ifCond .ne 12, 3) := by decide +kernel
theorem dX5_leg_7 : decode cX5_leg 7 = .ok (.iload_n 3, 1) := by decide +kernel
theorem dX5_leg_8 : decode cX5_leg 8 = .ok (.ifCond .lt 8, 3) := by decide +kernel
theorem dX5_leg_11 : decode cX5_leg 11 = .ok (.iload_n 3, 1) := by decide +kernel
theorem dX5_leg_12 : decode cX5_leg 12 = .ok (.iconst 4, 1) := by decide +kernel
theorem dX5_leg_13 : decode cX5_leg 13 = .ok (.if_icmp .lt 5, 3) := by decide +kernel
theorem dX5_leg_16 : decode cX5_leg 16 = .ok (.iconst (-1), 1) := by decide +kernel
theorem dX5_leg_17 : decode cX5_leg 17 = .ok (.ireturn, 1) := by decide +kernel
theorem dX5_leg_18 : decode cX5_leg 18 = .ok (.aload_n 0, 1) := by decide +kernel
theorem dX5_leg_19 : decode cX5_leg 19 = .ok (.getfield 10, 3) := by decide +kernel
theorem dX5_leg_22 : decode cX5_leg 22 = .ok (.getfield 92, 3) := by decide +kernel
theorem dX5_leg_25 : decode cX5_leg 25 = .ok (.iload_n 1, 1) := by decide +kernel
theorem dX5_leg_26 : decode cX5_leg 26 = .ok (.aaload, 1) := by decide +kernel
theorem dX5_leg_27 : decode cX5_leg 27 = .ok (.astore 4, 2) := by decide +kernel
theorem dX5_leg_29 : decode cX5_leg 29 = .ok (.iload_n 2, 1) := by decide +kernel
theorem dX5_leg_30 : decode cX5_leg 30 = .ok (.ifCond .lt 13, 3) := by decide +kernel
theorem dX5_leg_33 : decode cX5_leg 33 = .ok (.iload_n 2, 1) := by decide +kernel
theorem dX5_leg_34 : decode cX5_leg 34 = .ok (.aload 4, 2) := by decide +kernel
theorem dX5_leg_36 : decode cX5_leg 36 = .ok (.iconst 0, 1) := by decide +kernel
theorem dX5_leg_37 : decode cX5_leg 37 = .ok (.invokevirtual 108, 3) := by decide +kernel
theorem dX5_leg_40 : decode cX5_leg 40 = .ok (.if_icmp .lt 5, 3) := by decide +kernel
theorem dX5_leg_43 : decode cX5_leg 43 = .ok (.iconst (-1), 1) := by decide +kernel
theorem dX5_leg_44 : decode cX5_leg 44 = .ok (.ireturn, 1) := by decide +kernel
theorem dX5_leg_45 : decode cX5_leg 45 = .ok (.aload 4, 2) := by decide +kernel
theorem dX5_leg_47 : decode cX5_leg 47 = .ok (.iload_n 2, 1) := by decide +kernel
theorem dX5_leg_48 : decode cX5_leg 48 = .ok (.iload_n 3, 1) := by decide +kernel
theorem dX5_leg_49 : decode cX5_leg 49 = .ok (.invokevirtual 115, 3) := by decide +kernel
theorem dX5_leg_52 : decode cX5_leg 52 = .ok (.ireturn, 1) := by decide +kernel
theorem dX5_plan_0 : decode cX5_plan 0 = .ok (.iload_n 1, 1) := by decide +kernel
theorem dX5_plan_1 : decode cX5_plan 1 = .ok (.invokestatic 81, 3) := by decide +kernel
theorem dX5_plan_4 : decode cX5_plan 4 = .ok (.ifCond .ne 12, 3) := by decide +kernel
theorem dX5_plan_7 : decode cX5_plan 7 = .ok (.iload_n 2, 1) := by decide +kernel
theorem dX5_plan_8 : decode cX5_plan 8 = .ok (.ifCond .lt 8, 3) := by decide +kernel
theorem dX5_plan_11 : decode cX5_plan 11 = .ok (.iload_n 2, 1) := by decide +kernel
theorem dX5_plan_12 : decode cX5_plan 12 = .ok (.iconst 1, 1) := by decide +kernel
theorem dX5_plan_13 : decode cX5_plan 13 = .ok (.if_icmp .le 5, 3) := by decide +kernel
theorem dX5_plan_16 : decode cX5_plan 16 = .ok (.iconst (-1), 1) := by decide +kernel
theorem dX5_plan_17 : decode cX5_plan 17 = .ok (.ireturn, 1) := by decide +kernel
theorem dX5_plan_18 : decode cX5_plan 18 = .ok (.aload_n 0, 1) := by decide +kernel
theorem dX5_plan_19 : decode cX5_plan 19 = .ok (.iload_n 1, 1) := by decide +kernel
theorem dX5_plan_20 : decode cX5_plan 20 = .ok (.invokevirtual 100, 3) := by decide +kernel
theorem dX5_plan_23 : decode cX5_plan 23 = .ok (.astore_n 3, 1) := by decide +kernel
theorem dX5_plan_24 : decode cX5_plan 24 = .ok (.aload_n 3, 1) := by decide +kernel
theorem dX5_plan_25 : decode cX5_plan 25 = .ok (.invokevirtual 104, 3) := by decide +kernel
theorem dX5_plan_28 : decode cX5_plan 28 = .ok (.ifCond .ne 6, 3) := by decide +kernel
theorem dX5_plan_31 : decode cX5_plan 31 = .ok (.bipush (-9), 2) := by decide +kernel
theorem dX5_plan_33 : decode cX5_plan 33 = .ok (.ireturn, 1) := by decide +kernel
theorem dX5_plan_34 : decode cX5_plan 34 = .ok (.iload_n 2, 1) := by decide +kernel
theorem dX5_plan_35 : decode cX5_plan 35 = .ok (.ifCond .ne 10, 3) := by decide +kernel
theorem dX5_plan_38 : decode cX5_plan 38 = .ok (.aload_n 3, 1) := by decide +kernel
theorem dX5_plan_39 : decode cX5_plan 39 = .ok (.invokevirtual 139, 3) := by decide +kernel
theorem dX5_plan_42 : decode cX5_plan 42 = .ok (.goto 7, 3) := by decide +kernel
theorem dX5_plan_45 : decode cX5_plan 45 = .ok (.aload_n 3, 1) := by decide +kernel
theorem dX5_plan_46 : decode cX5_plan 46 = .ok (.invokevirtual 142, 3) := by decide +kernel
theorem dX5_plan_49 : decode cX5_plan 49 = .ok (.ireturn, 1) := by decide +kernel
theorem dX5_time_0 : decode cX5_time 0 = .ok (.iload_n 1, 1) := by decide +kernel
theorem dX5_time_1 : decode cX5_time 1 = .ok (.invokestatic 81, 3) := by decide +kernel
theorem dX5_time_4 : decode cX5_time 4 = .ok (.ifCond .ne 28, 3) := by decide +kernel
theorem dX5_time_7 : decode cX5_time 7 = .ok (.iload_n 3, 1) := by decide +kernel
theorem dX5_time_8 : decode cX5_time 8 = .ok (.ifCond .lt 24, 3) := by decide +kernel
theorem dX5_time_11 : decode cX5_time 11 = .ok (.iload_n 3, 1) := by decide +kernel
theorem dX5_time_12 : decode cX5_time 12 = .ok (.iconst 1, 1) := by decide +kernel
theorem dX5_time_13 : decode cX5_time 13 = .ok (.if_icmp .gt 19, 3) := by decide +kernel
theorem dX5_time_16 : decode cX5_time 16 = .ok (.aload_n 0, 1) := by decide +kernel
theorem dX5_time_17 : decode cX5_time 17 = .ok (.getfield 10, 3) := by decide +kernel
theorem dX5_time_20 : decode cX5_time 20 = .ok (.getfield 92, 3) := by decide +kernel
theorem dX5_time_23 : decode cX5_time 23 = .ok (.iload_n 1, 1) := by decide +kernel
theorem dX5_time_24 : decode cX5_time 24 = .ok (.aaload, 1) := by decide +kernel
theorem dX5_time_25 : decode cX5_time 25 = .ok (.iload_n 2, 1) := by decide +kernel
theorem dX5_time_26 : decode cX5_time 26 = .ok (.invokevirtual 126, 3) := by decide +kernel
theorem dX5_time_29 : decode cX5_time 29 = .ok (.ifCond .ne 6, 3) := by decide +kernel
theorem dX5_time_32 : decode cX5_time 32 = .ok (.ldc 145, 2) := by decide +kernel
theorem dX5_time_34 : decode cX5_time 34 = .ok (.ireturn, 1) := by decide +kernel
theorem dX5_time_35 : decode cX5_time 35 = .ok (.aload_n 0, 1) := by decide +kernel
theorem dX5_time_36 : decode cX5_time 36 = .ok (.iload_n 1, 1) := by decide +kernel
theorem dX5_time_37 : decode cX5_time 37 = .ok (.invokevirtual 100, 3) := by decide +kernel
theorem dX5_time_40 : decode cX5_time 40 = .ok (.astore 4, 2) := by decide +kernel
theorem dX5_time_42 : decode cX5_time 42 = .ok (.aload 4, 2) := by decide +kernel
theorem dX5_time_44 : decode cX5_time 44 = .ok (.invokevirtual 104, 3) := by decide +kernel
theorem dX5_time_47 : decode cX5_time 47 = .ok (.ifCond .ne 6, 3) := by decide +kernel
theorem dX5_time_50 : decode cX5_time 50 = .ok (.ldc 146, 2) := by decide +kernel
theorem dX5_time_52 : decode cX5_time 52 = .ok (.ireturn, 1) := by decide +kernel
theorem dX5_time_53 : decode cX5_time 53 = .ok (.aload 4, 2) := by decide +kernel
theorem dX5_time_55 : decode cX5_time 55 = .ok (.iload_n 2, 1) := by decide +kernel
theorem dX5_time_56 : decode cX5_time 56 = .ok (.invokevirtual 147, 3) := by decide +kernel
theorem dX5_time_59 : decode cX5_time 59 = .ok (.aload 4, 2) := by decide +kernel
theorem dX5_time_61 : decode cX5_time 61 = .ok (.iload_n 2, 1) := by decide +kernel
theorem dX5_time_62 : decode cX5_time 62 = .ok (.invokevirtual 150, 3) := by decide +kernel
theorem dX5_time_65 : decode cX5_time 65 = .ok (.iload_n 3, 1) := by decide +kernel
theorem dX5_time_66 : decode cX5_time 66 = .ok (.invokestatic 153, 3) := by decide +kernel
theorem dX5_time_69 : decode cX5_time 69 = .ok (.ireturn, 1) := by decide +kernel
theorem dX5_speed_0 : decode cX5_speed 0 = .ok (.iload_n 1, 1) := by decide +kernel
theorem dX5_speed_1 : decode cX5_speed 1 = .ok (.invokestatic 81, 3) := by decide +kernel
theorem dX5_speed_4 : decode cX5_speed 4 = .ok (.ifCond .ne 28, 3) := by decide +kernel
theorem dX5_speed_7 : decode cX5_speed 7 = .ok (.iload_n 3, 1) := by decide +kernel
theorem dX5_speed_8 : decode cX5_speed 8 = .ok (.ifCond .lt 24, 3) := by decide +kernel
theorem dX5_speed_11 : decode cX5_speed 11 = .ok (.iload_n 3, 1) := by decide +kernel
theorem dX5_speed_12 : decode cX5_speed 12 = .ok (.iconst 1, 1) := by decide +kernel
theorem dX5_speed_13 : decode cX5_speed 13 = .ok (.if_icmp .gt 19, 3) := by decide +kernel
theorem dX5_speed_16 : decode cX5_speed 16 = .ok (.aload_n 0, 1) := by decide +kernel
theorem dX5_speed_17 : decode cX5_speed 17 = .ok (.getfield 10, 3) := by decide +kernel
theorem dX5_speed_20 : decode cX5_speed 20 = .ok (.getfield 92, 3) := by decide +kernel
theorem dX5_speed_23 : decode cX5_speed 23 = .ok (.iload_n 1, 1) := by decide +kernel
theorem dX5_speed_24 : decode cX5_speed 24 = .ok (.aaload, 1) := by decide +kernel
theorem dX5_speed_25 : decode cX5_speed 25 = .ok (.iload_n 2, 1) := by decide +kernel
theorem dX5_speed_26 : decode cX5_speed 26 = .ok (.invokevirtual 157, 3) := by decide +kernel
theorem dX5_speed_29 : decode cX5_speed 29 = .ok (.ifCond .ne 6, 3) := by decide +kernel
theorem dX5_speed_32 : decode cX5_speed 32 = .ok (.ldc 145, 2) := by decide +kernel
theorem dX5_speed_34 : decode cX5_speed 34 = .ok (.ireturn, 1) := by decide +kernel
theorem dX5_speed_35 : decode cX5_speed 35 = .ok (.aload_n 0, 1) := by decide +kernel
theorem dX5_speed_36 : decode cX5_speed 36 = .ok (.iload_n 1, 1) := by decide +kernel
theorem dX5_speed_37 : decode cX5_speed 37 = .ok (.invokevirtual 100, 3) := by decide +kernel
theorem dX5_speed_40 : decode cX5_speed 40 = .ok (.astore 4, 2) := by decide +kernel
theorem dX5_speed_42 : decode cX5_speed 42 = .ok (.aload 4, 2) := by decide +kernel
theorem dX5_speed_44 : decode cX5_speed 44 = .ok (.invokevirtual 104, 3) := by decide +kernel
theorem dX5_speed_47 : decode cX5_speed 47 = .ok (.ifCond .ne 6, 3) := by decide +kernel
theorem dX5_speed_50 : decode cX5_speed 50 = .ok (.ldc 146, 2) := by decide +kernel
theorem dX5_speed_52 : decode cX5_speed 52 = .ok (.ireturn, 1) := by decide +kernel
theorem dX5_speed_53 : decode cX5_speed 53 = .ok (.aload 4, 2) := by decide +kernel
theorem dX5_speed_55 : decode cX5_speed 55 = .ok (.iload_n 2, 1) := by decide +kernel
theorem dX5_speed_56 : decode cX5_speed 56 = .ok (.invokevirtual 160, 3) := by decide +kernel
theorem dX5_speed_59 : decode cX5_speed 59 = .ok (.aload 4, 2) := by decide +kernel
theorem dX5_speed_61 : decode cX5_speed 61 = .ok (.iload_n 2, 1) := by decide +kernel
theorem dX5_speed_62 : decode cX5_speed 62 = .ok (.invokevirtual 163, 3) := by decide +kernel
theorem dX5_speed_65 : decode cX5_speed 65 = .ok (.iload_n 3, 1) := by decide +kernel
theorem dX5_speed_66 : decode cX5_speed 66 = .ok (.invokestatic 153, 3) := by decide +kernel
theorem dX5_speed_69 : decode cX5_speed 69 = .ok (.ireturn, 1) := by decide +kernel
theorem dX5_closed_0 : decode cX5_closed 0 = .ok (.iload_n 1, 1) := by decide +kernel
theorem dX5_closed_1 : decode cX5_closed 1 = .ok (.invokestatic 81, 3) := by decide +kernel
theorem dX5_closed_4 : decode cX5_closed 4 = .ok (.ifCond .ne 19, 3) := by decide +kernel
theorem dX5_closed_7 : decode cX5_closed 7 = .ok (.aload_n 0, 1) := by decide +kernel
theorem dX5_closed_8 : decode cX5_closed 8 = .ok (.getfield 10, 3) := by decide +kernel
theorem dX5_closed_11 : decode cX5_closed 11 = .ok (.getfield 92, 3) := by decide +kernel
theorem dX5_closed_14 : decode cX5_closed 14 = .ok (.iload_n 1, 1) := by decide +kernel
theorem dX5_closed_15 : decode cX5_closed 15 = .ok (.aaload, 1) := by decide +kernel
theorem dX5_closed_16 : decode cX5_closed 16 = .ok (.iload_n 2, 1) := by decide +kernel
theorem dX5_closed_17 : decode cX5_closed 17 = .ok (.invokevirtual 126, 3) := by decide +kernel
theorem dX5_closed_20 : decode cX5_closed 20 = .ok (.ifCond .ne 5, 3) := by decide +kernel
theorem dX5_closed_23 : decode cX5_closed 23 = .ok (.iconst (-1), 1) := by decide +kernel
theorem dX5_closed_24 : decode cX5_closed 24 = .ok (.ireturn, 1) := by decide +kernel
theorem dX5_closed_25 : decode cX5_closed 25 = .ok (.aload_n 0, 1) := by decide +kernel
theorem dX5_closed_26 : decode cX5_closed 26 = .ok (.iload_n 1, 1) := by decide +kernel
theorem dX5_closed_27 : decode cX5_closed 27 = .ok (.invokevirtual 100, 3) := by decide +kernel
theorem dX5_closed_30 : decode cX5_closed 30 = .ok (.astore_n 3, 1) := by decide +kernel
theorem dX5_closed_31 : decode cX5_closed 31 = .ok (.aload_n 3, 1) := by decide +kernel
theorem dX5_closed_32 : decode cX5_closed 32 = .ok (.invokevirtual 104, 3) := by decide +kernel
theorem dX5_closed_35 : decode cX5_closed 35 = .ok (.ifCond .eq 11, 3) := by decide +kernel
theorem dX5_closed_38 : decode cX5_closed 38 = .ok (.aload_n 3, 1) := by decide +kernel
theorem dX5_closed_39 : decode cX5_closed 39 = .ok (.iload_n 2, 1) := by decide +kernel
theorem dX5_closed_40 : decode cX5_closed 40 = .ok (.invokevirtual 166, 3) := by decide +kernel
theorem dX5_closed_43 : decode cX5_closed 43 = .ok (.goto 5, 3) := by decide +kernel
theorem dX5_closed_46 : decode cX5_closed 46 = .ok (.bipush (-9), 2) := by decide +kernel
theorem dX5_closed_48 : decode cX5_closed 48 = .ok (.ireturn, 1) := by decide +kernel
theorem dX5_cost_0 : decode cX5_cost 0 = .ok (.iload_n 1, 1) := by decide +kernel
theorem dX5_cost_1 : decode cX5_cost 1 = .ok (.invokestatic 81, 3) := by decide +kernel
theorem dX5_cost_4 : decode cX5_cost 4 = .ok (.ifCond .ne 19, 3) := by decide +kernel
theorem dX5_cost_7 : decode cX5_cost 7 = .ok (.aload_n 0, 1) := by decide +kernel
theorem dX5_cost_8 : decode cX5_cost 8 = .ok (.getfield 10, 3) := by decide +kernel
theorem dX5_cost_11 : decode cX5_cost 11 = .ok (.getfield 92, 3) := by decide +kernel
theorem dX5_cost_14 : decode cX5_cost 14 = .ok (.iload_n 1, 1) := by decide +kernel
theorem dX5_cost_15 : decode cX5_cost 15 = .ok (.aaload, 1) := by decide +kernel
theorem dX5_cost_16 : decode cX5_cost 16 = .ok (.iload_n 2, 1) := by decide +kernel
theorem dX5_cost_17 : decode cX5_cost 17 = .ok (.invokevirtual 157, 3) := by decide +kernel
theorem dX5_cost_20 : decode cX5_cost 20 = .ok (.ifCond .ne 5, 3) := by decide +kernel
theorem dX5_cost_23 : decode cX5_cost 23 = .ok (.iconst (-1), 1) := by decide +kernel
theorem dX5_cost_24 : decode cX5_cost 24 = .ok (.ireturn, 1) := by decide +kernel
theorem dX5_cost_25 : decode cX5_cost 25 = .ok (.aload_n 0, 1) := by decide +kernel
theorem dX5_cost_26 : decode cX5_cost 26 = .ok (.iload_n 1, 1) := by decide +kernel
theorem dX5_cost_27 : decode cX5_cost 27 = .ok (.invokevirtual 100, 3) := by decide +kernel
theorem dX5_cost_30 : decode cX5_cost 30 = .ok (.astore_n 3, 1) := by decide +kernel
theorem dX5_cost_31 : decode cX5_cost 31 = .ok (.aload_n 3, 1) := by decide +kernel
theorem dX5_cost_32 : decode cX5_cost 32 = .ok (.invokevirtual 104, 3) := by decide +kernel
theorem dX5_cost_35 : decode cX5_cost 35 = .ok (.ifCond .eq 11, 3) := by decide +kernel
theorem dX5_cost_38 : decode cX5_cost 38 = .ok (.aload_n 3, 1) := by decide +kernel
theorem dX5_cost_39 : decode cX5_cost 39 = .ok (.iload_n 2, 1) := by decide +kernel
theorem dX5_cost_40 : decode cX5_cost 40 = .ok (.invokevirtual 119, 3) := by decide +kernel
theorem dX5_cost_43 : decode cX5_cost 43 = .ok (.goto 5, 3) := by decide +kernel
theorem dX5_cost_46 : decode cX5_cost 46 = .ok (.bipush (-9), 2) := by decide +kernel
theorem dX5_cost_48 : decode cX5_cost 48 = .ok (.ireturn, 1) := by decide +kernel
theorem dX5_slack_0 : decode cX5_slack 0 = .ok (.iload_n 1, 1) := by decide +kernel
theorem dX5_slack_1 : decode cX5_slack 1 = .ok (.invokestatic 81, 3) := by decide +kernel
theorem dX5_slack_4 : decode cX5_slack 4 = .ok (.ifCond .eq 5, 3) := by decide +kernel
theorem dX5_slack_7 : decode cX5_slack 7 = .ok (.iconst (-1), 1) := by decide +kernel
theorem dX5_slack_8 : decode cX5_slack 8 = .ok (.ireturn, 1) := by decide +kernel
theorem dX5_slack_9 : decode cX5_slack 9 = .ok (.aload_n 0, 1) := by decide +kernel
theorem dX5_slack_10 : decode cX5_slack 10 = .ok (.getfield 41, 3) := by decide +kernel
theorem dX5_slack_13 : decode cX5_slack 13 = .ok (.aload_n 0, 1) := by decide +kernel
theorem dX5_slack_14 : decode cX5_slack 14 = .ok (.getfield 10, 3) := by decide +kernel
theorem dX5_slack_17 : decode cX5_slack 17 = .ok (.getfield 92, 3) := by decide +kernel
theorem dX5_slack_20 : decode cX5_slack 20 = .ok (.iload_n 1, 1) := by decide +kernel
theorem dX5_slack_21 : decode cX5_slack 21 = .ok (.aaload, 1) := by decide +kernel
theorem dX5_slack_22 : decode cX5_slack 22 = .ok (.invokevirtual 96, 3) := by decide +kernel
theorem dX5_slack_25 : decode cX5_slack 25 = .ok (.aload_n 0, 1) := by decide +kernel
theorem dX5_slack_26 : decode cX5_slack 26 = .ok (.getfield 41, 3) := by decide +kernel
theorem dX5_slack_29 : decode cX5_slack 29 = .ok (.iconst 3, 1) := by decide +kernel
theorem dX5_slack_30 : decode cX5_slack 30 = .ok (.invokevirtual 108, 3) := by decide +kernel
theorem dX5_slack_33 : decode cX5_slack 33 = .ok (.istore_n 2, 1) := by decide +kernel
theorem dX5_slack_34 : decode cX5_slack 34 = .ok (.bipush 99, 2) := by decide +kernel
theorem dX5_slack_36 : decode cX5_slack 36 = .ok (.istore_n 3, 1) := by decide +kernel
theorem dX5_slack_37 : decode cX5_slack 37 = .ok (.iload_n 3, 1) := by decide +kernel
theorem dX5_slack_38 : decode cX5_slack 38 = .ok (.ifCond .lt 43, 3) := by decide +kernel
theorem dX5_slack_41 : decode cX5_slack 41 = .ok (.aload_n 0, 1) := by decide +kernel
theorem dX5_slack_42 : decode cX5_slack 42 = .ok (.getfield 41, 3) := by decide +kernel
theorem dX5_slack_45 : decode cX5_slack 45 = .ok (.iconst 3, 1) := by decide +kernel
theorem dX5_slack_46 : decode cX5_slack 46 = .ok (.iload_n 2, 1) := by decide +kernel
theorem dX5_slack_47 : decode cX5_slack 47 = .ok (.iload_n 3, 1) := by decide +kernel
theorem dX5_slack_48 : decode cX5_slack 48 = .ok (.iadd, 1) := by decide +kernel
theorem dX5_slack_49 : decode cX5_slack 49 = .ok (.invokevirtual 122, 3) := by decide +kernel
theorem dX5_slack_52 : decode cX5_slack 52 = .ok (.aload_n 0, 1) := by decide +kernel
theorem dX5_slack_53 : decode cX5_slack 53 = .ok (.getfield 48, 3) := by decide +kernel
theorem dX5_slack_56 : decode cX5_slack 56 = .ok (.aload_n 0, 1) := by decide +kernel
theorem dX5_slack_57 : decode cX5_slack 57 = .ok (.getfield 41, 3) := by decide +kernel
theorem dX5_slack_60 : decode cX5_slack 60 = .ok (.invokevirtual 169, 3) := by decide +kernel
theorem dX5_slack_63 : decode cX5_slack 63 = .ok (.aload_n 0, 1) := by decide +kernel
theorem dX5_slack_64 : decode cX5_slack 64 = .ok (.getfield 48, 3) := by decide +kernel
theorem dX5_slack_67 : decode cX5_slack 67 = .ok (.invokevirtual 104, 3) := by decide +kernel
theorem dX5_slack_70 : decode cX5_slack 70 = .ok (.ifCond .eq 5, 3) := by decide +kernel
theorem dX5_slack_73 : decode cX5_slack 73 = .ok (.iload_n 3, 1) := by decide +kernel
theorem dX5_slack_74 : decode cX5_slack 74 = .ok (.ireturn, 1) := by decide +kernel
theorem dX5_slack_75 : decode cX5_slack 75 = .ok (.iinc 3 (-1), 3) := by decide +kernel
theorem dX5_slack_78 : decode cX5_slack 78 = .ok (.goto (-41), 3) := by decide +kernel
theorem dX5_slack_81 : decode cX5_slack 81 = .ok (.bipush (-9), 2) := by decide +kernel
theorem dX5_slack_83 : decode cX5_slack 83 = .ok (.ireturn, 1) := by decide +kernel
theorem dX5_needs_0 : decode cX5_needs 0 = .ok (.iload_n 1, 1) := by decide +kernel
theorem dX5_needs_1 : decode cX5_needs 1 = .ok (.invokestatic 81, 3) := by decide +kernel
theorem dX5_needs_4 : decode cX5_needs 4 = .ok (.ifCond .eq 5, 3) := by decide +kernel
theorem dX5_needs_7 : decode cX5_needs 7 = .ok (.iconst (-1), 1) := by decide +kernel
theorem dX5_needs_8 : decode cX5_needs 8 = .ok (.ireturn, 1) := by decide +kernel
theorem dX5_needs_9 : decode cX5_needs 9 = .ok (.aload_n 0, 1) := by decide +kernel
theorem dX5_needs_10 : decode cX5_needs 10 = .ok (.iload_n 1, 1) := by decide +kernel
theorem dX5_needs_11 : decode cX5_needs 11 = .ok (.invokevirtual 100, 3) := by decide +kernel
theorem dX5_needs_14 : decode cX5_needs 14 = .ok (.invokevirtual 172, 3) := by decide +kernel
theorem dX5_needs_17 : decode cX5_needs 17 = .ok (.istore_n 2, 1) := by decide +kernel
theorem dX5_needs_18 : decode cX5_needs 18 = .ok (.iload_n 2, 1) := by decide +kernel
theorem dX5_needs_19 : decode cX5_needs 19 = .ok (.ifCond .ne 8, 3) := by decide +kernel
theorem dX5_needs_22 : decode cX5_needs 22 = .ok (.bipush (-9), 2) := by decide +kernel
theorem dX5_needs_24 : decode cX5_needs 24 = .ok (.goto 4, 3) := by decide +kernel
theorem dX5_needs_27 : decode cX5_needs 27 = .ok (.iload_n 2, 1) := by decide +kernel
theorem dX5_needs_28 : decode cX5_needs 28 = .ok (.ireturn, 1) := by decide +kernel
theorem dX5_eased_0 : decode cX5_eased 0 = .ok (.iload_n 1, 1) := by decide +kernel
theorem dX5_eased_1 : decode cX5_eased 1 = .ok (.invokestatic 81, 3) := by decide +kernel
theorem dX5_eased_4 : decode cX5_eased 4 = .ok (.ifCond .eq 5, 3) := by decide +kernel
theorem dX5_eased_7 : decode cX5_eased 7 = .ok (.iconst (-1), 1) := by decide +kernel
theorem dX5_eased_8 : decode cX5_eased 8 = .ok (.ireturn, 1) := by decide +kernel
theorem dX5_eased_9 : decode cX5_eased 9 = .ok (.aload_n 0, 1) := by decide +kernel
theorem dX5_eased_10 : decode cX5_eased 10 = .ok (.getfield 10, 3) := by decide +kernel
theorem dX5_eased_13 : decode cX5_eased 13 = .ok (.getfield 92, 3) := by decide +kernel
theorem dX5_eased_16 : decode cX5_eased 16 = .ok (.iload_n 1, 1) := by decide +kernel
theorem dX5_eased_17 : decode cX5_eased 17 = .ok (.aaload, 1) := by decide +kernel
theorem dX5_eased_18 : decode cX5_eased 18 = .ok (.astore_n 2, 1) := by decide +kernel
theorem dX5_eased_19 : decode cX5_eased 19 = .ok (.aload_n 0, 1) := by decide +kernel
theorem dX5_eased_20 : decode cX5_eased 20 = .ok (.iload_n 1, 1) := by decide +kernel
theorem dX5_eased_21 : decode cX5_eased 21 = .ok (.invokevirtual 100, 3) := by decide +kernel
theorem dX5_eased_24 : decode cX5_eased 24 = .ok (.astore_n 3, 1) := by decide +kernel
theorem dX5_eased_25 : decode cX5_eased 25 = .ok (.aload_n 3, 1) := by decide +kernel
theorem dX5_eased_26 : decode cX5_eased 26 = .ok (.invokevirtual 104, 3) := by decide +kernel
theorem dX5_eased_29 : decode cX5_eased 29 = .ok (.ifCond .ne 7, 3) := by decide +kernel
theorem dX5_eased_32 : decode cX5_eased 32 = .ok (.iconst 1, 1) := by decide +kernel
theorem dX5_eased_33 : decode cX5_eased 33 = .ok (.goto 4, 3) := by decide +kernel
theorem dX5_eased_36 : decode cX5_eased 36 = .ok (.iconst 0, 1) := by decide +kernel
theorem dX5_eased_37 : decode cX5_eased 37 = .ok (.istore 4, 2) := by decide +kernel
theorem dX5_eased_39 : decode cX5_eased 39 = .ok (.iload 4, 2) := by decide +kernel
theorem dX5_eased_41 : decode cX5_eased 41 = .ok (.ifCond .eq 7, 3) := by decide +kernel
theorem dX5_eased_44 : decode cX5_eased 44 = .ok (.iconst 0, 1) := by decide +kernel
theorem dX5_eased_45 : decode cX5_eased 45 = .ok (.goto 7, 3) := by decide +kernel
theorem dX5_eased_48 : decode cX5_eased 48 = .ok (.aload_n 3, 1) := by decide +kernel
theorem dX5_eased_49 : decode cX5_eased 49 = .ok (.invokevirtual 142, 3) := by decide +kernel
theorem dX5_eased_52 : decode cX5_eased 52 = .ok (.istore 5, 2) := by decide +kernel
theorem dX5_eased_54 : decode cX5_eased 54 = .ok (.bipush (-9), 2) := by decide +kernel
theorem dX5_eased_56 : decode cX5_eased 56 = .ok (.istore 6, 2) := by decide +kernel
theorem dX5_eased_58 : decode cX5_eased 58 = .ok (.aload_n 2, 1) := by decide +kernel
theorem dX5_eased_59 : decode cX5_eased 59 = .ok (.iconst 2, 1) := by decide +kernel
theorem dX5_eased_60 : decode cX5_eased 60 = .ok (.invokevirtual 108, 3) := by decide +kernel
theorem dX5_eased_63 : decode cX5_eased 63 = .ok (.iconst 1, 1) := by decide +kernel
theorem dX5_eased_64 : decode cX5_eased 64 = .ok (.iadd, 1) := by decide +kernel
theorem dX5_eased_65 : decode cX5_eased 65 = .ok (.istore 7, 2) := by decide +kernel
theorem dX5_eased_67 : decode cX5_eased 67 = .ok (.iload 7, 2) := by decide +kernel
theorem dX5_eased_69 : decode cX5_eased 69 = .ok (.aload_n 2, 1) := by decide +kernel
theorem dX5_eased_70 : decode cX5_eased 70 = .ok (.iconst 0, 1) := by decide +kernel
theorem dX5_eased_71 : decode cX5_eased 71 = .ok (.invokevirtual 108, 3) := by decide +kernel
theorem dX5_eased_74 : decode cX5_eased 74 = .ok (.if_icmp .gt 83, 3) := by decide +kernel
theorem dX5_eased_77 : decode cX5_eased 77 = .ok (.iconst 0, 1) := by decide +kernel
theorem dX5_eased_78 : decode cX5_eased 78 = .ok (.istore 8, 2) := by decide +kernel
theorem dX5_eased_80 : decode cX5_eased 80 = .ok (.iload 8, 2) := by decide +kernel
theorem dX5_eased_82 : decode cX5_eased 82 = .ok (.iconst 1, 1) := by decide +kernel
theorem dX5_eased_83 : decode cX5_eased 83 = .ok (.if_icmp .gt 68, 3) := by decide +kernel
theorem dX5_eased_86 : decode cX5_eased 86 = .ok (.aload_n 0, 1) := by decide +kernel
theorem dX5_eased_87 : decode cX5_eased 87 = .ok (.aload_n 2, 1) := by decide +kernel
theorem dX5_eased_88 : decode cX5_eased 88 = .ok (.iload 7, 2) := by decide +kernel
theorem dX5_eased_90 : decode cX5_eased 90 = .ok (.iload 8, 2) := by decide +kernel
theorem dX5_eased_92 : decode cX5_eased 92 = .ok (.invokevirtual 175, 3) := by decide +kernel
theorem dX5_eased_95 : decode cX5_eased 95 = .ok (.aload_n 0, 1) := by decide +kernel
theorem dX5_eased_96 : decode cX5_eased 96 = .ok (.getfield 48, 3) := by decide +kernel
theorem dX5_eased_99 : decode cX5_eased 99 = .ok (.invokevirtual 104, 3) := by decide +kernel
theorem dX5_eased_102 : decode cX5_eased 102 = .ok (.ifCond .ne 6, 3) := by decide +kernel
theorem dX5_eased_105 : decode cX5_eased 105 = .ok (.goto 40, 3) := by decide +kernel
theorem dX5_eased_108 : decode cX5_eased 108 = .ok (.aload_n 0, 1) := by decide +kernel
theorem dX5_eased_109 : decode cX5_eased 109 = .ok (.getfield 48, 3) := by decide +kernel
theorem dX5_eased_112 : decode cX5_eased 112 = .ok (.invokevirtual 142, 3) := by decide +kernel
theorem dX5_eased_115 : decode cX5_eased 115 = .ok (.istore 9, 2) := by decide +kernel
theorem dX5_eased_117 : decode cX5_eased 117 = .ok (.iload 4, 2) := by decide +kernel
theorem dX5_eased_119 : decode cX5_eased 119 = .ok (.ifCond .ne 10, 3) := by decide +kernel
theorem dX5_eased_122 : decode cX5_eased 122 = .ok (.iload 9, 2) := by decide +kernel
theorem dX5_eased_124 : decode cX5_eased 124 = .ok (.iload 5, 2) := by decide +kernel
theorem dX5_eased_126 : decode cX5_eased 126 = .ok (.if_icmp .ge 19, 3) := by decide +kernel
theorem dX5_eased_129 : decode cX5_eased 129 = .ok (.iconst 0, 1) := by decide +kernel
theorem dX5_eased_130 : decode cX5_eased 130 = .ok (.istore 4, 2) := by decide +kernel
theorem dX5_eased_132 : decode cX5_eased 132 = .ok (.iload 9, 2) := by decide +kernel
theorem dX5_eased_134 : decode cX5_eased 134 = .ok (.istore 5, 2) := by decide +kernel
theorem dX5_eased_136 : decode cX5_eased 136 = .ok (.iconst 2, 1) := by decide +kernel
theorem dX5_eased_137 : decode cX5_eased 137 = .ok (.iload 7, 2) := by decide +kernel
theorem dX5_eased_139 : decode cX5_eased 139 = .ok (.imul, 1) := by decide +kernel
theorem dX5_eased_140 : decode cX5_eased 140 = .ok (.iload 8, 2) := by decide +kernel
theorem dX5_eased_142 : decode cX5_eased 142 = .ok (.iadd, 1) := by decide +kernel
theorem dX5_eased_143 : decode cX5_eased 143 = .ok (.istore 6, 2) := by decide +kernel
theorem dX5_eased_145 : decode cX5_eased 145 = .ok (.iinc 8 1, 3) := by decide +kernel
theorem dX5_eased_148 : decode cX5_eased 148 = .ok (.goto (-68), 3) := by decide +kernel
theorem dX5_eased_151 : decode cX5_eased 151 = .ok (.iinc 7 1, 3) := by decide +kernel
theorem dX5_eased_154 : decode cX5_eased 154 = .ok (.goto (-87), 3) := by decide +kernel
theorem dX5_eased_157 : decode cX5_eased 157 = .ok (.iload 6, 2) := by decide +kernel
theorem dX5_eased_159 : decode cX5_eased 159 = .ok (.ireturn, 1) := by decide +kernel
theorem dX5_mile_0 : decode cX5_mile 0 = .ok (.iload_n 1, 1) := by decide +kernel
theorem dX5_mile_1 : decode cX5_mile 1 = .ok (.invokestatic 81, 3) := by decide +kernel
theorem dX5_mile_4 : decode cX5_mile 4 = .ok (.ifCond .ne 14, 3) := by decide +kernel
theorem dX5_mile_7 : decode cX5_mile 7 = .ok (.iload_n 2, 1) := by decide +kernel
theorem dX5_mile_8 : decode cX5_mile 8 = .ok (.ifCond .lt 10, 3) := by decide +kernel
theorem dX5_mile_11 : decode cX5_mile 11 = .ok (.iload_n 2, 1) := by decide +kernel
theorem dX5_mile_12 : decode cX5_mile 12 = .ok (.sipush 999, 3) := by decide +kernel
theorem dX5_mile_15 : decode cX5_mile 15 = .ok (.if_icmp .le 5, 3) := by decide +kernel
theorem dX5_mile_18 : decode cX5_mile 18 = .ok (.iconst (-1), 1) := by decide +kernel
theorem dX5_mile_19 : decode cX5_mile 19 = .ok (.ireturn, 1) := by decide +kernel
theorem dX5_mile_20 : decode cX5_mile 20 = .ok (.aload_n 0, 1) := by decide +kernel
theorem dX5_mile_21 : decode cX5_mile 21 = .ok (.iload_n 1, 1) := by decide +kernel
theorem dX5_mile_22 : decode cX5_mile 22 = .ok (.invokevirtual 100, 3) := by decide +kernel
theorem dX5_mile_25 : decode cX5_mile 25 = .ok (.iload_n 2, 1) := by decide +kernel
theorem dX5_mile_26 : decode cX5_mile 26 = .ok (.invokevirtual 179, 3) := by decide +kernel
theorem dX5_mile_29 : decode cX5_mile 29 = .ok (.ireturn, 1) := by decide +kernel
theorem dX5_sees_0 : decode cX5_sees 0 = .ok (.iload_n 1, 1) := by decide +kernel
theorem dX5_sees_1 : decode cX5_sees 1 = .ok (.ifCond .lt 21, 3) := by decide +kernel
theorem dX5_sees_4 : decode cX5_sees 4 = .ok (.iload_n 1, 1) := by decide +kernel
theorem dX5_sees_5 : decode cX5_sees 5 = .ok (.sipush 999, 3) := by decide +kernel
theorem dX5_sees_8 : decode cX5_sees 8 = .ok (.if_icmp .gt 14, 3) := by decide +kernel
theorem dX5_sees_11 : decode cX5_sees 11 = .ok (.iload_n 2, 1) := by decide +kernel
theorem dX5_sees_12 : decode cX5_sees 12 = .ok (.ifCond .lt 10, 3) := by decide +kernel
theorem dX5_sees_15 : decode cX5_sees 15 = .ok (.iload_n 2, 1) := by decide +kernel
theorem dX5_sees_16 : decode cX5_sees 16 = .ok (.sipush 999, 3) := by decide +kernel
theorem dX5_sees_19 : decode cX5_sees 19 = .ok (.if_icmp .le 5, 3) := by decide +kernel
theorem dX5_sees_22 : decode cX5_sees 22 = .ok (.iconst (-1), 1) := by decide +kernel
theorem dX5_sees_23 : decode cX5_sees 23 = .ok (.ireturn, 1) := by decide +kernel
theorem dX5_sees_24 : decode cX5_sees 24 = .ok (.aload_n 0, 1) := by decide +kernel
theorem dX5_sees_25 : decode cX5_sees 25 = .ok (.getfield 63, 3) := by decide +kernel
theorem dX5_sees_28 : decode cX5_sees 28 = .ok (.bipush 6, 2) := by decide +kernel
theorem dX5_sees_30 : decode cX5_sees 30 = .ok (.if_icmp .lt 6, 3) := by decide +kernel
theorem dX5_sees_33 : decode cX5_sees 33 = .ok (.bipush (-3), 2) := by decide +kernel
theorem dX5_sees_35 : decode cX5_sees 35 = .ok (.ireturn, 1) := by decide +kernel
theorem dX5_sees_36 : decode cX5_sees 36 = .ok (.aload_n 0, 1) := by decide +kernel
theorem dX5_sees_37 : decode cX5_sees 37 = .ok (.getfield 56, 3) := by decide +kernel
theorem dX5_sees_40 : decode cX5_sees 40 = .ok (.aload_n 0, 1) := by decide +kernel
theorem dX5_sees_41 : decode cX5_sees 41 = .ok (.getfield 63, 3) := by decide +kernel
theorem dX5_sees_44 : decode cX5_sees 44 = .ok (.iload_n 1, 1) := by decide +kernel
theorem dX5_sees_45 : decode cX5_sees 45 = .ok (.iastore, 1) := by decide +kernel
theorem dX5_sees_46 : decode cX5_sees 46 = .ok (.aload_n 0, 1) := by decide +kernel
theorem dX5_sees_47 : decode cX5_sees 47 = .ok (.getfield 60, 3) := by decide +kernel
theorem dX5_sees_50 : decode cX5_sees 50 = .ok (.aload_n 0, 1) := by decide +kernel
theorem dX5_sees_51 : decode cX5_sees 51 = .ok (.getfield 63, 3) := by decide +kernel
theorem dX5_sees_54 : decode cX5_sees 54 = .ok (.iload_n 2, 1) := by decide +kernel
theorem dX5_sees_55 : decode cX5_sees 55 = .ok (.iastore, 1) := by decide +kernel
theorem dX5_sees_56 : decode cX5_sees 56 = .ok (.aload_n 0, 1) := by decide +kernel
theorem dX5_sees_57 : decode cX5_sees 57 = .ok (.dup, 1) := by decide +kernel
theorem dX5_sees_58 : decode cX5_sees 58 = .ok (.getfield 63, 3) := by decide +kernel
theorem dX5_sees_61 : decode cX5_sees 61 = .ok (.iconst 1, 1) := by decide +kernel
theorem dX5_sees_62 : decode cX5_sees 62 = .ok (.iadd, 1) := by decide +kernel
theorem dX5_sees_63 : decode cX5_sees 63 = .ok (.putfield 63, 3) := by decide +kernel
theorem dX5_sees_66 : decode cX5_sees 66 = .ok (.aload_n 0, 1) := by decide +kernel
theorem dX5_sees_67 : decode cX5_sees 67 = .ok (.getfield 63, 3) := by decide +kernel
theorem dX5_sees_70 : decode cX5_sees 70 = .ok (.ireturn, 1) := by decide +kernel
theorem dX5_forget_0 : decode cX5_forget 0 = .ok (.aload_n 0, 1) := by decide +kernel
theorem dX5_forget_1 : decode cX5_forget 1 = .ok (.getfield 63, 3) := by decide +kernel
theorem dX5_forget_4 : decode cX5_forget 4 = .ok (.istore_n 1, 1) := by decide +kernel
theorem dX5_forget_5 : decode cX5_forget 5 = .ok (.aload_n 0, 1) := by decide +kernel
theorem dX5_forget_6 : decode cX5_forget 6 = .ok (.iconst 0, 1) := by decide +kernel
theorem dX5_forget_7 : decode cX5_forget 7 = .ok (.putfield 63, 3) := by decide +kernel
theorem dX5_forget_10 : decode cX5_forget 10 = .ok (.iload_n 1, 1) := by decide +kernel
theorem dX5_forget_11 : decode cX5_forget 11 = .ok (.ireturn, 1) := by decide +kernel
theorem dX5_which_0 : decode cX5_which 0 = .ok (.aload_n 0, 1) := by decide +kernel
theorem dX5_which_1 : decode cX5_which 1 = .ok (.invokevirtual 182, 3) := by decide +kernel
theorem dX5_which_4 : decode cX5_which 4 = .ok (.aload_n 0, 1) := by decide +kernel
theorem dX5_which_5 : decode cX5_which 5 = .ok (.invokevirtual 185, 3) := by decide +kernel
theorem dX5_which_8 : decode cX5_which 8 = .ok (.ireturn, 1) := by decide +kernel
theorem dX5_look_0 : decode cX5_look 0 = .ok (.aload_n 0, 1) := by decide +kernel
theorem dX5_look_1 : decode cX5_look 1 = .ok (.invokevirtual 182, 3) := by decide +kernel
theorem dX5_look_4 : decode cX5_look 4 = .ok (.aload_n 0, 1) := by decide +kernel
theorem dX5_look_5 : decode cX5_look 5 = .ok (.invokevirtual 185, 3) := by decide +kernel
theorem dX5_look_8 : decode cX5_look 8 = .ok (.istore_n 1, 1) := by decide +kernel
theorem dX5_look_9 : decode cX5_look 9 = .ok (.iload_n 1, 1) := by decide +kernel
theorem dX5_look_10 : decode cX5_look 10 = .ok (.invokestatic 188, 3) := by decide +kernel
theorem dX5_look_13 : decode cX5_look 13 = .ok (.iconst 2, 1) := by decide +kernel
theorem dX5_look_14 : decode cX5_look 14 = .ok (.if_icmp .ge 6, 3) := by decide +kernel
theorem dX5_look_17 : decode cX5_look 17 = .ok (.bipush (-9), 2) := by decide +kernel
theorem dX5_look_19 : decode cX5_look 19 = .ok (.ireturn, 1) := by decide +kernel
theorem dX5_look_20 : decode cX5_look 20 = .ok (.bipush (-9), 2) := by decide +kernel
theorem dX5_look_22 : decode cX5_look 22 = .ok (.istore_n 2, 1) := by decide +kernel
theorem dX5_look_23 : decode cX5_look 23 = .ok (.iconst 5, 1) := by decide +kernel
theorem dX5_look_24 : decode cX5_look 24 = .ok (.istore_n 3, 1) := by decide +kernel
theorem dX5_look_25 : decode cX5_look 25 = .ok (.iconst 0, 1) := by decide +kernel
theorem dX5_look_26 : decode cX5_look 26 = .ok (.istore 4, 2) := by decide +kernel
theorem dX5_look_28 : decode cX5_look 28 = .ok (.iload 4, 2) := by decide +kernel
theorem dX5_look_30 : decode cX5_look 30 = .ok (.bipush 99, 2) := by decide +kernel
theorem dX5_look_32 : decode cX5_look 32 = .ok (.if_icmp .gt 30, 3) := by decide +kernel
theorem dX5_look_35 : decode cX5_look 35 = .ok (.aload_n 0, 1) := by decide +kernel
theorem dX5_look_36 : decode cX5_look 36 = .ok (.iload_n 1, 1) := by decide +kernel
theorem dX5_look_37 : decode cX5_look 37 = .ok (.iload 4, 2) := by decide +kernel
theorem dX5_look_39 : decode cX5_look 39 = .ok (.invokevirtual 193, 3) := by decide +kernel
theorem dX5_look_42 : decode cX5_look 42 = .ok (.istore 5, 2) := by decide +kernel
theorem dX5_look_44 : decode cX5_look 44 = .ok (.iload 5, 2) := by decide +kernel
theorem dX5_look_46 : decode cX5_look 46 = .ok (.iload_n 3, 1) := by decide +kernel
theorem dX5_look_47 : decode cX5_look 47 = .ok (.if_icmp .ge 9, 3) := by decide +kernel
theorem dX5_look_50 : decode cX5_look 50 = .ok (.iload 5, 2) := by decide +kernel
theorem dX5_look_52 : decode cX5_look 52 = .ok (.istore_n 3, 1) := by decide +kernel
theorem dX5_look_53 : decode cX5_look 53 = .ok (.iload 4, 2) := by decide +kernel
theorem dX5_look_55 : decode cX5_look 55 = .ok (.istore_n 2, 1) := by decide +kernel
theorem dX5_look_56 : decode cX5_look 56 = .ok (.iinc 4 1, 3) := by decide +kernel
theorem dX5_look_59 : decode cX5_look 59 = .ok (.goto (-31), 3) := by decide +kernel
theorem dX5_look_62 : decode cX5_look 62 = .ok (.iload_n 2, 1) := by decide +kernel
theorem dX5_look_63 : decode cX5_look 63 = .ok (.ireturn, 1) := by decide +kernel
theorem dX5_keep_0 : decode cX5_keep 0 = .ok (.iload_n 1, 1) := by decide +kernel
theorem dX5_keep_1 : decode cX5_keep 1 = .ok (.ifCond .lt 8, 3) := by decide +kernel
theorem dX5_keep_4 : decode cX5_keep 4 = .ok (.iload_n 1, 1) := by decide +kernel
theorem dX5_keep_5 : decode cX5_keep 5 = .ok (.iconst 2, 1) := by decide +kernel
theorem dX5_keep_6 : decode cX5_keep 6 = .ok (.if_icmp .lt 5, 3) := by decide +kernel
theorem dX5_keep_9 : decode cX5_keep 9 = .ok (.iconst (-1), 1) := by decide +kernel
theorem dX5_keep_10 : decode cX5_keep 10 = .ok (.ireturn, 1) := by decide +kernel
theorem dX5_keep_11 : decode cX5_keep 11 = .ok (.aload_n 0, 1) := by decide +kernel
theorem dX5_keep_12 : decode cX5_keep 12 = .ok (.getfield 23, 3) := by decide +kernel
theorem dX5_keep_15 : decode cX5_keep 15 = .ok (.iload_n 1, 1) := by decide +kernel
theorem dX5_keep_16 : decode cX5_keep 16 = .ok (.aaload, 1) := by decide +kernel
theorem dX5_keep_17 : decode cX5_keep 17 = .ok (.aload_n 0, 1) := by decide +kernel
theorem dX5_keep_18 : decode cX5_keep 18 = .ok (.getfield 10, 3) := by decide +kernel
theorem dX5_keep_21 : decode cX5_keep 21 = .ok (.invokevirtual 196, 3) := by decide +kernel
theorem dX5_keep_24 : decode cX5_keep 24 = .ok (.aload_n 0, 1) := by decide +kernel
theorem dX5_keep_25 : decode cX5_keep 25 = .ok (.getfield 27, 3) := by decide +kernel
theorem dX5_keep_28 : decode cX5_keep 28 = .ok (.iload_n 1, 1) := by decide +kernel
theorem dX5_keep_29 : decode cX5_keep 29 = .ok (.iconst 1, 1) := by decide +kernel
theorem dX5_keep_30 : decode cX5_keep 30 = .ok (.bastore, 1) := by decide +kernel
theorem dX5_keep_31 : decode cX5_keep 31 = .ok (.aload_n 0, 1) := by decide +kernel
theorem dX5_keep_32 : decode cX5_keep 32 = .ok (.getfield 10, 3) := by decide +kernel
theorem dX5_keep_35 : decode cX5_keep 35 = .ok (.invokevirtual 198, 3) := by decide +kernel
theorem dX5_keep_38 : decode cX5_keep 38 = .ok (.ireturn, 1) := by decide +kernel
theorem dX5_back_0 : decode cX5_back 0 = .ok (.iload_n 1, 1) := by decide +kernel
theorem dX5_back_1 : decode cX5_back 1 = .ok (.ifCond .lt 8, 3) := by decide +kernel
theorem dX5_back_4 : decode cX5_back 4 = .ok (.iload_n 1, 1) := by decide +kernel
theorem dX5_back_5 : decode cX5_back 5 = .ok (.iconst 2, 1) := by decide +kernel
theorem dX5_back_6 : decode cX5_back 6 = .ok (.if_icmp .lt 5, 3) := by decide +kernel
theorem dX5_back_9 : decode cX5_back 9 = .ok (.iconst (-1), 1) := by decide +kernel
theorem dX5_back_10 : decode cX5_back 10 = .ok (.ireturn, 1) := by decide +kernel
theorem dX5_back_11 : decode cX5_back 11 = .ok (.aload_n 0, 1) := by decide +kernel
theorem dX5_back_12 : decode cX5_back 12 = .ok (.getfield 27, 3) := by decide +kernel
theorem dX5_back_15 : decode cX5_back 15 = .ok (.iload_n 1, 1) := by decide +kernel
theorem dX5_back_16 : decode cX5_back 16 = .ok (.baload, 1) := by decide +kernel
theorem dX5_back_17 : decode cX5_back 17 = .ok (.ifCond .ne 6, 3) := by decide +kernel
theorem dX5_back_20 : decode cX5_back 20 = .ok (.bipush (-2), 2) := by decide +kernel
theorem dX5_back_22 : decode cX5_back 22 = .ok (.ireturn, 1) := by decide +kernel
theorem dX5_back_23 : decode cX5_back 23 = .ok (.aload_n 0, 1) := by decide +kernel
theorem dX5_back_24 : decode cX5_back 24 = .ok (.getfield 10, 3) := by decide +kernel
theorem dX5_back_27 : decode cX5_back 27 = .ok (.aload_n 0, 1) := by decide +kernel
theorem dX5_back_28 : decode cX5_back 28 = .ok (.getfield 23, 3) := by decide +kernel
theorem dX5_back_31 : decode cX5_back 31 = .ok (.iload_n 1, 1) := by decide +kernel
theorem dX5_back_32 : decode cX5_back 32 = .ok (.aaload, 1) := by decide +kernel
theorem dX5_back_33 : decode cX5_back 33 = .ok (.invokevirtual 196, 3) := by decide +kernel
theorem dX5_back_36 : decode cX5_back 36 = .ok (.aload_n 0, 1) := by decide +kernel
theorem dX5_back_37 : decode cX5_back 37 = .ok (.getfield 19, 3) := by decide +kernel
theorem dX5_back_40 : decode cX5_back 40 = .ok (.invokevirtual 201, 3) := by decide +kernel
theorem dX5_back_43 : decode cX5_back 43 = .ok (.aload_n 0, 1) := by decide +kernel
theorem dX5_back_44 : decode cX5_back 44 = .ok (.getfield 10, 3) := by decide +kernel
theorem dX5_back_47 : decode cX5_back 47 = .ok (.invokevirtual 198, 3) := by decide +kernel
theorem dX5_back_50 : decode cX5_back 50 = .ok (.ireturn, 1) := by decide +kernel
theorem dX5_count_0 : decode cX5_count 0 = .ok (.iload_n 1, 1) := by decide +kernel
theorem dX5_count_1 : decode cX5_count 1 = .ok (.tableswitch 60 0 3 #[31, 39, 44, 52], 31) := by decide +kernel
theorem dX5_count_32 : decode cX5_count 32 = .ok (.aload_n 0, 1) := by decide +kernel
theorem dX5_count_33 : decode cX5_count 33 = .ok (.getfield 10, 3) := by decide +kernel
theorem dX5_count_36 : decode cX5_count 36 = .ok (.invokevirtual 198, 3) := by decide +kernel
theorem dX5_count_39 : decode cX5_count 39 = .ok (.ireturn, 1) := by decide +kernel
theorem dX5_count_40 : decode cX5_count 40 = .ok (.aload_n 0, 1) := by decide +kernel
theorem dX5_count_41 : decode cX5_count 41 = .ok (.getfield 63, 3) := by decide +kernel
theorem dX5_count_44 : decode cX5_count 44 = .ok (.ireturn, 1) := by decide +kernel
theorem dX5_count_45 : decode cX5_count 45 = .ok (.aload_n 0, 1) := by decide +kernel
theorem dX5_count_46 : decode cX5_count 46 = .ok (.getfield 34, 3) := by decide +kernel
theorem dX5_count_49 : decode cX5_count 49 = .ok (.invokevirtual 74, 3) := by decide +kernel
theorem dX5_count_52 : decode cX5_count 52 = .ok (.ireturn, 1) := by decide +kernel
theorem dX5_count_53 : decode cX5_count 53 = .ok (.aload_n 0, 1) := by decide +kernel
theorem dX5_count_54 : decode cX5_count 54 = .ok (.getfield 19, 3) := by decide +kernel
theorem dX5_count_57 : decode cX5_count 57 = .ok (.invokevirtual 133, 3) := by decide +kernel
theorem dX5_count_60 : decode cX5_count 60 = .ok (.ireturn, 1) := by decide +kernel
theorem dX5_count_61 : decode cX5_count 61 = .ok (.iconst (-1), 1) := by decide +kernel
theorem dX5_count_62 : decode cX5_count 62 = .ok (.ireturn, 1) := by decide +kernel
theorem dX5_isNoShip_0 : decode cX5_isNoShip 0 = .ok (.iload_n 0, 1) := by decide +kernel
theorem dX5_isNoShip_1 : decode cX5_isNoShip 1 = .ok (.ifCond .lt 8, 3) := by decide +kernel
theorem dX5_isNoShip_4 : decode cX5_isNoShip 4 = .ok (.iload_n 0, 1) := by decide +kernel
theorem dX5_isNoShip_5 : decode cX5_isNoShip 5 = .ok (.iconst 4, 1) := by decide +kernel
theorem dX5_isNoShip_6 : decode cX5_isNoShip 6 = .ok (.if_icmp .lt 7, 3) := by decide +kernel
theorem dX5_isNoShip_9 : decode cX5_isNoShip 9 = .ok (.iconst 1, 1) := by decide +kernel
theorem dX5_isNoShip_10 : decode cX5_isNoShip 10 = .ok (.goto 4, 3) := by decide +kernel
theorem dX5_isNoShip_13 : decode cX5_isNoShip 13 = .ok (.iconst 0, 1) := by decide +kernel
theorem dX5_isNoShip_14 : decode cX5_isNoShip 14 = .ok (.ireturn, 1) := by decide +kernel
theorem dX5_drawnPlan_0 : decode cX5_drawnPlan 0 = .ok (.aload_n 0, 1) := by decide +kernel
theorem dX5_drawnPlan_1 : decode cX5_drawnPlan 1 = .ok (.getfield 52, 3) := by decide +kernel
theorem dX5_drawnPlan_4 : decode cX5_drawnPlan 4 = .ok (.iload_n 1, 1) := by decide +kernel
theorem dX5_drawnPlan_5 : decode cX5_drawnPlan 5 = .ok (.aaload, 1) := by decide +kernel
theorem dX5_drawnPlan_6 : decode cX5_drawnPlan 6 = .ok (.astore_n 2, 1) := by decide +kernel
theorem dX5_drawnPlan_7 : decode cX5_drawnPlan 7 = .ok (.aload_n 2, 1) := by decide +kernel
theorem dX5_drawnPlan_8 : decode cX5_drawnPlan 8 = .ok (.aload_n 0, 1) := by decide +kernel
theorem dX5_drawnPlan_9 : decode cX5_drawnPlan 9 = .ok (.getfield 10, 3) := by decide +kernel
theorem dX5_drawnPlan_12 : decode cX5_drawnPlan 12 = .ok (.getfield 92, 3) := by decide +kernel
theorem dX5_drawnPlan_15 : decode cX5_drawnPlan 15 = .ok (.iload_n 1, 1) := by decide +kernel
theorem dX5_drawnPlan_16 : decode cX5_drawnPlan 16 = .ok (.aaload, 1) := by decide +kernel
theorem dX5_drawnPlan_17 : decode cX5_drawnPlan 17 = .ok (.invokevirtual 169, 3) := by decide +kernel
theorem dX5_drawnPlan_20 : decode cX5_drawnPlan 20 = .ok (.aload_n 2, 1) := by decide +kernel
theorem dX5_drawnPlan_21 : decode cX5_drawnPlan 21 = .ok (.areturn, 1) := by decide +kernel
theorem dX5_drawAllPlans_0 : decode cX5_drawAllPlans 0 = .ok (.iconst 0, 1) := by decide +kernel
theorem dX5_drawAllPlans_1 : decode cX5_drawAllPlans 1 = .ok (.istore_n 1, 1) := by decide +kernel
theorem dX5_drawAllPlans_2 : decode cX5_drawAllPlans 2 = .ok (.iload_n 1, 1) := by decide +kernel
theorem dX5_drawAllPlans_3 : decode cX5_drawAllPlans 3 = .ok (.iconst 4, 1) := by decide +kernel
theorem dX5_drawAllPlans_4 : decode cX5_drawAllPlans 4 = .ok (.if_icmp .ge 27, 3) := by decide +kernel
theorem dX5_drawAllPlans_7 : decode cX5_drawAllPlans 7 = .ok (.aload_n 0, 1) := by decide +kernel
theorem dX5_drawAllPlans_8 : decode cX5_drawAllPlans 8 = .ok (.getfield 52, 3) := by decide +kernel
theorem dX5_drawAllPlans_11 : decode cX5_drawAllPlans 11 = .ok (.iload_n 1, 1) := by decide +kernel
theorem dX5_drawAllPlans_12 : decode cX5_drawAllPlans 12 = .ok (.aaload, 1) := by decide +kernel
theorem dX5_drawAllPlans_13 : decode cX5_drawAllPlans 13 = .ok (.aload_n 0, 1) := by decide +kernel
theorem dX5_drawAllPlans_14 : decode cX5_drawAllPlans 14 = .ok (.getfield 10, 3) := by decide +kernel
theorem dX5_drawAllPlans_17 : decode cX5_drawAllPlans 17 = .ok (.getfield 92, 3) := by decide +kernel
theorem dX5_drawAllPlans_20 : decode cX5_drawAllPlans 20 = .ok (.iload_n 1, 1) := by decide +kernel
theorem dX5_drawAllPlans_21 : decode cX5_drawAllPlans 21 = .ok (.aaload, 1) := by decide +kernel
theorem dX5_drawAllPlans_22 : decode cX5_drawAllPlans 22 = .ok (.invokevirtual 169, 3) := by decide +kernel
theorem dX5_drawAllPlans_25 : decode cX5_drawAllPlans 25 = .ok (.iinc 1 1, 3) := by decide +kernel
theorem dX5_drawAllPlans_28 : decode cX5_drawAllPlans 28 = .ok (.goto (-26), 3) := by decide +kernel
theorem dX5_drawAllPlans_31 : decode cX5_drawAllPlans 31 = .ok (.return_, 1) := by decide +kernel
theorem dX5_drawEased_0 : decode cX5_drawEased 0 = .ok (.aload_n 0, 1) := by decide +kernel
theorem dX5_drawEased_1 : decode cX5_drawEased 1 = .ok (.getfield 41, 3) := by decide +kernel
theorem dX5_drawEased_4 : decode cX5_drawEased 4 = .ok (.aload_n 1, 1) := by decide +kernel
theorem dX5_drawEased_5 : decode cX5_drawEased 5 = .ok (.invokevirtual 96, 3) := by decide +kernel
theorem dX5_drawEased_8 : decode cX5_drawEased 8 = .ok (.iload_n 2, 1) := by decide +kernel
theorem dX5_drawEased_9 : decode cX5_drawEased 9 = .ok (.iconst 1, 1) := by decide +kernel
theorem dX5_drawEased_10 : decode cX5_drawEased 10 = .ok (.isub, 1) := by decide +kernel
theorem dX5_drawEased_11 : decode cX5_drawEased 11 = .ok (.istore 4, 2) := by decide +kernel
theorem dX5_drawEased_13 : decode cX5_drawEased 13 = .ok (.iload_n 3, 1) := by decide +kernel
theorem dX5_drawEased_14 : decode cX5_drawEased 14 = .ok (.ifCond .ne 25, 3) := by decide +kernel
theorem dX5_drawEased_17 : decode cX5_drawEased 17 = .ok (.aload_n 0, 1) := by decide +kernel
theorem dX5_drawEased_18 : decode cX5_drawEased 18 = .ok (.getfield 41, 3) := by decide +kernel
theorem dX5_drawEased_21 : decode cX5_drawEased 21 = .ok (.iload 4, 2) := by decide +kernel
theorem dX5_drawEased_23 : decode cX5_drawEased 23 = .ok (.iconst 2, 1) := by decide +kernel
theorem dX5_drawEased_24 : decode cX5_drawEased 24 = .ok (.aload_n 1, 1) := by decide +kernel
theorem dX5_drawEased_25 : decode cX5_drawEased 25 = .ok (.iload 4, 2) := by decide +kernel
theorem dX5_drawEased_27 : decode cX5_drawEased 27 = .ok (.iconst 2, 1) := by decide +kernel
theorem dX5_drawEased_28 : decode cX5_drawEased 28 = .ok (.invokevirtual 115, 3) := by decide +kernel
theorem dX5_drawEased_31 : decode cX5_drawEased 31 = .ok (.iconst 1, 1) := by decide +kernel
theorem dX5_drawEased_32 : decode cX5_drawEased 32 = .ok (.isub, 1) := by decide +kernel
theorem dX5_drawEased_33 : decode cX5_drawEased 33 = .ok (.invokevirtual 129, 3) := by decide +kernel
theorem dX5_drawEased_36 : decode cX5_drawEased 36 = .ok (.goto 22, 3) := by decide +kernel
theorem dX5_drawEased_39 : decode cX5_drawEased 39 = .ok (.aload_n 0, 1) := by decide +kernel
theorem dX5_drawEased_40 : decode cX5_drawEased 40 = .ok (.getfield 41, 3) := by decide +kernel
theorem dX5_drawEased_43 : decode cX5_drawEased 43 = .ok (.iload 4, 2) := by decide +kernel
theorem dX5_drawEased_45 : decode cX5_drawEased 45 = .ok (.iconst 3, 1) := by decide +kernel
theorem dX5_drawEased_46 : decode cX5_drawEased 46 = .ok (.aload_n 1, 1) := by decide +kernel
theorem dX5_drawEased_47 : decode cX5_drawEased 47 = .ok (.iload 4, 2) := by decide +kernel
theorem dX5_drawEased_49 : decode cX5_drawEased 49 = .ok (.iconst 3, 1) := by decide +kernel
theorem dX5_drawEased_50 : decode cX5_drawEased 50 = .ok (.invokevirtual 115, 3) := by decide +kernel
theorem dX5_drawEased_53 : decode cX5_drawEased 53 = .ok (.iconst 1, 1) := by decide +kernel
theorem dX5_drawEased_54 : decode cX5_drawEased 54 = .ok (.iadd, 1) := by decide +kernel
theorem dX5_drawEased_55 : decode cX5_drawEased 55 = .ok (.invokevirtual 129, 3) := by decide +kernel
theorem dX5_drawEased_58 : decode cX5_drawEased 58 = .ok (.aload_n 0, 1) := by decide +kernel
theorem dX5_drawEased_59 : decode cX5_drawEased 59 = .ok (.getfield 48, 3) := by decide +kernel
theorem dX5_drawEased_62 : decode cX5_drawEased 62 = .ok (.aload_n 0, 1) := by decide +kernel
theorem dX5_drawEased_63 : decode cX5_drawEased 63 = .ok (.getfield 41, 3) := by decide +kernel
theorem dX5_drawEased_66 : decode cX5_drawEased 66 = .ok (.invokevirtual 169, 3) := by decide +kernel
theorem dX5_drawEased_69 : decode cX5_drawEased 69 = .ok (.return_, 1) := by decide +kernel
theorem dX5_suspects_0 : decode cX5_suspects 0 = .ok (.iconst 0, 1) := by decide +kernel
theorem dX5_suspects_1 : decode cX5_suspects 1 = .ok (.istore_n 1, 1) := by decide +kernel
theorem dX5_suspects_2 : decode cX5_suspects 2 = .ok (.iconst 0, 1) := by decide +kernel
theorem dX5_suspects_3 : decode cX5_suspects 3 = .ok (.istore_n 2, 1) := by decide +kernel
theorem dX5_suspects_4 : decode cX5_suspects 4 = .ok (.iload_n 2, 1) := by decide +kernel
theorem dX5_suspects_5 : decode cX5_suspects 5 = .ok (.iconst 4, 1) := by decide +kernel
theorem dX5_suspects_6 : decode cX5_suspects 6 = .ok (.if_icmp .ge 28, 3) := by decide +kernel
theorem dX5_suspects_9 : decode cX5_suspects 9 = .ok (.aload_n 0, 1) := by decide +kernel
theorem dX5_suspects_10 : decode cX5_suspects 10 = .ok (.aload_n 0, 1) := by decide +kernel
theorem dX5_suspects_11 : decode cX5_suspects 11 = .ok (.getfield 52, 3) := by decide +kernel
theorem dX5_suspects_14 : decode cX5_suspects 14 = .ok (.iload_n 2, 1) := by decide +kernel
theorem dX5_suspects_15 : decode cX5_suspects 15 = .ok (.aaload, 1) := by decide +kernel
theorem dX5_suspects_16 : decode cX5_suspects 16 = .ok (.invokevirtual 204, 3) := by decide +kernel
theorem dX5_suspects_19 : decode cX5_suspects 19 = .ok (.ifCond .eq 9, 3) := by decide +kernel
theorem dX5_suspects_22 : decode cX5_suspects 22 = .ok (.iload_n 1, 1) := by decide +kernel
theorem dX5_suspects_23 : decode cX5_suspects 23 = .ok (.iconst 1, 1) := by decide +kernel
theorem dX5_suspects_24 : decode cX5_suspects 24 = .ok (.iload_n 2, 1) := by decide +kernel
theorem dX5_suspects_25 : decode cX5_suspects 25 = .ok (.ishl, 1) := by decide +kernel
theorem dX5_suspects_26 : decode cX5_suspects 26 = .ok (.ior, 1) := by decide +kernel
theorem dX5_suspects_27 : decode cX5_suspects 27 = .ok (.istore_n 1, 1) := by decide +kernel
theorem dX5_suspects_28 : decode cX5_suspects 28 = .ok (.iinc 2 1, 3) := by decide +kernel
theorem dX5_suspects_31 : decode cX5_suspects 31 = .ok (.goto (-27), 3) := by decide +kernel
theorem dX5_suspects_34 : decode cX5_suspects 34 = .ok (.iload_n 1, 1) := by decide +kernel
theorem dX5_suspects_35 : decode cX5_suspects 35 = .ok (.ireturn, 1) := by decide +kernel
theorem dX5_agrees_0 : decode cX5_agrees 0 = .ok (.iconst 0, 1) := by decide +kernel
theorem dX5_agrees_1 : decode cX5_agrees 1 = .ok (.istore_n 2, 1) := by decide +kernel
theorem dX5_agrees_2 : decode cX5_agrees 2 = .ok (.iload_n 2, 1) := by decide +kernel
theorem dX5_agrees_3 : decode cX5_agrees 3 = .ok (.aload_n 0, 1) := by decide +kernel
theorem dX5_agrees_4 : decode cX5_agrees 4 = .ok (.getfield 63, 3) := by decide +kernel
theorem dX5_agrees_7 : decode cX5_agrees 7 = .ok (.if_icmp .ge 30, 3) := by decide +kernel
theorem dX5_agrees_10 : decode cX5_agrees 10 = .ok (.aload_n 1, 1) := by decide +kernel
theorem dX5_agrees_11 : decode cX5_agrees 11 = .ok (.aload_n 0, 1) := by decide +kernel
theorem dX5_agrees_12 : decode cX5_agrees 12 = .ok (.getfield 56, 3) := by decide +kernel
theorem dX5_agrees_15 : decode cX5_agrees 15 = .ok (.iload_n 2, 1) := by decide +kernel
theorem dX5_agrees_16 : decode cX5_agrees 16 = .ok (.iaload, 1) := by decide +kernel
theorem dX5_agrees_17 : decode cX5_agrees 17 = .ok (.invokevirtual 179, 3) := by decide +kernel
theorem dX5_agrees_20 : decode cX5_agrees 20 = .ok (.aload_n 0, 1) := by decide +kernel
theorem dX5_agrees_21 : decode cX5_agrees 21 = .ok (.getfield 60, 3) := by decide +kernel
theorem dX5_agrees_24 : decode cX5_agrees 24 = .ok (.iload_n 2, 1) := by decide +kernel
theorem dX5_agrees_25 : decode cX5_agrees 25 = .ok (.iaload, 1) := by decide +kernel
theorem dX5_agrees_26 : decode cX5_agrees 26 = .ok (.if_icmp .eq 5, 3) := by decide +kernel
theorem dX5_agrees_29 : decode cX5_agrees 29 = .ok (.iconst 0, 1) := by decide +kernel
theorem dX5_agrees_30 : decode cX5_agrees 30 = .ok (.ireturn, 1) := by decide +kernel
theorem dX5_agrees_31 : decode cX5_agrees 31 = .ok (.iinc 2 1, 3) := by decide +kernel
theorem dX5_agrees_34 : decode cX5_agrees 34 = .ok (.goto (-32), 3) := by decide +kernel
theorem dX5_agrees_37 : decode cX5_agrees 37 = .ok (.iconst 1, 1) := by decide +kernel
theorem dX5_agrees_38 : decode cX5_agrees 38 = .ok (.ireturn, 1) := by decide +kernel
theorem dX5_mostAlike_0 : decode cX5_mostAlike 0 = .ok (.iconst 0, 1) := by decide +kernel
theorem dX5_mostAlike_1 : decode cX5_mostAlike 1 = .ok (.istore_n 3, 1) := by decide +kernel
theorem dX5_mostAlike_2 : decode cX5_mostAlike 2 = .ok (.iconst 0, 1) := by decide +kernel
theorem dX5_mostAlike_3 : decode cX5_mostAlike 3 = .ok (.istore 4, 2) := by decide +kernel
theorem dX5_mostAlike_5 : decode cX5_mostAlike 5 = .ok (.iload 4, 2) := by decide +kernel
theorem dX5_mostAlike_7 : decode cX5_mostAlike 7 = .ok (.iconst 4, 1) := by decide +kernel
theorem dX5_mostAlike_8 : decode cX5_mostAlike 8 = .ok (.if_icmp .ge 94, 3) := by decide +kernel
theorem dX5_mostAlike_11 : decode cX5_mostAlike 11 = .ok (.iload_n 1, 1) := by decide +kernel
theorem dX5_mostAlike_12 : decode cX5_mostAlike 12 = .ok (.iload 4, 2) := by decide +kernel
theorem dX5_mostAlike_14 : decode cX5_mostAlike 14 = .ok (.ishr, 1) := by decide +kernel
theorem dX5_mostAlike_15 : decode cX5_mostAlike 15 = .ok (.iconst 1, 1) := by decide +kernel
theorem dX5_mostAlike_16 : decode cX5_mostAlike 16 = .ok (.iand, 1) := by decide +kernel
theorem dX5_mostAlike_17 : decode cX5_mostAlike 17 = .ok (.ifCond .ne 15, 3) := by decide +kernel
theorem dX5_mostAlike_20 : decode cX5_mostAlike 20 = .ok (.aload_n 0, 1) := by decide +kernel
theorem dX5_mostAlike_21 : decode cX5_mostAlike 21 = .ok (.getfield 67, 3) := by decide +kernel
theorem dX5_mostAlike_24 : decode cX5_mostAlike 24 = .ok (.iload 4, 2) := by decide +kernel
theorem dX5_mostAlike_26 : decode cX5_mostAlike 26 = .ok (.ldc 146, 2) := by decide +kernel
theorem dX5_mostAlike_28 : decode cX5_mostAlike 28 = .ok (.iastore, 1) := by decide +kernel
theorem dX5_mostAlike_29 : decode cX5_mostAlike 29 = .ok (.goto 67, 3) := by decide +kernel
theorem dX5_mostAlike_32 : decode cX5_mostAlike 32 = .ok (.aload_n 0, 1) := by decide +kernel
theorem dX5_mostAlike_33 : decode cX5_mostAlike 33 = .ok (.getfield 67, 3) := by decide +kernel
theorem dX5_mostAlike_36 : decode cX5_mostAlike 36 = .ok (.iload 4, 2) := by decide +kernel
theorem dX5_mostAlike_38 : decode cX5_mostAlike 38 = .ok (.aload_n 0, 1) := by decide +kernel
theorem dX5_mostAlike_39 : decode cX5_mostAlike 39 = .ok (.getfield 52, 3) := by decide +kernel
theorem dX5_mostAlike_42 : decode cX5_mostAlike 42 = .ok (.iload 4, 2) := by decide +kernel
theorem dX5_mostAlike_44 : decode cX5_mostAlike 44 = .ok (.aaload, 1) := by decide +kernel
theorem dX5_mostAlike_45 : decode cX5_mostAlike 45 = .ok (.iload_n 2, 1) := by decide +kernel
theorem dX5_mostAlike_46 : decode cX5_mostAlike 46 = .ok (.invokevirtual 179, 3) := by decide +kernel
theorem dX5_mostAlike_49 : decode cX5_mostAlike 49 = .ok (.iastore, 1) := by decide +kernel
theorem dX5_mostAlike_50 : decode cX5_mostAlike 50 = .ok (.iconst 1, 1) := by decide +kernel
theorem dX5_mostAlike_51 : decode cX5_mostAlike 51 = .ok (.istore 5, 2) := by decide +kernel
theorem dX5_mostAlike_53 : decode cX5_mostAlike 53 = .ok (.iconst 0, 1) := by decide +kernel
theorem dX5_mostAlike_54 : decode cX5_mostAlike 54 = .ok (.istore 6, 2) := by decide +kernel
theorem dX5_mostAlike_56 : decode cX5_mostAlike 56 = .ok (.iload 6, 2) := by decide +kernel
theorem dX5_mostAlike_58 : decode cX5_mostAlike 58 = .ok (.iload 4, 2) := by decide +kernel
theorem dX5_mostAlike_60 : decode cX5_mostAlike 60 = .ok (.if_icmp .ge 29, 3) := by decide +kernel
theorem dX5_mostAlike_63 : decode cX5_mostAlike 63 = .ok (.aload_n 0, 1) := by decide +kernel
theorem dX5_mostAlike_64 : decode cX5_mostAlike 64 = .ok (.getfield 67, 3) := by decide +kernel
theorem dX5_mostAlike_67 : decode cX5_mostAlike 67 = .ok (.iload 6, 2) := by decide +kernel
theorem dX5_mostAlike_69 : decode cX5_mostAlike 69 = .ok (.iaload, 1) := by decide +kernel
theorem dX5_mostAlike_70 : decode cX5_mostAlike 70 = .ok (.aload_n 0, 1) := by decide +kernel
theorem dX5_mostAlike_71 : decode cX5_mostAlike 71 = .ok (.getfield 67, 3) := by decide +kernel
theorem dX5_mostAlike_74 : decode cX5_mostAlike 74 = .ok (.iload 4, 2) := by decide +kernel
theorem dX5_mostAlike_76 : decode cX5_mostAlike 76 = .ok (.iaload, 1) := by decide +kernel
theorem dX5_mostAlike_77 : decode cX5_mostAlike 77 = .ok (.if_icmp .ne 6, 3) := by decide +kernel
theorem dX5_mostAlike_80 : decode cX5_mostAlike 80 = .ok (.iinc 5 1, 3) := by decide +kernel
theorem dX5_mostAlike_83 : decode cX5_mostAlike 83 = .ok (.iinc 6 1, 3) := by decide +kernel
theorem dX5_mostAlike_86 : decode cX5_mostAlike 86 = .ok (.goto (-30), 3) := by decide +kernel
theorem dX5_mostAlike_89 : decode cX5_mostAlike 89 = .ok (.iload_n 3, 1) := by decide +kernel
theorem dX5_mostAlike_90 : decode cX5_mostAlike 90 = .ok (.iload 5, 2) := by decide +kernel
theorem dX5_mostAlike_92 : decode cX5_mostAlike 92 = .ok (.invokestatic 208, 3) := by decide +kernel
theorem dX5_mostAlike_95 : decode cX5_mostAlike 95 = .ok (.istore_n 3, 1) := by decide +kernel
theorem dX5_mostAlike_96 : decode cX5_mostAlike 96 = .ok (.iinc 4 1, 3) := by decide +kernel
theorem dX5_mostAlike_99 : decode cX5_mostAlike 99 = .ok (.goto (-94), 3) := by decide +kernel
theorem dX5_mostAlike_102 : decode cX5_mostAlike 102 = .ok (.iload_n 3, 1) := by decide +kernel
theorem dX5_mostAlike_103 : decode cX5_mostAlike 103 = .ok (.ireturn, 1) := by decide +kernel
theorem dX5_partOf_0 : decode cX5_partOf 0 = .ok (.iload_n 0, 1) := by decide +kernel
theorem dX5_partOf_1 : decode cX5_partOf 1 = .ok (.iload_n 1, 1) := by decide +kernel
theorem dX5_partOf_2 : decode cX5_partOf 2 = .ok (.invokestatic 213, 3) := by decide +kernel
theorem dX5_partOf_5 : decode cX5_partOf 5 = .ok (.istore_n 3, 1) := by decide +kernel
theorem dX5_partOf_6 : decode cX5_partOf 6 = .ok (.iload_n 2, 1) := by decide +kernel
theorem dX5_partOf_7 : decode cX5_partOf 7 = .ok (.ifCond .ne 7, 3) := by decide +kernel
theorem dX5_partOf_10 : decode cX5_partOf 10 = .ok (.iload_n 0, 1) := by decide +kernel
theorem dX5_partOf_11 : decode cX5_partOf 11 = .ok (.goto 4, 3) := by decide +kernel
theorem dX5_partOf_14 : decode cX5_partOf 14 = .ok (.iload_n 1, 1) := by decide +kernel
theorem dX5_partOf_15 : decode cX5_partOf 15 = .ok (.istore 4, 2) := by decide +kernel
theorem dX5_partOf_17 : decode cX5_partOf 17 = .ok (.iload_n 3, 1) := by decide +kernel
theorem dX5_partOf_18 : decode cX5_partOf 18 = .ok (.ifCond .gt 8, 3) := by decide +kernel
theorem dX5_partOf_21 : decode cX5_partOf 21 = .ok (.iload 4, 2) := by decide +kernel
theorem dX5_partOf_23 : decode cX5_partOf 23 = .ok (.goto 7, 3) := by decide +kernel
theorem dX5_partOf_26 : decode cX5_partOf 26 = .ok (.iload 4, 2) := by decide +kernel
theorem dX5_partOf_28 : decode cX5_partOf 28 = .ok (.iload_n 3, 1) := by decide +kernel
theorem dX5_partOf_29 : decode cX5_partOf 29 = .ok (.idiv, 1) := by decide +kernel
theorem dX5_partOf_30 : decode cX5_partOf 30 = .ok (.ireturn, 1) := by decide +kernel
theorem dX5_commonMeasure_0 : decode cX5_commonMeasure 0 = .ok (.iload_n 0, 1) := by decide +kernel
theorem dX5_commonMeasure_1 : decode cX5_commonMeasure 1 = .ok (.invokestatic 216, 3) := by decide +kernel
theorem dX5_commonMeasure_4 : decode cX5_commonMeasure 4 = .ok (.istore_n 2, 1) := by decide +kernel
theorem dX5_commonMeasure_5 : decode cX5_commonMeasure 5 = .ok (.iload_n 1, 1) := by decide +kernel
theorem dX5_commonMeasure_6 : decode cX5_commonMeasure 6 = .ok (.invokestatic 216, 3) := by decide +kernel
theorem dX5_commonMeasure_9 : decode cX5_commonMeasure 9 = .ok (.istore_n 3, 1) := by decide +kernel
theorem dX5_commonMeasure_10 : decode cX5_commonMeasure 10 = .ok (.iconst 0, 1) := by decide +kernel
theorem dX5_commonMeasure_11 : decode cX5_commonMeasure 11 = .ok (.istore 4, 2) := by decide +kernel
theorem dX5_commonMeasure_13 : decode cX5_commonMeasure 13 = .ok (.iload 4, 2) := by decide +kernel
theorem dX5_commonMeasure_15 : decode cX5_commonMeasure 15 = .ok (.bipush 64, 2) := by decide +kernel
theorem dX5_commonMeasure_17 : decode cX5_commonMeasure 17 = .ok (.if_icmp .ge 23, 3) := by decide +kernel
theorem dX5_commonMeasure_20 : decode cX5_commonMeasure 20 = .ok (.iload_n 3, 1) := by decide +kernel
theorem dX5_commonMeasure_21 : decode cX5_commonMeasure 21 = .ok (.ifCond .le 19, 3) := by decide +kernel
theorem dX5_commonMeasure_24 : decode cX5_commonMeasure 24 = .ok (.iload_n 2, 1) := by decide +kernel
theorem dX5_commonMeasure_25 : decode cX5_commonMeasure 25 = .ok (.iload_n 3, 1) := by decide +kernel
theorem dX5_commonMeasure_26 : decode cX5_commonMeasure 26 = .ok (.irem, 1) := by decide +kernel
theorem dX5_commonMeasure_27 : decode cX5_commonMeasure 27 = .ok (.istore 5, 2) := by decide +kernel
theorem dX5_commonMeasure_29 : decode cX5_commonMeasure 29 = .ok (.iload_n 3, 1) := by decide +kernel
theorem dX5_commonMeasure_30 : decode cX5_commonMeasure 30 = .ok (.istore_n 2, 1) := by decide +kernel
theorem dX5_commonMeasure_31 : decode cX5_commonMeasure 31 = .ok (.iload 5, 2) := by decide +kernel
theorem dX5_commonMeasure_33 : decode cX5_commonMeasure 33 = .ok (.istore_n 3, 1) := by decide +kernel
theorem dX5_commonMeasure_34 : decode cX5_commonMeasure 34 = .ok (.iinc 4 1, 3) := by decide +kernel
theorem dX5_commonMeasure_37 : decode cX5_commonMeasure 37 = .ok (.goto (-24), 3) := by decide +kernel
theorem dX5_commonMeasure_40 : decode cX5_commonMeasure 40 = .ok (.iload_n 2, 1) := by decide +kernel
theorem dX5_commonMeasure_41 : decode cX5_commonMeasure 41 = .ok (.ireturn, 1) := by decide +kernel
theorem dX6_init_0 : decode cX6_init 0 = .ok (.aload_n 0, 1) := by decide +kernel
theorem dX6_init_1 : decode cX6_init 1 = .ok (.invokespecial 1, 3) := by decide +kernel
theorem dX6_init_4 : decode cX6_init 4 = .ok (.aload_n 0, 1) := by decide +kernel
theorem dX6_init_5 : decode cX6_init 5 = .ok (.sipush 132, 3) := by decide +kernel
theorem dX6_init_8 : decode cX6_init 8 = .ok (.newarray .int, 2) := by decide +kernel
theorem dX6_init_10 : decode cX6_init 10 = .ok (.putfield 7, 3) := by decide +kernel
theorem dX6_init_13 : decode cX6_init 13 = .ok (.aload_n 0, 1) := by decide +kernel
theorem dX6_init_14 : decode cX6_init 14 = .ok (.sipush 792, 3) := by decide +kernel
theorem dX6_init_17 : decode cX6_init 17 = .ok (.newarray .int, 2) := by decide +kernel
theorem dX6_init_19 : decode cX6_init 19 = .ok (.putfield 13, 3) := by decide +kernel
theorem dX6_init_22 : decode cX6_init 22 = .ok (.aload_n 0, 1) := by decide +kernel
theorem dX6_init_23 : decode cX6_init 23 = .ok (.sipush 264, 3) := by decide +kernel
theorem dX6_init_26 : decode cX6_init 26 = .ok (.newarray .int, 2) := by decide +kernel
theorem dX6_init_28 : decode cX6_init 28 = .ok (.putfield 16, 3) := by decide +kernel
theorem dX6_init_31 : decode cX6_init 31 = .ok (.aload_n 0, 1) := by decide +kernel
theorem dX6_init_32 : decode cX6_init 32 = .ok (.iconst 2, 1) := by decide +kernel
theorem dX6_init_33 : decode cX6_init 33 = .ok (.newarray .boolean, 2) := by decide +kernel
theorem dX6_init_35 : decode cX6_init 35 = .ok (.putfield 19, 3) := by decide +kernel
theorem dX6_init_38 : decode cX6_init 38 = .ok (.aload_n 0, 1) := by decide +kernel
theorem dX6_init_39 : decode cX6_init 39 = .ok (.sipush 150, 3) := by decide +kernel
theorem dX6_init_42 : decode cX6_init 42 = .ok (.newarray .int, 2) := by decide +kernel
theorem dX6_init_44 : decode cX6_init 44 = .ok (.putfield 23, 3) := by decide +kernel
theorem dX6_init_47 : decode cX6_init 47 = .ok (.aload_n 0, 1) := by decide +kernel
theorem dX6_init_48 : decode cX6_init 48 = .ok (.bipush 12, 2) := by decide +kernel
theorem dX6_init_50 : decode cX6_init 50 = .ok (.newarray .int, 2) := by decide +kernel
theorem dX6_init_52 : decode cX6_init 52 = .ok (.putfield 26, 3) := by decide +kernel
theorem dX6_init_55 : decode cX6_init 55 = .ok (.aload_n 0, 1) := by decide +kernel
theorem dX6_init_56 : decode cX6_init 56 = .ok (.bipush 33, 2) := by decide +kernel
theorem dX6_init_58 : decode cX6_init 58 = .ok (.newarray .int, 2) := by decide +kernel
theorem dX6_init_60 : decode cX6_init 60 = .ok (.putfield 29, 3) := by decide +kernel
theorem dX6_init_63 : decode cX6_init 63 = .ok (.aload_n 0, 1) := by decide +kernel
theorem dX6_init_64 : decode cX6_init 64 = .ok (.bipush 7, 2) := by decide +kernel
theorem dX6_init_66 : decode cX6_init 66 = .ok (.newarray .int, 2) := by decide +kernel
theorem dX6_init_68 : decode cX6_init 68 = .ok (.putfield 32, 3) := by decide +kernel
theorem dX6_init_71 : decode cX6_init 71 = .ok (.aload_n 0, 1) := by decide +kernel
theorem dX6_init_72 : decode cX6_init 72 = .ok (.bipush 7, 2) := by decide +kernel
theorem dX6_init_74 : decode cX6_init 74 = .ok (.newarray .int, 2) := by decide +kernel
theorem dX6_init_76 : decode cX6_init 76 = .ok (.putfield 35, 3) := by decide +kernel
theorem dX6_init_79 : decode cX6_init 79 = .ok (.aload_n 0, 1) := by decide +kernel
theorem dX6_init_80 : decode cX6_init 80 = .ok (.bipush 7, 2) := by decide +kernel
theorem dX6_init_82 : decode cX6_init 82 = .ok (.newarray .int, 2) := by decide +kernel
theorem dX6_init_84 : decode cX6_init 84 = .ok (.putfield 38, 3) := by decide +kernel
theorem dX6_init_87 : decode cX6_init 87 = .ok (.aload_n 0, 1) := by decide +kernel
theorem dX6_init_88 : decode cX6_init 88 = .ok (.bipush 7, 2) := by decide +kernel
theorem dX6_init_90 : decode cX6_init 90 = .ok (.newarray .int, 2) := by decide +kernel
theorem dX6_init_92 : decode cX6_init 92 = .ok (.putfield 41, 3) := by decide +kernel
theorem dX6_init_95 : decode cX6_init 95 = .ok (.aload_n 0, 1) := by decide +kernel
theorem dX6_init_96 : decode cX6_init 96 = .ok (.bipush 7, 2) := by decide +kernel
theorem dX6_init_98 : decode cX6_init 98 = .ok (.newarray .int, 2) := by decide +kernel
theorem dX6_init_100 : decode cX6_init 100 = .ok (.putfield 44, 3) := by decide +kernel
theorem dX6_init_103 : decode cX6_init 103 = .ok (.aload_n 0, 1) := by decide +kernel
theorem dX6_init_104 : decode cX6_init 104 = .ok (.bipush 7, 2) := by decide +kernel
theorem dX6_init_106 : decode cX6_init 106 = .ok (.newarray .long, 2) := by decide +kernel
theorem dX6_init_108 : decode cX6_init 108 = .ok (.putfield 47, 3) := by decide +kernel
theorem dX6_init_111 : decode cX6_init 111 = .ok (.aload_n 0, 1) := by decide +kernel
theorem dX6_init_112 : decode cX6_init 112 = .ok (.iconst 4, 1) := by decide +kernel
theorem dX6_init_113 : decode cX6_init 113 = .ok (.newarray .int, 2) := by decide +kernel
theorem dX6_init_115 : decode cX6_init 115 = .ok (.putfield 51, 3) := by decide +kernel
theorem dX6_init_118 : decode cX6_init 118 = .ok (.iconst 0, 1) := by decide +kernel
theorem dX6_init_119 : decode cX6_init 119 = .ok (.istore_n 1, 1) := by decide +kernel
theorem dX6_init_120 : decode cX6_init 120 = .ok (.iload_n 1, 1) := by decide +kernel
theorem dX6_init_121 : decode cX6_init 121 = .ok (.iconst 4, 1) := by decide +kernel
theorem dX6_init_122 : decode cX6_init 122 = .ok (.if_icmp .ge 20, 3) := by decide +kernel
theorem dX6_init_125 : decode cX6_init 125 = .ok (.aload_n 0, 1) := by decide +kernel
theorem dX6_init_126 : decode cX6_init 126 = .ok (.getfield 7, 3) := by decide +kernel
theorem dX6_init_129 : decode cX6_init 129 = .ok (.bipush 33, 2) := by decide +kernel
theorem dX6_init_131 : decode cX6_init 131 = .ok (.iload_n 1, 1) := by decide +kernel
theorem dX6_init_132 : decode cX6_init 132 = .ok (.imul, 1) := by decide +kernel
theorem dX6_init_133 : decode cX6_init 133 = .ok (.invokestatic 54, 3) := by decide +kernel
theorem dX6_init_136 : decode cX6_init 136 = .ok (.iinc 1 1, 3) := by decide +kernel
theorem dX6_init_139 : decode cX6_init 139 = .ok (.goto (-19), 3) := by decide +kernel
theorem dX6_init_142 : decode cX6_init 142 = .ok (.return_, 1) := by decide +kernel
theorem dX6_in_0 : decode cX6_in 0 = .ok (.iload_n 0, 1) := by decide +kernel
theorem dX6_in_1 : decode cX6_in 1 = .ok (.iload_n 1, 1) := by decide +kernel
theorem dX6_in_2 : decode cX6_in 2 = .ok (.if_icmp .lt 12, 3) := by decide +kernel
theorem dX6_in_5 : decode cX6_in 5 = .ok (.iload_n 0, 1) := by decide +kernel
theorem dX6_in_6 : decode cX6_in 6 = .ok (.iload_n 2, 1) := by decide +kernel
theorem dX6_in_7 : decode cX6_in 7 = .ok (.if_icmp .gt 7, 3) := by decide +kernel
theorem dX6_in_10 : decode cX6_in 10 = .ok (.iconst 1, 1) := by decide +kernel
theorem dX6_in_11 : decode cX6_in 11 = .ok (.goto 4, 3) := by decide +kernel
theorem dX6_in_14 : decode cX6_in 14 = .ok (.iconst 0, 1) := by decide +kernel
theorem dX6_in_15 : decode cX6_in 15 = .ok (.ireturn, 1) := by decide +kernel
theorem dX6_begins_0 : decode cX6_begins 0 = .ok (.iconst 0, 1) := by decide +kernel
theorem dX6_begins_1 : decode cX6_begins 1 = .ok (.istore_n 2, 1) := by decide +kernel
theorem dX6_begins_2 : decode cX6_begins 2 = .ok (.iload_n 2, 1) := by decide +kernel
theorem dX6_begins_3 : decode cX6_begins 3 = .ok (.bipush 33, 2) := by decide +kernel
theorem dX6_begins_5 : decode cX6_begins 5 = .ok (.if_icmp .ge 15, 3) := by decide +kernel
theorem dX6_begins_8 : decode cX6_begins 8 = .ok (.aload_n 0, 1) := by decide +kernel
theorem dX6_begins_9 : decode cX6_begins 9 = .ok (.iload_n 1, 1) := by decide +kernel
theorem dX6_begins_10 : decode cX6_begins 10 = .ok (.iload_n 2, 1) := by decide +kernel
theorem dX6_begins_11 : decode cX6_begins 11 = .ok (.iadd, 1) := by decide +kernel
theorem dX6_begins_12 : decode cX6_begins 12 = .ok (.iconst 0, 1) := by decide +kernel
theorem dX6_begins_13 : decode cX6_begins 13 = .ok (.iastore, 1) := by decide +kernel
theorem dX6_begins_14 : decode cX6_begins 14 = .ok (.iinc 2 1, 3) := by decide +kernel
theorem dX6_begins_17 : decode cX6_begins 17 = .ok (.goto (-15), 3) := by decide +kernel
theorem dX6_begins_20 : decode cX6_begins 20 = .ok (.aload_n 0, 1) := by decide +kernel
theorem dX6_begins_21 : decode cX6_begins 21 = .ok (.iload_n 1, 1) := by decide +kernel
theorem dX6_begins_22 : decode cX6_begins 22 = .ok (.iconst 1, 1) := by decide +kernel
theorem dX6_begins_23 : decode cX6_begins 23 = .ok (.iadd, 1) := by decide +kernel
theorem dX6_begins_24 : decode cX6_begins 24 = .ok (.bipush 20, 2) := by decide +kernel
theorem dX6_begins_26 : decode cX6_begins 26 = .ok (.iastore, 1) := by decide +kernel
theorem dX6_begins_27 : decode cX6_begins 27 = .ok (.aload_n 0, 1) := by decide +kernel
theorem dX6_begins_28 : decode cX6_begins 28 = .ok (.iload_n 1, 1) := by decide +kernel
theorem dX6_begins_29 : decode cX6_begins 29 = .ok (.iconst 5, 1) := by decide +kernel
theorem dX6_begins_30 : decode cX6_begins 30 = .ok (.iadd, 1) := by decide +kernel
theorem dX6_begins_31 : decode cX6_begins 31 = .ok (.iconst 1, 1) := by decide +kernel
theorem dX6_begins_32 : decode cX6_begins 32 = .ok (.iastore, 1) := by decide +kernel
theorem dX6_begins_33 : decode cX6_begins 33 = .ok (.aload_n 0, 1) := by decide +kernel
theorem dX6_begins_34 : decode cX6_begins 34 = .ok (.iload_n 1, 1) := by decide +kernel
theorem dX6_begins_35 : decode cX6_begins 35 = .ok (.iconst 5, 1) := by decide +kernel
theorem dX6_begins_36 : decode cX6_begins 36 = .ok (.iadd, 1) := by decide +kernel
theorem dX6_begins_37 : decode cX6_begins 37 = .ok (.iconst 1, 1) := by decide +kernel
theorem dX6_begins_38 : decode cX6_begins 38 = .ok (.iadd, 1) := by decide +kernel
theorem dX6_begins_39 : decode cX6_begins 39 = .ok (.iconst 2, 1) := by decide +kernel
theorem dX6_begins_40 : decode cX6_begins 40 = .ok (.iastore, 1) := by decide +kernel
theorem dX6_begins_41 : decode cX6_begins 41 = .ok (.aload_n 0, 1) := by decide +kernel
theorem dX6_begins_42 : decode cX6_begins 42 = .ok (.iload_n 1, 1) := by decide +kernel
theorem dX6_begins_43 : decode cX6_begins 43 = .ok (.iconst 5, 1) := by decide +kernel
theorem dX6_begins_44 : decode cX6_begins 44 = .ok (.iadd, 1) := by decide +kernel
theorem dX6_begins_45 : decode cX6_begins 45 = .ok (.iconst 2, 1) := by decide +kernel
theorem dX6_begins_46 : decode cX6_begins 46 = .ok (.iadd, 1) := by decide +kernel
theorem dX6_begins_47 : decode cX6_begins 47 = .ok (.iconst 4, 1) := by decide +kernel
theorem dX6_begins_48 : decode cX6_begins 48 = .ok (.iastore, 1) := by decide +kernel
theorem dX6_begins_49 : decode cX6_begins 49 = .ok (.aload_n 0, 1) := by decide +kernel
theorem dX6_begins_50 : decode cX6_begins 50 = .ok (.iload_n 1, 1) := by decide +kernel
theorem dX6_begins_51 : decode cX6_begins 51 = .ok (.iconst 5, 1) := by decide +kernel
theorem dX6_begins_52 : decode cX6_begins 52 = .ok (.iadd, 1) := by decide +kernel
theorem dX6_begins_53 : decode cX6_begins 53 = .ok (.iconst 3, 1) := by decide +kernel
theorem dX6_begins_54 : decode cX6_begins 54 = .ok (.iadd, 1) := by decide +kernel
theorem dX6_begins_55 : decode cX6_begins 55 = .ok (.bipush 8, 2) := by decide +kernel
theorem dX6_begins_57 : decode cX6_begins 57 = .ok (.iastore, 1) := by decide +kernel
theorem dX6_begins_58 : decode cX6_begins 58 = .ok (.return_, 1) := by decide +kernel
theorem dX6_remembers_0 : decode cX6_remembers 0 = .ok (.aload_n 0, 1) := by decide +kernel
theorem dX6_remembers_1 : decode cX6_remembers 1 = .ok (.getfield 58, 3) := by decide +kernel
theorem dX6_remembers_4 : decode cX6_remembers 4 = .ok (.bipush 6, 2) := by decide +kernel
theorem dX6_remembers_6 : decode cX6_remembers 6 = .ok (.if_icmp .ne 44, 3) := by decide +kernel
theorem dX6_remembers_9 : decode cX6_remembers 9 = .ok (.iconst 0, 1) := by decide +kernel
theorem dX6_remembers_10 : decode cX6_remembers 10 = .ok (.istore_n 1, 1) := by decide +kernel
theorem dX6_remembers_11 : decode cX6_remembers 11 = .ok (.iload_n 1, 1) := by decide +kernel
theorem dX6_remembers_12 : decode cX6_remembers 12 = .ok (.sipush 660, 3) := by decide +kernel
theorem dX6_remembers_15 : decode cX6_remembers 15 = .ok (.if_icmp .ge 25, 3) := by decide +kernel
theorem dX6_remembers_18 : decode cX6_remembers 18 = .ok (.aload_n 0, 1) := by decide +kernel
theorem dX6_remembers_19 : decode cX6_remembers 19 = .ok (.getfield 13, 3) := by decide +kernel
theorem dX6_remembers_22 : decode cX6_remembers 22 = .ok (.iload_n 1, 1) := by decide +kernel
theorem dX6_remembers_23 : decode cX6_remembers 23 = .ok (.aload_n 0, 1) := by decide +kernel
theorem dX6_remembers_24 : decode cX6_remembers 24 = .ok (.getfield 13, 3) := by decide +kernel
theorem dX6_remembers_27 : decode cX6_remembers 27 = .ok (.iload_n 1, 1) := by decide +kernel
theorem dX6_remembers_28 : decode cX6_remembers 28 = .ok (.sipush 132, 3) := by decide +kernel
theorem dX6_remembers_31 : decode cX6_remembers 31 = .ok (.iadd, 1) := by decide +kernel
theorem dX6_remembers_32 : decode cX6_remembers 32 = .ok (.iaload, 1) := by decide +kernel
theorem dX6_remembers_33 : decode cX6_remembers 33 = .ok (.iastore, 1) := by decide +kernel
theorem dX6_remembers_34 : decode cX6_remembers 34 = .ok (.iinc 1 1, 3) := by decide +kernel
theorem dX6_remembers_37 : decode cX6_remembers 37 = .ok (.goto (-26), 3) := by decide +kernel
theorem dX6_remembers_40 : decode cX6_remembers 40 = .ok (.aload_n 0, 1) := by decide +kernel
theorem dX6_remembers_41 : decode cX6_remembers 41 = .ok (.dup, 1) := by decide +kernel
theorem dX6_remembers_42 : decode cX6_remembers 42 = .ok (.getfield 58, 3) := by decide +kernel
theorem dX6_remembers_45 : decode cX6_remembers 45 = .ok (.iconst 1, 1) := by decide +kernel
theorem dX6_remembers_46 : decode cX6_remembers 46 = .ok (.isub, 1) := by decide +kernel
theorem dX6_remembers_47 : decode cX6_remembers 47 = .ok (.putfield 58, 3) := by decide +kernel
theorem dX6_remembers_50 : decode cX6_remembers 50 = .ok (.iconst 0, 1) := by decide +kernel
theorem dX6_remembers_51 : decode cX6_remembers 51 = .ok (.istore_n 1, 1) := by decide +kernel
theorem dX6_remembers_52 : decode cX6_remembers 52 = .ok (.iload_n 1, 1) := by decide +kernel
theorem dX6_remembers_53 : decode cX6_remembers 53 = .ok (.sipush 132, 3) := by decide +kernel
theorem dX6_remembers_56 : decode cX6_remembers 56 = .ok (.if_icmp .ge 30, 3) := by decide +kernel
theorem dX6_remembers_59 : decode cX6_remembers 59 = .ok (.aload_n 0, 1) := by decide +kernel
theorem dX6_remembers_60 : decode cX6_remembers 60 = .ok (.getfield 13, 3) := by decide +kernel
theorem dX6_remembers_63 : decode cX6_remembers 63 = .ok (.sipush 132, 3) := by decide +kernel
theorem dX6_remembers_66 : decode cX6_remembers 66 = .ok (.aload_n 0, 1) := by decide +kernel
theorem dX6_remembers_67 : decode cX6_remembers 67 = .ok (.getfield 58, 3) := by decide +kernel
theorem dX6_remembers_70 : decode cX6_remembers 70 = .ok (.imul, 1) := by decide +kernel
theorem dX6_remembers_71 : decode cX6_remembers 71 = .ok (.iload_n 1, 1) := by decide +kernel
theorem dX6_remembers_72 : decode cX6_remembers 72 = .ok (.iadd, 1) := by decide +kernel
theorem dX6_remembers_73 : decode cX6_remembers 73 = .ok (.aload_n 0, 1) := by decide +kernel
theorem dX6_remembers_74 : decode cX6_remembers 74 = .ok (.getfield 7, 3) := by decide +kernel
theorem dX6_remembers_77 : decode cX6_remembers 77 = .ok (.iload_n 1, 1) := by decide +kernel
theorem dX6_remembers_78 : decode cX6_remembers 78 = .ok (.iaload, 1) := by decide +kernel
theorem dX6_remembers_79 : decode cX6_remembers 79 = .ok (.iastore, 1) := by decide +kernel
theorem dX6_remembers_80 : decode cX6_remembers 80 = .ok (.iinc 1 1, 3) := by decide +kernel
theorem dX6_remembers_83 : decode cX6_remembers 83 = .ok (.goto (-31), 3) := by decide +kernel
theorem dX6_remembers_86 : decode cX6_remembers 86 = .ok (.aload_n 0, 1) := by decide +kernel
theorem dX6_remembers_87 : decode cX6_remembers 87 = .ok (.dup, 1) := by decide +kernel
theorem dX6_remembers_88 : decode cX6_remembers 88 = .ok (.getfield 58, 3) := by decide +kernel
theorem dX6_remembers_91 : decode cX6_remembers 91 = .ok (.iconst 1, 1) := by decide +kernel
theorem dX6_remembers_92 : decode cX6_remembers 92 = .ok (.iadd, 1) := by decide +kernel
theorem dX6_remembers_93 : decode cX6_remembers 93 = .ok (.putfield 58, 3) := by decide +kernel
theorem dX6_remembers_96 : decode cX6_remembers 96 = .ok (.return_, 1) := by decide +kernel
theorem dX6_undo_0 : decode cX6_undo 0 = .ok (.aload_n 0, 1) := by decide +kernel
theorem dX6_undo_1 : decode cX6_undo 1 = .ok (.getfield 58, 3) := by decide +kernel
theorem dX6_undo_4 : decode cX6_undo 4 = .ok (.ifCond .ne 6, 3) := by decide +kernel
theorem dX6_undo_7 : decode cX6_undo 7 = .ok (.bipush (-2), 2) := by decide +kernel
theorem dX6_undo_9 : decode cX6_undo 9 = .ok (.ireturn, 1) := by decide +kernel
theorem dX6_undo_10 : decode cX6_undo 10 = .ok (.aload_n 0, 1) := by decide +kernel
theorem dX6_undo_11 : decode cX6_undo 11 = .ok (.dup, 1) := by decide +kernel
theorem dX6_undo_12 : decode cX6_undo 12 = .ok (.getfield 58, 3) := by decide +kernel
theorem dX6_undo_15 : decode cX6_undo 15 = .ok (.iconst 1, 1) := by decide +kernel
theorem dX6_undo_16 : decode cX6_undo 16 = .ok (.isub, 1) := by decide +kernel
theorem dX6_undo_17 : decode cX6_undo 17 = .ok (.putfield 58, 3) := by decide +kernel
theorem dX6_undo_20 : decode cX6_undo 20 = .ok (.iconst 0, 1) := by decide +kernel
theorem dX6_undo_21 : decode cX6_undo 21 = .ok (.istore_n 1, 1) := by decide +kernel
theorem dX6_undo_22 : decode cX6_undo 22 = .ok (.iload_n 1, 1) := by decide +kernel
theorem dX6_undo_23 : decode cX6_undo 23 = .ok (.sipush 132, 3) := by decide +kernel
theorem dX6_undo_26 : decode cX6_undo 26 = .ok (.if_icmp .ge 30, 3) := by decide +kernel
theorem dX6_undo_29 : decode cX6_undo 29 = .ok (.aload_n 0, 1) := by decide +kernel
theorem dX6_undo_30 : decode cX6_undo 30 = .ok (.getfield 7, 3) := by decide +kernel
theorem dX6_undo_33 : decode cX6_undo 33 = .ok (.iload_n 1, 1) := by decide +kernel
theorem dX6_undo_34 : decode cX6_undo 34 = .ok (.aload_n 0, 1) := by decide +kernel
theorem dX6_undo_35 : decode cX6_undo 35 = .ok (.getfield 13, 3) := by decide +kernel
theorem dX6_undo_38 : decode cX6_undo 38 = .ok (.sipush 132, 3) := by decide +kernel
theorem dX6_undo_41 : decode cX6_undo 41 = .ok (.aload_n 0, 1) := by decide +kernel
theorem dX6_undo_42 : decode cX6_undo 42 = .ok (.getfield 58, 3) := by decide +kernel
theorem dX6_undo_45 : decode cX6_undo 45 = .ok (.imul, 1) := by decide +kernel
theorem dX6_undo_46 : decode cX6_undo 46 = .ok (.iload_n 1, 1) := by decide +kernel
theorem dX6_undo_47 : decode cX6_undo 47 = .ok (.iadd, 1) := by decide +kernel
theorem dX6_undo_48 : decode cX6_undo 48 = .ok (.iaload, 1) := by decide +kernel
theorem dX6_undo_49 : decode cX6_undo 49 = .ok (.iastore, 1) := by decide +kernel
theorem dX6_undo_50 : decode cX6_undo 50 = .ok (.iinc 1 1, 3) := by decide +kernel
theorem dX6_undo_53 : decode cX6_undo 53 = .ok (.goto (-31), 3) := by decide +kernel
theorem dX6_undo_56 : decode cX6_undo 56 = .ok (.aload_n 0, 1) := by decide +kernel
theorem dX6_undo_57 : decode cX6_undo 57 = .ok (.getfield 58, 3) := by decide +kernel
theorem dX6_undo_60 : decode cX6_undo 60 = .ok (.ireturn, 1) := by decide +kernel
theorem dX6_isShip_0 : decode cX6_isShip 0 = .ok (.iload_n 0, 1) := by decide +kernel
theorem dX6_isShip_1 : decode cX6_isShip 1 = .ok (.iconst 0, 1) := by decide +kernel
theorem dX6_isShip_2 : decode cX6_isShip 2 = .ok (.iconst 3, 1) := by decide +kernel
theorem dX6_isShip_3 : decode cX6_isShip 3 = .ok (.invokestatic 62, 3) := by decide +kernel
theorem dX6_isShip_6 : decode cX6_isShip 6 = .ok (.ireturn, 1) := by decide +kernel
theorem dX6_of_0 : decode cX6_of 0 = .ok (.aload_n 0, 1) := by decide +kernel
theorem dX6_of_1 : decode cX6_of 1 = .ok (.getfield 7, 3) := by decide +kernel
theorem dX6_of_4 : decode cX6_of 4 = .ok (.bipush 33, 2) := by decide +kernel
theorem dX6_of_6 : decode cX6_of 6 = .ok (.iload_n 1, 1) := by decide +kernel
theorem dX6_of_7 : decode cX6_of 7 = .ok (.imul, 1) := by decide +kernel
theorem dX6_of_8 : decode cX6_of 8 = .ok (.iload_n 2, 1) := by decide +kernel
theorem dX6_of_9 : decode cX6_of 9 = .ok (.iadd, 1) := by decide +kernel
theorem dX6_of_10 : decode cX6_of 10 = .ok (.iaload, 1) := by decide +kernel
theorem dX6_of_11 : decode cX6_of 11 = .ok (.ireturn, 1) := by decide +kernel
theorem dX6_legPlace_0 : decode cX6_legPlace 0 = .ok (.bipush 9, 2) := by decide +kernel
theorem dX6_legPlace_2 : decode cX6_legPlace 2 = .ok (.iconst 4, 1) := by decide +kernel
theorem dX6_legPlace_3 : decode cX6_legPlace 3 = .ok (.iload_n 0, 1) := by decide +kernel
theorem dX6_legPlace_4 : decode cX6_legPlace 4 = .ok (.imul, 1) := by decide +kernel
theorem dX6_legPlace_5 : decode cX6_legPlace 5 = .ok (.iadd, 1) := by decide +kernel
theorem dX6_legPlace_6 : decode cX6_legPlace 6 = .ok (.iload_n 1, 1) := by decide +kernel
theorem dX6_legPlace_7 : decode cX6_legPlace 7 = .ok (.iadd, 1) := by decide +kernel
theorem dX6_legPlace_8 : decode cX6_legPlace 8 = .ok (.ireturn, 1) := by decide +kernel
theorem dX6_ofLeg_0 : decode cX6_ofLeg 0 = .ok (.aload_n 0, 1) := by decide +kernel
theorem dX6_ofLeg_1 : decode cX6_ofLeg 1 = .ok (.iload_n 1, 1) := by decide +kernel
theorem dX6_ofLeg_2 : decode cX6_ofLeg 2 = .ok (.iload_n 2, 1) := by decide +kernel
theorem dX6_ofLeg_3 : decode cX6_ofLeg 3 = .ok (.iload_n 3, 1) := by decide +kernel
theorem dX6_ofLeg_4 : decode cX6_ofLeg 4 = .ok (.invokestatic 66, 3) := by decide +kernel
theorem dX6_ofLeg_7 : decode cX6_ofLeg 7 = .ok (.invokevirtual 70, 3) := by decide +kernel
theorem dX6_ofLeg_10 : decode cX6_ofLeg 10 = .ok (.ireturn, 1) := by decide +kernel
theorem dX6_type_0 : decode cX6_type 0 = .ok (.iload_n 1, 1) := by decide +kernel
theorem dX6_type_1 : decode cX6_type 1 = .ok (.iconst 0, 1) := by decide +kernel
theorem dX6_type_2 : decode cX6_type 2 = .ok (.sipush 255, 3) := by decide +kernel
theorem dX6_type_5 : decode cX6_type 5 = .ok (.invokestatic 62, 3) := by decide +kernel
theorem dX6_type_8 : decode cX6_type 8 = .ok (.ifCond .ne 5, 3) := by decide +kernel
theorem dX6_type_11 : decode cX6_type 11 = .ok (.iconst (-1), 1) := by decide +kernel
theorem dX6_type_12 : decode cX6_type 12 = .ok (.ireturn, 1) := by decide +kernel
theorem dX6_type_13 : decode cX6_type 13 = .ok (.aload_n 0, 1) := by decide +kernel
theorem dX6_type_14 : decode cX6_type 14 = .ok (.getfield 73, 3) := by decide +kernel
theorem dX6_type_17 : decode cX6_type 17 = .ok (.sipush 150, 3) := by decide +kernel
theorem dX6_type_20 : decode cX6_type 20 = .ok (.if_icmp .ne 6, 3) := by decide +kernel
theorem dX6_type_23 : decode cX6_type 23 = .ok (.bipush (-3), 2) := by decide +kernel
theorem dX6_type_25 : decode cX6_type 25 = .ok (.ireturn, 1) := by decide +kernel
theorem dX6_type_26 : decode cX6_type 26 = .ok (.aload_n 0, 1) := by decide +kernel
theorem dX6_type_27 : decode cX6_type 27 = .ok (.getfield 23, 3) := by decide +kernel
theorem dX6_type_30 : decode cX6_type 30 = .ok (.aload_n 0, 1) := by decide +kernel
theorem dX6_type_31 : decode cX6_type 31 = .ok (.getfield 73, 3) := by decide +kernel
theorem dX6_type_34 : decode cX6_type 34 = .ok (.iload_n 1, 1) := by decide +kernel
theorem dX6_type_35 : decode cX6_type 35 = .ok (.iastore, 1) := by decide +kernel
theorem dX6_type_36 : decode cX6_type 36 = .ok (.aload_n 0, 1) := by decide +kernel
theorem dX6_type_37 : decode cX6_type 37 = .ok (.dup, 1) := by decide +kernel
theorem dX6_type_38 : decode cX6_type 38 = .ok (.getfield 73, 3) := by decide +kernel
theorem dX6_type_41 : decode cX6_type 41 = .ok (.iconst 1, 1) := by decide +kernel
theorem dX6_type_42 : decode cX6_type 42 = .ok (.iadd, 1) := by decide +kernel
theorem dX6_type_43 : decode cX6_type 43 = .ok (.putfield 73, 3) := by decide +kernel
theorem dX6_type_46 : decode cX6_type 46 = .ok (.aload_n 0, 1) := by decide +kernel
theorem dX6_type_47 : decode cX6_type 47 = .ok (.getfield 73, 3) := by decide +kernel
theorem dX6_type_50 : decode cX6_type 50 = .ok (.ireturn, 1) := by decide +kernel
theorem dX6_clear_0 : decode cX6_clear 0 = .ok (.aload_n 0, 1) := by decide +kernel
theorem dX6_clear_1 : decode cX6_clear 1 = .ok (.getfield 73, 3) := by decide +kernel
theorem dX6_clear_4 : decode cX6_clear 4 = .ok (.istore_n 1, 1) := by decide +kernel
theorem dX6_clear_5 : decode cX6_clear 5 = .ok (.aload_n 0, 1) := by decide +kernel
theorem dX6_clear_6 : decode cX6_clear 6 = .ok (.iconst 0, 1) := by decide +kernel
theorem dX6_clear_7 : decode cX6_clear 7 = .ok (.putfield 73, 3) := by decide +kernel
theorem dX6_clear_10 : decode cX6_clear 10 = .ok (.iload_n 1, 1) := by decide +kernel
theorem dX6_clear_11 : decode cX6_clear 11 = .ok (.ireturn, 1) := by decide +kernel
theorem dX6_blanks_0 : decode cX6_blanks 0 = .ok (.aload_n 0, 1) := by decide +kernel
theorem dX6_blanks_1 : decode cX6_blanks 1 = .ok (.getfield 76, 3) := by decide +kernel
theorem dX6_blanks_4 : decode cX6_blanks 4 = .ok (.aload_n 0, 1) := by decide +kernel
theorem dX6_blanks_5 : decode cX6_blanks 5 = .ok (.getfield 73, 3) := by decide +kernel
theorem dX6_blanks_8 : decode cX6_blanks 8 = .ok (.if_icmp .ge 30, 3) := by decide +kernel
theorem dX6_blanks_11 : decode cX6_blanks 11 = .ok (.aload_n 0, 1) := by decide +kernel
theorem dX6_blanks_12 : decode cX6_blanks 12 = .ok (.getfield 23, 3) := by decide +kernel
theorem dX6_blanks_15 : decode cX6_blanks 15 = .ok (.aload_n 0, 1) := by decide +kernel
theorem dX6_blanks_16 : decode cX6_blanks 16 = .ok (.getfield 76, 3) := by decide +kernel
theorem dX6_blanks_19 : decode cX6_blanks 19 = .ok (.iaload, 1) := by decide +kernel
theorem dX6_blanks_20 : decode cX6_blanks 20 = .ok (.bipush 32, 2) := by decide +kernel
theorem dX6_blanks_22 : decode cX6_blanks 22 = .ok (.if_icmp .ne 16, 3) := by decide +kernel
theorem dX6_blanks_25 : decode cX6_blanks 25 = .ok (.aload_n 0, 1) := by decide +kernel
theorem dX6_blanks_26 : decode cX6_blanks 26 = .ok (.dup, 1) := by decide +kernel
theorem dX6_blanks_27 : decode cX6_blanks 27 = .ok (.getfield 76, 3) := by decide +kernel
theorem dX6_blanks_30 : decode cX6_blanks 30 = .ok (.iconst 1, 1) := by decide +kernel
theorem dX6_blanks_31 : decode cX6_blanks 31 = .ok (.iadd, 1) := by decide +kernel
theorem dX6_blanks_32 : decode cX6_blanks 32 = .ok (.putfield 76, 3) := by decide +kernel
theorem dX6_blanks_35 : decode cX6_blanks 35 = .ok (.goto (-35), 3) := by decide +kernel
theorem dX6_blanks_38 : decode cX6_blanks 38 = .ok (.aload_n 0, 1) := by decide +kernel
theorem dX6_blanks_39 : decode cX6_blanks 39 = .ok (.aload_n 0, 1) := by decide +kernel
theorem dX6_blanks_40 : decode cX6_blanks 40 = .ok (.getfield 76, 3) := by decide +kernel
