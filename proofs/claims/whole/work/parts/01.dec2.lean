theorem dX6_blanks_43 : decode cX6_blanks 43 = .ok (.putfield 79, 3) := by decide +kernel
theorem dX6_blanks_46 : decode cX6_blanks 46 = .ok (.return_, 1) := by decide +kernel
theorem dX6_isAt_0 : decode cX6_isAt 0 = .ok (.aload_n 0, 1) := by decide +kernel
theorem dX6_isAt_1 : decode cX6_isAt 1 = .ok (.getfield 76, 3) := by decide +kernel
theorem dX6_isAt_4 : decode cX6_isAt 4 = .ok (.aload_n 0, 1) := by decide +kernel
theorem dX6_isAt_5 : decode cX6_isAt 5 = .ok (.getfield 73, 3) := by decide +kernel
theorem dX6_isAt_8 : decode cX6_isAt 8 = .ok (.if_icmp .ge 24, 3) := by decide +kernel
theorem dX6_isAt_11 : decode cX6_isAt 11 = .ok (.aload_n 0, 1) := by decide +kernel
theorem dX6_isAt_12 : decode cX6_isAt 12 = .ok (.getfield 23, 3) := by decide +kernel
theorem dX6_isAt_15 : decode cX6_isAt 15 = .ok (.aload_n 0, 1) := by decide +kernel
theorem dX6_isAt_16 : decode cX6_isAt 16 = .ok (.getfield 76, 3) := by decide +kernel
theorem dX6_isAt_19 : decode cX6_isAt 19 = .ok (.iaload, 1) := by decide +kernel
theorem dX6_isAt_20 : decode cX6_isAt 20 = .ok (.iload_n 1, 1) := by decide +kernel
theorem dX6_isAt_21 : decode cX6_isAt 21 = .ok (.iload_n 2, 1) := by decide +kernel
theorem dX6_isAt_22 : decode cX6_isAt 22 = .ok (.invokestatic 62, 3) := by decide +kernel
theorem dX6_isAt_25 : decode cX6_isAt 25 = .ok (.ifCond .eq 7, 3) := by decide +kernel
theorem dX6_isAt_28 : decode cX6_isAt 28 = .ok (.iconst 1, 1) := by decide +kernel
theorem dX6_isAt_29 : decode cX6_isAt 29 = .ok (.goto 4, 3) := by decide +kernel
theorem dX6_isAt_32 : decode cX6_isAt 32 = .ok (.iconst 0, 1) := by decide +kernel
theorem dX6_isAt_33 : decode cX6_isAt 33 = .ok (.ireturn, 1) := by decide +kernel
theorem dX6_takesNumber_0 : decode cX6_takesNumber 0 = .ok (.aload_n 0, 1) := by decide +kernel
theorem dX6_takesNumber_1 : decode cX6_takesNumber 1 = .ok (.invokevirtual 82, 3) := by decide +kernel
theorem dX6_takesNumber_4 : decode cX6_takesNumber 4 = .ok (.aload_n 0, 1) := by decide +kernel
theorem dX6_takesNumber_5 : decode cX6_takesNumber 5 = .ok (.iconst 0, 1) := by decide +kernel
theorem dX6_takesNumber_6 : decode cX6_takesNumber 6 = .ok (.putfield 85, 3) := by decide +kernel
theorem dX6_takesNumber_9 : decode cX6_takesNumber 9 = .ok (.aload_n 0, 1) := by decide +kernel
theorem dX6_takesNumber_10 : decode cX6_takesNumber 10 = .ok (.bipush 48, 2) := by decide +kernel
theorem dX6_takesNumber_12 : decode cX6_takesNumber 12 = .ok (.bipush 57, 2) := by decide +kernel
theorem dX6_takesNumber_14 : decode cX6_takesNumber 14 = .ok (.invokevirtual 88, 3) := by decide +kernel
theorem dX6_takesNumber_17 : decode cX6_takesNumber 17 = .ok (.ifCond .eq 56, 3) := by decide +kernel
theorem dX6_takesNumber_20 : decode cX6_takesNumber 20 = .ok (.aload_n 0, 1) := by decide +kernel
theorem dX6_takesNumber_21 : decode cX6_takesNumber 21 = .ok (.aload_n 0, 1) := by decide +kernel
theorem dX6_takesNumber_22 : decode cX6_takesNumber 22 = .ok (.getfield 85, 3) := by decide +kernel
theorem dX6_takesNumber_25 : decode cX6_takesNumber 25 = .ok (.sipush 999, 3) := by decide +kernel
theorem dX6_takesNumber_28 : decode cX6_takesNumber 28 = .ok (.if_icmp .le 9, 3) := by decide +kernel
theorem dX6_takesNumber_31 : decode cX6_takesNumber 31 = .ok (.sipush 1000, 3) := by decide +kernel
theorem dX6_takesNumber_34 : decode cX6_takesNumber 34 = .ok (.goto 23, 3) := by decide +kernel
theorem dX6_takesNumber_37 : decode cX6_takesNumber 37 = .ok (.bipush 10, 2) := by decide +kernel
theorem dX6_takesNumber_39 : decode cX6_takesNumber 39 = .ok (.aload_n 0, 1) := by decide +kernel
theorem dX6_takesNumber_40 : decode cX6_takesNumber 40 = .ok (.getfield 85, 3) := by decide +kernel
theorem dX6_takesNumber_43 : decode cX6_takesNumber 43 = .ok (.imul, 1) := by decide +kernel
theorem dX6_takesNumber_44 : decode cX6_takesNumber 44 = .ok (.aload_n 0, 1) := by decide +kernel
theorem dX6_takesNumber_45 : decode cX6_takesNumber 45 = .ok (.getfield 23, 3) := by decide +kernel
theorem dX6_takesNumber_48 : decode cX6_takesNumber 48 = .ok (.aload_n 0, 1) := by decide +kernel
theorem dX6_takesNumber_49 : decode cX6_takesNumber 49 = .ok (.getfield 76, 3) := by decide +kernel
theorem dX6_takesNumber_52 : decode cX6_takesNumber 52 = .ok (.iaload, 1) := by decide +kernel
theorem dX6_takesNumber_53 : decode cX6_takesNumber 53 = .ok (.iadd, 1) := by decide +kernel
theorem dX6_takesNumber_54 : decode cX6_takesNumber 54 = .ok (.bipush 48, 2) := by decide +kernel
theorem dX6_takesNumber_56 : decode cX6_takesNumber 56 = .ok (.isub, 1) := by decide +kernel
theorem dX6_takesNumber_57 : decode cX6_takesNumber 57 = .ok (.putfield 85, 3) := by decide +kernel
theorem dX6_takesNumber_60 : decode cX6_takesNumber 60 = .ok (.aload_n 0, 1) := by decide +kernel
theorem dX6_takesNumber_61 : decode cX6_takesNumber 61 = .ok (.dup, 1) := by decide +kernel
theorem dX6_takesNumber_62 : decode cX6_takesNumber 62 = .ok (.getfield 76, 3) := by decide +kernel
theorem dX6_takesNumber_65 : decode cX6_takesNumber 65 = .ok (.iconst 1, 1) := by decide +kernel
theorem dX6_takesNumber_66 : decode cX6_takesNumber 66 = .ok (.iadd, 1) := by decide +kernel
theorem dX6_takesNumber_67 : decode cX6_takesNumber 67 = .ok (.putfield 76, 3) := by decide +kernel
theorem dX6_takesNumber_70 : decode cX6_takesNumber 70 = .ok (.goto (-61), 3) := by decide +kernel
theorem dX6_takesNumber_73 : decode cX6_takesNumber 73 = .ok (.aload_n 0, 1) := by decide +kernel
theorem dX6_takesNumber_74 : decode cX6_takesNumber 74 = .ok (.getfield 76, 3) := by decide +kernel
theorem dX6_takesNumber_77 : decode cX6_takesNumber 77 = .ok (.aload_n 0, 1) := by decide +kernel
theorem dX6_takesNumber_78 : decode cX6_takesNumber 78 = .ok (.getfield 79, 3) := by decide +kernel
theorem dX6_takesNumber_81 : decode cX6_takesNumber 81 = .ok (.iconst 1, 1) := by decide +kernel
theorem dX6_takesNumber_82 : decode cX6_takesNumber 82 = .ok (.iadd, 1) := by decide +kernel
theorem dX6_takesNumber_83 : decode cX6_takesNumber 83 = .ok (.if_icmp .eq 28, 3) := by decide +kernel
theorem dX6_takesNumber_86 : decode cX6_takesNumber 86 = .ok (.aload_n 0, 1) := by decide +kernel
theorem dX6_takesNumber_87 : decode cX6_takesNumber 87 = .ok (.getfield 76, 3) := by decide +kernel
theorem dX6_takesNumber_90 : decode cX6_takesNumber 90 = .ok (.aload_n 0, 1) := by decide +kernel
theorem dX6_takesNumber_91 : decode cX6_takesNumber 91 = .ok (.getfield 79, 3) := by decide +kernel
theorem dX6_takesNumber_94 : decode cX6_takesNumber 94 = .ok (.if_icmp .le 21, 3) := by decide +kernel
theorem dX6_takesNumber_97 : decode cX6_takesNumber 97 = .ok (.aload_n 0, 1) := by decide +kernel
theorem dX6_takesNumber_98 : decode cX6_takesNumber 98 = .ok (.getfield 23, 3) := by decide +kernel
theorem dX6_takesNumber_101 : decode cX6_takesNumber 101 = .ok (.aload_n 0, 1) := by decide +kernel
theorem dX6_takesNumber_102 : decode cX6_takesNumber 102 = .ok (.getfield 79, 3) := by decide +kernel
theorem dX6_takesNumber_105 : decode cX6_takesNumber 105 = .ok (.iaload, 1) := by decide +kernel
theorem dX6_takesNumber_106 : decode cX6_takesNumber 106 = .ok (.bipush 48, 2) := by decide +kernel
theorem dX6_takesNumber_108 : decode cX6_takesNumber 108 = .ok (.if_icmp .eq 7, 3) := by decide +kernel
theorem dX6_takesNumber_111 : decode cX6_takesNumber 111 = .ok (.iconst 1, 1) := by decide +kernel
theorem dX6_takesNumber_112 : decode cX6_takesNumber 112 = .ok (.goto 4, 3) := by decide +kernel
theorem dX6_takesNumber_115 : decode cX6_takesNumber 115 = .ok (.iconst 0, 1) := by decide +kernel
theorem dX6_takesNumber_116 : decode cX6_takesNumber 116 = .ok (.istore_n 3, 1) := by decide +kernel
theorem dX6_takesNumber_117 : decode cX6_takesNumber 117 = .ok (.iload_n 3, 1) := by decide +kernel
theorem dX6_takesNumber_118 : decode cX6_takesNumber 118 = .ok (.ifCond .eq 29, 3) := by decide +kernel
theorem dX6_takesNumber_121 : decode cX6_takesNumber 121 = .ok (.aload_n 0, 1) := by decide +kernel
theorem dX6_takesNumber_122 : decode cX6_takesNumber 122 = .ok (.getfield 85, 3) := by decide +kernel
theorem dX6_takesNumber_125 : decode cX6_takesNumber 125 = .ok (.iload_n 1, 1) := by decide +kernel
theorem dX6_takesNumber_126 : decode cX6_takesNumber 126 = .ok (.iload_n 2, 1) := by decide +kernel
theorem dX6_takesNumber_127 : decode cX6_takesNumber 127 = .ok (.invokestatic 62, 3) := by decide +kernel
theorem dX6_takesNumber_130 : decode cX6_takesNumber 130 = .ok (.ifCond .eq 17, 3) := by decide +kernel
theorem dX6_takesNumber_133 : decode cX6_takesNumber 133 = .ok (.aload_n 0, 1) := by decide +kernel
theorem dX6_takesNumber_134 : decode cX6_takesNumber 134 = .ok (.getfield 85, 3) := by decide +kernel
theorem dX6_takesNumber_137 : decode cX6_takesNumber 137 = .ok (.sipush 999, 3) := by decide +kernel
theorem dX6_takesNumber_140 : decode cX6_takesNumber 140 = .ok (.if_icmp .gt 7, 3) := by decide +kernel
theorem dX6_takesNumber_143 : decode cX6_takesNumber 143 = .ok (.iconst 1, 1) := by decide +kernel
theorem dX6_takesNumber_144 : decode cX6_takesNumber 144 = .ok (.goto 4, 3) := by decide +kernel
theorem dX6_takesNumber_147 : decode cX6_takesNumber 147 = .ok (.iconst 0, 1) := by decide +kernel
theorem dX6_takesNumber_148 : decode cX6_takesNumber 148 = .ok (.ireturn, 1) := by decide +kernel
theorem dX6_takesStop_0 : decode cX6_takesStop 0 = .ok (.aload_n 0, 1) := by decide +kernel
theorem dX6_takesStop_1 : decode cX6_takesStop 1 = .ok (.invokevirtual 82, 3) := by decide +kernel
theorem dX6_takesStop_4 : decode cX6_takesStop 4 = .ok (.aload_n 0, 1) := by decide +kernel
theorem dX6_takesStop_5 : decode cX6_takesStop 5 = .ok (.bipush 59, 2) := by decide +kernel
theorem dX6_takesStop_7 : decode cX6_takesStop 7 = .ok (.bipush 59, 2) := by decide +kernel
theorem dX6_takesStop_9 : decode cX6_takesStop 9 = .ok (.invokevirtual 88, 3) := by decide +kernel
theorem dX6_takesStop_12 : decode cX6_takesStop 12 = .ok (.istore_n 1, 1) := by decide +kernel
theorem dX6_takesStop_13 : decode cX6_takesStop 13 = .ok (.aload_n 0, 1) := by decide +kernel
theorem dX6_takesStop_14 : decode cX6_takesStop 14 = .ok (.dup, 1) := by decide +kernel
theorem dX6_takesStop_15 : decode cX6_takesStop 15 = .ok (.getfield 76, 3) := by decide +kernel
theorem dX6_takesStop_18 : decode cX6_takesStop 18 = .ok (.iload_n 1, 1) := by decide +kernel
theorem dX6_takesStop_19 : decode cX6_takesStop 19 = .ok (.ifCond .eq 7, 3) := by decide +kernel
theorem dX6_takesStop_22 : decode cX6_takesStop 22 = .ok (.iconst 1, 1) := by decide +kernel
theorem dX6_takesStop_23 : decode cX6_takesStop 23 = .ok (.goto 4, 3) := by decide +kernel
theorem dX6_takesStop_26 : decode cX6_takesStop 26 = .ok (.iconst 0, 1) := by decide +kernel
theorem dX6_takesStop_27 : decode cX6_takesStop 27 = .ok (.iadd, 1) := by decide +kernel
theorem dX6_takesStop_28 : decode cX6_takesStop 28 = .ok (.putfield 76, 3) := by decide +kernel
theorem dX6_takesStop_31 : decode cX6_takesStop 31 = .ok (.iload_n 1, 1) := by decide +kernel
theorem dX6_takesStop_32 : decode cX6_takesStop 32 = .ok (.ireturn, 1) := by decide +kernel
theorem dX6_takesLeg_0 : decode cX6_takesLeg 0 = .ok (.aload_n 0, 1) := by decide +kernel
theorem dX6_takesLeg_1 : decode cX6_takesLeg 1 = .ok (.getfield 29, 3) := by decide +kernel
theorem dX6_takesLeg_4 : decode cX6_takesLeg 4 = .ok (.iconst 0, 1) := by decide +kernel
theorem dX6_takesLeg_5 : decode cX6_takesLeg 5 = .ok (.iaload, 1) := by decide +kernel
theorem dX6_takesLeg_6 : decode cX6_takesLeg 6 = .ok (.istore_n 1, 1) := by decide +kernel
theorem dX6_takesLeg_7 : decode cX6_takesLeg 7 = .ok (.iload_n 1, 1) := by decide +kernel
theorem dX6_takesLeg_8 : decode cX6_takesLeg 8 = .ok (.bipush 6, 2) := by decide +kernel
theorem dX6_takesLeg_10 : decode cX6_takesLeg 10 = .ok (.if_icmp .ne 5, 3) := by decide +kernel
theorem dX6_takesLeg_13 : decode cX6_takesLeg 13 = .ok (.iconst 0, 1) := by decide +kernel
theorem dX6_takesLeg_14 : decode cX6_takesLeg 14 = .ok (.ireturn, 1) := by decide +kernel
theorem dX6_takesLeg_15 : decode cX6_takesLeg 15 = .ok (.aload_n 0, 1) := by decide +kernel
theorem dX6_takesLeg_16 : decode cX6_takesLeg 16 = .ok (.dup, 1) := by decide +kernel
theorem dX6_takesLeg_17 : decode cX6_takesLeg 17 = .ok (.getfield 76, 3) := by decide +kernel
theorem dX6_takesLeg_20 : decode cX6_takesLeg 20 = .ok (.iconst 1, 1) := by decide +kernel
theorem dX6_takesLeg_21 : decode cX6_takesLeg 21 = .ok (.iadd, 1) := by decide +kernel
theorem dX6_takesLeg_22 : decode cX6_takesLeg 22 = .ok (.putfield 76, 3) := by decide +kernel
theorem dX6_takesLeg_25 : decode cX6_takesLeg 25 = .ok (.iconst 0, 1) := by decide +kernel
theorem dX6_takesLeg_26 : decode cX6_takesLeg 26 = .ok (.istore_n 2, 1) := by decide +kernel
theorem dX6_takesLeg_27 : decode cX6_takesLeg 27 = .ok (.iload_n 2, 1) := by decide +kernel
theorem dX6_takesLeg_28 : decode cX6_takesLeg 28 = .ok (.iconst 4, 1) := by decide +kernel
theorem dX6_takesLeg_29 : decode cX6_takesLeg 29 = .ok (.if_icmp .ge 83, 3) := by decide +kernel
theorem dX6_takesLeg_32 : decode cX6_takesLeg 32 = .ok (.iload_n 2, 1) := by decide +kernel
theorem dX6_takesLeg_33 : decode cX6_takesLeg 33 = .ok (.ifCond .ne 7, 3) := by decide +kernel
theorem dX6_takesLeg_36 : decode cX6_takesLeg 36 = .ok (.iconst 1, 1) := by decide +kernel
theorem dX6_takesLeg_37 : decode cX6_takesLeg 37 = .ok (.goto 22, 3) := by decide +kernel
theorem dX6_takesLeg_40 : decode cX6_takesLeg 40 = .ok (.iload_n 2, 1) := by decide +kernel
theorem dX6_takesLeg_41 : decode cX6_takesLeg 41 = .ok (.iconst 3, 1) := by decide +kernel
theorem dX6_takesLeg_42 : decode cX6_takesLeg 42 = .ok (.if_icmp .ne 16, 3) := by decide +kernel
theorem dX6_takesLeg_45 : decode cX6_takesLeg 45 = .ok (.aload_n 0, 1) := by decide +kernel
theorem dX6_takesLeg_46 : decode cX6_takesLeg 46 = .ok (.getfield 29, 3) := by decide +kernel
theorem dX6_takesLeg_49 : decode cX6_takesLeg 49 = .ok (.iload_n 1, 1) := by decide +kernel
theorem dX6_takesLeg_50 : decode cX6_takesLeg 50 = .ok (.iconst 2, 1) := by decide +kernel
theorem dX6_takesLeg_51 : decode cX6_takesLeg 51 = .ok (.invokestatic 66, 3) := by decide +kernel
theorem dX6_takesLeg_54 : decode cX6_takesLeg 54 = .ok (.iaload, 1) := by decide +kernel
theorem dX6_takesLeg_55 : decode cX6_takesLeg 55 = .ok (.goto 4, 3) := by decide +kernel
theorem dX6_takesLeg_58 : decode cX6_takesLeg 58 = .ok (.iconst 0, 1) := by decide +kernel
theorem dX6_takesLeg_59 : decode cX6_takesLeg 59 = .ok (.istore_n 3, 1) := by decide +kernel
theorem dX6_takesLeg_60 : decode cX6_takesLeg 60 = .ok (.aload_n 0, 1) := by decide +kernel
theorem dX6_takesLeg_61 : decode cX6_takesLeg 61 = .ok (.iload_n 3, 1) := by decide +kernel
theorem dX6_takesLeg_62 : decode cX6_takesLeg 62 = .ok (.iload_n 2, 1) := by decide +kernel
theorem dX6_takesLeg_63 : decode cX6_takesLeg 63 = .ok (.ifCond .ne 8, 3) := by decide +kernel
theorem dX6_takesLeg_66 : decode cX6_takesLeg 66 = .ok (.bipush 99, 2) := by decide +kernel
theorem dX6_takesLeg_68 : decode cX6_takesLeg 68 = .ok (.goto 16, 3) := by decide +kernel
theorem dX6_takesLeg_71 : decode cX6_takesLeg 71 = .ok (.iload_n 2, 1) := by decide +kernel
theorem dX6_takesLeg_72 : decode cX6_takesLeg 72 = .ok (.iconst 1, 1) := by decide +kernel
theorem dX6_takesLeg_73 : decode cX6_takesLeg 73 = .ok (.if_icmp .ne 8, 3) := by decide +kernel
theorem dX6_takesLeg_76 : decode cX6_takesLeg 76 = .ok (.bipush 9, 2) := by decide +kernel
theorem dX6_takesLeg_78 : decode cX6_takesLeg 78 = .ok (.goto 6, 3) := by decide +kernel
theorem dX6_takesLeg_81 : decode cX6_takesLeg 81 = .ok (.sipush 999, 3) := by decide +kernel
theorem dX6_takesLeg_84 : decode cX6_takesLeg 84 = .ok (.invokevirtual 92, 3) := by decide +kernel
theorem dX6_takesLeg_87 : decode cX6_takesLeg 87 = .ok (.ifCond .ne 5, 3) := by decide +kernel
theorem dX6_takesLeg_90 : decode cX6_takesLeg 90 = .ok (.iconst 0, 1) := by decide +kernel
theorem dX6_takesLeg_91 : decode cX6_takesLeg 91 = .ok (.ireturn, 1) := by decide +kernel
theorem dX6_takesLeg_92 : decode cX6_takesLeg 92 = .ok (.aload_n 0, 1) := by decide +kernel
theorem dX6_takesLeg_93 : decode cX6_takesLeg 93 = .ok (.getfield 29, 3) := by decide +kernel
theorem dX6_takesLeg_96 : decode cX6_takesLeg 96 = .ok (.iload_n 1, 1) := by decide +kernel
theorem dX6_takesLeg_97 : decode cX6_takesLeg 97 = .ok (.iload_n 2, 1) := by decide +kernel
theorem dX6_takesLeg_98 : decode cX6_takesLeg 98 = .ok (.invokestatic 66, 3) := by decide +kernel
theorem dX6_takesLeg_101 : decode cX6_takesLeg 101 = .ok (.aload_n 0, 1) := by decide +kernel
theorem dX6_takesLeg_102 : decode cX6_takesLeg 102 = .ok (.getfield 85, 3) := by decide +kernel
theorem dX6_takesLeg_105 : decode cX6_takesLeg 105 = .ok (.iastore, 1) := by decide +kernel
theorem dX6_takesLeg_106 : decode cX6_takesLeg 106 = .ok (.iinc 2 1, 3) := by decide +kernel
theorem dX6_takesLeg_109 : decode cX6_takesLeg 109 = .ok (.goto (-82), 3) := by decide +kernel
theorem dX6_takesLeg_112 : decode cX6_takesLeg 112 = .ok (.aload_n 0, 1) := by decide +kernel
theorem dX6_takesLeg_113 : decode cX6_takesLeg 113 = .ok (.getfield 29, 3) := by decide +kernel
theorem dX6_takesLeg_116 : decode cX6_takesLeg 116 = .ok (.iconst 0, 1) := by decide +kernel
theorem dX6_takesLeg_117 : decode cX6_takesLeg 117 = .ok (.dup2, 1) := by decide +kernel
theorem dX6_takesLeg_118 : decode cX6_takesLeg 118 = .ok (.iaload, 1) := by decide +kernel
theorem dX6_takesLeg_119 : decode cX6_takesLeg 119 = .ok (.iconst 1, 1) := by decide +kernel
theorem dX6_takesLeg_120 : decode cX6_takesLeg 120 = .ok (.iadd, 1) := by decide +kernel
theorem dX6_takesLeg_121 : decode cX6_takesLeg 121 = .ok (.iastore, 1) := by decide +kernel
theorem dX6_takesLeg_122 : decode cX6_takesLeg 122 = .ok (.aload_n 0, 1) := by decide +kernel
theorem dX6_takesLeg_123 : decode cX6_takesLeg 123 = .ok (.invokevirtual 95, 3) := by decide +kernel
theorem dX6_takesLeg_126 : decode cX6_takesLeg 126 = .ok (.ireturn, 1) := by decide +kernel
theorem dX6_takesFastest_0 : decode cX6_takesFastest 0 = .ok (.aload_n 0, 1) := by decide +kernel
theorem dX6_takesFastest_1 : decode cX6_takesFastest 1 = .ok (.getfield 99, 3) := by decide +kernel
theorem dX6_takesFastest_4 : decode cX6_takesFastest 4 = .ok (.ifCond .eq 5, 3) := by decide +kernel
theorem dX6_takesFastest_7 : decode cX6_takesFastest 7 = .ok (.iconst 0, 1) := by decide +kernel
theorem dX6_takesFastest_8 : decode cX6_takesFastest 8 = .ok (.ireturn, 1) := by decide +kernel
theorem dX6_takesFastest_9 : decode cX6_takesFastest 9 = .ok (.aload_n 0, 1) := by decide +kernel
theorem dX6_takesFastest_10 : decode cX6_takesFastest 10 = .ok (.iconst 1, 1) := by decide +kernel
theorem dX6_takesFastest_11 : decode cX6_takesFastest 11 = .ok (.putfield 99, 3) := by decide +kernel
theorem dX6_takesFastest_14 : decode cX6_takesFastest 14 = .ok (.aload_n 0, 1) := by decide +kernel
theorem dX6_takesFastest_15 : decode cX6_takesFastest 15 = .ok (.dup, 1) := by decide +kernel
theorem dX6_takesFastest_16 : decode cX6_takesFastest 16 = .ok (.getfield 76, 3) := by decide +kernel
theorem dX6_takesFastest_19 : decode cX6_takesFastest 19 = .ok (.iconst 1, 1) := by decide +kernel
theorem dX6_takesFastest_20 : decode cX6_takesFastest 20 = .ok (.iadd, 1) := by decide +kernel
theorem dX6_takesFastest_21 : decode cX6_takesFastest 21 = .ok (.putfield 76, 3) := by decide +kernel
theorem dX6_takesFastest_24 : decode cX6_takesFastest 24 = .ok (.aload_n 0, 1) := by decide +kernel
theorem dX6_takesFastest_25 : decode cX6_takesFastest 25 = .ok (.iconst 1, 1) := by decide +kernel
theorem dX6_takesFastest_26 : decode cX6_takesFastest 26 = .ok (.bipush 60, 2) := by decide +kernel
theorem dX6_takesFastest_28 : decode cX6_takesFastest 28 = .ok (.invokevirtual 92, 3) := by decide +kernel
theorem dX6_takesFastest_31 : decode cX6_takesFastest 31 = .ok (.ifCond .ne 5, 3) := by decide +kernel
theorem dX6_takesFastest_34 : decode cX6_takesFastest 34 = .ok (.iconst 0, 1) := by decide +kernel
theorem dX6_takesFastest_35 : decode cX6_takesFastest 35 = .ok (.ireturn, 1) := by decide +kernel
theorem dX6_takesFastest_36 : decode cX6_takesFastest 36 = .ok (.aload_n 0, 1) := by decide +kernel
theorem dX6_takesFastest_37 : decode cX6_takesFastest 37 = .ok (.getfield 29, 3) := by decide +kernel
theorem dX6_takesFastest_40 : decode cX6_takesFastest 40 = .ok (.iconst 1, 1) := by decide +kernel
theorem dX6_takesFastest_41 : decode cX6_takesFastest 41 = .ok (.aload_n 0, 1) := by decide +kernel
theorem dX6_takesFastest_42 : decode cX6_takesFastest 42 = .ok (.getfield 85, 3) := by decide +kernel
theorem dX6_takesFastest_45 : decode cX6_takesFastest 45 = .ok (.iastore, 1) := by decide +kernel
theorem dX6_takesFastest_46 : decode cX6_takesFastest 46 = .ok (.aload_n 0, 1) := by decide +kernel
theorem dX6_takesFastest_47 : decode cX6_takesFastest 47 = .ok (.invokevirtual 95, 3) := by decide +kernel
theorem dX6_takesFastest_50 : decode cX6_takesFastest 50 = .ok (.ireturn, 1) := by decide +kernel
theorem dX6_takesTable_0 : decode cX6_takesTable 0 = .ok (.aload_n 0, 1) := by decide +kernel
theorem dX6_takesTable_1 : decode cX6_takesTable 1 = .ok (.getfield 103, 3) := by decide +kernel
theorem dX6_takesTable_4 : decode cX6_takesTable 4 = .ok (.ifCond .eq 5, 3) := by decide +kernel
theorem dX6_takesTable_7 : decode cX6_takesTable 7 = .ok (.iconst 0, 1) := by decide +kernel
theorem dX6_takesTable_8 : decode cX6_takesTable 8 = .ok (.ireturn, 1) := by decide +kernel
theorem dX6_takesTable_9 : decode cX6_takesTable 9 = .ok (.aload_n 0, 1) := by decide +kernel
theorem dX6_takesTable_10 : decode cX6_takesTable 10 = .ok (.iconst 1, 1) := by decide +kernel
theorem dX6_takesTable_11 : decode cX6_takesTable 11 = .ok (.putfield 103, 3) := by decide +kernel
theorem dX6_takesTable_14 : decode cX6_takesTable 14 = .ok (.aload_n 0, 1) := by decide +kernel
theorem dX6_takesTable_15 : decode cX6_takesTable 15 = .ok (.dup, 1) := by decide +kernel
theorem dX6_takesTable_16 : decode cX6_takesTable 16 = .ok (.getfield 76, 3) := by decide +kernel
theorem dX6_takesTable_19 : decode cX6_takesTable 19 = .ok (.iconst 1, 1) := by decide +kernel
theorem dX6_takesTable_20 : decode cX6_takesTable 20 = .ok (.iadd, 1) := by decide +kernel
theorem dX6_takesTable_21 : decode cX6_takesTable 21 = .ok (.putfield 76, 3) := by decide +kernel
theorem dX6_takesTable_24 : decode cX6_takesTable 24 = .ok (.iconst 0, 1) := by decide +kernel
theorem dX6_takesTable_25 : decode cX6_takesTable 25 = .ok (.istore_n 1, 1) := by decide +kernel
theorem dX6_takesTable_26 : decode cX6_takesTable 26 = .ok (.iload_n 1, 1) := by decide +kernel
theorem dX6_takesTable_27 : decode cX6_takesTable 27 = .ok (.iconst 4, 1) := by decide +kernel
theorem dX6_takesTable_28 : decode cX6_takesTable 28 = .ok (.if_icmp .ge 77, 3) := by decide +kernel
theorem dX6_takesTable_31 : decode cX6_takesTable 31 = .ok (.iload_n 1, 1) := by decide +kernel
theorem dX6_takesTable_32 : decode cX6_takesTable 32 = .ok (.ifCond .ne 7, 3) := by decide +kernel
theorem dX6_takesTable_35 : decode cX6_takesTable 35 = .ok (.iconst 0, 1) := by decide +kernel
theorem dX6_takesTable_36 : decode cX6_takesTable 36 = .ok (.goto 13, 3) := by decide +kernel
theorem dX6_takesTable_39 : decode cX6_takesTable 39 = .ok (.aload_n 0, 1) := by decide +kernel
theorem dX6_takesTable_40 : decode cX6_takesTable 40 = .ok (.getfield 29, 3) := by decide +kernel
theorem dX6_takesTable_43 : decode cX6_takesTable 43 = .ok (.iconst 5, 1) := by decide +kernel
theorem dX6_takesTable_44 : decode cX6_takesTable 44 = .ok (.iload_n 1, 1) := by decide +kernel
theorem dX6_takesTable_45 : decode cX6_takesTable 45 = .ok (.iadd, 1) := by decide +kernel
theorem dX6_takesTable_46 : decode cX6_takesTable 46 = .ok (.iconst 1, 1) := by decide +kernel
theorem dX6_takesTable_47 : decode cX6_takesTable 47 = .ok (.isub, 1) := by decide +kernel
theorem dX6_takesTable_48 : decode cX6_takesTable 48 = .ok (.iaload, 1) := by decide +kernel
theorem dX6_takesTable_49 : decode cX6_takesTable 49 = .ok (.istore_n 2, 1) := by decide +kernel
theorem dX6_takesTable_50 : decode cX6_takesTable 50 = .ok (.iload_n 1, 1) := by decide +kernel
theorem dX6_takesTable_51 : decode cX6_takesTable 51 = .ok (.iconst 2, 1) := by decide +kernel
theorem dX6_takesTable_52 : decode cX6_takesTable 52 = .ok (.if_icmp .ge 7, 3) := by decide +kernel
theorem dX6_takesTable_55 : decode cX6_takesTable 55 = .ok (.iload_n 2, 1) := by decide +kernel
theorem dX6_takesTable_56 : decode cX6_takesTable 56 = .ok (.goto 17, 3) := by decide +kernel
theorem dX6_takesTable_59 : decode cX6_takesTable 59 = .ok (.iconst 2, 1) := by decide +kernel
theorem dX6_takesTable_60 : decode cX6_takesTable 60 = .ok (.iload_n 2, 1) := by decide +kernel
theorem dX6_takesTable_61 : decode cX6_takesTable 61 = .ok (.imul, 1) := by decide +kernel
theorem dX6_takesTable_62 : decode cX6_takesTable 62 = .ok (.aload_n 0, 1) := by decide +kernel
theorem dX6_takesTable_63 : decode cX6_takesTable 63 = .ok (.getfield 29, 3) := by decide +kernel
theorem dX6_takesTable_66 : decode cX6_takesTable 66 = .ok (.iconst 5, 1) := by decide +kernel
theorem dX6_takesTable_67 : decode cX6_takesTable 67 = .ok (.iload_n 1, 1) := by decide +kernel
theorem dX6_takesTable_68 : decode cX6_takesTable 68 = .ok (.iadd, 1) := by decide +kernel
theorem dX6_takesTable_69 : decode cX6_takesTable 69 = .ok (.iconst 2, 1) := by decide +kernel
theorem dX6_takesTable_70 : decode cX6_takesTable 70 = .ok (.isub, 1) := by decide +kernel
theorem dX6_takesTable_71 : decode cX6_takesTable 71 = .ok (.iaload, 1) := by decide +kernel
theorem dX6_takesTable_72 : decode cX6_takesTable 72 = .ok (.isub, 1) := by decide +kernel
theorem dX6_takesTable_73 : decode cX6_takesTable 73 = .ok (.istore_n 3, 1) := by decide +kernel
theorem dX6_takesTable_74 : decode cX6_takesTable 74 = .ok (.aload_n 0, 1) := by decide +kernel
theorem dX6_takesTable_75 : decode cX6_takesTable 75 = .ok (.iload_n 3, 1) := by decide +kernel
theorem dX6_takesTable_76 : decode cX6_takesTable 76 = .ok (.sipush 999, 3) := by decide +kernel
theorem dX6_takesTable_79 : decode cX6_takesTable 79 = .ok (.invokevirtual 92, 3) := by decide +kernel
theorem dX6_takesTable_82 : decode cX6_takesTable 82 = .ok (.ifCond .ne 5, 3) := by decide +kernel
theorem dX6_takesTable_85 : decode cX6_takesTable 85 = .ok (.iconst 0, 1) := by decide +kernel
theorem dX6_takesTable_86 : decode cX6_takesTable 86 = .ok (.ireturn, 1) := by decide +kernel
theorem dX6_takesTable_87 : decode cX6_takesTable 87 = .ok (.aload_n 0, 1) := by decide +kernel
theorem dX6_takesTable_88 : decode cX6_takesTable 88 = .ok (.getfield 29, 3) := by decide +kernel
theorem dX6_takesTable_91 : decode cX6_takesTable 91 = .ok (.iconst 5, 1) := by decide +kernel
theorem dX6_takesTable_92 : decode cX6_takesTable 92 = .ok (.iload_n 1, 1) := by decide +kernel
theorem dX6_takesTable_93 : decode cX6_takesTable 93 = .ok (.iadd, 1) := by decide +kernel
theorem dX6_takesTable_94 : decode cX6_takesTable 94 = .ok (.aload_n 0, 1) := by decide +kernel
theorem dX6_takesTable_95 : decode cX6_takesTable 95 = .ok (.getfield 85, 3) := by decide +kernel
theorem dX6_takesTable_98 : decode cX6_takesTable 98 = .ok (.iastore, 1) := by decide +kernel
theorem dX6_takesTable_99 : decode cX6_takesTable 99 = .ok (.iinc 1 1, 3) := by decide +kernel
theorem dX6_takesTable_102 : decode cX6_takesTable 102 = .ok (.goto (-76), 3) := by decide +kernel
theorem dX6_takesTable_105 : decode cX6_takesTable 105 = .ok (.aload_n 0, 1) := by decide +kernel
theorem dX6_takesTable_106 : decode cX6_takesTable 106 = .ok (.invokevirtual 95, 3) := by decide +kernel
theorem dX6_takesTable_109 : decode cX6_takesTable 109 = .ok (.ireturn, 1) := by decide +kernel
theorem dX6_reads_0 : decode cX6_reads 0 = .ok (.aload_n 0, 1) := by decide +kernel
theorem dX6_reads_1 : decode cX6_reads 1 = .ok (.getfield 29, 3) := by decide +kernel
theorem dX6_reads_4 : decode cX6_reads 4 = .ok (.iconst 0, 1) := by decide +kernel
theorem dX6_reads_5 : decode cX6_reads 5 = .ok (.invokestatic 54, 3) := by decide +kernel
theorem dX6_reads_8 : decode cX6_reads 8 = .ok (.aload_n 0, 1) := by decide +kernel
theorem dX6_reads_9 : decode cX6_reads 9 = .ok (.iconst 0, 1) := by decide +kernel
theorem dX6_reads_10 : decode cX6_reads 10 = .ok (.putfield 99, 3) := by decide +kernel
theorem dX6_reads_13 : decode cX6_reads 13 = .ok (.aload_n 0, 1) := by decide +kernel
theorem dX6_reads_14 : decode cX6_reads 14 = .ok (.iconst 0, 1) := by decide +kernel
theorem dX6_reads_15 : decode cX6_reads 15 = .ok (.putfield 103, 3) := by decide +kernel
theorem dX6_reads_18 : decode cX6_reads 18 = .ok (.aload_n 0, 1) := by decide +kernel
theorem dX6_reads_19 : decode cX6_reads 19 = .ok (.iconst 0, 1) := by decide +kernel
theorem dX6_reads_20 : decode cX6_reads 20 = .ok (.putfield 76, 3) := by decide +kernel
theorem dX6_reads_23 : decode cX6_reads 23 = .ok (.iconst 0, 1) := by decide +kernel
theorem dX6_reads_24 : decode cX6_reads 24 = .ok (.istore_n 1, 1) := by decide +kernel
theorem dX6_reads_25 : decode cX6_reads 25 = .ok (.aload_n 0, 1) := by decide +kernel
theorem dX6_reads_26 : decode cX6_reads 26 = .ok (.invokevirtual 82, 3) := by decide +kernel
theorem dX6_reads_29 : decode cX6_reads 29 = .ok (.aload_n 0, 1) := by decide +kernel
theorem dX6_reads_30 : decode cX6_reads 30 = .ok (.getfield 76, 3) := by decide +kernel
theorem dX6_reads_33 : decode cX6_reads 33 = .ok (.aload_n 0, 1) := by decide +kernel
theorem dX6_reads_34 : decode cX6_reads 34 = .ok (.getfield 73, 3) := by decide +kernel
theorem dX6_reads_37 : decode cX6_reads 37 = .ok (.if_icmp .ge 80, 3) := by decide +kernel
theorem dX6_reads_40 : decode cX6_reads 40 = .ok (.aload_n 0, 1) := by decide +kernel
theorem dX6_reads_41 : decode cX6_reads 41 = .ok (.getfield 23, 3) := by decide +kernel
theorem dX6_reads_44 : decode cX6_reads 44 = .ok (.aload_n 0, 1) := by decide +kernel
theorem dX6_reads_45 : decode cX6_reads 45 = .ok (.getfield 76, 3) := by decide +kernel
theorem dX6_reads_48 : decode cX6_reads 48 = .ok (.iaload, 1) := by decide +kernel
theorem dX6_reads_49 : decode cX6_reads 49 = .ok (.istore_n 2, 1) := by decide +kernel
theorem dX6_reads_50 : decode cX6_reads 50 = .ok (.iload_n 2, 1) := by decide +kernel
theorem dX6_reads_51 : decode cX6_reads 51 = .ok (.bipush 108, 2) := by decide +kernel
theorem dX6_reads_53 : decode cX6_reads 53 = .ok (.if_icmp .ne 10, 3) := by decide +kernel
theorem dX6_reads_56 : decode cX6_reads 56 = .ok (.aload_n 0, 1) := by decide +kernel
theorem dX6_reads_57 : decode cX6_reads 57 = .ok (.invokevirtual 106, 3) := by decide +kernel
theorem dX6_reads_60 : decode cX6_reads 60 = .ok (.goto 34, 3) := by decide +kernel
theorem dX6_reads_63 : decode cX6_reads 63 = .ok (.iload_n 2, 1) := by decide +kernel
theorem dX6_reads_64 : decode cX6_reads 64 = .ok (.bipush 118, 2) := by decide +kernel
theorem dX6_reads_66 : decode cX6_reads 66 = .ok (.if_icmp .ne 10, 3) := by decide +kernel
theorem dX6_reads_69 : decode cX6_reads 69 = .ok (.aload_n 0, 1) := by decide +kernel
theorem dX6_reads_70 : decode cX6_reads 70 = .ok (.invokevirtual 109, 3) := by decide +kernel
theorem dX6_reads_73 : decode cX6_reads 73 = .ok (.goto 21, 3) := by decide +kernel
theorem dX6_reads_76 : decode cX6_reads 76 = .ok (.iload_n 2, 1) := by decide +kernel
theorem dX6_reads_77 : decode cX6_reads 77 = .ok (.bipush 102, 2) := by decide +kernel
theorem dX6_reads_79 : decode cX6_reads 79 = .ok (.if_icmp .ne 14, 3) := by decide +kernel
theorem dX6_reads_82 : decode cX6_reads 82 = .ok (.aload_n 0, 1) := by decide +kernel
theorem dX6_reads_83 : decode cX6_reads 83 = .ok (.invokevirtual 112, 3) := by decide +kernel
theorem dX6_reads_86 : decode cX6_reads 86 = .ok (.ifCond .eq 7, 3) := by decide +kernel
theorem dX6_reads_89 : decode cX6_reads 89 = .ok (.iconst 1, 1) := by decide +kernel
theorem dX6_reads_90 : decode cX6_reads 90 = .ok (.goto 4, 3) := by decide +kernel
theorem dX6_reads_93 : decode cX6_reads 93 = .ok (.iconst 0, 1) := by decide +kernel
theorem dX6_reads_94 : decode cX6_reads 94 = .ok (.istore_n 3, 1) := by decide +kernel
theorem dX6_reads_95 : decode cX6_reads 95 = .ok (.iload_n 3, 1) := by decide +kernel
theorem dX6_reads_96 : decode cX6_reads 96 = .ok (.ifCond .ne 11, 3) := by decide +kernel
theorem dX6_reads_99 : decode cX6_reads 99 = .ok (.bipush (-10), 2) := by decide +kernel
theorem dX6_reads_101 : decode cX6_reads 101 = .ok (.aload_n 0, 1) := by decide +kernel
theorem dX6_reads_102 : decode cX6_reads 102 = .ok (.getfield 79, 3) := by decide +kernel
theorem dX6_reads_105 : decode cX6_reads 105 = .ok (.isub, 1) := by decide +kernel
theorem dX6_reads_106 : decode cX6_reads 106 = .ok (.ireturn, 1) := by decide +kernel
theorem dX6_reads_107 : decode cX6_reads 107 = .ok (.iinc 1 1, 3) := by decide +kernel
theorem dX6_reads_110 : decode cX6_reads 110 = .ok (.aload_n 0, 1) := by decide +kernel
theorem dX6_reads_111 : decode cX6_reads 111 = .ok (.invokevirtual 82, 3) := by decide +kernel
theorem dX6_reads_114 : decode cX6_reads 114 = .ok (.goto (-85), 3) := by decide +kernel
theorem dX6_reads_117 : decode cX6_reads 117 = .ok (.iload_n 1, 1) := by decide +kernel
theorem dX6_reads_118 : decode cX6_reads 118 = .ok (.ireturn, 1) := by decide +kernel
theorem dX6_tells_0 : decode cX6_tells 0 = .ok (.iload_n 1, 1) := by decide +kernel
theorem dX6_tells_1 : decode cX6_tells 1 = .ok (.invokestatic 115, 3) := by decide +kernel
theorem dX6_tells_4 : decode cX6_tells 4 = .ok (.ifCond .ne 5, 3) := by decide +kernel
theorem dX6_tells_7 : decode cX6_tells 7 = .ok (.iconst (-1), 1) := by decide +kernel
theorem dX6_tells_8 : decode cX6_tells 8 = .ok (.ireturn, 1) := by decide +kernel
theorem dX6_tells_9 : decode cX6_tells 9 = .ok (.aload_n 0, 1) := by decide +kernel
theorem dX6_tells_10 : decode cX6_tells 10 = .ok (.invokevirtual 119, 3) := by decide +kernel
theorem dX6_tells_13 : decode cX6_tells 13 = .ok (.istore_n 2, 1) := by decide +kernel
theorem dX6_tells_14 : decode cX6_tells 14 = .ok (.iload_n 2, 1) := by decide +kernel
theorem dX6_tells_15 : decode cX6_tells 15 = .ok (.ifCond .ge 5, 3) := by decide +kernel
theorem dX6_tells_18 : decode cX6_tells 18 = .ok (.iload_n 2, 1) := by decide +kernel
theorem dX6_tells_19 : decode cX6_tells 19 = .ok (.ireturn, 1) := by decide +kernel
theorem dX6_tells_20 : decode cX6_tells 20 = .ok (.aload_n 0, 1) := by decide +kernel
theorem dX6_tells_21 : decode cX6_tells 21 = .ok (.invokevirtual 123, 3) := by decide +kernel
theorem dX6_tells_24 : decode cX6_tells 24 = .ok (.iconst 0, 1) := by decide +kernel
theorem dX6_tells_25 : decode cX6_tells 25 = .ok (.istore_n 3, 1) := by decide +kernel
theorem dX6_tells_26 : decode cX6_tells 26 = .ok (.iload_n 3, 1) := by decide +kernel
theorem dX6_tells_27 : decode cX6_tells 27 = .ok (.bipush 33, 2) := by decide +kernel
theorem dX6_tells_29 : decode cX6_tells 29 = .ok (.if_icmp .ge 26, 3) := by decide +kernel
theorem dX6_tells_32 : decode cX6_tells 32 = .ok (.aload_n 0, 1) := by decide +kernel
theorem dX6_tells_33 : decode cX6_tells 33 = .ok (.getfield 7, 3) := by decide +kernel
theorem dX6_tells_36 : decode cX6_tells 36 = .ok (.bipush 33, 2) := by decide +kernel
theorem dX6_tells_38 : decode cX6_tells 38 = .ok (.iload_n 1, 1) := by decide +kernel
theorem dX6_tells_39 : decode cX6_tells 39 = .ok (.imul, 1) := by decide +kernel
theorem dX6_tells_40 : decode cX6_tells 40 = .ok (.iload_n 3, 1) := by decide +kernel
theorem dX6_tells_41 : decode cX6_tells 41 = .ok (.iadd, 1) := by decide +kernel
theorem dX6_tells_42 : decode cX6_tells 42 = .ok (.aload_n 0, 1) := by decide +kernel
theorem dX6_tells_43 : decode cX6_tells 43 = .ok (.getfield 29, 3) := by decide +kernel
theorem dX6_tells_46 : decode cX6_tells 46 = .ok (.iload_n 3, 1) := by decide +kernel
theorem dX6_tells_47 : decode cX6_tells 47 = .ok (.iaload, 1) := by decide +kernel
theorem dX6_tells_48 : decode cX6_tells 48 = .ok (.iastore, 1) := by decide +kernel
theorem dX6_tells_49 : decode cX6_tells 49 = .ok (.iinc 3 1, 3) := by decide +kernel
theorem dX6_tells_52 : decode cX6_tells 52 = .ok (.goto (-26), 3) := by decide +kernel
theorem dX6_tells_55 : decode cX6_tells 55 = .ok (.aload_n 0, 1) := by decide +kernel
theorem dX6_tells_56 : decode cX6_tells 56 = .ok (.iconst 0, 1) := by decide +kernel
theorem dX6_tells_57 : decode cX6_tells 57 = .ok (.putfield 73, 3) := by decide +kernel
theorem dX6_tells_60 : decode cX6_tells 60 = .ok (.iload_n 2, 1) := by decide +kernel
theorem dX6_tells_61 : decode cX6_tells 61 = .ok (.ireturn, 1) := by decide +kernel
theorem dX6_lays_0 : decode cX6_lays 0 = .ok (.aload_n 0, 1) := by decide +kernel
theorem dX6_lays_1 : decode cX6_lays 1 = .ok (.iload_n 1, 1) := by decide +kernel
theorem dX6_lays_2 : decode cX6_lays 2 = .ok (.putfield 126, 3) := by decide +kernel
theorem dX6_lays_5 : decode cX6_lays 5 = .ok (.aload_n 0, 1) := by decide +kernel
theorem dX6_lays_6 : decode cX6_lays 6 = .ok (.aload_n 0, 1) := by decide +kernel
theorem dX6_lays_7 : decode cX6_lays 7 = .ok (.iload_n 1, 1) := by decide +kernel
theorem dX6_lays_8 : decode cX6_lays 8 = .ok (.iconst 2, 1) := by decide +kernel
theorem dX6_lays_9 : decode cX6_lays 9 = .ok (.invokevirtual 70, 3) := by decide +kernel
theorem dX6_lays_12 : decode cX6_lays 12 = .ok (.putfield 129, 3) := by decide +kernel
theorem dX6_lays_15 : decode cX6_lays 15 = .ok (.aload_n 0, 1) := by decide +kernel
theorem dX6_lays_16 : decode cX6_lays 16 = .ok (.aload_n 0, 1) := by decide +kernel
theorem dX6_lays_17 : decode cX6_lays 17 = .ok (.iload_n 1, 1) := by decide +kernel
theorem dX6_lays_18 : decode cX6_lays 18 = .ok (.iconst 0, 1) := by decide +kernel
theorem dX6_lays_19 : decode cX6_lays 19 = .ok (.invokevirtual 70, 3) := by decide +kernel
theorem dX6_lays_22 : decode cX6_lays 22 = .ok (.putfield 132, 3) := by decide +kernel
theorem dX6_lays_25 : decode cX6_lays 25 = .ok (.aload_n 0, 1) := by decide +kernel
theorem dX6_lays_26 : decode cX6_lays 26 = .ok (.getfield 32, 3) := by decide +kernel
theorem dX6_lays_29 : decode cX6_lays 29 = .ok (.iconst 0, 1) := by decide +kernel
theorem dX6_lays_30 : decode cX6_lays 30 = .ok (.iconst 0, 1) := by decide +kernel
theorem dX6_lays_31 : decode cX6_lays 31 = .ok (.iastore, 1) := by decide +kernel
theorem dX6_lays_32 : decode cX6_lays 32 = .ok (.iconst 0, 1) := by decide +kernel
theorem dX6_lays_33 : decode cX6_lays 33 = .ok (.istore 5, 2) := by decide +kernel
theorem dX6_lays_35 : decode cX6_lays 35 = .ok (.iconst 1, 1) := by decide +kernel
theorem dX6_lays_36 : decode cX6_lays 36 = .ok (.istore 6, 2) := by decide +kernel
theorem dX6_lays_38 : decode cX6_lays 38 = .ok (.iload 6, 2) := by decide +kernel
theorem dX6_lays_40 : decode cX6_lays 40 = .ok (.aload_n 0, 1) := by decide +kernel
theorem dX6_lays_41 : decode cX6_lays 41 = .ok (.getfield 132, 3) := by decide +kernel
theorem dX6_lays_44 : decode cX6_lays 44 = .ok (.if_icmp .gt 152, 3) := by decide +kernel
theorem dX6_lays_47 : decode cX6_lays 47 = .ok (.iload 6, 2) := by decide +kernel
theorem dX6_lays_49 : decode cX6_lays 49 = .ok (.iconst 1, 1) := by decide +kernel
theorem dX6_lays_50 : decode cX6_lays 50 = .ok (.isub, 1) := by decide +kernel
theorem dX6_lays_51 : decode cX6_lays 51 = .ok (.istore 7, 2) := by decide +kernel
theorem dX6_lays_53 : decode cX6_lays 53 = .ok (.aload_n 0, 1) := by decide +kernel
theorem dX6_lays_54 : decode cX6_lays 54 = .ok (.getfield 32, 3) := by decide +kernel
theorem dX6_lays_57 : decode cX6_lays 57 = .ok (.iload 6, 2) := by decide +kernel
theorem dX6_lays_59 : decode cX6_lays 59 = .ok (.aload_n 0, 1) := by decide +kernel
theorem dX6_lays_60 : decode cX6_lays 60 = .ok (.getfield 32, 3) := by decide +kernel
theorem dX6_lays_63 : decode cX6_lays 63 = .ok (.iload 7, 2) := by decide +kernel
theorem dX6_lays_65 : decode cX6_lays 65 = .ok (.iaload, 1) := by decide +kernel
theorem dX6_lays_66 : decode cX6_lays 66 = .ok (.aload_n 0, 1) := by decide +kernel
theorem dX6_lays_67 : decode cX6_lays 67 = .ok (.iload_n 1, 1) := by decide +kernel
theorem dX6_lays_68 : decode cX6_lays 68 = .ok (.iload 7, 2) := by decide +kernel
theorem dX6_lays_70 : decode cX6_lays 70 = .ok (.iconst 0, 1) := by decide +kernel
theorem dX6_lays_71 : decode cX6_lays 71 = .ok (.invokevirtual 135, 3) := by decide +kernel
theorem dX6_lays_74 : decode cX6_lays 74 = .ok (.iadd, 1) := by decide +kernel
theorem dX6_lays_75 : decode cX6_lays 75 = .ok (.iastore, 1) := by decide +kernel
theorem dX6_lays_76 : decode cX6_lays 76 = .ok (.aload_n 0, 1) := by decide +kernel
theorem dX6_lays_77 : decode cX6_lays 77 = .ok (.getfield 35, 3) := by decide +kernel
theorem dX6_lays_80 : decode cX6_lays 80 = .ok (.iload 6, 2) := by decide +kernel
theorem dX6_lays_82 : decode cX6_lays 82 = .ok (.iload 5, 2) := by decide +kernel
theorem dX6_lays_84 : decode cX6_lays 84 = .ok (.iastore, 1) := by decide +kernel
theorem dX6_lays_85 : decode cX6_lays 85 = .ok (.aload_n 0, 1) := by decide +kernel
theorem dX6_lays_86 : decode cX6_lays 86 = .ok (.getfield 38, 3) := by decide +kernel
theorem dX6_lays_89 : decode cX6_lays 89 = .ok (.iload 6, 2) := by decide +kernel
theorem dX6_lays_91 : decode cX6_lays 91 = .ok (.aload_n 0, 1) := by decide +kernel
theorem dX6_lays_92 : decode cX6_lays 92 = .ok (.iload_n 1, 1) := by decide +kernel
theorem dX6_lays_93 : decode cX6_lays 93 = .ok (.iload 7, 2) := by decide +kernel
theorem dX6_lays_95 : decode cX6_lays 95 = .ok (.iconst 2, 1) := by decide +kernel
theorem dX6_lays_96 : decode cX6_lays 96 = .ok (.invokevirtual 135, 3) := by decide +kernel
theorem dX6_lays_99 : decode cX6_lays 99 = .ok (.iload 5, 2) := by decide +kernel
theorem dX6_lays_101 : decode cX6_lays 101 = .ok (.isub, 1) := by decide +kernel
theorem dX6_lays_102 : decode cX6_lays 102 = .ok (.iload 6, 2) := by decide +kernel
theorem dX6_lays_104 : decode cX6_lays 104 = .ok (.iload_n 3, 1) := by decide +kernel
theorem dX6_lays_105 : decode cX6_lays 105 = .ok (.if_icmp .ne 12, 3) := by decide +kernel
theorem dX6_lays_108 : decode cX6_lays 108 = .ok (.iload 4, 2) := by decide +kernel
theorem dX6_lays_110 : decode cX6_lays 110 = .ok (.ifCond .ne 7, 3) := by decide +kernel
theorem dX6_lays_113 : decode cX6_lays 113 = .ok (.iconst 1, 1) := by decide +kernel
theorem dX6_lays_114 : decode cX6_lays 114 = .ok (.goto 4, 3) := by decide +kernel
theorem dX6_lays_117 : decode cX6_lays 117 = .ok (.iconst 0, 1) := by decide +kernel
theorem dX6_lays_118 : decode cX6_lays 118 = .ok (.isub, 1) := by decide +kernel
theorem dX6_lays_119 : decode cX6_lays 119 = .ok (.iastore, 1) := by decide +kernel
theorem dX6_lays_120 : decode cX6_lays 120 = .ok (.aload_n 0, 1) := by decide +kernel
theorem dX6_lays_121 : decode cX6_lays 121 = .ok (.getfield 41, 3) := by decide +kernel
theorem dX6_lays_124 : decode cX6_lays 124 = .ok (.iload 6, 2) := by decide +kernel
theorem dX6_lays_126 : decode cX6_lays 126 = .ok (.aload_n 0, 1) := by decide +kernel
theorem dX6_lays_127 : decode cX6_lays 127 = .ok (.iload_n 1, 1) := by decide +kernel
theorem dX6_lays_128 : decode cX6_lays 128 = .ok (.iload 7, 2) := by decide +kernel
theorem dX6_lays_130 : decode cX6_lays 130 = .ok (.iconst 3, 1) := by decide +kernel
theorem dX6_lays_131 : decode cX6_lays 131 = .ok (.invokevirtual 135, 3) := by decide +kernel
theorem dX6_lays_134 : decode cX6_lays 134 = .ok (.iload 5, 2) := by decide +kernel
theorem dX6_lays_136 : decode cX6_lays 136 = .ok (.isub, 1) := by decide +kernel
theorem dX6_lays_137 : decode cX6_lays 137 = .ok (.iload 6, 2) := by decide +kernel
theorem dX6_lays_139 : decode cX6_lays 139 = .ok (.iload_n 3, 1) := by decide +kernel
theorem dX6_lays_140 : decode cX6_lays 140 = .ok (.if_icmp .ne 13, 3) := by decide +kernel
theorem dX6_lays_143 : decode cX6_lays 143 = .ok (.iload 4, 2) := by decide +kernel
theorem dX6_lays_145 : decode cX6_lays 145 = .ok (.iconst 1, 1) := by decide +kernel
theorem dX6_lays_146 : decode cX6_lays 146 = .ok (.if_icmp .ne 7, 3) := by decide +kernel
theorem dX6_lays_149 : decode cX6_lays 149 = .ok (.iconst 1, 1) := by decide +kernel
theorem dX6_lays_150 : decode cX6_lays 150 = .ok (.goto 4, 3) := by decide +kernel
theorem dX6_lays_153 : decode cX6_lays 153 = .ok (.iconst 0, 1) := by decide +kernel
theorem dX6_lays_154 : decode cX6_lays 154 = .ok (.iadd, 1) := by decide +kernel
theorem dX6_lays_155 : decode cX6_lays 155 = .ok (.iastore, 1) := by decide +kernel
theorem dX6_lays_156 : decode cX6_lays 156 = .ok (.iload 5, 2) := by decide +kernel
theorem dX6_lays_158 : decode cX6_lays 158 = .ok (.iload 6, 2) := by decide +kernel
theorem dX6_lays_160 : decode cX6_lays 160 = .ok (.aload_n 0, 1) := by decide +kernel
theorem dX6_lays_161 : decode cX6_lays 161 = .ok (.getfield 129, 3) := by decide +kernel
theorem dX6_lays_164 : decode cX6_lays 164 = .ok (.if_icmp .le 14, 3) := by decide +kernel
theorem dX6_lays_167 : decode cX6_lays 167 = .ok (.aload_n 0, 1) := by decide +kernel
theorem dX6_lays_168 : decode cX6_lays 168 = .ok (.iload_n 1, 1) := by decide +kernel
theorem dX6_lays_169 : decode cX6_lays 169 = .ok (.iload 7, 2) := by decide +kernel
theorem dX6_lays_171 : decode cX6_lays 171 = .ok (.iconst 1, 1) := by decide +kernel
theorem dX6_lays_172 : decode cX6_lays 172 = .ok (.invokevirtual 135, 3) := by decide +kernel
theorem dX6_lays_175 : decode cX6_lays 175 = .ok (.goto 4, 3) := by decide +kernel
theorem dX6_lays_178 : decode cX6_lays 178 = .ok (.iconst 0, 1) := by decide +kernel
theorem dX6_lays_179 : decode cX6_lays 179 = .ok (.iadd, 1) := by decide +kernel
theorem dX6_lays_180 : decode cX6_lays 180 = .ok (.istore 5, 2) := by decide +kernel
theorem dX6_lays_182 : decode cX6_lays 182 = .ok (.aload_n 0, 1) := by decide +kernel
theorem dX6_lays_183 : decode cX6_lays 183 = .ok (.getfield 44, 3) := by decide +kernel
theorem dX6_lays_186 : decode cX6_lays 186 = .ok (.iload 6, 2) := by decide +kernel
theorem dX6_lays_188 : decode cX6_lays 188 = .ok (.iconst 0, 1) := by decide +kernel
theorem dX6_lays_189 : decode cX6_lays 189 = .ok (.iastore, 1) := by decide +kernel
theorem dX6_lays_190 : decode cX6_lays 190 = .ok (.iinc 6 1, 3) := by decide +kernel
theorem dX6_lays_193 : decode cX6_lays 193 = .ok (.goto (-155), 3) := by decide +kernel
theorem dX6_lays_196 : decode cX6_lays 196 = .ok (.aload_n 0, 1) := by decide +kernel
theorem dX6_lays_197 : decode cX6_lays 197 = .ok (.getfield 35, 3) := by decide +kernel
theorem dX6_lays_200 : decode cX6_lays 200 = .ok (.aload_n 0, 1) := by decide +kernel
theorem dX6_lays_201 : decode cX6_lays 201 = .ok (.getfield 129, 3) := by decide +kernel
theorem dX6_lays_204 : decode cX6_lays 204 = .ok (.iconst 0, 1) := by decide +kernel
theorem dX6_lays_205 : decode cX6_lays 205 = .ok (.iastore, 1) := by decide +kernel
theorem dX6_lays_206 : decode cX6_lays 206 = .ok (.aload_n 0, 1) := by decide +kernel
theorem dX6_lays_207 : decode cX6_lays 207 = .ok (.getfield 44, 3) := by decide +kernel
theorem dX6_lays_210 : decode cX6_lays 210 = .ok (.aload_n 0, 1) := by decide +kernel
theorem dX6_lays_211 : decode cX6_lays 211 = .ok (.getfield 129, 3) := by decide +kernel
theorem dX6_lays_214 : decode cX6_lays 214 = .ok (.iconst 3, 1) := by decide +kernel
theorem dX6_lays_215 : decode cX6_lays 215 = .ok (.iastore, 1) := by decide +kernel
theorem dX6_lays_216 : decode cX6_lays 216 = .ok (.aload_n 0, 1) := by decide +kernel
theorem dX6_lays_217 : decode cX6_lays 217 = .ok (.getfield 47, 3) := by decide +kernel
theorem dX6_lays_220 : decode cX6_lays 220 = .ok (.aload_n 0, 1) := by decide +kernel
theorem dX6_lays_221 : decode cX6_lays 221 = .ok (.getfield 129, 3) := by decide +kernel
theorem dX6_lays_224 : decode cX6_lays 224 = .ok (.aload_n 0, 1) := by decide +kernel
theorem dX6_lays_225 : decode cX6_lays 225 = .ok (.iload_n 1, 1) := by decide +kernel
theorem dX6_lays_226 : decode cX6_lays 226 = .ok (.iconst 3, 1) := by decide +kernel
theorem dX6_lays_227 : decode cX6_lays 227 = .ok (.invokevirtual 70, 3) := by decide +kernel
theorem dX6_lays_230 : decode cX6_lays 230 = .ok (.iload_n 2, 1) := by decide +kernel
theorem dX6_lays_231 : decode cX6_lays 231 = .ok (.iadd, 1) := by decide +kernel
theorem dX6_lays_232 : decode cX6_lays 232 = .ok (.i2l, 1) := by decide +kernel
theorem dX6_lays_233 : decode cX6_lays 233 = .ok (.lastore, 1) := by decide +kernel
theorem dX6_lays_234 : decode cX6_lays 234 = .ok (.aload_n 0, 1) := by decide +kernel
theorem dX6_lays_235 : decode cX6_lays 235 = .ok (.getfield 132, 3) := by decide +kernel
theorem dX6_lays_238 : decode cX6_lays 238 = .ok (.aload_n 0, 1) := by decide +kernel
theorem dX6_lays_239 : decode cX6_lays 239 = .ok (.getfield 129, 3) := by decide +kernel
theorem dX6_lays_242 : decode cX6_lays 242 = .ok (.if_icmp .le 36, 3) := by decide +kernel
theorem dX6_lays_245 : decode cX6_lays 245 = .ok (.aload_n 0, 1) := by decide +kernel
theorem dX6_lays_246 : decode cX6_lays 246 = .ok (.getfield 44, 3) := by decide +kernel
theorem dX6_lays_249 : decode cX6_lays 249 = .ok (.aload_n 0, 1) := by decide +kernel
theorem dX6_lays_250 : decode cX6_lays 250 = .ok (.getfield 132, 3) := by decide +kernel
theorem dX6_lays_253 : decode cX6_lays 253 = .ok (.iconst 3, 1) := by decide +kernel
theorem dX6_lays_254 : decode cX6_lays 254 = .ok (.iastore, 1) := by decide +kernel
theorem dX6_lays_255 : decode cX6_lays 255 = .ok (.aload_n 0, 1) := by decide +kernel
theorem dX6_lays_256 : decode cX6_lays 256 = .ok (.getfield 47, 3) := by decide +kernel
theorem dX6_lays_259 : decode cX6_lays 259 = .ok (.aload_n 0, 1) := by decide +kernel
theorem dX6_lays_260 : decode cX6_lays 260 = .ok (.getfield 132, 3) := by decide +kernel
theorem dX6_lays_263 : decode cX6_lays 263 = .ok (.aload_n 0, 1) := by decide +kernel
theorem dX6_lays_264 : decode cX6_lays 264 = .ok (.getfield 41, 3) := by decide +kernel
theorem dX6_lays_267 : decode cX6_lays 267 = .ok (.aload_n 0, 1) := by decide +kernel
theorem dX6_lays_268 : decode cX6_lays 268 = .ok (.getfield 132, 3) := by decide +kernel
theorem dX6_lays_271 : decode cX6_lays 271 = .ok (.iaload, 1) := by decide +kernel
theorem dX6_lays_272 : decode cX6_lays 272 = .ok (.i2l, 1) := by decide +kernel
theorem dX6_lays_273 : decode cX6_lays 273 = .ok (.lastore, 1) := by decide +kernel
theorem dX6_lays_274 : decode cX6_lays 274 = .ok (.aload_n 0, 1) := by decide +kernel
theorem dX6_lays_275 : decode cX6_lays 275 = .ok (.invokevirtual 139, 3) := by decide +kernel
theorem dX6_lays_278 : decode cX6_lays 278 = .ok (.return_, 1) := by decide +kernel
theorem dX6_markBehind_0 : decode cX6_markBehind 0 = .ok (.iload_n 1, 1) := by decide +kernel
theorem dX6_markBehind_1 : decode cX6_markBehind 1 = .ok (.iconst 1, 1) := by decide +kernel
theorem dX6_markBehind_2 : decode cX6_markBehind 2 = .ok (.iadd, 1) := by decide +kernel
theorem dX6_markBehind_3 : decode cX6_markBehind 3 = .ok (.istore_n 2, 1) := by decide +kernel
theorem dX6_markBehind_4 : decode cX6_markBehind 4 = .ok (.aload_n 0, 1) := by decide +kernel
theorem dX6_markBehind_5 : decode cX6_markBehind 5 = .ok (.getfield 44, 3) := by decide +kernel
theorem dX6_markBehind_8 : decode cX6_markBehind 8 = .ok (.iload_n 2, 1) := by decide +kernel
theorem dX6_markBehind_9 : decode cX6_markBehind 9 = .ok (.iaload, 1) := by decide +kernel
theorem dX6_markBehind_10 : decode cX6_markBehind 10 = .ok (.ifCond .ne 9, 3) := by decide +kernel
theorem dX6_markBehind_13 : decode cX6_markBehind 13 = .ok (.iinc 2 1, 3) := by decide +kernel
theorem dX6_markBehind_16 : decode cX6_markBehind 16 = .ok (.goto (-12), 3) := by decide +kernel
theorem dX6_markBehind_19 : decode cX6_markBehind 19 = .ok (.iload_n 2, 1) := by decide +kernel
theorem dX6_markBehind_20 : decode cX6_markBehind 20 = .ok (.ireturn, 1) := by decide +kernel
theorem dX6_markAhead_0 : decode cX6_markAhead 0 = .ok (.iload_n 1, 1) := by decide +kernel
theorem dX6_markAhead_1 : decode cX6_markAhead 1 = .ok (.istore_n 2, 1) := by decide +kernel
theorem dX6_markAhead_2 : decode cX6_markAhead 2 = .ok (.aload_n 0, 1) := by decide +kernel
theorem dX6_markAhead_3 : decode cX6_markAhead 3 = .ok (.getfield 44, 3) := by decide +kernel
theorem dX6_markAhead_6 : decode cX6_markAhead 6 = .ok (.iload_n 2, 1) := by decide +kernel
theorem dX6_markAhead_7 : decode cX6_markAhead 7 = .ok (.iaload, 1) := by decide +kernel
theorem dX6_markAhead_8 : decode cX6_markAhead 8 = .ok (.ifCond .ne 9, 3) := by decide +kernel
theorem dX6_markAhead_11 : decode cX6_markAhead 11 = .ok (.iinc 2 (-1), 3) := by decide +kernel
theorem dX6_markAhead_14 : decode cX6_markAhead 14 = .ok (.goto (-12), 3) := by decide +kernel
theorem dX6_markAhead_17 : decode cX6_markAhead 17 = .ok (.iload_n 2, 1) := by decide +kernel
theorem dX6_markAhead_18 : decode cX6_markAhead 18 = .ok (.ireturn, 1) := by decide +kernel
theorem dX6_evenTimes_0 : decode cX6_evenTimes 0 = .ok (.aload_n 0, 1) := by decide +kernel
theorem dX6_evenTimes_1 : decode cX6_evenTimes 1 = .ok (.getfield 47, 3) := by decide +kernel
theorem dX6_evenTimes_4 : decode cX6_evenTimes 4 = .ok (.iload_n 1, 1) := by decide +kernel
theorem dX6_evenTimes_5 : decode cX6_evenTimes 5 = .ok (.laload, 1) := by decide +kernel
theorem dX6_evenTimes_6 : decode cX6_evenTimes 6 = .ok (.aload_n 0, 1) := by decide +kernel
theorem dX6_evenTimes_7 : decode cX6_evenTimes 7 = .ok (.getfield 32, 3) := by decide +kernel
theorem dX6_evenTimes_10 : decode cX6_evenTimes 10 = .ok (.iload_n 2, 1) := by decide +kernel
theorem dX6_evenTimes_11 : decode cX6_evenTimes 11 = .ok (.iaload, 1) := by decide +kernel
theorem dX6_evenTimes_12 : decode cX6_evenTimes 12 = .ok (.aload_n 0, 1) := by decide +kernel
theorem dX6_evenTimes_13 : decode cX6_evenTimes 13 = .ok (.getfield 32, 3) := by decide +kernel
theorem dX6_evenTimes_16 : decode cX6_evenTimes 16 = .ok (.iload_n 1, 1) := by decide +kernel
theorem dX6_evenTimes_17 : decode cX6_evenTimes 17 = .ok (.iaload, 1) := by decide +kernel
theorem dX6_evenTimes_18 : decode cX6_evenTimes 18 = .ok (.isub, 1) := by decide +kernel
theorem dX6_evenTimes_19 : decode cX6_evenTimes 19 = .ok (.i2l, 1) := by decide +kernel
theorem dX6_evenTimes_20 : decode cX6_evenTimes 20 = .ok (.lmul, 1) := by decide +kernel
theorem dX6_evenTimes_21 : decode cX6_evenTimes 21 = .ok (.aload_n 0, 1) := by decide +kernel
theorem dX6_evenTimes_22 : decode cX6_evenTimes 22 = .ok (.getfield 47, 3) := by decide +kernel
theorem dX6_evenTimes_25 : decode cX6_evenTimes 25 = .ok (.iload_n 2, 1) := by decide +kernel
theorem dX6_evenTimes_26 : decode cX6_evenTimes 26 = .ok (.laload, 1) := by decide +kernel
theorem dX6_evenTimes_27 : decode cX6_evenTimes 27 = .ok (.aload_n 0, 1) := by decide +kernel
theorem dX6_evenTimes_28 : decode cX6_evenTimes 28 = .ok (.getfield 47, 3) := by decide +kernel
theorem dX6_evenTimes_31 : decode cX6_evenTimes 31 = .ok (.iload_n 1, 1) := by decide +kernel
theorem dX6_evenTimes_32 : decode cX6_evenTimes 32 = .ok (.laload, 1) := by decide +kernel
theorem dX6_evenTimes_33 : decode cX6_evenTimes 33 = .ok (.lsub, 1) := by decide +kernel
theorem dX6_evenTimes_34 : decode cX6_evenTimes 34 = .ok (.aload_n 0, 1) := by decide +kernel
theorem dX6_evenTimes_35 : decode cX6_evenTimes 35 = .ok (.getfield 32, 3) := by decide +kernel
theorem dX6_evenTimes_38 : decode cX6_evenTimes 38 = .ok (.iload_n 3, 1) := by decide +kernel
theorem dX6_evenTimes_39 : decode cX6_evenTimes 39 = .ok (.iaload, 1) := by decide +kernel
theorem dX6_evenTimes_40 : decode cX6_evenTimes 40 = .ok (.aload_n 0, 1) := by decide +kernel
theorem dX6_evenTimes_41 : decode cX6_evenTimes 41 = .ok (.getfield 32, 3) := by decide +kernel
theorem dX6_evenTimes_44 : decode cX6_evenTimes 44 = .ok (.iload_n 1, 1) := by decide +kernel
theorem dX6_evenTimes_45 : decode cX6_evenTimes 45 = .ok (.iaload, 1) := by decide +kernel
theorem dX6_evenTimes_46 : decode cX6_evenTimes 46 = .ok (.isub, 1) := by decide +kernel
theorem dX6_evenTimes_47 : decode cX6_evenTimes 47 = .ok (.i2l, 1) := by decide +kernel
theorem dX6_evenTimes_48 : decode cX6_evenTimes 48 = .ok (.lmul, 1) := by decide +kernel
theorem dX6_evenTimes_49 : decode cX6_evenTimes 49 = .ok (.ladd, 1) := by decide +kernel
theorem dX6_evenTimes_50 : decode cX6_evenTimes 50 = .ok (.lreturn, 1) := by decide +kernel
theorem dX6_missedTimes_0 : decode cX6_missedTimes 0 = .ok (.aload_n 0, 1) := by decide +kernel
theorem dX6_missedTimes_1 : decode cX6_missedTimes 1 = .ok (.iload_n 1, 1) := by decide +kernel
theorem dX6_missedTimes_2 : decode cX6_missedTimes 2 = .ok (.iload_n 2, 1) := by decide +kernel
theorem dX6_missedTimes_3 : decode cX6_missedTimes 3 = .ok (.iload_n 3, 1) := by decide +kernel
theorem dX6_missedTimes_4 : decode cX6_missedTimes 4 = .ok (.invokevirtual 142, 3) := by decide +kernel
theorem dX6_missedTimes_7 : decode cX6_missedTimes 7 = .ok (.lstore 4, 2) := by decide +kernel
theorem dX6_missedTimes_9 : decode cX6_missedTimes 9 = .ok (.aload_n 0, 1) := by decide +kernel
theorem dX6_missedTimes_10 : decode cX6_missedTimes 10 = .ok (.getfield 32, 3) := by decide +kernel
theorem dX6_missedTimes_13 : decode cX6_missedTimes 13 = .ok (.iload_n 2, 1) := by decide +kernel
theorem dX6_missedTimes_14 : decode cX6_missedTimes 14 = .ok (.iaload, 1) := by decide +kernel
theorem dX6_missedTimes_15 : decode cX6_missedTimes 15 = .ok (.aload_n 0, 1) := by decide +kernel
theorem dX6_missedTimes_16 : decode cX6_missedTimes 16 = .ok (.getfield 32, 3) := by decide +kernel
theorem dX6_missedTimes_19 : decode cX6_missedTimes 19 = .ok (.iload_n 1, 1) := by decide +kernel
theorem dX6_missedTimes_20 : decode cX6_missedTimes 20 = .ok (.iaload, 1) := by decide +kernel
theorem dX6_missedTimes_21 : decode cX6_missedTimes 21 = .ok (.isub, 1) := by decide +kernel
theorem dX6_missedTimes_22 : decode cX6_missedTimes 22 = .ok (.i2l, 1) := by decide +kernel
theorem dX6_missedTimes_23 : decode cX6_missedTimes 23 = .ok (.lstore 6, 2) := by decide +kernel
theorem dX6_missedTimes_25 : decode cX6_missedTimes 25 = .ok (.aload_n 0, 1) := by decide +kernel
theorem dX6_missedTimes_26 : decode cX6_missedTimes 26 = .ok (.getfield 38, 3) := by decide +kernel
theorem dX6_missedTimes_29 : decode cX6_missedTimes 29 = .ok (.iload_n 3, 1) := by decide +kernel
theorem dX6_missedTimes_30 : decode cX6_missedTimes 30 = .ok (.iaload, 1) := by decide +kernel
theorem dX6_missedTimes_31 : decode cX6_missedTimes 31 = .ok (.i2l, 1) := by decide +kernel
theorem dX6_missedTimes_32 : decode cX6_missedTimes 32 = .ok (.lload 6, 2) := by decide +kernel
theorem dX6_missedTimes_34 : decode cX6_missedTimes 34 = .ok (.lmul, 1) := by decide +kernel
theorem dX6_missedTimes_35 : decode cX6_missedTimes 35 = .ok (.lload 4, 2) := by decide +kernel
theorem dX6_missedTimes_37 : decode cX6_missedTimes 37 = .ok (.lsub, 1) := by decide +kernel
theorem dX6_missedTimes_38 : decode cX6_missedTimes 38 = .ok (.lstore 8, 2) := by decide +kernel
theorem dX6_missedTimes_40 : decode cX6_missedTimes 40 = .ok (.lload 4, 2) := by decide +kernel
theorem dX6_missedTimes_42 : decode cX6_missedTimes 42 = .ok (.aload_n 0, 1) := by decide +kernel
theorem dX6_missedTimes_43 : decode cX6_missedTimes 43 = .ok (.getfield 41, 3) := by decide +kernel
theorem dX6_missedTimes_46 : decode cX6_missedTimes 46 = .ok (.iload_n 3, 1) := by decide +kernel
theorem dX6_missedTimes_47 : decode cX6_missedTimes 47 = .ok (.iaload, 1) := by decide +kernel
theorem dX6_missedTimes_48 : decode cX6_missedTimes 48 = .ok (.i2l, 1) := by decide +kernel
theorem dX6_missedTimes_49 : decode cX6_missedTimes 49 = .ok (.lload 6, 2) := by decide +kernel
theorem dX6_missedTimes_51 : decode cX6_missedTimes 51 = .ok (.lmul, 1) := by decide +kernel
theorem dX6_missedTimes_52 : decode cX6_missedTimes 52 = .ok (.lsub, 1) := by decide +kernel
theorem dX6_missedTimes_53 : decode cX6_missedTimes 53 = .ok (.lstore 10, 2) := by decide +kernel
theorem dX6_missedTimes_55 : decode cX6_missedTimes 55 = .ok (.lload 8, 2) := by decide +kernel
theorem dX6_missedTimes_57 : decode cX6_missedTimes 57 = .ok (.lconst 0, 1) := by decide +kernel
theorem dX6_missedTimes_58 : decode cX6_missedTimes 58 = .ok (.lcmp, 1) := by decide +kernel
theorem dX6_missedTimes_59 : decode cX6_missedTimes 59 = .ok (.ifCond .le 8, 3) := by decide +kernel
theorem dX6_missedTimes_62 : decode cX6_missedTimes 62 = .ok (.lload 8, 2) := by decide +kernel
theorem dX6_missedTimes_64 : decode cX6_missedTimes 64 = .ok (.goto 16, 3) := by decide +kernel
theorem dX6_missedTimes_67 : decode cX6_missedTimes 67 = .ok (.lload 10, 2) := by decide +kernel
theorem dX6_missedTimes_69 : decode cX6_missedTimes 69 = .ok (.lconst 0, 1) := by decide +kernel
theorem dX6_missedTimes_70 : decode cX6_missedTimes 70 = .ok (.lcmp, 1) := by decide +kernel
theorem dX6_missedTimes_71 : decode cX6_missedTimes 71 = .ok (.ifCond .le 8, 3) := by decide +kernel
theorem dX6_missedTimes_74 : decode cX6_missedTimes 74 = .ok (.lload 10, 2) := by decide +kernel
theorem dX6_missedTimes_76 : decode cX6_missedTimes 76 = .ok (.goto 4, 3) := by decide +kernel
theorem dX6_missedTimes_79 : decode cX6_missedTimes 79 = .ok (.lconst 0, 1) := by decide +kernel
theorem dX6_missedTimes_80 : decode cX6_missedTimes 80 = .ok (.lreturn, 1) := by decide +kernel
theorem dX6_marksOne_0 : decode cX6_marksOne 0 = .ok (.bipush (-9), 2) := by decide +kernel
theorem dX6_marksOne_2 : decode cX6_marksOne 2 = .ok (.istore_n 3, 1) := by decide +kernel
theorem dX6_marksOne_3 : decode cX6_marksOne 3 = .ok (.iload_n 1, 1) := by decide +kernel
theorem dX6_marksOne_4 : decode cX6_marksOne 4 = .ok (.iconst 1, 1) := by decide +kernel
theorem dX6_marksOne_5 : decode cX6_marksOne 5 = .ok (.iadd, 1) := by decide +kernel
theorem dX6_marksOne_6 : decode cX6_marksOne 6 = .ok (.istore 4, 2) := by decide +kernel
theorem dX6_marksOne_8 : decode cX6_marksOne 8 = .ok (.iload 4, 2) := by decide +kernel
theorem dX6_marksOne_10 : decode cX6_marksOne 10 = .ok (.iload_n 2, 1) := by decide +kernel
theorem dX6_marksOne_11 : decode cX6_marksOne 11 = .ok (.if_icmp .ge 52, 3) := by decide +kernel
theorem dX6_marksOne_14 : decode cX6_marksOne 14 = .ok (.aload_n 0, 1) := by decide +kernel
theorem dX6_marksOne_15 : decode cX6_marksOne 15 = .ok (.iload_n 1, 1) := by decide +kernel
theorem dX6_marksOne_16 : decode cX6_marksOne 16 = .ok (.iload_n 2, 1) := by decide +kernel
theorem dX6_marksOne_17 : decode cX6_marksOne 17 = .ok (.iload 4, 2) := by decide +kernel
theorem dX6_marksOne_19 : decode cX6_marksOne 19 = .ok (.invokevirtual 146, 3) := by decide +kernel
theorem dX6_marksOne_22 : decode cX6_marksOne 22 = .ok (.lstore 5, 2) := by decide +kernel
theorem dX6_marksOne_24 : decode cX6_marksOne 24 = .ok (.lload 5, 2) := by decide +kernel
theorem dX6_marksOne_26 : decode cX6_marksOne 26 = .ok (.lconst 0, 1) := by decide +kernel
theorem dX6_marksOne_27 : decode cX6_marksOne 27 = .ok (.lcmp, 1) := by decide +kernel
theorem dX6_marksOne_28 : decode cX6_marksOne 28 = .ok (.ifCond .le 27, 3) := by decide +kernel
theorem dX6_marksOne_31 : decode cX6_marksOne 31 = .ok (.iload_n 3, 1) := by decide +kernel
theorem dX6_marksOne_32 : decode cX6_marksOne 32 = .ok (.bipush (-9), 2) := by decide +kernel
theorem dX6_marksOne_34 : decode cX6_marksOne 34 = .ok (.if_icmp .eq 16, 3) := by decide +kernel
theorem dX6_marksOne_37 : decode cX6_marksOne 37 = .ok (.lload 5, 2) := by decide +kernel
theorem dX6_marksOne_39 : decode cX6_marksOne 39 = .ok (.aload_n 0, 1) := by decide +kernel
theorem dX6_marksOne_40 : decode cX6_marksOne 40 = .ok (.iload_n 1, 1) := by decide +kernel
theorem dX6_marksOne_41 : decode cX6_marksOne 41 = .ok (.iload_n 2, 1) := by decide +kernel
theorem dX6_marksOne_42 : decode cX6_marksOne 42 = .ok (.iload_n 3, 1) := by decide +kernel
theorem dX6_marksOne_43 : decode cX6_marksOne 43 = .ok (.invokevirtual 146, 3) := by decide +kernel
theorem dX6_marksOne_46 : decode cX6_marksOne 46 = .ok (.lcmp, 1) := by decide +kernel
theorem dX6_marksOne_47 : decode cX6_marksOne 47 = .ok (.ifCond .le 8, 3) := by decide +kernel
theorem dX6_marksOne_50 : decode cX6_marksOne 50 = .ok (.iload 4, 2) := by decide +kernel
theorem dX6_marksOne_52 : decode cX6_marksOne 52 = .ok (.goto 4, 3) := by decide +kernel
theorem dX6_marksOne_55 : decode cX6_marksOne 55 = .ok (.iload_n 3, 1) := by decide +kernel
theorem dX6_marksOne_56 : decode cX6_marksOne 56 = .ok (.istore_n 3, 1) := by decide +kernel
theorem dX6_marksOne_57 : decode cX6_marksOne 57 = .ok (.iinc 4 1, 3) := by decide +kernel
theorem dX6_marksOne_60 : decode cX6_marksOne 60 = .ok (.goto (-52), 3) := by decide +kernel
theorem dX6_marksOne_63 : decode cX6_marksOne 63 = .ok (.iload_n 3, 1) := by decide +kernel
theorem dX6_marksOne_64 : decode cX6_marksOne 64 = .ok (.bipush (-9), 2) := by decide +kernel
theorem dX6_marksOne_66 : decode cX6_marksOne 66 = .ok (.if_icmp .ne 5, 3) := by decide +kernel
theorem dX6_marksOne_69 : decode cX6_marksOne 69 = .ok (.iconst 0, 1) := by decide +kernel
theorem dX6_marksOne_70 : decode cX6_marksOne 70 = .ok (.ireturn, 1) := by decide +kernel
theorem dX6_marksOne_71 : decode cX6_marksOne 71 = .ok (.aload_n 0, 1) := by decide +kernel
theorem dX6_marksOne_72 : decode cX6_marksOne 72 = .ok (.iload_n 1, 1) := by decide +kernel
theorem dX6_marksOne_73 : decode cX6_marksOne 73 = .ok (.iload_n 2, 1) := by decide +kernel
theorem dX6_marksOne_74 : decode cX6_marksOne 74 = .ok (.iload_n 3, 1) := by decide +kernel
theorem dX6_marksOne_75 : decode cX6_marksOne 75 = .ok (.invokevirtual 142, 3) := by decide +kernel
theorem dX6_marksOne_78 : decode cX6_marksOne 78 = .ok (.aload_n 0, 1) := by decide +kernel
theorem dX6_marksOne_79 : decode cX6_marksOne 79 = .ok (.getfield 38, 3) := by decide +kernel
theorem dX6_marksOne_82 : decode cX6_marksOne 82 = .ok (.iload_n 3, 1) := by decide +kernel
theorem dX6_marksOne_83 : decode cX6_marksOne 83 = .ok (.iaload, 1) := by decide +kernel
theorem dX6_marksOne_84 : decode cX6_marksOne 84 = .ok (.i2l, 1) := by decide +kernel
theorem dX6_marksOne_85 : decode cX6_marksOne 85 = .ok (.aload_n 0, 1) := by decide +kernel
theorem dX6_marksOne_86 : decode cX6_marksOne 86 = .ok (.getfield 32, 3) := by decide +kernel
theorem dX6_marksOne_89 : decode cX6_marksOne 89 = .ok (.iload_n 2, 1) := by decide +kernel
theorem dX6_marksOne_90 : decode cX6_marksOne 90 = .ok (.iaload, 1) := by decide +kernel
theorem dX6_marksOne_91 : decode cX6_marksOne 91 = .ok (.aload_n 0, 1) := by decide +kernel
theorem dX6_marksOne_92 : decode cX6_marksOne 92 = .ok (.getfield 32, 3) := by decide +kernel
theorem dX6_marksOne_95 : decode cX6_marksOne 95 = .ok (.iload_n 1, 1) := by decide +kernel
theorem dX6_marksOne_96 : decode cX6_marksOne 96 = .ok (.iaload, 1) := by decide +kernel
theorem dX6_marksOne_97 : decode cX6_marksOne 97 = .ok (.isub, 1) := by decide +kernel
theorem dX6_marksOne_98 : decode cX6_marksOne 98 = .ok (.i2l, 1) := by decide +kernel
theorem dX6_marksOne_99 : decode cX6_marksOne 99 = .ok (.lmul, 1) := by decide +kernel
theorem dX6_marksOne_100 : decode cX6_marksOne 100 = .ok (.lcmp, 1) := by decide +kernel
theorem dX6_marksOne_101 : decode cX6_marksOne 101 = .ok (.ifCond .ge 7, 3) := by decide +kernel
theorem dX6_marksOne_104 : decode cX6_marksOne 104 = .ok (.iconst 1, 1) := by decide +kernel
theorem dX6_marksOne_105 : decode cX6_marksOne 105 = .ok (.goto 4, 3) := by decide +kernel
theorem dX6_marksOne_108 : decode cX6_marksOne 108 = .ok (.iconst 0, 1) := by decide +kernel
theorem dX6_marksOne_109 : decode cX6_marksOne 109 = .ok (.istore 4, 2) := by decide +kernel
theorem dX6_marksOne_111 : decode cX6_marksOne 111 = .ok (.aload_n 0, 1) := by decide +kernel
theorem dX6_marksOne_112 : decode cX6_marksOne 112 = .ok (.getfield 44, 3) := by decide +kernel
theorem dX6_marksOne_115 : decode cX6_marksOne 115 = .ok (.iload_n 3, 1) := by decide +kernel
theorem dX6_marksOne_116 : decode cX6_marksOne 116 = .ok (.iload 4, 2) := by decide +kernel
theorem dX6_marksOne_118 : decode cX6_marksOne 118 = .ok (.ifCond .eq 7, 3) := by decide +kernel
theorem dX6_marksOne_121 : decode cX6_marksOne 121 = .ok (.iconst 1, 1) := by decide +kernel
theorem dX6_marksOne_122 : decode cX6_marksOne 122 = .ok (.goto 4, 3) := by decide +kernel
theorem dX6_marksOne_125 : decode cX6_marksOne 125 = .ok (.iconst 2, 1) := by decide +kernel
theorem dX6_marksOne_126 : decode cX6_marksOne 126 = .ok (.iastore, 1) := by decide +kernel
theorem dX6_marksOne_127 : decode cX6_marksOne 127 = .ok (.aload_n 0, 1) := by decide +kernel
theorem dX6_marksOne_128 : decode cX6_marksOne 128 = .ok (.getfield 47, 3) := by decide +kernel
theorem dX6_marksOne_131 : decode cX6_marksOne 131 = .ok (.iload_n 3, 1) := by decide +kernel
theorem dX6_marksOne_132 : decode cX6_marksOne 132 = .ok (.iload 4, 2) := by decide +kernel
theorem dX6_marksOne_134 : decode cX6_marksOne 134 = .ok (.ifCond .eq 13, 3) := by decide +kernel
theorem dX6_marksOne_137 : decode cX6_marksOne 137 = .ok (.aload_n 0, 1) := by decide +kernel
theorem dX6_marksOne_138 : decode cX6_marksOne 138 = .ok (.getfield 38, 3) := by decide +kernel
theorem dX6_marksOne_141 : decode cX6_marksOne 141 = .ok (.iload_n 3, 1) := by decide +kernel
theorem dX6_marksOne_142 : decode cX6_marksOne 142 = .ok (.iaload, 1) := by decide +kernel
theorem dX6_marksOne_143 : decode cX6_marksOne 143 = .ok (.i2l, 1) := by decide +kernel
theorem dX6_marksOne_144 : decode cX6_marksOne 144 = .ok (.goto 10, 3) := by decide +kernel
theorem dX6_marksOne_147 : decode cX6_marksOne 147 = .ok (.aload_n 0, 1) := by decide +kernel
theorem dX6_marksOne_148 : decode cX6_marksOne 148 = .ok (.getfield 41, 3) := by decide +kernel
theorem dX6_marksOne_151 : decode cX6_marksOne 151 = .ok (.iload_n 3, 1) := by decide +kernel
theorem dX6_marksOne_152 : decode cX6_marksOne 152 = .ok (.iaload, 1) := by decide +kernel
theorem dX6_marksOne_153 : decode cX6_marksOne 153 = .ok (.i2l, 1) := by decide +kernel
theorem dX6_marksOne_154 : decode cX6_marksOne 154 = .ok (.lastore, 1) := by decide +kernel
theorem dX6_marksOne_155 : decode cX6_marksOne 155 = .ok (.iconst 1, 1) := by decide +kernel
theorem dX6_marksOne_156 : decode cX6_marksOne 156 = .ok (.ireturn, 1) := by decide +kernel
theorem dX6_marksAll_0 : decode cX6_marksAll 0 = .ok (.aload_n 0, 1) := by decide +kernel
theorem dX6_marksAll_1 : decode cX6_marksAll 1 = .ok (.getfield 129, 3) := by decide +kernel
theorem dX6_marksAll_4 : decode cX6_marksAll 4 = .ok (.istore_n 1, 1) := by decide +kernel
theorem dX6_marksAll_5 : decode cX6_marksAll 5 = .ok (.iload_n 1, 1) := by decide +kernel
theorem dX6_marksAll_6 : decode cX6_marksAll 6 = .ok (.aload_n 0, 1) := by decide +kernel
theorem dX6_marksAll_7 : decode cX6_marksAll 7 = .ok (.getfield 132, 3) := by decide +kernel
theorem dX6_marksAll_10 : decode cX6_marksAll 10 = .ok (.if_icmp .ge 23, 3) := by decide +kernel
theorem dX6_marksAll_13 : decode cX6_marksAll 13 = .ok (.aload_n 0, 1) := by decide +kernel
theorem dX6_marksAll_14 : decode cX6_marksAll 14 = .ok (.iload_n 1, 1) := by decide +kernel
theorem dX6_marksAll_15 : decode cX6_marksAll 15 = .ok (.invokevirtual 149, 3) := by decide +kernel
theorem dX6_marksAll_18 : decode cX6_marksAll 18 = .ok (.istore_n 2, 1) := by decide +kernel
theorem dX6_marksAll_19 : decode cX6_marksAll 19 = .ok (.aload_n 0, 1) := by decide +kernel
theorem dX6_marksAll_20 : decode cX6_marksAll 20 = .ok (.iload_n 1, 1) := by decide +kernel
theorem dX6_marksAll_21 : decode cX6_marksAll 21 = .ok (.iload_n 2, 1) := by decide +kernel
theorem dX6_marksAll_22 : decode cX6_marksAll 22 = .ok (.invokevirtual 153, 3) := by decide +kernel
theorem dX6_marksAll_25 : decode cX6_marksAll 25 = .ok (.ifCond .ne 5, 3) := by decide +kernel
theorem dX6_marksAll_28 : decode cX6_marksAll 28 = .ok (.iload_n 2, 1) := by decide +kernel
theorem dX6_marksAll_29 : decode cX6_marksAll 29 = .ok (.istore_n 1, 1) := by decide +kernel
theorem dX6_marksAll_30 : decode cX6_marksAll 30 = .ok (.goto (-25), 3) := by decide +kernel
theorem dX6_marksAll_33 : decode cX6_marksAll 33 = .ok (.return_, 1) := by decide +kernel
theorem dX6_fastNeeded_0 : decode cX6_fastNeeded 0 = .ok (.aload_n 0, 1) := by decide +kernel
theorem dX6_fastNeeded_1 : decode cX6_fastNeeded 1 = .ok (.getfield 132, 3) := by decide +kernel
theorem dX6_fastNeeded_4 : decode cX6_fastNeeded 4 = .ok (.aload_n 0, 1) := by decide +kernel
theorem dX6_fastNeeded_5 : decode cX6_fastNeeded 5 = .ok (.getfield 129, 3) := by decide +kernel
theorem dX6_fastNeeded_8 : decode cX6_fastNeeded 8 = .ok (.if_icmp .gt 6, 3) := by decide +kernel
theorem dX6_fastNeeded_11 : decode cX6_fastNeeded 11 = .ok (.bipush (-9), 2) := by decide +kernel
theorem dX6_fastNeeded_13 : decode cX6_fastNeeded 13 = .ok (.ireturn, 1) := by decide +kernel
theorem dX6_fastNeeded_14 : decode cX6_fastNeeded 14 = .ok (.lconst 1, 1) := by decide +kernel
theorem dX6_fastNeeded_15 : decode cX6_fastNeeded 15 = .ok (.lstore_n 1, 1) := by decide +kernel
theorem dX6_fastNeeded_16 : decode cX6_fastNeeded 16 = .ok (.aload_n 0, 1) := by decide +kernel
theorem dX6_fastNeeded_17 : decode cX6_fastNeeded 17 = .ok (.getfield 129, 3) := by decide +kernel
theorem dX6_fastNeeded_20 : decode cX6_fastNeeded 20 = .ok (.istore_n 3, 1) := by decide +kernel
theorem dX6_fastNeeded_21 : decode cX6_fastNeeded 21 = .ok (.iload_n 3, 1) := by decide +kernel
theorem dX6_fastNeeded_22 : decode cX6_fastNeeded 22 = .ok (.aload_n 0, 1) := by decide +kernel
theorem dX6_fastNeeded_23 : decode cX6_fastNeeded 23 = .ok (.getfield 132, 3) := by decide +kernel
theorem dX6_fastNeeded_26 : decode cX6_fastNeeded 26 = .ok (.if_icmp .ge 81, 3) := by decide +kernel
theorem dX6_fastNeeded_29 : decode cX6_fastNeeded 29 = .ok (.aload_n 0, 1) := by decide +kernel
theorem dX6_fastNeeded_30 : decode cX6_fastNeeded 30 = .ok (.iload_n 3, 1) := by decide +kernel
theorem dX6_fastNeeded_31 : decode cX6_fastNeeded 31 = .ok (.invokevirtual 149, 3) := by decide +kernel
theorem dX6_fastNeeded_34 : decode cX6_fastNeeded 34 = .ok (.istore 4, 2) := by decide +kernel
theorem dX6_fastNeeded_36 : decode cX6_fastNeeded 36 = .ok (.aload_n 0, 1) := by decide +kernel
theorem dX6_fastNeeded_37 : decode cX6_fastNeeded 37 = .ok (.getfield 47, 3) := by decide +kernel
theorem dX6_fastNeeded_40 : decode cX6_fastNeeded 40 = .ok (.iload 4, 2) := by decide +kernel
theorem dX6_fastNeeded_42 : decode cX6_fastNeeded 42 = .ok (.laload, 1) := by decide +kernel
theorem dX6_fastNeeded_43 : decode cX6_fastNeeded 43 = .ok (.aload_n 0, 1) := by decide +kernel
theorem dX6_fastNeeded_44 : decode cX6_fastNeeded 44 = .ok (.getfield 47, 3) := by decide +kernel
theorem dX6_fastNeeded_47 : decode cX6_fastNeeded 47 = .ok (.iload_n 3, 1) := by decide +kernel
theorem dX6_fastNeeded_48 : decode cX6_fastNeeded 48 = .ok (.laload, 1) := by decide +kernel
theorem dX6_fastNeeded_49 : decode cX6_fastNeeded 49 = .ok (.lsub, 1) := by decide +kernel
theorem dX6_fastNeeded_50 : decode cX6_fastNeeded 50 = .ok (.lstore 5, 2) := by decide +kernel
theorem dX6_fastNeeded_52 : decode cX6_fastNeeded 52 = .ok (.lload 5, 2) := by decide +kernel
theorem dX6_fastNeeded_54 : decode cX6_fastNeeded 54 = .ok (.lconst 0, 1) := by decide +kernel
theorem dX6_fastNeeded_55 : decode cX6_fastNeeded 55 = .ok (.lcmp, 1) := by decide +kernel
theorem dX6_fastNeeded_56 : decode cX6_fastNeeded 56 = .ok (.ifCond .gt 6, 3) := by decide +kernel
theorem dX6_fastNeeded_59 : decode cX6_fastNeeded 59 = .ok (.bipush (-9), 2) := by decide +kernel
theorem dX6_fastNeeded_61 : decode cX6_fastNeeded 61 = .ok (.ireturn, 1) := by decide +kernel
theorem dX6_fastNeeded_62 : decode cX6_fastNeeded 62 = .ok (.aload_n 0, 1) := by decide +kernel
theorem dX6_fastNeeded_63 : decode cX6_fastNeeded 63 = .ok (.getfield 32, 3) := by decide +kernel
theorem dX6_fastNeeded_66 : decode cX6_fastNeeded 66 = .ok (.iload 4, 2) := by decide +kernel
theorem dX6_fastNeeded_68 : decode cX6_fastNeeded 68 = .ok (.iaload, 1) := by decide +kernel
theorem dX6_fastNeeded_69 : decode cX6_fastNeeded 69 = .ok (.aload_n 0, 1) := by decide +kernel
theorem dX6_fastNeeded_70 : decode cX6_fastNeeded 70 = .ok (.getfield 32, 3) := by decide +kernel
theorem dX6_fastNeeded_73 : decode cX6_fastNeeded 73 = .ok (.iload_n 3, 1) := by decide +kernel
theorem dX6_fastNeeded_74 : decode cX6_fastNeeded 74 = .ok (.iaload, 1) := by decide +kernel
theorem dX6_fastNeeded_75 : decode cX6_fastNeeded 75 = .ok (.isub, 1) := by decide +kernel
theorem dX6_fastNeeded_76 : decode cX6_fastNeeded 76 = .ok (.i2l, 1) := by decide +kernel
theorem dX6_fastNeeded_77 : decode cX6_fastNeeded 77 = .ok (.lload 5, 2) := by decide +kernel
theorem dX6_fastNeeded_79 : decode cX6_fastNeeded 79 = .ok (.ladd, 1) := by decide +kernel
theorem dX6_fastNeeded_80 : decode cX6_fastNeeded 80 = .ok (.lconst 1, 1) := by decide +kernel
theorem dX6_fastNeeded_81 : decode cX6_fastNeeded 81 = .ok (.lsub, 1) := by decide +kernel
theorem dX6_fastNeeded_82 : decode cX6_fastNeeded 82 = .ok (.lload 5, 2) := by decide +kernel
theorem dX6_fastNeeded_84 : decode cX6_fastNeeded 84 = .ok (.ldiv, 1) := by decide +kernel
theorem dX6_fastNeeded_85 : decode cX6_fastNeeded 85 = .ok (.lstore 7, 2) := by decide +kernel
theorem dX6_fastNeeded_87 : decode cX6_fastNeeded 87 = .ok (.lload 7, 2) := by decide +kernel
theorem dX6_fastNeeded_89 : decode cX6_fastNeeded 89 = .ok (.lload_n 1, 1) := by decide +kernel
theorem dX6_fastNeeded_90 : decode cX6_fastNeeded 90 = .ok (.lcmp, 1) := by decide +kernel
theorem dX6_fastNeeded_91 : decode cX6_fastNeeded 91 = .ok (.ifCond .le 8, 3) := by decide +kernel
theorem dX6_fastNeeded_94 : decode cX6_fastNeeded 94 = .ok (.lload 7, 2) := by decide +kernel
theorem dX6_fastNeeded_96 : decode cX6_fastNeeded 96 = .ok (.goto 4, 3) := by decide +kernel
theorem dX6_fastNeeded_99 : decode cX6_fastNeeded 99 = .ok (.lload_n 1, 1) := by decide +kernel
theorem dX6_fastNeeded_100 : decode cX6_fastNeeded 100 = .ok (.lstore_n 1, 1) := by decide +kernel
theorem dX6_fastNeeded_101 : decode cX6_fastNeeded 101 = .ok (.iload 4, 2) := by decide +kernel
theorem dX6_fastNeeded_103 : decode cX6_fastNeeded 103 = .ok (.istore_n 3, 1) := by decide +kernel
theorem dX6_fastNeeded_104 : decode cX6_fastNeeded 104 = .ok (.goto (-83), 3) := by decide +kernel
theorem dX6_fastNeeded_107 : decode cX6_fastNeeded 107 = .ok (.lload_n 1, 1) := by decide +kernel
theorem dX6_fastNeeded_108 : decode cX6_fastNeeded 108 = .ok (.l2i, 1) := by decide +kernel
theorem dX6_fastNeeded_109 : decode cX6_fastNeeded 109 = .ok (.ireturn, 1) := by decide +kernel
theorem dX6_hasPlan_0 : decode cX6_hasPlan 0 = .ok (.aload_n 0, 1) := by decide +kernel
theorem dX6_hasPlan_1 : decode cX6_hasPlan 1 = .ok (.invokevirtual 156, 3) := by decide +kernel
theorem dX6_hasPlan_4 : decode cX6_hasPlan 4 = .ok (.istore_n 1, 1) := by decide +kernel
theorem dX6_hasPlan_5 : decode cX6_hasPlan 5 = .ok (.iload_n 1, 1) := by decide +kernel
theorem dX6_hasPlan_6 : decode cX6_hasPlan 6 = .ok (.bipush (-9), 2) := by decide +kernel
theorem dX6_hasPlan_8 : decode cX6_hasPlan 8 = .ok (.if_icmp .eq 20, 3) := by decide +kernel
theorem dX6_hasPlan_11 : decode cX6_hasPlan 11 = .ok (.iload_n 1, 1) := by decide +kernel
theorem dX6_hasPlan_12 : decode cX6_hasPlan 12 = .ok (.aload_n 0, 1) := by decide +kernel
theorem dX6_hasPlan_13 : decode cX6_hasPlan 13 = .ok (.aload_n 0, 1) := by decide +kernel
theorem dX6_hasPlan_14 : decode cX6_hasPlan 14 = .ok (.getfield 126, 3) := by decide +kernel
theorem dX6_hasPlan_17 : decode cX6_hasPlan 17 = .ok (.iconst 1, 1) := by decide +kernel
theorem dX6_hasPlan_18 : decode cX6_hasPlan 18 = .ok (.invokevirtual 70, 3) := by decide +kernel
theorem dX6_hasPlan_21 : decode cX6_hasPlan 21 = .ok (.if_icmp .gt 7, 3) := by decide +kernel
theorem dX6_hasPlan_24 : decode cX6_hasPlan 24 = .ok (.iconst 1, 1) := by decide +kernel
theorem dX6_hasPlan_25 : decode cX6_hasPlan 25 = .ok (.goto 4, 3) := by decide +kernel
theorem dX6_hasPlan_28 : decode cX6_hasPlan 28 = .ok (.iconst 0, 1) := by decide +kernel
theorem dX6_hasPlan_29 : decode cX6_hasPlan 29 = .ok (.ireturn, 1) := by decide +kernel
theorem dX6_plans_0 : decode cX6_plans 0 = .ok (.aload_n 0, 1) := by decide +kernel
theorem dX6_plans_1 : decode cX6_plans 1 = .ok (.iload_n 1, 1) := by decide +kernel
theorem dX6_plans_2 : decode cX6_plans 2 = .ok (.iconst 0, 1) := by decide +kernel
theorem dX6_plans_3 : decode cX6_plans 3 = .ok (.iconst 0, 1) := by decide +kernel
theorem dX6_plans_4 : decode cX6_plans 4 = .ok (.iconst 0, 1) := by decide +kernel
theorem dX6_plans_5 : decode cX6_plans 5 = .ok (.invokevirtual 159, 3) := by decide +kernel
theorem dX6_plans_8 : decode cX6_plans 8 = .ok (.aload_n 0, 1) := by decide +kernel
theorem dX6_plans_9 : decode cX6_plans 9 = .ok (.invokevirtual 163, 3) := by decide +kernel
theorem dX6_plans_12 : decode cX6_plans 12 = .ok (.ireturn, 1) := by decide +kernel
theorem dX6_isAhead_0 : decode cX6_isAhead 0 = .ok (.iload_n 1, 1) := by decide +kernel
theorem dX6_isAhead_1 : decode cX6_isAhead 1 = .ok (.invokestatic 115, 3) := by decide +kernel
theorem dX6_isAhead_4 : decode cX6_isAhead 4 = .ok (.ifCond .eq 28, 3) := by decide +kernel
theorem dX6_isAhead_7 : decode cX6_isAhead 7 = .ok (.iload_n 2, 1) := by decide +kernel
theorem dX6_isAhead_8 : decode cX6_isAhead 8 = .ok (.aload_n 0, 1) := by decide +kernel
theorem dX6_isAhead_9 : decode cX6_isAhead 9 = .ok (.iload_n 1, 1) := by decide +kernel
theorem dX6_isAhead_10 : decode cX6_isAhead 10 = .ok (.iconst 2, 1) := by decide +kernel
theorem dX6_isAhead_11 : decode cX6_isAhead 11 = .ok (.invokevirtual 70, 3) := by decide +kernel
theorem dX6_isAhead_14 : decode cX6_isAhead 14 = .ok (.iconst 1, 1) := by decide +kernel
theorem dX6_isAhead_15 : decode cX6_isAhead 15 = .ok (.iadd, 1) := by decide +kernel
theorem dX6_isAhead_16 : decode cX6_isAhead 16 = .ok (.aload_n 0, 1) := by decide +kernel
theorem dX6_isAhead_17 : decode cX6_isAhead 17 = .ok (.iload_n 1, 1) := by decide +kernel
theorem dX6_isAhead_18 : decode cX6_isAhead 18 = .ok (.iconst 0, 1) := by decide +kernel
theorem dX6_isAhead_19 : decode cX6_isAhead 19 = .ok (.invokevirtual 70, 3) := by decide +kernel
theorem dX6_isAhead_22 : decode cX6_isAhead 22 = .ok (.invokestatic 62, 3) := by decide +kernel
theorem dX6_isAhead_25 : decode cX6_isAhead 25 = .ok (.ifCond .eq 7, 3) := by decide +kernel
theorem dX6_isAhead_28 : decode cX6_isAhead 28 = .ok (.iconst 1, 1) := by decide +kernel
theorem dX6_isAhead_29 : decode cX6_isAhead 29 = .ok (.goto 4, 3) := by decide +kernel
theorem dX6_isAhead_32 : decode cX6_isAhead 32 = .ok (.iconst 0, 1) := by decide +kernel
theorem dX6_isAhead_33 : decode cX6_isAhead 33 = .ok (.ireturn, 1) := by decide +kernel
theorem dX6_common_0 : decode cX6_common 0 = .ok (.lload_n 0, 1) := by decide +kernel
theorem dX6_common_1 : decode cX6_common 1 = .ok (.lconst 0, 1) := by decide +kernel
theorem dX6_common_2 : decode cX6_common 2 = .ok (.lcmp, 1) := by decide +kernel
theorem dX6_common_3 : decode cX6_common 3 = .ok (.ifCond .ge 8, 3) := by decide +kernel
theorem dX6_common_6 : decode cX6_common 6 = .ok (.lload_n 0, 1) := by decide +kernel
theorem dX6_common_7 : decode cX6_common 7 = .ok (.lneg, 1) := by decide +kernel
theorem dX6_common_8 : decode cX6_common 8 = .ok (.goto 4, 3) := by decide +kernel
theorem dX6_common_11 : decode cX6_common 11 = .ok (.lload_n 0, 1) := by decide +kernel
theorem dX6_common_12 : decode cX6_common 12 = .ok (.lstore 4, 2) := by decide +kernel
theorem dX6_common_14 : decode cX6_common 14 = .ok (.lload_n 2, 1) := by decide +kernel
theorem dX6_common_15 : decode cX6_common 15 = .ok (.lstore 6, 2) := by decide +kernel
theorem dX6_common_17 : decode cX6_common 17 = .ok (.lload 6, 2) := by decide +kernel
theorem dX6_common_19 : decode cX6_common 19 = .ok (.lconst 0, 1) := by decide +kernel
theorem dX6_common_20 : decode cX6_common 20 = .ok (.lcmp, 1) := by decide +kernel
theorem dX6_common_21 : decode cX6_common 21 = .ok (.ifCond .eq 21, 3) := by decide +kernel
theorem dX6_common_24 : decode cX6_common 24 = .ok (.lload 4, 2) := by decide +kernel
theorem dX6_common_26 : decode cX6_common 26 = .ok (.lload 6, 2) := by decide +kernel
theorem dX6_common_28 : decode cX6_common 28 = .ok (.lrem, 1) := by decide +kernel
theorem dX6_common_29 : decode cX6_common 29 = .ok (.lstore 8, 2) := by decide +kernel
theorem dX6_common_31 : decode cX6_common 31 = .ok (.lload 6, 2) := by decide +kernel
theorem dX6_common_33 : decode cX6_common 33 = .ok (.lstore 4, 2) := by decide +kernel
theorem dX6_common_35 : decode cX6_common 35 = .ok (.lload 8, 2) := by decide +kernel
theorem dX6_common_37 : decode cX6_common 37 = .ok (.lstore 6, 2) := by decide +kernel
theorem dX6_common_39 : decode cX6_common 39 = .ok (.goto (-22), 3) := by decide +kernel
theorem dX6_common_42 : decode cX6_common 42 = .ok (.lload 4, 2) := by decide +kernel
theorem dX6_common_44 : decode cX6_common 44 = .ok (.lreturn, 1) := by decide +kernel
theorem dX6_lowest_0 : decode cX6_lowest 0 = .ok (.lload_n 0, 1) := by decide +kernel
theorem dX6_lowest_1 : decode cX6_lowest 1 = .ok (.lload_n 2, 1) := by decide +kernel
theorem dX6_lowest_2 : decode cX6_lowest 2 = .ok (.invokestatic 166, 3) := by decide +kernel
theorem dX6_lowest_5 : decode cX6_lowest 5 = .ok (.lstore 5, 2) := by decide +kernel
theorem dX6_lowest_7 : decode cX6_lowest 7 = .ok (.iload 4, 2) := by decide +kernel
theorem dX6_lowest_9 : decode cX6_lowest 9 = .ok (.ifCond .ne 7, 3) := by decide +kernel
theorem dX6_lowest_12 : decode cX6_lowest 12 = .ok (.lload_n 0, 1) := by decide +kernel
theorem dX6_lowest_13 : decode cX6_lowest 13 = .ok (.goto 4, 3) := by decide +kernel
theorem dX6_lowest_16 : decode cX6_lowest 16 = .ok (.lload_n 2, 1) := by decide +kernel
theorem dX6_lowest_17 : decode cX6_lowest 17 = .ok (.lload 5, 2) := by decide +kernel
theorem dX6_lowest_19 : decode cX6_lowest 19 = .ok (.ldiv, 1) := by decide +kernel
theorem dX6_lowest_20 : decode cX6_lowest 20 = .ok (.l2i, 1) := by decide +kernel
theorem dX6_lowest_21 : decode cX6_lowest 21 = .ok (.ireturn, 1) := by decide +kernel
theorem dX6_timeTimes_0 : decode cX6_timeTimes 0 = .ok (.aload_n 0, 1) := by decide +kernel
theorem dX6_timeTimes_1 : decode cX6_timeTimes 1 = .ok (.iload_n 1, 1) := by decide +kernel
theorem dX6_timeTimes_2 : decode cX6_timeTimes 2 = .ok (.iconst 1, 1) := by decide +kernel
theorem dX6_timeTimes_3 : decode cX6_timeTimes 3 = .ok (.isub, 1) := by decide +kernel
theorem dX6_timeTimes_4 : decode cX6_timeTimes 4 = .ok (.invokevirtual 170, 3) := by decide +kernel
theorem dX6_timeTimes_7 : decode cX6_timeTimes 7 = .ok (.istore_n 2, 1) := by decide +kernel
theorem dX6_timeTimes_8 : decode cX6_timeTimes 8 = .ok (.aload_n 0, 1) := by decide +kernel
theorem dX6_timeTimes_9 : decode cX6_timeTimes 9 = .ok (.iload_n 2, 1) := by decide +kernel
theorem dX6_timeTimes_10 : decode cX6_timeTimes 10 = .ok (.invokevirtual 149, 3) := by decide +kernel
theorem dX6_timeTimes_13 : decode cX6_timeTimes 13 = .ok (.istore_n 3, 1) := by decide +kernel
theorem dX6_timeTimes_14 : decode cX6_timeTimes 14 = .ok (.aload_n 0, 1) := by decide +kernel
theorem dX6_timeTimes_15 : decode cX6_timeTimes 15 = .ok (.iload_n 2, 1) := by decide +kernel
theorem dX6_timeTimes_16 : decode cX6_timeTimes 16 = .ok (.iload_n 3, 1) := by decide +kernel
theorem dX6_timeTimes_17 : decode cX6_timeTimes 17 = .ok (.iload_n 1, 1) := by decide +kernel
theorem dX6_timeTimes_18 : decode cX6_timeTimes 18 = .ok (.invokevirtual 142, 3) := by decide +kernel
theorem dX6_timeTimes_21 : decode cX6_timeTimes 21 = .ok (.aload_n 0, 1) := by decide +kernel
theorem dX6_timeTimes_22 : decode cX6_timeTimes 22 = .ok (.getfield 35, 3) := by decide +kernel
theorem dX6_timeTimes_25 : decode cX6_timeTimes 25 = .ok (.iload_n 1, 1) := by decide +kernel
theorem dX6_timeTimes_26 : decode cX6_timeTimes 26 = .ok (.iaload, 1) := by decide +kernel
theorem dX6_timeTimes_27 : decode cX6_timeTimes 27 = .ok (.i2l, 1) := by decide +kernel
theorem dX6_timeTimes_28 : decode cX6_timeTimes 28 = .ok (.aload_n 0, 1) := by decide +kernel
theorem dX6_timeTimes_29 : decode cX6_timeTimes 29 = .ok (.getfield 32, 3) := by decide +kernel
theorem dX6_timeTimes_32 : decode cX6_timeTimes 32 = .ok (.iload_n 3, 1) := by decide +kernel
theorem dX6_timeTimes_33 : decode cX6_timeTimes 33 = .ok (.iaload, 1) := by decide +kernel
theorem dX6_timeTimes_34 : decode cX6_timeTimes 34 = .ok (.aload_n 0, 1) := by decide +kernel
theorem dX6_timeTimes_35 : decode cX6_timeTimes 35 = .ok (.getfield 32, 3) := by decide +kernel
theorem dX6_timeTimes_38 : decode cX6_timeTimes 38 = .ok (.iload_n 2, 1) := by decide +kernel
theorem dX6_timeTimes_39 : decode cX6_timeTimes 39 = .ok (.iaload, 1) := by decide +kernel
theorem dX6_timeTimes_40 : decode cX6_timeTimes 40 = .ok (.isub, 1) := by decide +kernel
theorem dX6_timeTimes_41 : decode cX6_timeTimes 41 = .ok (.i2l, 1) := by decide +kernel
theorem dX6_timeTimes_42 : decode cX6_timeTimes 42 = .ok (.lmul, 1) := by decide +kernel
theorem dX6_timeTimes_43 : decode cX6_timeTimes 43 = .ok (.ladd, 1) := by decide +kernel
theorem dX6_timeTimes_44 : decode cX6_timeTimes 44 = .ok (.lreturn, 1) := by decide +kernel
theorem dX6_milesAt_0 : decode cX6_milesAt 0 = .ok (.aload_n 0, 1) := by decide +kernel
theorem dX6_milesAt_1 : decode cX6_milesAt 1 = .ok (.iload_n 1, 1) := by decide +kernel
theorem dX6_milesAt_2 : decode cX6_milesAt 2 = .ok (.iconst 1, 1) := by decide +kernel
theorem dX6_milesAt_3 : decode cX6_milesAt 3 = .ok (.isub, 1) := by decide +kernel
theorem dX6_milesAt_4 : decode cX6_milesAt 4 = .ok (.invokevirtual 170, 3) := by decide +kernel
theorem dX6_milesAt_7 : decode cX6_milesAt 7 = .ok (.istore_n 2, 1) := by decide +kernel
theorem dX6_milesAt_8 : decode cX6_milesAt 8 = .ok (.aload_n 0, 1) := by decide +kernel
theorem dX6_milesAt_9 : decode cX6_milesAt 9 = .ok (.getfield 32, 3) := by decide +kernel
theorem dX6_milesAt_12 : decode cX6_milesAt 12 = .ok (.aload_n 0, 1) := by decide +kernel
theorem dX6_milesAt_13 : decode cX6_milesAt 13 = .ok (.iload_n 2, 1) := by decide +kernel
theorem dX6_milesAt_14 : decode cX6_milesAt 14 = .ok (.invokevirtual 149, 3) := by decide +kernel
theorem dX6_milesAt_17 : decode cX6_milesAt 17 = .ok (.iaload, 1) := by decide +kernel
theorem dX6_milesAt_18 : decode cX6_milesAt 18 = .ok (.aload_n 0, 1) := by decide +kernel
theorem dX6_milesAt_19 : decode cX6_milesAt 19 = .ok (.getfield 32, 3) := by decide +kernel
theorem dX6_milesAt_22 : decode cX6_milesAt 22 = .ok (.iload_n 2, 1) := by decide +kernel
theorem dX6_milesAt_23 : decode cX6_milesAt 23 = .ok (.iaload, 1) := by decide +kernel
theorem dX6_milesAt_24 : decode cX6_milesAt 24 = .ok (.isub, 1) := by decide +kernel
theorem dX6_milesAt_25 : decode cX6_milesAt 25 = .ok (.i2l, 1) := by decide +kernel
theorem dX6_milesAt_26 : decode cX6_milesAt 26 = .ok (.lreturn, 1) := by decide +kernel
theorem dX6_costOf_0 : decode cX6_costOf 0 = .ok (.aload_n 0, 1) := by decide +kernel
theorem dX6_costOf_1 : decode cX6_costOf 1 = .ok (.iload_n 1, 1) := by decide +kernel
theorem dX6_costOf_2 : decode cX6_costOf 2 = .ok (.invokevirtual 170, 3) := by decide +kernel
theorem dX6_costOf_5 : decode cX6_costOf 5 = .ok (.istore_n 2, 1) := by decide +kernel
theorem dX6_costOf_6 : decode cX6_costOf 6 = .ok (.aload_n 0, 1) := by decide +kernel
theorem dX6_costOf_7 : decode cX6_costOf 7 = .ok (.iload_n 2, 1) := by decide +kernel
theorem dX6_costOf_8 : decode cX6_costOf 8 = .ok (.invokevirtual 149, 3) := by decide +kernel
theorem dX6_costOf_11 : decode cX6_costOf 11 = .ok (.istore_n 3, 1) := by decide +kernel
theorem dX6_costOf_12 : decode cX6_costOf 12 = .ok (.aload_n 0, 1) := by decide +kernel
theorem dX6_costOf_13 : decode cX6_costOf 13 = .ok (.getfield 47, 3) := by decide +kernel
theorem dX6_costOf_16 : decode cX6_costOf 16 = .ok (.iload_n 3, 1) := by decide +kernel
theorem dX6_costOf_17 : decode cX6_costOf 17 = .ok (.laload, 1) := by decide +kernel
theorem dX6_costOf_18 : decode cX6_costOf 18 = .ok (.aload_n 0, 1) := by decide +kernel
theorem dX6_costOf_19 : decode cX6_costOf 19 = .ok (.getfield 47, 3) := by decide +kernel
theorem dX6_costOf_22 : decode cX6_costOf 22 = .ok (.iload_n 2, 1) := by decide +kernel
theorem dX6_costOf_23 : decode cX6_costOf 23 = .ok (.laload, 1) := by decide +kernel
theorem dX6_costOf_24 : decode cX6_costOf 24 = .ok (.lsub, 1) := by decide +kernel
theorem dX6_costOf_25 : decode cX6_costOf 25 = .ok (.lstore 4, 2) := by decide +kernel
theorem dX6_costOf_27 : decode cX6_costOf 27 = .ok (.aload_n 0, 1) := by decide +kernel
theorem dX6_costOf_28 : decode cX6_costOf 28 = .ok (.getfield 32, 3) := by decide +kernel
theorem dX6_costOf_31 : decode cX6_costOf 31 = .ok (.iload_n 3, 1) := by decide +kernel
theorem dX6_costOf_32 : decode cX6_costOf 32 = .ok (.iaload, 1) := by decide +kernel
theorem dX6_costOf_33 : decode cX6_costOf 33 = .ok (.aload_n 0, 1) := by decide +kernel
theorem dX6_costOf_34 : decode cX6_costOf 34 = .ok (.getfield 32, 3) := by decide +kernel
theorem dX6_costOf_37 : decode cX6_costOf 37 = .ok (.iload_n 2, 1) := by decide +kernel
theorem dX6_costOf_38 : decode cX6_costOf 38 = .ok (.iaload, 1) := by decide +kernel
theorem dX6_costOf_39 : decode cX6_costOf 39 = .ok (.isub, 1) := by decide +kernel
theorem dX6_costOf_40 : decode cX6_costOf 40 = .ok (.i2l, 1) := by decide +kernel
theorem dX6_costOf_41 : decode cX6_costOf 41 = .ok (.lstore 6, 2) := by decide +kernel
theorem dX6_costOf_43 : decode cX6_costOf 43 = .ok (.lload 6, 2) := by decide +kernel
theorem dX6_costOf_45 : decode cX6_costOf 45 = .ok (.ldc2_w 173, 3) := by decide +kernel
theorem dX6_costOf_48 : decode cX6_costOf 48 = .ok (.lload 4, 2) := by decide +kernel
theorem dX6_costOf_50 : decode cX6_costOf 50 = .ok (.lmul, 1) := by decide +kernel
theorem dX6_costOf_51 : decode cX6_costOf 51 = .ok (.ldiv, 1) := by decide +kernel
theorem dX6_costOf_52 : decode cX6_costOf 52 = .ok (.lstore 8, 2) := by decide +kernel
theorem dX6_costOf_54 : decode cX6_costOf 54 = .ok (.lload 8, 2) := by decide +kernel
theorem dX6_costOf_56 : decode cX6_costOf 56 = .ok (.ldc2_w 175, 3) := by decide +kernel
theorem dX6_costOf_59 : decode cX6_costOf 59 = .ok (.lcmp, 1) := by decide +kernel
theorem dX6_costOf_60 : decode cX6_costOf 60 = .ok (.ifCond .le 7, 3) := by decide +kernel
theorem dX6_costOf_63 : decode cX6_costOf 63 = .ok (.iconst 2, 1) := by decide +kernel
theorem dX6_costOf_64 : decode cX6_costOf 64 = .ok (.goto 6, 3) := by decide +kernel
theorem dX6_costOf_67 : decode cX6_costOf 67 = .ok (.lload 8, 2) := by decide +kernel
theorem dX6_costOf_69 : decode cX6_costOf 69 = .ok (.l2i, 1) := by decide +kernel
theorem dX6_costOf_70 : decode cX6_costOf 70 = .ok (.istore 10, 2) := by decide +kernel
theorem dX6_costOf_72 : decode cX6_costOf 72 = .ok (.aload_n 0, 1) := by decide +kernel
theorem dX6_costOf_73 : decode cX6_costOf 73 = .ok (.aload_n 0, 1) := by decide +kernel
theorem dX6_costOf_74 : decode cX6_costOf 74 = .ok (.getfield 126, 3) := by decide +kernel
theorem dX6_costOf_77 : decode cX6_costOf 77 = .ok (.iconst 5, 1) := by decide +kernel
theorem dX6_costOf_78 : decode cX6_costOf 78 = .ok (.iload 10, 2) := by decide +kernel
theorem dX6_costOf_80 : decode cX6_costOf 80 = .ok (.iadd, 1) := by decide +kernel
theorem dX6_costOf_81 : decode cX6_costOf 81 = .ok (.invokevirtual 70, 3) := by decide +kernel
theorem dX6_costOf_84 : decode cX6_costOf 84 = .ok (.i2l, 1) := by decide +kernel
theorem dX6_costOf_85 : decode cX6_costOf 85 = .ok (.lstore 11, 2) := by decide +kernel
theorem dX6_costOf_87 : decode cX6_costOf 87 = .ok (.aload_n 0, 1) := by decide +kernel
theorem dX6_costOf_88 : decode cX6_costOf 88 = .ok (.aload_n 0, 1) := by decide +kernel
theorem dX6_costOf_89 : decode cX6_costOf 89 = .ok (.getfield 126, 3) := by decide +kernel
theorem dX6_costOf_92 : decode cX6_costOf 92 = .ok (.iconst 5, 1) := by decide +kernel
theorem dX6_costOf_93 : decode cX6_costOf 93 = .ok (.iload 10, 2) := by decide +kernel
theorem dX6_costOf_95 : decode cX6_costOf 95 = .ok (.iadd, 1) := by decide +kernel
theorem dX6_costOf_96 : decode cX6_costOf 96 = .ok (.iconst 1, 1) := by decide +kernel
theorem dX6_costOf_97 : decode cX6_costOf 97 = .ok (.iadd, 1) := by decide +kernel
theorem dX6_costOf_98 : decode cX6_costOf 98 = .ok (.invokevirtual 70, 3) := by decide +kernel
theorem dX6_costOf_101 : decode cX6_costOf 101 = .ok (.i2l, 1) := by decide +kernel
theorem dX6_costOf_102 : decode cX6_costOf 102 = .ok (.lstore 13, 2) := by decide +kernel
theorem dX6_costOf_104 : decode cX6_costOf 104 = .ok (.lload 11, 2) := by decide +kernel
theorem dX6_costOf_106 : decode cX6_costOf 106 = .ok (.ldc2_w 173, 3) := by decide +kernel
theorem dX6_costOf_109 : decode cX6_costOf 109 = .ok (.lmul, 1) := by decide +kernel
theorem dX6_costOf_110 : decode cX6_costOf 110 = .ok (.lload 4, 2) := by decide +kernel
theorem dX6_costOf_112 : decode cX6_costOf 112 = .ok (.lmul, 1) := by decide +kernel
theorem dX6_costOf_113 : decode cX6_costOf 113 = .ok (.lload 13, 2) := by decide +kernel
theorem dX6_costOf_115 : decode cX6_costOf 115 = .ok (.lload 11, 2) := by decide +kernel
theorem dX6_costOf_117 : decode cX6_costOf 117 = .ok (.lsub, 1) := by decide +kernel
theorem dX6_costOf_118 : decode cX6_costOf 118 = .ok (.lload 6, 2) := by decide +kernel
theorem dX6_costOf_120 : decode cX6_costOf 120 = .ok (.ldc2_w 173, 3) := by decide +kernel
theorem dX6_costOf_123 : decode cX6_costOf 123 = .ok (.iload 10, 2) := by decide +kernel
theorem dX6_costOf_125 : decode cX6_costOf 125 = .ok (.i2l, 1) := by decide +kernel
theorem dX6_costOf_126 : decode cX6_costOf 126 = .ok (.lmul, 1) := by decide +kernel
theorem dX6_costOf_127 : decode cX6_costOf 127 = .ok (.lload 4, 2) := by decide +kernel
theorem dX6_costOf_129 : decode cX6_costOf 129 = .ok (.lmul, 1) := by decide +kernel
theorem dX6_costOf_130 : decode cX6_costOf 130 = .ok (.lsub, 1) := by decide +kernel
theorem dX6_costOf_131 : decode cX6_costOf 131 = .ok (.lmul, 1) := by decide +kernel
theorem dX6_costOf_132 : decode cX6_costOf 132 = .ok (.ladd, 1) := by decide +kernel
theorem dX6_costOf_133 : decode cX6_costOf 133 = .ok (.lstore 15, 2) := by decide +kernel
theorem dX6_costOf_135 : decode cX6_costOf 135 = .ok (.aload_n 0, 1) := by decide +kernel
theorem dX6_costOf_136 : decode cX6_costOf 136 = .ok (.aload_n 0, 1) := by decide +kernel
theorem dX6_costOf_137 : decode cX6_costOf 137 = .ok (.getfield 126, 3) := by decide +kernel
theorem dX6_costOf_140 : decode cX6_costOf 140 = .ok (.iload_n 1, 1) := by decide +kernel
theorem dX6_costOf_141 : decode cX6_costOf 141 = .ok (.iconst 0, 1) := by decide +kernel
theorem dX6_costOf_142 : decode cX6_costOf 142 = .ok (.invokevirtual 135, 3) := by decide +kernel
theorem dX6_costOf_145 : decode cX6_costOf 145 = .ok (.i2l, 1) := by decide +kernel
theorem dX6_costOf_146 : decode cX6_costOf 146 = .ok (.lload 15, 2) := by decide +kernel
theorem dX6_costOf_148 : decode cX6_costOf 148 = .ok (.lmul, 1) := by decide +kernel
theorem dX6_costOf_149 : decode cX6_costOf 149 = .ok (.ldc2_w 173, 3) := by decide +kernel
theorem dX6_costOf_152 : decode cX6_costOf 152 = .ok (.lload 4, 2) := by decide +kernel
theorem dX6_costOf_154 : decode cX6_costOf 154 = .ok (.lmul, 1) := by decide +kernel
theorem dX6_costOf_155 : decode cX6_costOf 155 = .ok (.ldiv, 1) := by decide +kernel
theorem dX6_costOf_156 : decode cX6_costOf 156 = .ok (.l2i, 1) := by decide +kernel
theorem dX6_costOf_157 : decode cX6_costOf 157 = .ok (.ireturn, 1) := by decide +kernel
theorem dX6_costsAhead_0 : decode cX6_costsAhead 0 = .ok (.iconst 0, 1) := by decide +kernel
theorem dX6_costsAhead_1 : decode cX6_costsAhead 1 = .ok (.istore_n 1, 1) := by decide +kernel
theorem dX6_costsAhead_2 : decode cX6_costsAhead 2 = .ok (.aload_n 0, 1) := by decide +kernel
theorem dX6_costsAhead_3 : decode cX6_costsAhead 3 = .ok (.getfield 129, 3) := by decide +kernel
theorem dX6_costsAhead_6 : decode cX6_costsAhead 6 = .ok (.istore_n 2, 1) := by decide +kernel
theorem dX6_costsAhead_7 : decode cX6_costsAhead 7 = .ok (.iload_n 2, 1) := by decide +kernel
theorem dX6_costsAhead_8 : decode cX6_costsAhead 8 = .ok (.aload_n 0, 1) := by decide +kernel
theorem dX6_costsAhead_9 : decode cX6_costsAhead 9 = .ok (.getfield 132, 3) := by decide +kernel
theorem dX6_costsAhead_12 : decode cX6_costsAhead 12 = .ok (.if_icmp .ge 17, 3) := by decide +kernel
theorem dX6_costsAhead_15 : decode cX6_costsAhead 15 = .ok (.iload_n 1, 1) := by decide +kernel
theorem dX6_costsAhead_16 : decode cX6_costsAhead 16 = .ok (.aload_n 0, 1) := by decide +kernel
theorem dX6_costsAhead_17 : decode cX6_costsAhead 17 = .ok (.iload_n 2, 1) := by decide +kernel
theorem dX6_costsAhead_18 : decode cX6_costsAhead 18 = .ok (.invokevirtual 177, 3) := by decide +kernel
theorem dX6_costsAhead_21 : decode cX6_costsAhead 21 = .ok (.iadd, 1) := by decide +kernel
theorem dX6_costsAhead_22 : decode cX6_costsAhead 22 = .ok (.istore_n 1, 1) := by decide +kernel
theorem dX6_costsAhead_23 : decode cX6_costsAhead 23 = .ok (.iinc 2 1, 3) := by decide +kernel
theorem dX6_costsAhead_26 : decode cX6_costsAhead 26 = .ok (.goto (-19), 3) := by decide +kernel
theorem dX6_costsAhead_29 : decode cX6_costsAhead 29 = .ok (.iload_n 1, 1) := by decide +kernel
theorem dX6_costsAhead_30 : decode cX6_costsAhead 30 = .ok (.ireturn, 1) := by decide +kernel
theorem dX6_sails_0 : decode cX6_sails 0 = .ok (.iload_n 1, 1) := by decide +kernel
theorem dX6_sails_1 : decode cX6_sails 1 = .ok (.invokestatic 115, 3) := by decide +kernel
theorem dX6_sails_4 : decode cX6_sails 4 = .ok (.ifCond .ne 5, 3) := by decide +kernel
theorem dX6_sails_7 : decode cX6_sails 7 = .ok (.iconst (-1), 1) := by decide +kernel
theorem dX6_sails_8 : decode cX6_sails 8 = .ok (.ireturn, 1) := by decide +kernel
theorem dX6_sails_9 : decode cX6_sails 9 = .ok (.aload_n 0, 1) := by decide +kernel
theorem dX6_sails_10 : decode cX6_sails 10 = .ok (.iload_n 1, 1) := by decide +kernel
theorem dX6_sails_11 : decode cX6_sails 11 = .ok (.invokevirtual 180, 3) := by decide +kernel
theorem dX6_sails_14 : decode cX6_sails 14 = .ok (.ifCond .ne 6, 3) := by decide +kernel
theorem dX6_sails_17 : decode cX6_sails 17 = .ok (.bipush (-2), 2) := by decide +kernel
theorem dX6_sails_19 : decode cX6_sails 19 = .ok (.ireturn, 1) := by decide +kernel
theorem dX6_sails_20 : decode cX6_sails 20 = .ok (.aload_n 0, 1) := by decide +kernel
theorem dX6_sails_21 : decode cX6_sails 21 = .ok (.invokevirtual 123, 3) := by decide +kernel
theorem dX6_sails_24 : decode cX6_sails 24 = .ok (.aload_n 0, 1) := by decide +kernel
theorem dX6_sails_25 : decode cX6_sails 25 = .ok (.getfield 129, 3) := by decide +kernel
theorem dX6_sails_28 : decode cX6_sails 28 = .ok (.iconst 1, 1) := by decide +kernel
theorem dX6_sails_29 : decode cX6_sails 29 = .ok (.iadd, 1) := by decide +kernel
theorem dX6_sails_30 : decode cX6_sails 30 = .ok (.istore_n 2, 1) := by decide +kernel
theorem dX6_sails_31 : decode cX6_sails 31 = .ok (.aload_n 0, 1) := by decide +kernel
theorem dX6_sails_32 : decode cX6_sails 32 = .ok (.iload_n 2, 1) := by decide +kernel
theorem dX6_sails_33 : decode cX6_sails 33 = .ok (.invokevirtual 183, 3) := by decide +kernel
theorem dX6_sails_36 : decode cX6_sails 36 = .ok (.lstore_n 3, 1) := by decide +kernel
theorem dX6_sails_37 : decode cX6_sails 37 = .ok (.aload_n 0, 1) := by decide +kernel
theorem dX6_sails_38 : decode cX6_sails 38 = .ok (.iload_n 2, 1) := by decide +kernel
theorem dX6_sails_39 : decode cX6_sails 39 = .ok (.invokevirtual 187, 3) := by decide +kernel
theorem dX6_sails_42 : decode cX6_sails 42 = .ok (.lstore 5, 2) := by decide +kernel
theorem dX6_sails_44 : decode cX6_sails 44 = .ok (.lload 5, 2) := by decide +kernel
theorem dX6_sails_46 : decode cX6_sails 46 = .ok (.lload_n 3, 1) := by decide +kernel
theorem dX6_sails_47 : decode cX6_sails 47 = .ok (.ladd, 1) := by decide +kernel
theorem dX6_sails_48 : decode cX6_sails 48 = .ok (.lconst 1, 1) := by decide +kernel
theorem dX6_sails_49 : decode cX6_sails 49 = .ok (.lsub, 1) := by decide +kernel
theorem dX6_sails_50 : decode cX6_sails 50 = .ok (.lload_n 3, 1) := by decide +kernel
theorem dX6_sails_51 : decode cX6_sails 51 = .ok (.ldiv, 1) := by decide +kernel
theorem dX6_sails_52 : decode cX6_sails 52 = .ok (.l2i, 1) := by decide +kernel
theorem dX6_sails_53 : decode cX6_sails 53 = .ok (.istore 7, 2) := by decide +kernel
theorem dX6_sails_55 : decode cX6_sails 55 = .ok (.bipush 33, 2) := by decide +kernel
theorem dX6_sails_57 : decode cX6_sails 57 = .ok (.iload_n 1, 1) := by decide +kernel
theorem dX6_sails_58 : decode cX6_sails 58 = .ok (.imul, 1) := by decide +kernel
theorem dX6_sails_59 : decode cX6_sails 59 = .ok (.istore 8, 2) := by decide +kernel
theorem dX6_sails_61 : decode cX6_sails 61 = .ok (.aload_n 0, 1) := by decide +kernel
theorem dX6_sails_62 : decode cX6_sails 62 = .ok (.getfield 7, 3) := by decide +kernel
theorem dX6_sails_65 : decode cX6_sails 65 = .ok (.iload 8, 2) := by decide +kernel
theorem dX6_sails_67 : decode cX6_sails 67 = .ok (.iconst 4, 1) := by decide +kernel
theorem dX6_sails_68 : decode cX6_sails 68 = .ok (.iadd, 1) := by decide +kernel
theorem dX6_sails_69 : decode cX6_sails 69 = .ok (.dup2, 1) := by decide +kernel
theorem dX6_sails_70 : decode cX6_sails 70 = .ok (.iaload, 1) := by decide +kernel
theorem dX6_sails_71 : decode cX6_sails 71 = .ok (.aload_n 0, 1) := by decide +kernel
theorem dX6_sails_72 : decode cX6_sails 72 = .ok (.aload_n 0, 1) := by decide +kernel
theorem dX6_sails_73 : decode cX6_sails 73 = .ok (.getfield 129, 3) := by decide +kernel
theorem dX6_sails_76 : decode cX6_sails 76 = .ok (.invokevirtual 177, 3) := by decide +kernel
theorem dX6_sails_79 : decode cX6_sails 79 = .ok (.iadd, 1) := by decide +kernel
theorem dX6_sails_80 : decode cX6_sails 80 = .ok (.iastore, 1) := by decide +kernel
theorem dX6_sails_81 : decode cX6_sails 81 = .ok (.aload_n 0, 1) := by decide +kernel
theorem dX6_sails_82 : decode cX6_sails 82 = .ok (.getfield 7, 3) := by decide +kernel
theorem dX6_sails_85 : decode cX6_sails 85 = .ok (.iload 8, 2) := by decide +kernel
theorem dX6_sails_87 : decode cX6_sails 87 = .ok (.iconst 2, 1) := by decide +kernel
theorem dX6_sails_88 : decode cX6_sails 88 = .ok (.iadd, 1) := by decide +kernel
theorem dX6_sails_89 : decode cX6_sails 89 = .ok (.iload_n 2, 1) := by decide +kernel
theorem dX6_sails_90 : decode cX6_sails 90 = .ok (.iastore, 1) := by decide +kernel
theorem dX6_sails_91 : decode cX6_sails 91 = .ok (.aload_n 0, 1) := by decide +kernel
theorem dX6_sails_92 : decode cX6_sails 92 = .ok (.getfield 7, 3) := by decide +kernel
theorem dX6_sails_95 : decode cX6_sails 95 = .ok (.iload 8, 2) := by decide +kernel
theorem dX6_sails_97 : decode cX6_sails 97 = .ok (.iconst 3, 1) := by decide +kernel
theorem dX6_sails_98 : decode cX6_sails 98 = .ok (.iadd, 1) := by decide +kernel
theorem dX6_sails_99 : decode cX6_sails 99 = .ok (.iload 7, 2) := by decide +kernel
theorem dX6_sails_101 : decode cX6_sails 101 = .ok (.aload_n 0, 1) := by decide +kernel
theorem dX6_sails_102 : decode cX6_sails 102 = .ok (.iload_n 1, 1) := by decide +kernel
theorem dX6_sails_103 : decode cX6_sails 103 = .ok (.iload_n 2, 1) := by decide +kernel
theorem dX6_sails_104 : decode cX6_sails 104 = .ok (.iconst 1, 1) := by decide +kernel
theorem dX6_sails_105 : decode cX6_sails 105 = .ok (.isub, 1) := by decide +kernel
theorem dX6_sails_106 : decode cX6_sails 106 = .ok (.iconst 1, 1) := by decide +kernel
theorem dX6_sails_107 : decode cX6_sails 107 = .ok (.invokevirtual 135, 3) := by decide +kernel
theorem dX6_sails_110 : decode cX6_sails 110 = .ok (.iadd, 1) := by decide +kernel
theorem dX6_sails_111 : decode cX6_sails 111 = .ok (.iastore, 1) := by decide +kernel
theorem dX6_sails_112 : decode cX6_sails 112 = .ok (.aload_n 0, 1) := by decide +kernel
theorem dX6_sails_113 : decode cX6_sails 113 = .ok (.getfield 7, 3) := by decide +kernel
theorem dX6_sails_116 : decode cX6_sails 116 = .ok (.iload 8, 2) := by decide +kernel
theorem dX6_sails_118 : decode cX6_sails 118 = .ok (.iconst 3, 1) := by decide +kernel
theorem dX6_sails_119 : decode cX6_sails 119 = .ok (.iadd, 1) := by decide +kernel
theorem dX6_sails_120 : decode cX6_sails 120 = .ok (.iaload, 1) := by decide +kernel
theorem dX6_sails_121 : decode cX6_sails 121 = .ok (.ireturn, 1) := by decide +kernel
theorem dX6_holds_0 : decode cX6_holds 0 = .ok (.iload_n 1, 1) := by decide +kernel
theorem dX6_holds_1 : decode cX6_holds 1 = .ok (.invokestatic 115, 3) := by decide +kernel
theorem dX6_holds_4 : decode cX6_holds 4 = .ok (.ifCond .eq 13, 3) := by decide +kernel
theorem dX6_holds_7 : decode cX6_holds 7 = .ok (.iload_n 2, 1) := by decide +kernel
theorem dX6_holds_8 : decode cX6_holds 8 = .ok (.iconst 1, 1) := by decide +kernel
theorem dX6_holds_9 : decode cX6_holds 9 = .ok (.bipush 99, 2) := by decide +kernel
theorem dX6_holds_11 : decode cX6_holds 11 = .ok (.invokestatic 62, 3) := by decide +kernel
theorem dX6_holds_14 : decode cX6_holds 14 = .ok (.ifCond .ne 5, 3) := by decide +kernel
theorem dX6_holds_17 : decode cX6_holds 17 = .ok (.iconst (-1), 1) := by decide +kernel
theorem dX6_holds_18 : decode cX6_holds 18 = .ok (.ireturn, 1) := by decide +kernel
theorem dX6_holds_19 : decode cX6_holds 19 = .ok (.aload_n 0, 1) := by decide +kernel
theorem dX6_holds_20 : decode cX6_holds 20 = .ok (.iload_n 1, 1) := by decide +kernel
theorem dX6_holds_21 : decode cX6_holds 21 = .ok (.iconst 3, 1) := by decide +kernel
theorem dX6_holds_22 : decode cX6_holds 22 = .ok (.invokevirtual 70, 3) := by decide +kernel
theorem dX6_holds_25 : decode cX6_holds 25 = .ok (.iload_n 2, 1) := by decide +kernel
theorem dX6_holds_26 : decode cX6_holds 26 = .ok (.iadd, 1) := by decide +kernel
theorem dX6_holds_27 : decode cX6_holds 27 = .ok (.sipush 9999, 3) := by decide +kernel
theorem dX6_holds_30 : decode cX6_holds 30 = .ok (.if_icmp .le 6, 3) := by decide +kernel
theorem dX6_holds_33 : decode cX6_holds 33 = .ok (.bipush (-3), 2) := by decide +kernel
theorem dX6_holds_35 : decode cX6_holds 35 = .ok (.ireturn, 1) := by decide +kernel
theorem dX6_holds_36 : decode cX6_holds 36 = .ok (.aload_n 0, 1) := by decide +kernel
theorem dX6_holds_37 : decode cX6_holds 37 = .ok (.invokevirtual 123, 3) := by decide +kernel
theorem dX6_holds_40 : decode cX6_holds 40 = .ok (.aload_n 0, 1) := by decide +kernel
theorem dX6_holds_41 : decode cX6_holds 41 = .ok (.getfield 7, 3) := by decide +kernel
theorem dX6_holds_44 : decode cX6_holds 44 = .ok (.bipush 33, 2) := by decide +kernel
theorem dX6_holds_46 : decode cX6_holds 46 = .ok (.iload_n 1, 1) := by decide +kernel
theorem dX6_holds_47 : decode cX6_holds 47 = .ok (.imul, 1) := by decide +kernel
theorem dX6_holds_48 : decode cX6_holds 48 = .ok (.iconst 3, 1) := by decide +kernel
theorem dX6_holds_49 : decode cX6_holds 49 = .ok (.iadd, 1) := by decide +kernel
theorem dX6_holds_50 : decode cX6_holds 50 = .ok (.dup2, 1) := by decide +kernel
theorem dX6_holds_51 : decode cX6_holds 51 = .ok (.iaload, 1) := by decide +kernel
theorem dX6_holds_52 : decode cX6_holds 52 = .ok (.iload_n 2, 1) := by decide +kernel
theorem dX6_holds_53 : decode cX6_holds 53 = .ok (.iadd, 1) := by decide +kernel
theorem dX6_holds_54 : decode cX6_holds 54 = .ok (.iastore, 1) := by decide +kernel
theorem dX6_holds_55 : decode cX6_holds 55 = .ok (.aload_n 0, 1) := by decide +kernel
theorem dX6_holds_56 : decode cX6_holds 56 = .ok (.iload_n 1, 1) := by decide +kernel
theorem dX6_holds_57 : decode cX6_holds 57 = .ok (.iconst 3, 1) := by decide +kernel
theorem dX6_holds_58 : decode cX6_holds 58 = .ok (.invokevirtual 70, 3) := by decide +kernel
theorem dX6_holds_61 : decode cX6_holds 61 = .ok (.ireturn, 1) := by decide +kernel
theorem dX6_moves_0 : decode cX6_moves 0 = .ok (.aload_n 0, 1) := by decide +kernel
theorem dX6_moves_1 : decode cX6_moves 1 = .ok (.iload_n 1, 1) := by decide +kernel
theorem dX6_moves_2 : decode cX6_moves 2 = .ok (.iload_n 2, 1) := by decide +kernel
theorem dX6_moves_3 : decode cX6_moves 3 = .ok (.invokevirtual 190, 3) := by decide +kernel
theorem dX6_moves_6 : decode cX6_moves 6 = .ok (.ifCond .eq 26, 3) := by decide +kernel
theorem dX6_moves_9 : decode cX6_moves 9 = .ok (.iload_n 3, 1) := by decide +kernel
theorem dX6_moves_10 : decode cX6_moves 10 = .ok (.iconst 0, 1) := by decide +kernel
theorem dX6_moves_11 : decode cX6_moves 11 = .ok (.sipush 999, 3) := by decide +kernel
theorem dX6_moves_14 : decode cX6_moves 14 = .ok (.invokestatic 62, 3) := by decide +kernel
theorem dX6_moves_17 : decode cX6_moves 17 = .ok (.ifCond .eq 15, 3) := by decide +kernel
theorem dX6_moves_20 : decode cX6_moves 20 = .ok (.iload 4, 2) := by decide +kernel
theorem dX6_moves_22 : decode cX6_moves 22 = .ok (.iload_n 3, 1) := by decide +kernel
theorem dX6_moves_23 : decode cX6_moves 23 = .ok (.sipush 999, 3) := by decide +kernel
theorem dX6_moves_26 : decode cX6_moves 26 = .ok (.invokestatic 62, 3) := by decide +kernel
theorem dX6_moves_29 : decode cX6_moves 29 = .ok (.ifCond .ne 5, 3) := by decide +kernel
theorem dX6_moves_32 : decode cX6_moves 32 = .ok (.iconst (-1), 1) := by decide +kernel
theorem dX6_moves_33 : decode cX6_moves 33 = .ok (.ireturn, 1) := by decide +kernel
theorem dX6_moves_34 : decode cX6_moves 34 = .ok (.iload_n 2, 1) := by decide +kernel
theorem dX6_moves_35 : decode cX6_moves 35 = .ok (.iconst 1, 1) := by decide +kernel
theorem dX6_moves_36 : decode cX6_moves 36 = .ok (.isub, 1) := by decide +kernel
theorem dX6_moves_37 : decode cX6_moves 37 = .ok (.istore 5, 2) := by decide +kernel
theorem dX6_moves_39 : decode cX6_moves 39 = .ok (.aload_n 0, 1) := by decide +kernel
theorem dX6_moves_40 : decode cX6_moves 40 = .ok (.iload_n 1, 1) := by decide +kernel
theorem dX6_moves_41 : decode cX6_moves 41 = .ok (.iload 5, 2) := by decide +kernel
theorem dX6_moves_43 : decode cX6_moves 43 = .ok (.iconst 2, 1) := by decide +kernel
theorem dX6_moves_44 : decode cX6_moves 44 = .ok (.invokevirtual 135, 3) := by decide +kernel
theorem dX6_moves_47 : decode cX6_moves 47 = .ok (.iload_n 3, 1) := by decide +kernel
theorem dX6_moves_48 : decode cX6_moves 48 = .ok (.if_icmp .ne 19, 3) := by decide +kernel
theorem dX6_moves_51 : decode cX6_moves 51 = .ok (.aload_n 0, 1) := by decide +kernel
theorem dX6_moves_52 : decode cX6_moves 52 = .ok (.iload_n 1, 1) := by decide +kernel
theorem dX6_moves_53 : decode cX6_moves 53 = .ok (.iload 5, 2) := by decide +kernel
theorem dX6_moves_55 : decode cX6_moves 55 = .ok (.iconst 3, 1) := by decide +kernel
theorem dX6_moves_56 : decode cX6_moves 56 = .ok (.invokevirtual 135, 3) := by decide +kernel
theorem dX6_moves_59 : decode cX6_moves 59 = .ok (.iload 4, 2) := by decide +kernel
theorem dX6_moves_61 : decode cX6_moves 61 = .ok (.if_icmp .ne 6, 3) := by decide +kernel
theorem dX6_moves_64 : decode cX6_moves 64 = .ok (.bipush (-2), 2) := by decide +kernel
theorem dX6_moves_66 : decode cX6_moves 66 = .ok (.ireturn, 1) := by decide +kernel
theorem dX6_moves_67 : decode cX6_moves 67 = .ok (.aload_n 0, 1) := by decide +kernel
theorem dX6_moves_68 : decode cX6_moves 68 = .ok (.invokevirtual 123, 3) := by decide +kernel
theorem dX6_moves_71 : decode cX6_moves 71 = .ok (.aload_n 0, 1) := by decide +kernel
theorem dX6_moves_72 : decode cX6_moves 72 = .ok (.getfield 7, 3) := by decide +kernel
theorem dX6_moves_75 : decode cX6_moves 75 = .ok (.bipush 33, 2) := by decide +kernel
theorem dX6_moves_77 : decode cX6_moves 77 = .ok (.iload_n 1, 1) := by decide +kernel
theorem dX6_moves_78 : decode cX6_moves 78 = .ok (.imul, 1) := by decide +kernel
theorem dX6_moves_79 : decode cX6_moves 79 = .ok (.iload 5, 2) := by decide +kernel
theorem dX6_moves_81 : decode cX6_moves 81 = .ok (.iconst 2, 1) := by decide +kernel
theorem dX6_moves_82 : decode cX6_moves 82 = .ok (.invokestatic 66, 3) := by decide +kernel
theorem dX6_moves_85 : decode cX6_moves 85 = .ok (.iadd, 1) := by decide +kernel
theorem dX6_moves_86 : decode cX6_moves 86 = .ok (.iload_n 3, 1) := by decide +kernel
theorem dX6_moves_87 : decode cX6_moves 87 = .ok (.iastore, 1) := by decide +kernel
theorem dX6_moves_88 : decode cX6_moves 88 = .ok (.aload_n 0, 1) := by decide +kernel
theorem dX6_moves_89 : decode cX6_moves 89 = .ok (.getfield 7, 3) := by decide +kernel
theorem dX6_moves_92 : decode cX6_moves 92 = .ok (.bipush 33, 2) := by decide +kernel
theorem dX6_moves_94 : decode cX6_moves 94 = .ok (.iload_n 1, 1) := by decide +kernel
theorem dX6_moves_95 : decode cX6_moves 95 = .ok (.imul, 1) := by decide +kernel
theorem dX6_moves_96 : decode cX6_moves 96 = .ok (.iload 5, 2) := by decide +kernel
theorem dX6_moves_98 : decode cX6_moves 98 = .ok (.iconst 3, 1) := by decide +kernel
theorem dX6_moves_99 : decode cX6_moves 99 = .ok (.invokestatic 66, 3) := by decide +kernel
theorem dX6_moves_102 : decode cX6_moves 102 = .ok (.iadd, 1) := by decide +kernel
theorem dX6_moves_103 : decode cX6_moves 103 = .ok (.iload 4, 2) := by decide +kernel
theorem dX6_moves_105 : decode cX6_moves 105 = .ok (.iastore, 1) := by decide +kernel
theorem dX6_moves_106 : decode cX6_moves 106 = .ok (.iconst 1, 1) := by decide +kernel
theorem dX6_moves_107 : decode cX6_moves 107 = .ok (.ireturn, 1) := by decide +kernel
theorem dX6_fastens_0 : decode cX6_fastens 0 = .ok (.iload_n 1, 1) := by decide +kernel
theorem dX6_fastens_1 : decode cX6_fastens 1 = .ok (.invokestatic 115, 3) := by decide +kernel
theorem dX6_fastens_4 : decode cX6_fastens 4 = .ok (.ifCond .eq 13, 3) := by decide +kernel
theorem dX6_fastens_7 : decode cX6_fastens 7 = .ok (.iload_n 2, 1) := by decide +kernel
theorem dX6_fastens_8 : decode cX6_fastens 8 = .ok (.iconst 1, 1) := by decide +kernel
theorem dX6_fastens_9 : decode cX6_fastens 9 = .ok (.bipush 60, 2) := by decide +kernel
theorem dX6_fastens_11 : decode cX6_fastens 11 = .ok (.invokestatic 62, 3) := by decide +kernel
theorem dX6_fastens_14 : decode cX6_fastens 14 = .ok (.ifCond .ne 5, 3) := by decide +kernel
theorem dX6_fastens_17 : decode cX6_fastens 17 = .ok (.iconst (-1), 1) := by decide +kernel
theorem dX6_fastens_18 : decode cX6_fastens 18 = .ok (.ireturn, 1) := by decide +kernel
theorem dX6_fastens_19 : decode cX6_fastens 19 = .ok (.aload_n 0, 1) := by decide +kernel
theorem dX6_fastens_20 : decode cX6_fastens 20 = .ok (.iload_n 1, 1) := by decide +kernel
theorem dX6_fastens_21 : decode cX6_fastens 21 = .ok (.iconst 1, 1) := by decide +kernel
theorem dX6_fastens_22 : decode cX6_fastens 22 = .ok (.invokevirtual 70, 3) := by decide +kernel
theorem dX6_fastens_25 : decode cX6_fastens 25 = .ok (.istore_n 3, 1) := by decide +kernel
theorem dX6_fastens_26 : decode cX6_fastens 26 = .ok (.iload_n 3, 1) := by decide +kernel
theorem dX6_fastens_27 : decode cX6_fastens 27 = .ok (.iload_n 2, 1) := by decide +kernel
theorem dX6_fastens_28 : decode cX6_fastens 28 = .ok (.if_icmp .ne 6, 3) := by decide +kernel
theorem dX6_fastens_31 : decode cX6_fastens 31 = .ok (.bipush (-2), 2) := by decide +kernel
theorem dX6_fastens_33 : decode cX6_fastens 33 = .ok (.ireturn, 1) := by decide +kernel
theorem dX6_fastens_34 : decode cX6_fastens 34 = .ok (.aload_n 0, 1) := by decide +kernel
theorem dX6_fastens_35 : decode cX6_fastens 35 = .ok (.invokevirtual 123, 3) := by decide +kernel
theorem dX6_fastens_38 : decode cX6_fastens 38 = .ok (.aload_n 0, 1) := by decide +kernel
theorem dX6_fastens_39 : decode cX6_fastens 39 = .ok (.getfield 7, 3) := by decide +kernel
theorem dX6_fastens_42 : decode cX6_fastens 42 = .ok (.bipush 33, 2) := by decide +kernel
theorem dX6_fastens_44 : decode cX6_fastens 44 = .ok (.iload_n 1, 1) := by decide +kernel
theorem dX6_fastens_45 : decode cX6_fastens 45 = .ok (.imul, 1) := by decide +kernel
theorem dX6_fastens_46 : decode cX6_fastens 46 = .ok (.iconst 1, 1) := by decide +kernel
theorem dX6_fastens_47 : decode cX6_fastens 47 = .ok (.iadd, 1) := by decide +kernel
theorem dX6_fastens_48 : decode cX6_fastens 48 = .ok (.iload_n 2, 1) := by decide +kernel
theorem dX6_fastens_49 : decode cX6_fastens 49 = .ok (.iastore, 1) := by decide +kernel
theorem dX6_fastens_50 : decode cX6_fastens 50 = .ok (.iload_n 3, 1) := by decide +kernel
theorem dX6_fastens_51 : decode cX6_fastens 51 = .ok (.ireturn, 1) := by decide +kernel
theorem dX6_ship_0 : decode cX6_ship 0 = .ok (.iload_n 1, 1) := by decide +kernel
theorem dX6_ship_1 : decode cX6_ship 1 = .ok (.invokestatic 115, 3) := by decide +kernel
theorem dX6_ship_4 : decode cX6_ship 4 = .ok (.ifCond .eq 22, 3) := by decide +kernel
theorem dX6_ship_7 : decode cX6_ship 7 = .ok (.iload_n 2, 1) := by decide +kernel
theorem dX6_ship_8 : decode cX6_ship 8 = .ok (.iconst 0, 1) := by decide +kernel
theorem dX6_ship_9 : decode cX6_ship 9 = .ok (.bipush 8, 2) := by decide +kernel
theorem dX6_ship_11 : decode cX6_ship 11 = .ok (.invokestatic 62, 3) := by decide +kernel
theorem dX6_ship_14 : decode cX6_ship 14 = .ok (.ifCond .eq 12, 3) := by decide +kernel
theorem dX6_ship_17 : decode cX6_ship 17 = .ok (.aload_n 0, 1) := by decide +kernel
theorem dX6_ship_18 : decode cX6_ship 18 = .ok (.iload_n 1, 1) := by decide +kernel
theorem dX6_ship_19 : decode cX6_ship 19 = .ok (.iload_n 2, 1) := by decide +kernel
theorem dX6_ship_20 : decode cX6_ship 20 = .ok (.invokevirtual 70, 3) := by decide +kernel
theorem dX6_ship_23 : decode cX6_ship 23 = .ok (.goto 4, 3) := by decide +kernel
theorem dX6_ship_26 : decode cX6_ship 26 = .ok (.iconst (-1), 1) := by decide +kernel
theorem dX6_ship_27 : decode cX6_ship 27 = .ok (.ireturn, 1) := by decide +kernel
theorem dX6_leg_0 : decode cX6_leg 0 = .ok (.iload_n 1, 1) := by decide +kernel
theorem dX6_leg_1 : decode cX6_leg 1 = .ok (.invokestatic 115, 3) := by decide +kernel
theorem dX6_leg_4 : decode cX6_leg 4 = .ok (.ifCond .eq 38, 3) := by decide +kernel
theorem dX6_leg_7 : decode cX6_leg 7 = .ok (.iload_n 2, 1) := by decide +kernel
theorem dX6_leg_8 : decode cX6_leg 8 = .ok (.iconst 0, 1) := by decide +kernel
theorem dX6_leg_9 : decode cX6_leg 9 = .ok (.aload_n 0, 1) := by decide +kernel
theorem dX6_leg_10 : decode cX6_leg 10 = .ok (.iload_n 1, 1) := by decide +kernel
theorem dX6_leg_11 : decode cX6_leg 11 = .ok (.iconst 0, 1) := by decide +kernel
theorem dX6_leg_12 : decode cX6_leg 12 = .ok (.invokevirtual 70, 3) := by decide +kernel
theorem dX6_leg_15 : decode cX6_leg 15 = .ok (.iconst 1, 1) := by decide +kernel
theorem dX6_leg_16 : decode cX6_leg 16 = .ok (.isub, 1) := by decide +kernel
theorem dX6_leg_17 : decode cX6_leg 17 = .ok (.invokestatic 62, 3) := by decide +kernel
theorem dX6_leg_20 : decode cX6_leg 20 = .ok (.ifCond .eq 22, 3) := by decide +kernel
theorem dX6_leg_23 : decode cX6_leg 23 = .ok (.iload_n 3, 1) := by decide +kernel
theorem dX6_leg_24 : decode cX6_leg 24 = .ok (.iconst 0, 1) := by decide +kernel
theorem dX6_leg_25 : decode cX6_leg 25 = .ok (.iconst 3, 1) := by decide +kernel
theorem dX6_leg_26 : decode cX6_leg 26 = .ok (.invokestatic 62, 3) := by decide +kernel
theorem dX6_leg_29 : decode cX6_leg 29 = .ok (.ifCond .eq 13, 3) := by decide +kernel
theorem dX6_leg_32 : decode cX6_leg 32 = .ok (.aload_n 0, 1) := by decide +kernel
theorem dX6_leg_33 : decode cX6_leg 33 = .ok (.iload_n 1, 1) := by decide +kernel
theorem dX6_leg_34 : decode cX6_leg 34 = .ok (.iload_n 2, 1) := by decide +kernel
theorem dX6_leg_35 : decode cX6_leg 35 = .ok (.iload_n 3, 1) := by decide +kernel
theorem dX6_leg_36 : decode cX6_leg 36 = .ok (.invokevirtual 135, 3) := by decide +kernel
theorem dX6_leg_39 : decode cX6_leg 39 = .ok (.goto 4, 3) := by decide +kernel
theorem dX6_leg_42 : decode cX6_leg 42 = .ok (.iconst (-1), 1) := by decide +kernel
theorem dX6_leg_43 : decode cX6_leg 43 = .ok (.ireturn, 1) := by decide +kernel
theorem dX6_stretches_0 : decode cX6_stretches 0 = .ok (.iconst 0, 1) := by decide +kernel
theorem dX6_stretches_1 : decode cX6_stretches 1 = .ok (.istore_n 1, 1) := by decide +kernel
theorem dX6_stretches_2 : decode cX6_stretches 2 = .ok (.aload_n 0, 1) := by decide +kernel
theorem dX6_stretches_3 : decode cX6_stretches 3 = .ok (.getfield 129, 3) := by decide +kernel
theorem dX6_stretches_6 : decode cX6_stretches 6 = .ok (.iconst 1, 1) := by decide +kernel
theorem dX6_stretches_7 : decode cX6_stretches 7 = .ok (.iadd, 1) := by decide +kernel
theorem dX6_stretches_8 : decode cX6_stretches 8 = .ok (.istore_n 2, 1) := by decide +kernel
theorem dX6_stretches_9 : decode cX6_stretches 9 = .ok (.iload_n 2, 1) := by decide +kernel
theorem dX6_stretches_10 : decode cX6_stretches 10 = .ok (.aload_n 0, 1) := by decide +kernel
theorem dX6_stretches_11 : decode cX6_stretches 11 = .ok (.getfield 132, 3) := by decide +kernel
theorem dX6_stretches_14 : decode cX6_stretches 14 = .ok (.if_icmp .gt 26, 3) := by decide +kernel
theorem dX6_stretches_17 : decode cX6_stretches 17 = .ok (.iload_n 1, 1) := by decide +kernel
theorem dX6_stretches_18 : decode cX6_stretches 18 = .ok (.aload_n 0, 1) := by decide +kernel
theorem dX6_stretches_19 : decode cX6_stretches 19 = .ok (.getfield 44, 3) := by decide +kernel
theorem dX6_stretches_22 : decode cX6_stretches 22 = .ok (.iload_n 2, 1) := by decide +kernel
theorem dX6_stretches_23 : decode cX6_stretches 23 = .ok (.iaload, 1) := by decide +kernel
theorem dX6_stretches_24 : decode cX6_stretches 24 = .ok (.ifCond .ne 7, 3) := by decide +kernel
theorem dX6_stretches_27 : decode cX6_stretches 27 = .ok (.iconst 0, 1) := by decide +kernel
theorem dX6_stretches_28 : decode cX6_stretches 28 = .ok (.goto 4, 3) := by decide +kernel
theorem dX6_stretches_31 : decode cX6_stretches 31 = .ok (.iconst 1, 1) := by decide +kernel
theorem dX6_stretches_32 : decode cX6_stretches 32 = .ok (.iadd, 1) := by decide +kernel
theorem dX6_stretches_33 : decode cX6_stretches 33 = .ok (.istore_n 1, 1) := by decide +kernel
theorem dX6_stretches_34 : decode cX6_stretches 34 = .ok (.iinc 2 1, 3) := by decide +kernel
theorem dX6_stretches_37 : decode cX6_stretches 37 = .ok (.goto (-28), 3) := by decide +kernel
theorem dX6_stretches_40 : decode cX6_stretches 40 = .ok (.iload_n 1, 1) := by decide +kernel
theorem dX6_stretches_41 : decode cX6_stretches 41 = .ok (.ireturn, 1) := by decide +kernel
theorem dX6_plan_0 : decode cX6_plan 0 = .ok (.iload_n 1, 1) := by decide +kernel
theorem dX6_plan_1 : decode cX6_plan 1 = .ok (.invokestatic 115, 3) := by decide +kernel
theorem dX6_plan_4 : decode cX6_plan 4 = .ok (.ifCond .eq 12, 3) := by decide +kernel
theorem dX6_plan_7 : decode cX6_plan 7 = .ok (.iload_n 2, 1) := by decide +kernel
theorem dX6_plan_8 : decode cX6_plan 8 = .ok (.iconst 0, 1) := by decide +kernel
theorem dX6_plan_9 : decode cX6_plan 9 = .ok (.iconst 1, 1) := by decide +kernel
theorem dX6_plan_10 : decode cX6_plan 10 = .ok (.invokestatic 62, 3) := by decide +kernel
theorem dX6_plan_13 : decode cX6_plan 13 = .ok (.ifCond .ne 5, 3) := by decide +kernel
theorem dX6_plan_16 : decode cX6_plan 16 = .ok (.iconst (-1), 1) := by decide +kernel
theorem dX6_plan_17 : decode cX6_plan 17 = .ok (.ireturn, 1) := by decide +kernel
theorem dX6_plan_18 : decode cX6_plan 18 = .ok (.aload_n 0, 1) := by decide +kernel
theorem dX6_plan_19 : decode cX6_plan 19 = .ok (.iload_n 1, 1) := by decide +kernel
theorem dX6_plan_20 : decode cX6_plan 20 = .ok (.invokevirtual 180, 3) := by decide +kernel
theorem dX6_plan_23 : decode cX6_plan 23 = .ok (.ifCond .ne 6, 3) := by decide +kernel
theorem dX6_plan_26 : decode cX6_plan 26 = .ok (.bipush (-9), 2) := by decide +kernel
theorem dX6_plan_28 : decode cX6_plan 28 = .ok (.ireturn, 1) := by decide +kernel
theorem dX6_plan_29 : decode cX6_plan 29 = .ok (.iload_n 2, 1) := by decide +kernel
theorem dX6_plan_30 : decode cX6_plan 30 = .ok (.ifCond .ne 10, 3) := by decide +kernel
theorem dX6_plan_33 : decode cX6_plan 33 = .ok (.aload_n 0, 1) := by decide +kernel
theorem dX6_plan_34 : decode cX6_plan 34 = .ok (.invokevirtual 193, 3) := by decide +kernel
theorem dX6_plan_37 : decode cX6_plan 37 = .ok (.goto 7, 3) := by decide +kernel
theorem dX6_plan_40 : decode cX6_plan 40 = .ok (.aload_n 0, 1) := by decide +kernel
theorem dX6_plan_41 : decode cX6_plan 41 = .ok (.invokevirtual 196, 3) := by decide +kernel
theorem dX6_plan_44 : decode cX6_plan 44 = .ok (.ireturn, 1) := by decide +kernel
theorem dX6_time_0 : decode cX6_time 0 = .ok (.aload_n 0, 1) := by decide +kernel
theorem dX6_time_1 : decode cX6_time 1 = .ok (.iload_n 1, 1) := by decide +kernel
theorem dX6_time_2 : decode cX6_time 2 = .ok (.iload_n 2, 1) := by decide +kernel
theorem dX6_time_3 : decode cX6_time 3 = .ok (.invokevirtual 190, 3) := by decide +kernel
theorem dX6_time_6 : decode cX6_time 6 = .ok (.ifCond .eq 12, 3) := by decide +kernel
theorem dX6_time_9 : decode cX6_time 9 = .ok (.iload_n 3, 1) := by decide +kernel
theorem dX6_time_10 : decode cX6_time 10 = .ok (.iconst 0, 1) := by decide +kernel
theorem dX6_time_11 : decode cX6_time 11 = .ok (.iconst 1, 1) := by decide +kernel
theorem dX6_time_12 : decode cX6_time 12 = .ok (.invokestatic 62, 3) := by decide +kernel
theorem dX6_time_15 : decode cX6_time 15 = .ok (.ifCond .ne 6, 3) := by decide +kernel
theorem dX6_time_18 : decode cX6_time 18 = .ok (.ldc 199, 2) := by decide +kernel
theorem dX6_time_20 : decode cX6_time 20 = .ok (.ireturn, 1) := by decide +kernel
theorem dX6_time_21 : decode cX6_time 21 = .ok (.aload_n 0, 1) := by decide +kernel
theorem dX6_time_22 : decode cX6_time 22 = .ok (.iload_n 1, 1) := by decide +kernel
theorem dX6_time_23 : decode cX6_time 23 = .ok (.invokevirtual 180, 3) := by decide +kernel
theorem dX6_time_26 : decode cX6_time 26 = .ok (.ifCond .eq 20, 3) := by decide +kernel
theorem dX6_time_29 : decode cX6_time 29 = .ok (.aload_n 0, 1) := by decide +kernel
theorem dX6_time_30 : decode cX6_time 30 = .ok (.iload_n 2, 1) := by decide +kernel
theorem dX6_time_31 : decode cX6_time 31 = .ok (.invokevirtual 187, 3) := by decide +kernel
theorem dX6_time_34 : decode cX6_time 34 = .ok (.aload_n 0, 1) := by decide +kernel
theorem dX6_time_35 : decode cX6_time 35 = .ok (.iload_n 2, 1) := by decide +kernel
theorem dX6_time_36 : decode cX6_time 36 = .ok (.invokevirtual 183, 3) := by decide +kernel
theorem dX6_time_39 : decode cX6_time 39 = .ok (.iload_n 3, 1) := by decide +kernel
theorem dX6_time_40 : decode cX6_time 40 = .ok (.invokestatic 200, 3) := by decide +kernel
theorem dX6_time_43 : decode cX6_time 43 = .ok (.goto 5, 3) := by decide +kernel
theorem dX6_time_46 : decode cX6_time 46 = .ok (.ldc 204, 2) := by decide +kernel
theorem dX6_time_48 : decode cX6_time 48 = .ok (.ireturn, 1) := by decide +kernel
theorem dX6_speed_0 : decode cX6_speed 0 = .ok (.aload_n 0, 1) := by decide +kernel
theorem dX6_speed_1 : decode cX6_speed 1 = .ok (.iload_n 1, 1) := by decide +kernel
theorem dX6_speed_2 : decode cX6_speed 2 = .ok (.iload_n 2, 1) := by decide +kernel
theorem dX6_speed_3 : decode cX6_speed 3 = .ok (.iconst 1, 1) := by decide +kernel
theorem dX6_speed_4 : decode cX6_speed 4 = .ok (.iadd, 1) := by decide +kernel
theorem dX6_speed_5 : decode cX6_speed 5 = .ok (.invokevirtual 190, 3) := by decide +kernel
theorem dX6_speed_8 : decode cX6_speed 8 = .ok (.ifCond .eq 12, 3) := by decide +kernel
theorem dX6_speed_11 : decode cX6_speed 11 = .ok (.iload_n 3, 1) := by decide +kernel
theorem dX6_speed_12 : decode cX6_speed 12 = .ok (.iconst 0, 1) := by decide +kernel
theorem dX6_speed_13 : decode cX6_speed 13 = .ok (.iconst 1, 1) := by decide +kernel
theorem dX6_speed_14 : decode cX6_speed 14 = .ok (.invokestatic 62, 3) := by decide +kernel
theorem dX6_speed_17 : decode cX6_speed 17 = .ok (.ifCond .ne 6, 3) := by decide +kernel
theorem dX6_speed_20 : decode cX6_speed 20 = .ok (.ldc 199, 2) := by decide +kernel
theorem dX6_speed_22 : decode cX6_speed 22 = .ok (.ireturn, 1) := by decide +kernel
theorem dX6_speed_23 : decode cX6_speed 23 = .ok (.aload_n 0, 1) := by decide +kernel
theorem dX6_speed_24 : decode cX6_speed 24 = .ok (.iload_n 1, 1) := by decide +kernel
theorem dX6_speed_25 : decode cX6_speed 25 = .ok (.invokevirtual 180, 3) := by decide +kernel
theorem dX6_speed_28 : decode cX6_speed 28 = .ok (.ifCond .ne 6, 3) := by decide +kernel
theorem dX6_speed_31 : decode cX6_speed 31 = .ok (.ldc 204, 2) := by decide +kernel
theorem dX6_speed_33 : decode cX6_speed 33 = .ok (.ireturn, 1) := by decide +kernel
theorem dX6_speed_34 : decode cX6_speed 34 = .ok (.aload_n 0, 1) := by decide +kernel
theorem dX6_speed_35 : decode cX6_speed 35 = .ok (.iload_n 2, 1) := by decide +kernel
theorem dX6_speed_36 : decode cX6_speed 36 = .ok (.invokevirtual 170, 3) := by decide +kernel
theorem dX6_speed_39 : decode cX6_speed 39 = .ok (.istore 4, 2) := by decide +kernel
theorem dX6_speed_41 : decode cX6_speed 41 = .ok (.aload_n 0, 1) := by decide +kernel
theorem dX6_speed_42 : decode cX6_speed 42 = .ok (.iload 4, 2) := by decide +kernel
theorem dX6_speed_44 : decode cX6_speed 44 = .ok (.invokevirtual 149, 3) := by decide +kernel
theorem dX6_speed_47 : decode cX6_speed 47 = .ok (.istore 5, 2) := by decide +kernel
theorem dX6_speed_49 : decode cX6_speed 49 = .ok (.aload_n 0, 1) := by decide +kernel
theorem dX6_speed_50 : decode cX6_speed 50 = .ok (.getfield 32, 3) := by decide +kernel
theorem dX6_speed_53 : decode cX6_speed 53 = .ok (.iload 5, 2) := by decide +kernel
theorem dX6_speed_55 : decode cX6_speed 55 = .ok (.iaload, 1) := by decide +kernel
theorem dX6_speed_56 : decode cX6_speed 56 = .ok (.aload_n 0, 1) := by decide +kernel
theorem dX6_speed_57 : decode cX6_speed 57 = .ok (.getfield 32, 3) := by decide +kernel
theorem dX6_speed_60 : decode cX6_speed 60 = .ok (.iload 4, 2) := by decide +kernel
theorem dX6_speed_62 : decode cX6_speed 62 = .ok (.iaload, 1) := by decide +kernel
theorem dX6_speed_63 : decode cX6_speed 63 = .ok (.isub, 1) := by decide +kernel
theorem dX6_speed_64 : decode cX6_speed 64 = .ok (.i2l, 1) := by decide +kernel
theorem dX6_speed_65 : decode cX6_speed 65 = .ok (.aload_n 0, 1) := by decide +kernel
theorem dX6_speed_66 : decode cX6_speed 66 = .ok (.getfield 47, 3) := by decide +kernel
theorem dX6_speed_69 : decode cX6_speed 69 = .ok (.iload 5, 2) := by decide +kernel
theorem dX6_speed_71 : decode cX6_speed 71 = .ok (.laload, 1) := by decide +kernel
theorem dX6_speed_72 : decode cX6_speed 72 = .ok (.aload_n 0, 1) := by decide +kernel
theorem dX6_speed_73 : decode cX6_speed 73 = .ok (.getfield 47, 3) := by decide +kernel
theorem dX6_speed_76 : decode cX6_speed 76 = .ok (.iload 4, 2) := by decide +kernel
theorem dX6_speed_78 : decode cX6_speed 78 = .ok (.laload, 1) := by decide +kernel
theorem dX6_speed_79 : decode cX6_speed 79 = .ok (.lsub, 1) := by decide +kernel
theorem dX6_speed_80 : decode cX6_speed 80 = .ok (.iload_n 3, 1) := by decide +kernel
theorem dX6_speed_81 : decode cX6_speed 81 = .ok (.invokestatic 200, 3) := by decide +kernel
theorem dX6_speed_84 : decode cX6_speed 84 = .ok (.ireturn, 1) := by decide +kernel
theorem dX6_closed_0 : decode cX6_closed 0 = .ok (.aload_n 0, 1) := by decide +kernel
theorem dX6_closed_1 : decode cX6_closed 1 = .ok (.iload_n 1, 1) := by decide +kernel
theorem dX6_closed_2 : decode cX6_closed 2 = .ok (.iload_n 2, 1) := by decide +kernel
theorem dX6_closed_3 : decode cX6_closed 3 = .ok (.invokevirtual 190, 3) := by decide +kernel
theorem dX6_closed_6 : decode cX6_closed 6 = .ok (.ifCond .ne 5, 3) := by decide +kernel
theorem dX6_closed_9 : decode cX6_closed 9 = .ok (.iconst (-1), 1) := by decide +kernel
theorem dX6_closed_10 : decode cX6_closed 10 = .ok (.ireturn, 1) := by decide +kernel
theorem dX6_closed_11 : decode cX6_closed 11 = .ok (.aload_n 0, 1) := by decide +kernel
theorem dX6_closed_12 : decode cX6_closed 12 = .ok (.iload_n 1, 1) := by decide +kernel
theorem dX6_closed_13 : decode cX6_closed 13 = .ok (.invokevirtual 180, 3) := by decide +kernel
theorem dX6_closed_16 : decode cX6_closed 16 = .ok (.ifCond .ne 8, 3) := by decide +kernel
theorem dX6_closed_19 : decode cX6_closed 19 = .ok (.bipush (-9), 2) := by decide +kernel
theorem dX6_closed_21 : decode cX6_closed 21 = .ok (.goto 23, 3) := by decide +kernel
theorem dX6_closed_24 : decode cX6_closed 24 = .ok (.aload_n 0, 1) := by decide +kernel
theorem dX6_closed_25 : decode cX6_closed 25 = .ok (.getfield 44, 3) := by decide +kernel
