theorem dX6_closed_28 : decode cX6_closed 28 = .ok (.iload_n 2, 1) := by decide +kernel
theorem dX6_closed_29 : decode cX6_closed 29 = .ok (.iaload, 1) := by decide +kernel
theorem dX6_closed_30 : decode cX6_closed 30 = .ok (.iconst 3, 1) := by decide +kernel
theorem dX6_closed_31 : decode cX6_closed 31 = .ok (.if_icmp .ne 7, 3) := by decide +kernel
theorem dX6_closed_34 : decode cX6_closed 34 = .ok (.iconst 0, 1) := by decide +kernel
theorem dX6_closed_35 : decode cX6_closed 35 = .ok (.goto 9, 3) := by decide +kernel
theorem dX6_closed_38 : decode cX6_closed 38 = .ok (.aload_n 0, 1) := by decide +kernel
theorem dX6_closed_39 : decode cX6_closed 39 = .ok (.getfield 44, 3) := by decide +kernel
theorem dX6_closed_42 : decode cX6_closed 42 = .ok (.iload_n 2, 1) := by decide +kernel
theorem dX6_closed_43 : decode cX6_closed 43 = .ok (.iaload, 1) := by decide +kernel
theorem dX6_closed_44 : decode cX6_closed 44 = .ok (.ireturn, 1) := by decide +kernel
theorem dX6_cost_0 : decode cX6_cost 0 = .ok (.aload_n 0, 1) := by decide +kernel
theorem dX6_cost_1 : decode cX6_cost 1 = .ok (.iload_n 1, 1) := by decide +kernel
theorem dX6_cost_2 : decode cX6_cost 2 = .ok (.iload_n 2, 1) := by decide +kernel
theorem dX6_cost_3 : decode cX6_cost 3 = .ok (.iconst 1, 1) := by decide +kernel
theorem dX6_cost_4 : decode cX6_cost 4 = .ok (.iadd, 1) := by decide +kernel
theorem dX6_cost_5 : decode cX6_cost 5 = .ok (.invokevirtual 190, 3) := by decide +kernel
theorem dX6_cost_8 : decode cX6_cost 8 = .ok (.ifCond .ne 5, 3) := by decide +kernel
theorem dX6_cost_11 : decode cX6_cost 11 = .ok (.iconst (-1), 1) := by decide +kernel
theorem dX6_cost_12 : decode cX6_cost 12 = .ok (.ireturn, 1) := by decide +kernel
theorem dX6_cost_13 : decode cX6_cost 13 = .ok (.aload_n 0, 1) := by decide +kernel
theorem dX6_cost_14 : decode cX6_cost 14 = .ok (.iload_n 1, 1) := by decide +kernel
theorem dX6_cost_15 : decode cX6_cost 15 = .ok (.invokevirtual 180, 3) := by decide +kernel
theorem dX6_cost_18 : decode cX6_cost 18 = .ok (.ifCond .eq 11, 3) := by decide +kernel
theorem dX6_cost_21 : decode cX6_cost 21 = .ok (.aload_n 0, 1) := by decide +kernel
theorem dX6_cost_22 : decode cX6_cost 22 = .ok (.iload_n 2, 1) := by decide +kernel
theorem dX6_cost_23 : decode cX6_cost 23 = .ok (.invokevirtual 177, 3) := by decide +kernel
theorem dX6_cost_26 : decode cX6_cost 26 = .ok (.goto 5, 3) := by decide +kernel
theorem dX6_cost_29 : decode cX6_cost 29 = .ok (.bipush (-9), 2) := by decide +kernel
theorem dX6_cost_31 : decode cX6_cost 31 = .ok (.ireturn, 1) := by decide +kernel
theorem dX6_slack_0 : decode cX6_slack 0 = .ok (.iload_n 1, 1) := by decide +kernel
theorem dX6_slack_1 : decode cX6_slack 1 = .ok (.invokestatic 115, 3) := by decide +kernel
theorem dX6_slack_4 : decode cX6_slack 4 = .ok (.ifCond .ne 5, 3) := by decide +kernel
theorem dX6_slack_7 : decode cX6_slack 7 = .ok (.iconst (-1), 1) := by decide +kernel
theorem dX6_slack_8 : decode cX6_slack 8 = .ok (.ireturn, 1) := by decide +kernel
theorem dX6_slack_9 : decode cX6_slack 9 = .ok (.bipush 99, 2) := by decide +kernel
theorem dX6_slack_11 : decode cX6_slack 11 = .ok (.istore_n 2, 1) := by decide +kernel
theorem dX6_slack_12 : decode cX6_slack 12 = .ok (.iload_n 2, 1) := by decide +kernel
theorem dX6_slack_13 : decode cX6_slack 13 = .ok (.ifCond .lt 26, 3) := by decide +kernel
theorem dX6_slack_16 : decode cX6_slack 16 = .ok (.aload_n 0, 1) := by decide +kernel
theorem dX6_slack_17 : decode cX6_slack 17 = .ok (.iload_n 1, 1) := by decide +kernel
theorem dX6_slack_18 : decode cX6_slack 18 = .ok (.iload_n 2, 1) := by decide +kernel
theorem dX6_slack_19 : decode cX6_slack 19 = .ok (.iconst 0, 1) := by decide +kernel
theorem dX6_slack_20 : decode cX6_slack 20 = .ok (.iconst 0, 1) := by decide +kernel
theorem dX6_slack_21 : decode cX6_slack 21 = .ok (.invokevirtual 159, 3) := by decide +kernel
theorem dX6_slack_24 : decode cX6_slack 24 = .ok (.aload_n 0, 1) := by decide +kernel
theorem dX6_slack_25 : decode cX6_slack 25 = .ok (.invokevirtual 163, 3) := by decide +kernel
theorem dX6_slack_28 : decode cX6_slack 28 = .ok (.ifCond .eq 5, 3) := by decide +kernel
theorem dX6_slack_31 : decode cX6_slack 31 = .ok (.iload_n 2, 1) := by decide +kernel
theorem dX6_slack_32 : decode cX6_slack 32 = .ok (.ireturn, 1) := by decide +kernel
theorem dX6_slack_33 : decode cX6_slack 33 = .ok (.iinc 2 (-1), 3) := by decide +kernel
theorem dX6_slack_36 : decode cX6_slack 36 = .ok (.goto (-24), 3) := by decide +kernel
theorem dX6_slack_39 : decode cX6_slack 39 = .ok (.bipush (-9), 2) := by decide +kernel
theorem dX6_slack_41 : decode cX6_slack 41 = .ok (.ireturn, 1) := by decide +kernel
theorem dX6_needs_0 : decode cX6_needs 0 = .ok (.iload_n 1, 1) := by decide +kernel
theorem dX6_needs_1 : decode cX6_needs 1 = .ok (.invokestatic 115, 3) := by decide +kernel
theorem dX6_needs_4 : decode cX6_needs 4 = .ok (.ifCond .ne 5, 3) := by decide +kernel
theorem dX6_needs_7 : decode cX6_needs 7 = .ok (.iconst (-1), 1) := by decide +kernel
theorem dX6_needs_8 : decode cX6_needs 8 = .ok (.ireturn, 1) := by decide +kernel
theorem dX6_needs_9 : decode cX6_needs 9 = .ok (.aload_n 0, 1) := by decide +kernel
theorem dX6_needs_10 : decode cX6_needs 10 = .ok (.iload_n 1, 1) := by decide +kernel
theorem dX6_needs_11 : decode cX6_needs 11 = .ok (.iconst 0, 1) := by decide +kernel
theorem dX6_needs_12 : decode cX6_needs 12 = .ok (.iconst 0, 1) := by decide +kernel
theorem dX6_needs_13 : decode cX6_needs 13 = .ok (.iconst 0, 1) := by decide +kernel
theorem dX6_needs_14 : decode cX6_needs 14 = .ok (.invokevirtual 159, 3) := by decide +kernel
theorem dX6_needs_17 : decode cX6_needs 17 = .ok (.aload_n 0, 1) := by decide +kernel
theorem dX6_needs_18 : decode cX6_needs 18 = .ok (.invokevirtual 156, 3) := by decide +kernel
theorem dX6_needs_21 : decode cX6_needs 21 = .ok (.ireturn, 1) := by decide +kernel
theorem dX6_eased_0 : decode cX6_eased 0 = .ok (.iload_n 1, 1) := by decide +kernel
theorem dX6_eased_1 : decode cX6_eased 1 = .ok (.invokestatic 115, 3) := by decide +kernel
theorem dX6_eased_4 : decode cX6_eased 4 = .ok (.ifCond .ne 5, 3) := by decide +kernel
theorem dX6_eased_7 : decode cX6_eased 7 = .ok (.iconst (-1), 1) := by decide +kernel
theorem dX6_eased_8 : decode cX6_eased 8 = .ok (.ireturn, 1) := by decide +kernel
theorem dX6_eased_9 : decode cX6_eased 9 = .ok (.aload_n 0, 1) := by decide +kernel
theorem dX6_eased_10 : decode cX6_eased 10 = .ok (.iload_n 1, 1) := by decide +kernel
theorem dX6_eased_11 : decode cX6_eased 11 = .ok (.invokevirtual 180, 3) := by decide +kernel
theorem dX6_eased_14 : decode cX6_eased 14 = .ok (.istore_n 2, 1) := by decide +kernel
theorem dX6_eased_15 : decode cX6_eased 15 = .ok (.iload_n 2, 1) := by decide +kernel
theorem dX6_eased_16 : decode cX6_eased 16 = .ok (.ifCond .eq 10, 3) := by decide +kernel
theorem dX6_eased_19 : decode cX6_eased 19 = .ok (.aload_n 0, 1) := by decide +kernel
theorem dX6_eased_20 : decode cX6_eased 20 = .ok (.invokevirtual 196, 3) := by decide +kernel
theorem dX6_eased_23 : decode cX6_eased 23 = .ok (.goto 5, 3) := by decide +kernel
theorem dX6_eased_26 : decode cX6_eased 26 = .ok (.bipush (-9), 2) := by decide +kernel
theorem dX6_eased_28 : decode cX6_eased 28 = .ok (.istore_n 3, 1) := by decide +kernel
theorem dX6_eased_29 : decode cX6_eased 29 = .ok (.bipush (-9), 2) := by decide +kernel
theorem dX6_eased_31 : decode cX6_eased 31 = .ok (.istore 4, 2) := by decide +kernel
theorem dX6_eased_33 : decode cX6_eased 33 = .ok (.aload_n 0, 1) := by decide +kernel
theorem dX6_eased_34 : decode cX6_eased 34 = .ok (.iload_n 1, 1) := by decide +kernel
theorem dX6_eased_35 : decode cX6_eased 35 = .ok (.iconst 2, 1) := by decide +kernel
theorem dX6_eased_36 : decode cX6_eased 36 = .ok (.invokevirtual 70, 3) := by decide +kernel
theorem dX6_eased_39 : decode cX6_eased 39 = .ok (.iconst 1, 1) := by decide +kernel
theorem dX6_eased_40 : decode cX6_eased 40 = .ok (.iadd, 1) := by decide +kernel
theorem dX6_eased_41 : decode cX6_eased 41 = .ok (.istore 5, 2) := by decide +kernel
theorem dX6_eased_43 : decode cX6_eased 43 = .ok (.iload 5, 2) := by decide +kernel
theorem dX6_eased_45 : decode cX6_eased 45 = .ok (.aload_n 0, 1) := by decide +kernel
theorem dX6_eased_46 : decode cX6_eased 46 = .ok (.iload_n 1, 1) := by decide +kernel
theorem dX6_eased_47 : decode cX6_eased 47 = .ok (.iconst 0, 1) := by decide +kernel
theorem dX6_eased_48 : decode cX6_eased 48 = .ok (.invokevirtual 70, 3) := by decide +kernel
theorem dX6_eased_51 : decode cX6_eased 51 = .ok (.if_icmp .gt 83, 3) := by decide +kernel
theorem dX6_eased_54 : decode cX6_eased 54 = .ok (.iconst 0, 1) := by decide +kernel
theorem dX6_eased_55 : decode cX6_eased 55 = .ok (.istore 6, 2) := by decide +kernel
theorem dX6_eased_57 : decode cX6_eased 57 = .ok (.iload 6, 2) := by decide +kernel
theorem dX6_eased_59 : decode cX6_eased 59 = .ok (.iconst 2, 1) := by decide +kernel
theorem dX6_eased_60 : decode cX6_eased 60 = .ok (.if_icmp .ge 68, 3) := by decide +kernel
theorem dX6_eased_63 : decode cX6_eased 63 = .ok (.aload_n 0, 1) := by decide +kernel
theorem dX6_eased_64 : decode cX6_eased 64 = .ok (.iload_n 1, 1) := by decide +kernel
theorem dX6_eased_65 : decode cX6_eased 65 = .ok (.iconst 0, 1) := by decide +kernel
theorem dX6_eased_66 : decode cX6_eased 66 = .ok (.iload 5, 2) := by decide +kernel
theorem dX6_eased_68 : decode cX6_eased 68 = .ok (.iload 6, 2) := by decide +kernel
theorem dX6_eased_70 : decode cX6_eased 70 = .ok (.invokevirtual 159, 3) := by decide +kernel
theorem dX6_eased_73 : decode cX6_eased 73 = .ok (.aload_n 0, 1) := by decide +kernel
theorem dX6_eased_74 : decode cX6_eased 74 = .ok (.invokevirtual 163, 3) := by decide +kernel
theorem dX6_eased_77 : decode cX6_eased 77 = .ok (.ifCond .eq 10, 3) := by decide +kernel
theorem dX6_eased_80 : decode cX6_eased 80 = .ok (.aload_n 0, 1) := by decide +kernel
theorem dX6_eased_81 : decode cX6_eased 81 = .ok (.invokevirtual 196, 3) := by decide +kernel
theorem dX6_eased_84 : decode cX6_eased 84 = .ok (.goto 5, 3) := by decide +kernel
theorem dX6_eased_87 : decode cX6_eased 87 = .ok (.bipush (-9), 2) := by decide +kernel
theorem dX6_eased_89 : decode cX6_eased 89 = .ok (.istore 7, 2) := by decide +kernel
theorem dX6_eased_91 : decode cX6_eased 91 = .ok (.iload 7, 2) := by decide +kernel
theorem dX6_eased_93 : decode cX6_eased 93 = .ok (.bipush (-9), 2) := by decide +kernel
theorem dX6_eased_95 : decode cX6_eased 95 = .ok (.if_icmp .eq 27, 3) := by decide +kernel
theorem dX6_eased_98 : decode cX6_eased 98 = .ok (.iload_n 3, 1) := by decide +kernel
theorem dX6_eased_99 : decode cX6_eased 99 = .ok (.bipush (-9), 2) := by decide +kernel
theorem dX6_eased_101 : decode cX6_eased 101 = .ok (.if_icmp .eq 9, 3) := by decide +kernel
theorem dX6_eased_104 : decode cX6_eased 104 = .ok (.iload 7, 2) := by decide +kernel
theorem dX6_eased_106 : decode cX6_eased 106 = .ok (.iload_n 3, 1) := by decide +kernel
theorem dX6_eased_107 : decode cX6_eased 107 = .ok (.if_icmp .ge 15, 3) := by decide +kernel
theorem dX6_eased_110 : decode cX6_eased 110 = .ok (.iload 7, 2) := by decide +kernel
theorem dX6_eased_112 : decode cX6_eased 112 = .ok (.istore_n 3, 1) := by decide +kernel
theorem dX6_eased_113 : decode cX6_eased 113 = .ok (.iconst 2, 1) := by decide +kernel
theorem dX6_eased_114 : decode cX6_eased 114 = .ok (.iload 5, 2) := by decide +kernel
theorem dX6_eased_116 : decode cX6_eased 116 = .ok (.imul, 1) := by decide +kernel
theorem dX6_eased_117 : decode cX6_eased 117 = .ok (.iload 6, 2) := by decide +kernel
theorem dX6_eased_119 : decode cX6_eased 119 = .ok (.iadd, 1) := by decide +kernel
theorem dX6_eased_120 : decode cX6_eased 120 = .ok (.istore 4, 2) := by decide +kernel
theorem dX6_eased_122 : decode cX6_eased 122 = .ok (.iinc 6 1, 3) := by decide +kernel
theorem dX6_eased_125 : decode cX6_eased 125 = .ok (.goto (-68), 3) := by decide +kernel
theorem dX6_eased_128 : decode cX6_eased 128 = .ok (.iinc 5 1, 3) := by decide +kernel
theorem dX6_eased_131 : decode cX6_eased 131 = .ok (.goto (-88), 3) := by decide +kernel
theorem dX6_eased_134 : decode cX6_eased 134 = .ok (.iload 4, 2) := by decide +kernel
theorem dX6_eased_136 : decode cX6_eased 136 = .ok (.ireturn, 1) := by decide +kernel
theorem dX6_mileAt_0 : decode cX6_mileAt 0 = .ok (.aload_n 0, 1) := by decide +kernel
theorem dX6_mileAt_1 : decode cX6_mileAt 1 = .ok (.getfield 129, 3) := by decide +kernel
theorem dX6_mileAt_4 : decode cX6_mileAt 4 = .ok (.istore_n 2, 1) := by decide +kernel
theorem dX6_mileAt_5 : decode cX6_mileAt 5 = .ok (.iload_n 2, 1) := by decide +kernel
theorem dX6_mileAt_6 : decode cX6_mileAt 6 = .ok (.aload_n 0, 1) := by decide +kernel
theorem dX6_mileAt_7 : decode cX6_mileAt 7 = .ok (.getfield 132, 3) := by decide +kernel
theorem dX6_mileAt_10 : decode cX6_mileAt 10 = .ok (.if_icmp .ge 127, 3) := by decide +kernel
theorem dX6_mileAt_13 : decode cX6_mileAt 13 = .ok (.aload_n 0, 1) := by decide +kernel
theorem dX6_mileAt_14 : decode cX6_mileAt 14 = .ok (.iload_n 2, 1) := by decide +kernel
theorem dX6_mileAt_15 : decode cX6_mileAt 15 = .ok (.invokevirtual 170, 3) := by decide +kernel
theorem dX6_mileAt_18 : decode cX6_mileAt 18 = .ok (.istore_n 3, 1) := by decide +kernel
theorem dX6_mileAt_19 : decode cX6_mileAt 19 = .ok (.aload_n 0, 1) := by decide +kernel
theorem dX6_mileAt_20 : decode cX6_mileAt 20 = .ok (.iload_n 3, 1) := by decide +kernel
theorem dX6_mileAt_21 : decode cX6_mileAt 21 = .ok (.invokevirtual 149, 3) := by decide +kernel
theorem dX6_mileAt_24 : decode cX6_mileAt 24 = .ok (.istore 4, 2) := by decide +kernel
theorem dX6_mileAt_26 : decode cX6_mileAt 26 = .ok (.aload_n 0, 1) := by decide +kernel
theorem dX6_mileAt_27 : decode cX6_mileAt 27 = .ok (.getfield 32, 3) := by decide +kernel
theorem dX6_mileAt_30 : decode cX6_mileAt 30 = .ok (.iload 4, 2) := by decide +kernel
theorem dX6_mileAt_32 : decode cX6_mileAt 32 = .ok (.iaload, 1) := by decide +kernel
theorem dX6_mileAt_33 : decode cX6_mileAt 33 = .ok (.aload_n 0, 1) := by decide +kernel
theorem dX6_mileAt_34 : decode cX6_mileAt 34 = .ok (.getfield 32, 3) := by decide +kernel
theorem dX6_mileAt_37 : decode cX6_mileAt 37 = .ok (.iload_n 3, 1) := by decide +kernel
theorem dX6_mileAt_38 : decode cX6_mileAt 38 = .ok (.iaload, 1) := by decide +kernel
theorem dX6_mileAt_39 : decode cX6_mileAt 39 = .ok (.isub, 1) := by decide +kernel
theorem dX6_mileAt_40 : decode cX6_mileAt 40 = .ok (.i2l, 1) := by decide +kernel
theorem dX6_mileAt_41 : decode cX6_mileAt 41 = .ok (.lstore 5, 2) := by decide +kernel
theorem dX6_mileAt_43 : decode cX6_mileAt 43 = .ok (.iload_n 1, 1) := by decide +kernel
theorem dX6_mileAt_44 : decode cX6_mileAt 44 = .ok (.aload_n 0, 1) := by decide +kernel
theorem dX6_mileAt_45 : decode cX6_mileAt 45 = .ok (.getfield 35, 3) := by decide +kernel
theorem dX6_mileAt_48 : decode cX6_mileAt 48 = .ok (.iload_n 2, 1) := by decide +kernel
theorem dX6_mileAt_49 : decode cX6_mileAt 49 = .ok (.iconst 1, 1) := by decide +kernel
theorem dX6_mileAt_50 : decode cX6_mileAt 50 = .ok (.iadd, 1) := by decide +kernel
theorem dX6_mileAt_51 : decode cX6_mileAt 51 = .ok (.iaload, 1) := by decide +kernel
theorem dX6_mileAt_52 : decode cX6_mileAt 52 = .ok (.isub, 1) := by decide +kernel
theorem dX6_mileAt_53 : decode cX6_mileAt 53 = .ok (.i2l, 1) := by decide +kernel
theorem dX6_mileAt_54 : decode cX6_mileAt 54 = .ok (.lload 5, 2) := by decide +kernel
theorem dX6_mileAt_56 : decode cX6_mileAt 56 = .ok (.lmul, 1) := by decide +kernel
theorem dX6_mileAt_57 : decode cX6_mileAt 57 = .ok (.lstore 7, 2) := by decide +kernel
theorem dX6_mileAt_59 : decode cX6_mileAt 59 = .ok (.lload 7, 2) := by decide +kernel
theorem dX6_mileAt_61 : decode cX6_mileAt 61 = .ok (.aload_n 0, 1) := by decide +kernel
theorem dX6_mileAt_62 : decode cX6_mileAt 62 = .ok (.iload_n 3, 1) := by decide +kernel
theorem dX6_mileAt_63 : decode cX6_mileAt 63 = .ok (.iload 4, 2) := by decide +kernel
theorem dX6_mileAt_65 : decode cX6_mileAt 65 = .ok (.iload_n 2, 1) := by decide +kernel
theorem dX6_mileAt_66 : decode cX6_mileAt 66 = .ok (.invokevirtual 142, 3) := by decide +kernel
theorem dX6_mileAt_69 : decode cX6_mileAt 69 = .ok (.lcmp, 1) := by decide +kernel
theorem dX6_mileAt_70 : decode cX6_mileAt 70 = .ok (.ifCond .gt 10, 3) := by decide +kernel
theorem dX6_mileAt_73 : decode cX6_mileAt 73 = .ok (.aload_n 0, 1) := by decide +kernel
theorem dX6_mileAt_74 : decode cX6_mileAt 74 = .ok (.getfield 32, 3) := by decide +kernel
theorem dX6_mileAt_77 : decode cX6_mileAt 77 = .ok (.iload_n 2, 1) := by decide +kernel
theorem dX6_mileAt_78 : decode cX6_mileAt 78 = .ok (.iaload, 1) := by decide +kernel
theorem dX6_mileAt_79 : decode cX6_mileAt 79 = .ok (.ireturn, 1) := by decide +kernel
theorem dX6_mileAt_80 : decode cX6_mileAt 80 = .ok (.lload 7, 2) := by decide +kernel
theorem dX6_mileAt_82 : decode cX6_mileAt 82 = .ok (.aload_n 0, 1) := by decide +kernel
theorem dX6_mileAt_83 : decode cX6_mileAt 83 = .ok (.iload_n 3, 1) := by decide +kernel
theorem dX6_mileAt_84 : decode cX6_mileAt 84 = .ok (.iload 4, 2) := by decide +kernel
theorem dX6_mileAt_86 : decode cX6_mileAt 86 = .ok (.iload_n 2, 1) := by decide +kernel
theorem dX6_mileAt_87 : decode cX6_mileAt 87 = .ok (.iconst 1, 1) := by decide +kernel
theorem dX6_mileAt_88 : decode cX6_mileAt 88 = .ok (.iadd, 1) := by decide +kernel
theorem dX6_mileAt_89 : decode cX6_mileAt 89 = .ok (.invokevirtual 142, 3) := by decide +kernel
theorem dX6_mileAt_92 : decode cX6_mileAt 92 = .ok (.lcmp, 1) := by decide +kernel
theorem dX6_mileAt_93 : decode cX6_mileAt 93 = .ok (.ifCond .gt 38, 3) := by decide +kernel
theorem dX6_mileAt_96 : decode cX6_mileAt 96 = .ok (.aload_n 0, 1) := by decide +kernel
theorem dX6_mileAt_97 : decode cX6_mileAt 97 = .ok (.getfield 32, 3) := by decide +kernel
theorem dX6_mileAt_100 : decode cX6_mileAt 100 = .ok (.iload_n 2, 1) := by decide +kernel
theorem dX6_mileAt_101 : decode cX6_mileAt 101 = .ok (.iaload, 1) := by decide +kernel
theorem dX6_mileAt_102 : decode cX6_mileAt 102 = .ok (.lload 7, 2) := by decide +kernel
theorem dX6_mileAt_104 : decode cX6_mileAt 104 = .ok (.aload_n 0, 1) := by decide +kernel
theorem dX6_mileAt_105 : decode cX6_mileAt 105 = .ok (.iload_n 3, 1) := by decide +kernel
theorem dX6_mileAt_106 : decode cX6_mileAt 106 = .ok (.iload 4, 2) := by decide +kernel
theorem dX6_mileAt_108 : decode cX6_mileAt 108 = .ok (.iload_n 2, 1) := by decide +kernel
theorem dX6_mileAt_109 : decode cX6_mileAt 109 = .ok (.invokevirtual 142, 3) := by decide +kernel
theorem dX6_mileAt_112 : decode cX6_mileAt 112 = .ok (.lsub, 1) := by decide +kernel
theorem dX6_mileAt_113 : decode cX6_mileAt 113 = .ok (.aload_n 0, 1) := by decide +kernel
theorem dX6_mileAt_114 : decode cX6_mileAt 114 = .ok (.getfield 47, 3) := by decide +kernel
theorem dX6_mileAt_117 : decode cX6_mileAt 117 = .ok (.iload 4, 2) := by decide +kernel
theorem dX6_mileAt_119 : decode cX6_mileAt 119 = .ok (.laload, 1) := by decide +kernel
theorem dX6_mileAt_120 : decode cX6_mileAt 120 = .ok (.aload_n 0, 1) := by decide +kernel
theorem dX6_mileAt_121 : decode cX6_mileAt 121 = .ok (.getfield 47, 3) := by decide +kernel
theorem dX6_mileAt_124 : decode cX6_mileAt 124 = .ok (.iload_n 3, 1) := by decide +kernel
theorem dX6_mileAt_125 : decode cX6_mileAt 125 = .ok (.laload, 1) := by decide +kernel
theorem dX6_mileAt_126 : decode cX6_mileAt 126 = .ok (.lsub, 1) := by decide +kernel
theorem dX6_mileAt_127 : decode cX6_mileAt 127 = .ok (.ldiv, 1) := by decide +kernel
theorem dX6_mileAt_128 : decode cX6_mileAt 128 = .ok (.l2i, 1) := by decide +kernel
theorem dX6_mileAt_129 : decode cX6_mileAt 129 = .ok (.iadd, 1) := by decide +kernel
theorem dX6_mileAt_130 : decode cX6_mileAt 130 = .ok (.ireturn, 1) := by decide +kernel
theorem dX6_mileAt_131 : decode cX6_mileAt 131 = .ok (.iinc 2 1, 3) := by decide +kernel
theorem dX6_mileAt_134 : decode cX6_mileAt 134 = .ok (.goto (-129), 3) := by decide +kernel
theorem dX6_mileAt_137 : decode cX6_mileAt 137 = .ok (.aload_n 0, 1) := by decide +kernel
theorem dX6_mileAt_138 : decode cX6_mileAt 138 = .ok (.getfield 32, 3) := by decide +kernel
theorem dX6_mileAt_141 : decode cX6_mileAt 141 = .ok (.aload_n 0, 1) := by decide +kernel
theorem dX6_mileAt_142 : decode cX6_mileAt 142 = .ok (.getfield 132, 3) := by decide +kernel
theorem dX6_mileAt_145 : decode cX6_mileAt 145 = .ok (.iaload, 1) := by decide +kernel
theorem dX6_mileAt_146 : decode cX6_mileAt 146 = .ok (.ireturn, 1) := by decide +kernel
theorem dX6_mileOf_0 : decode cX6_mileOf 0 = .ok (.aload_n 0, 1) := by decide +kernel
theorem dX6_mileOf_1 : decode cX6_mileOf 1 = .ok (.iload_n 1, 1) := by decide +kernel
theorem dX6_mileOf_2 : decode cX6_mileOf 2 = .ok (.invokevirtual 180, 3) := by decide +kernel
theorem dX6_mileOf_5 : decode cX6_mileOf 5 = .ok (.ifCond .eq 11, 3) := by decide +kernel
theorem dX6_mileOf_8 : decode cX6_mileOf 8 = .ok (.aload_n 0, 1) := by decide +kernel
theorem dX6_mileOf_9 : decode cX6_mileOf 9 = .ok (.iload_n 2, 1) := by decide +kernel
theorem dX6_mileOf_10 : decode cX6_mileOf 10 = .ok (.invokevirtual 205, 3) := by decide +kernel
theorem dX6_mileOf_13 : decode cX6_mileOf 13 = .ok (.goto 5, 3) := by decide +kernel
theorem dX6_mileOf_16 : decode cX6_mileOf 16 = .ok (.bipush (-9), 2) := by decide +kernel
theorem dX6_mileOf_18 : decode cX6_mileOf 18 = .ok (.ireturn, 1) := by decide +kernel
theorem dX6_mile_0 : decode cX6_mile 0 = .ok (.iload_n 1, 1) := by decide +kernel
theorem dX6_mile_1 : decode cX6_mile 1 = .ok (.invokestatic 115, 3) := by decide +kernel
theorem dX6_mile_4 : decode cX6_mile 4 = .ok (.ifCond .eq 23, 3) := by decide +kernel
theorem dX6_mile_7 : decode cX6_mile 7 = .ok (.iload_n 2, 1) := by decide +kernel
theorem dX6_mile_8 : decode cX6_mile 8 = .ok (.iconst 0, 1) := by decide +kernel
theorem dX6_mile_9 : decode cX6_mile 9 = .ok (.sipush 999, 3) := by decide +kernel
theorem dX6_mile_12 : decode cX6_mile 12 = .ok (.invokestatic 62, 3) := by decide +kernel
theorem dX6_mile_15 : decode cX6_mile 15 = .ok (.ifCond .eq 12, 3) := by decide +kernel
theorem dX6_mile_18 : decode cX6_mile 18 = .ok (.aload_n 0, 1) := by decide +kernel
theorem dX6_mile_19 : decode cX6_mile 19 = .ok (.iload_n 1, 1) := by decide +kernel
theorem dX6_mile_20 : decode cX6_mile 20 = .ok (.iload_n 2, 1) := by decide +kernel
theorem dX6_mile_21 : decode cX6_mile 21 = .ok (.invokevirtual 208, 3) := by decide +kernel
theorem dX6_mile_24 : decode cX6_mile 24 = .ok (.goto 4, 3) := by decide +kernel
theorem dX6_mile_27 : decode cX6_mile 27 = .ok (.iconst (-1), 1) := by decide +kernel
theorem dX6_mile_28 : decode cX6_mile 28 = .ok (.ireturn, 1) := by decide +kernel
theorem dX6_sees_0 : decode cX6_sees 0 = .ok (.iload_n 1, 1) := by decide +kernel
theorem dX6_sees_1 : decode cX6_sees 1 = .ok (.iconst 0, 1) := by decide +kernel
theorem dX6_sees_2 : decode cX6_sees 2 = .ok (.sipush 999, 3) := by decide +kernel
theorem dX6_sees_5 : decode cX6_sees 5 = .ok (.invokestatic 62, 3) := by decide +kernel
theorem dX6_sees_8 : decode cX6_sees 8 = .ok (.ifCond .eq 14, 3) := by decide +kernel
theorem dX6_sees_11 : decode cX6_sees 11 = .ok (.iload_n 2, 1) := by decide +kernel
theorem dX6_sees_12 : decode cX6_sees 12 = .ok (.iconst 0, 1) := by decide +kernel
theorem dX6_sees_13 : decode cX6_sees 13 = .ok (.sipush 999, 3) := by decide +kernel
theorem dX6_sees_16 : decode cX6_sees 16 = .ok (.invokestatic 62, 3) := by decide +kernel
theorem dX6_sees_19 : decode cX6_sees 19 = .ok (.ifCond .ne 5, 3) := by decide +kernel
theorem dX6_sees_22 : decode cX6_sees 22 = .ok (.iconst (-1), 1) := by decide +kernel
theorem dX6_sees_23 : decode cX6_sees 23 = .ok (.ireturn, 1) := by decide +kernel
theorem dX6_sees_24 : decode cX6_sees 24 = .ok (.aload_n 0, 1) := by decide +kernel
theorem dX6_sees_25 : decode cX6_sees 25 = .ok (.getfield 211, 3) := by decide +kernel
theorem dX6_sees_28 : decode cX6_sees 28 = .ok (.bipush 6, 2) := by decide +kernel
theorem dX6_sees_30 : decode cX6_sees 30 = .ok (.if_icmp .ne 6, 3) := by decide +kernel
theorem dX6_sees_33 : decode cX6_sees 33 = .ok (.bipush (-3), 2) := by decide +kernel
theorem dX6_sees_35 : decode cX6_sees 35 = .ok (.ireturn, 1) := by decide +kernel
theorem dX6_sees_36 : decode cX6_sees 36 = .ok (.aload_n 0, 1) := by decide +kernel
theorem dX6_sees_37 : decode cX6_sees 37 = .ok (.getfield 26, 3) := by decide +kernel
theorem dX6_sees_40 : decode cX6_sees 40 = .ok (.iconst 2, 1) := by decide +kernel
theorem dX6_sees_41 : decode cX6_sees 41 = .ok (.aload_n 0, 1) := by decide +kernel
theorem dX6_sees_42 : decode cX6_sees 42 = .ok (.getfield 211, 3) := by decide +kernel
theorem dX6_sees_45 : decode cX6_sees 45 = .ok (.imul, 1) := by decide +kernel
theorem dX6_sees_46 : decode cX6_sees 46 = .ok (.iload_n 1, 1) := by decide +kernel
theorem dX6_sees_47 : decode cX6_sees 47 = .ok (.iastore, 1) := by decide +kernel
theorem dX6_sees_48 : decode cX6_sees 48 = .ok (.aload_n 0, 1) := by decide +kernel
theorem dX6_sees_49 : decode cX6_sees 49 = .ok (.getfield 26, 3) := by decide +kernel
theorem dX6_sees_52 : decode cX6_sees 52 = .ok (.iconst 2, 1) := by decide +kernel
theorem dX6_sees_53 : decode cX6_sees 53 = .ok (.aload_n 0, 1) := by decide +kernel
theorem dX6_sees_54 : decode cX6_sees 54 = .ok (.getfield 211, 3) := by decide +kernel
theorem dX6_sees_57 : decode cX6_sees 57 = .ok (.imul, 1) := by decide +kernel
theorem dX6_sees_58 : decode cX6_sees 58 = .ok (.iconst 1, 1) := by decide +kernel
theorem dX6_sees_59 : decode cX6_sees 59 = .ok (.iadd, 1) := by decide +kernel
theorem dX6_sees_60 : decode cX6_sees 60 = .ok (.iload_n 2, 1) := by decide +kernel
theorem dX6_sees_61 : decode cX6_sees 61 = .ok (.iastore, 1) := by decide +kernel
theorem dX6_sees_62 : decode cX6_sees 62 = .ok (.aload_n 0, 1) := by decide +kernel
theorem dX6_sees_63 : decode cX6_sees 63 = .ok (.dup, 1) := by decide +kernel
theorem dX6_sees_64 : decode cX6_sees 64 = .ok (.getfield 211, 3) := by decide +kernel
theorem dX6_sees_67 : decode cX6_sees 67 = .ok (.iconst 1, 1) := by decide +kernel
theorem dX6_sees_68 : decode cX6_sees 68 = .ok (.iadd, 1) := by decide +kernel
theorem dX6_sees_69 : decode cX6_sees 69 = .ok (.putfield 211, 3) := by decide +kernel
theorem dX6_sees_72 : decode cX6_sees 72 = .ok (.aload_n 0, 1) := by decide +kernel
theorem dX6_sees_73 : decode cX6_sees 73 = .ok (.getfield 211, 3) := by decide +kernel
theorem dX6_sees_76 : decode cX6_sees 76 = .ok (.ireturn, 1) := by decide +kernel
theorem dX6_forget_0 : decode cX6_forget 0 = .ok (.aload_n 0, 1) := by decide +kernel
theorem dX6_forget_1 : decode cX6_forget 1 = .ok (.getfield 211, 3) := by decide +kernel
theorem dX6_forget_4 : decode cX6_forget 4 = .ok (.istore_n 1, 1) := by decide +kernel
theorem dX6_forget_5 : decode cX6_forget 5 = .ok (.aload_n 0, 1) := by decide +kernel
theorem dX6_forget_6 : decode cX6_forget 6 = .ok (.iconst 0, 1) := by decide +kernel
theorem dX6_forget_7 : decode cX6_forget 7 = .ok (.putfield 211, 3) := by decide +kernel
theorem dX6_forget_10 : decode cX6_forget 10 = .ok (.iload_n 1, 1) := by decide +kernel
theorem dX6_forget_11 : decode cX6_forget 11 = .ok (.ireturn, 1) := by decide +kernel
theorem dX6_whichNow_0 : decode cX6_whichNow 0 = .ok (.iconst 0, 1) := by decide +kernel
theorem dX6_whichNow_1 : decode cX6_whichNow 1 = .ok (.istore_n 1, 1) := by decide +kernel
theorem dX6_whichNow_2 : decode cX6_whichNow 2 = .ok (.iconst 0, 1) := by decide +kernel
theorem dX6_whichNow_3 : decode cX6_whichNow 3 = .ok (.istore_n 2, 1) := by decide +kernel
theorem dX6_whichNow_4 : decode cX6_whichNow 4 = .ok (.iload_n 2, 1) := by decide +kernel
theorem dX6_whichNow_5 : decode cX6_whichNow 5 = .ok (.iconst 4, 1) := by decide +kernel
theorem dX6_whichNow_6 : decode cX6_whichNow 6 = .ok (.if_icmp .ge 81, 3) := by decide +kernel
theorem dX6_whichNow_9 : decode cX6_whichNow 9 = .ok (.iconst 1, 1) := by decide +kernel
theorem dX6_whichNow_10 : decode cX6_whichNow 10 = .ok (.istore_n 3, 1) := by decide +kernel
theorem dX6_whichNow_11 : decode cX6_whichNow 11 = .ok (.iconst 0, 1) := by decide +kernel
theorem dX6_whichNow_12 : decode cX6_whichNow 12 = .ok (.istore 4, 2) := by decide +kernel
theorem dX6_whichNow_14 : decode cX6_whichNow 14 = .ok (.iload 4, 2) := by decide +kernel
theorem dX6_whichNow_16 : decode cX6_whichNow 16 = .ok (.aload_n 0, 1) := by decide +kernel
theorem dX6_whichNow_17 : decode cX6_whichNow 17 = .ok (.getfield 211, 3) := by decide +kernel
theorem dX6_whichNow_20 : decode cX6_whichNow 20 = .ok (.if_icmp .ge 47, 3) := by decide +kernel
theorem dX6_whichNow_23 : decode cX6_whichNow 23 = .ok (.iload_n 3, 1) := by decide +kernel
theorem dX6_whichNow_24 : decode cX6_whichNow 24 = .ok (.ifCond .eq 43, 3) := by decide +kernel
theorem dX6_whichNow_27 : decode cX6_whichNow 27 = .ok (.aload_n 0, 1) := by decide +kernel
theorem dX6_whichNow_28 : decode cX6_whichNow 28 = .ok (.iload_n 2, 1) := by decide +kernel
theorem dX6_whichNow_29 : decode cX6_whichNow 29 = .ok (.aload_n 0, 1) := by decide +kernel
theorem dX6_whichNow_30 : decode cX6_whichNow 30 = .ok (.getfield 26, 3) := by decide +kernel
theorem dX6_whichNow_33 : decode cX6_whichNow 33 = .ok (.iconst 2, 1) := by decide +kernel
theorem dX6_whichNow_34 : decode cX6_whichNow 34 = .ok (.iload 4, 2) := by decide +kernel
theorem dX6_whichNow_36 : decode cX6_whichNow 36 = .ok (.imul, 1) := by decide +kernel
theorem dX6_whichNow_37 : decode cX6_whichNow 37 = .ok (.iaload, 1) := by decide +kernel
theorem dX6_whichNow_38 : decode cX6_whichNow 38 = .ok (.invokevirtual 208, 3) := by decide +kernel
theorem dX6_whichNow_41 : decode cX6_whichNow 41 = .ok (.aload_n 0, 1) := by decide +kernel
theorem dX6_whichNow_42 : decode cX6_whichNow 42 = .ok (.getfield 26, 3) := by decide +kernel
theorem dX6_whichNow_45 : decode cX6_whichNow 45 = .ok (.iconst 2, 1) := by decide +kernel
theorem dX6_whichNow_46 : decode cX6_whichNow 46 = .ok (.iload 4, 2) := by decide +kernel
theorem dX6_whichNow_48 : decode cX6_whichNow 48 = .ok (.imul, 1) := by decide +kernel
theorem dX6_whichNow_49 : decode cX6_whichNow 49 = .ok (.iconst 1, 1) := by decide +kernel
theorem dX6_whichNow_50 : decode cX6_whichNow 50 = .ok (.iadd, 1) := by decide +kernel
theorem dX6_whichNow_51 : decode cX6_whichNow 51 = .ok (.iaload, 1) := by decide +kernel
theorem dX6_whichNow_52 : decode cX6_whichNow 52 = .ok (.if_icmp .ne 7, 3) := by decide +kernel
theorem dX6_whichNow_55 : decode cX6_whichNow 55 = .ok (.iconst 1, 1) := by decide +kernel
theorem dX6_whichNow_56 : decode cX6_whichNow 56 = .ok (.goto 4, 3) := by decide +kernel
theorem dX6_whichNow_59 : decode cX6_whichNow 59 = .ok (.iconst 0, 1) := by decide +kernel
theorem dX6_whichNow_60 : decode cX6_whichNow 60 = .ok (.istore_n 3, 1) := by decide +kernel
theorem dX6_whichNow_61 : decode cX6_whichNow 61 = .ok (.iinc 4 1, 3) := by decide +kernel
theorem dX6_whichNow_64 : decode cX6_whichNow 64 = .ok (.goto (-50), 3) := by decide +kernel
theorem dX6_whichNow_67 : decode cX6_whichNow 67 = .ok (.iload_n 1, 1) := by decide +kernel
theorem dX6_whichNow_68 : decode cX6_whichNow 68 = .ok (.iload_n 3, 1) := by decide +kernel
theorem dX6_whichNow_69 : decode cX6_whichNow 69 = .ok (.ifCond .eq 9, 3) := by decide +kernel
theorem dX6_whichNow_72 : decode cX6_whichNow 72 = .ok (.iconst 1, 1) := by decide +kernel
theorem dX6_whichNow_73 : decode cX6_whichNow 73 = .ok (.iload_n 2, 1) := by decide +kernel
theorem dX6_whichNow_74 : decode cX6_whichNow 74 = .ok (.ishl, 1) := by decide +kernel
theorem dX6_whichNow_75 : decode cX6_whichNow 75 = .ok (.goto 4, 3) := by decide +kernel
theorem dX6_whichNow_78 : decode cX6_whichNow 78 = .ok (.iconst 0, 1) := by decide +kernel
theorem dX6_whichNow_79 : decode cX6_whichNow 79 = .ok (.ior, 1) := by decide +kernel
theorem dX6_whichNow_80 : decode cX6_whichNow 80 = .ok (.istore_n 1, 1) := by decide +kernel
theorem dX6_whichNow_81 : decode cX6_whichNow 81 = .ok (.iinc 2 1, 3) := by decide +kernel
theorem dX6_whichNow_84 : decode cX6_whichNow 84 = .ok (.goto (-80), 3) := by decide +kernel
theorem dX6_whichNow_87 : decode cX6_whichNow 87 = .ok (.iload_n 1, 1) := by decide +kernel
theorem dX6_whichNow_88 : decode cX6_whichNow 88 = .ok (.ireturn, 1) := by decide +kernel
theorem dX6_which_0 : decode cX6_which 0 = .ok (.aload_n 0, 1) := by decide +kernel
theorem dX6_which_1 : decode cX6_which 1 = .ok (.invokevirtual 214, 3) := by decide +kernel
theorem dX6_which_4 : decode cX6_which 4 = .ok (.ireturn, 1) := by decide +kernel
theorem dX6_alikeAt_0 : decode cX6_alikeAt 0 = .ok (.iconst 0, 1) := by decide +kernel
theorem dX6_alikeAt_1 : decode cX6_alikeAt 1 = .ok (.istore_n 3, 1) := by decide +kernel
theorem dX6_alikeAt_2 : decode cX6_alikeAt 2 = .ok (.iconst 0, 1) := by decide +kernel
theorem dX6_alikeAt_3 : decode cX6_alikeAt 3 = .ok (.istore 4, 2) := by decide +kernel
theorem dX6_alikeAt_5 : decode cX6_alikeAt 5 = .ok (.iload 4, 2) := by decide +kernel
theorem dX6_alikeAt_7 : decode cX6_alikeAt 7 = .ok (.iconst 4, 1) := by decide +kernel
theorem dX6_alikeAt_8 : decode cX6_alikeAt 8 = .ok (.if_icmp .ge 23, 3) := by decide +kernel
theorem dX6_alikeAt_11 : decode cX6_alikeAt 11 = .ok (.aload_n 0, 1) := by decide +kernel
theorem dX6_alikeAt_12 : decode cX6_alikeAt 12 = .ok (.getfield 51, 3) := by decide +kernel
theorem dX6_alikeAt_15 : decode cX6_alikeAt 15 = .ok (.iload 4, 2) := by decide +kernel
theorem dX6_alikeAt_17 : decode cX6_alikeAt 17 = .ok (.aload_n 0, 1) := by decide +kernel
theorem dX6_alikeAt_18 : decode cX6_alikeAt 18 = .ok (.iload 4, 2) := by decide +kernel
theorem dX6_alikeAt_20 : decode cX6_alikeAt 20 = .ok (.iload_n 2, 1) := by decide +kernel
theorem dX6_alikeAt_21 : decode cX6_alikeAt 21 = .ok (.invokevirtual 208, 3) := by decide +kernel
theorem dX6_alikeAt_24 : decode cX6_alikeAt 24 = .ok (.iastore, 1) := by decide +kernel
theorem dX6_alikeAt_25 : decode cX6_alikeAt 25 = .ok (.iinc 4 1, 3) := by decide +kernel
theorem dX6_alikeAt_28 : decode cX6_alikeAt 28 = .ok (.goto (-23), 3) := by decide +kernel
theorem dX6_alikeAt_31 : decode cX6_alikeAt 31 = .ok (.iconst 0, 1) := by decide +kernel
theorem dX6_alikeAt_32 : decode cX6_alikeAt 32 = .ok (.istore 4, 2) := by decide +kernel
theorem dX6_alikeAt_34 : decode cX6_alikeAt 34 = .ok (.iload 4, 2) := by decide +kernel
theorem dX6_alikeAt_36 : decode cX6_alikeAt 36 = .ok (.iconst 4, 1) := by decide +kernel
theorem dX6_alikeAt_37 : decode cX6_alikeAt 37 = .ok (.if_icmp .ge 82, 3) := by decide +kernel
theorem dX6_alikeAt_40 : decode cX6_alikeAt 40 = .ok (.iconst 0, 1) := by decide +kernel
theorem dX6_alikeAt_41 : decode cX6_alikeAt 41 = .ok (.istore 5, 2) := by decide +kernel
theorem dX6_alikeAt_43 : decode cX6_alikeAt 43 = .ok (.iconst 0, 1) := by decide +kernel
theorem dX6_alikeAt_44 : decode cX6_alikeAt 44 = .ok (.istore 6, 2) := by decide +kernel
theorem dX6_alikeAt_46 : decode cX6_alikeAt 46 = .ok (.iload 6, 2) := by decide +kernel
theorem dX6_alikeAt_48 : decode cX6_alikeAt 48 = .ok (.iconst 4, 1) := by decide +kernel
theorem dX6_alikeAt_49 : decode cX6_alikeAt 49 = .ok (.if_icmp .ge 51, 3) := by decide +kernel
theorem dX6_alikeAt_52 : decode cX6_alikeAt 52 = .ok (.iload 5, 2) := by decide +kernel
theorem dX6_alikeAt_54 : decode cX6_alikeAt 54 = .ok (.iload_n 1, 1) := by decide +kernel
theorem dX6_alikeAt_55 : decode cX6_alikeAt 55 = .ok (.iload 4, 2) := by decide +kernel
theorem dX6_alikeAt_57 : decode cX6_alikeAt 57 = .ok (.ishr, 1) := by decide +kernel
theorem dX6_alikeAt_58 : decode cX6_alikeAt 58 = .ok (.iload_n 1, 1) := by decide +kernel
theorem dX6_alikeAt_59 : decode cX6_alikeAt 59 = .ok (.iload 6, 2) := by decide +kernel
theorem dX6_alikeAt_61 : decode cX6_alikeAt 61 = .ok (.ishr, 1) := by decide +kernel
theorem dX6_alikeAt_62 : decode cX6_alikeAt 62 = .ok (.iand, 1) := by decide +kernel
theorem dX6_alikeAt_63 : decode cX6_alikeAt 63 = .ok (.iconst 1, 1) := by decide +kernel
theorem dX6_alikeAt_64 : decode cX6_alikeAt 64 = .ok (.iand, 1) := by decide +kernel
theorem dX6_alikeAt_65 : decode cX6_alikeAt 65 = .ok (.iconst 1, 1) := by decide +kernel
theorem dX6_alikeAt_66 : decode cX6_alikeAt 66 = .ok (.if_icmp .ne 24, 3) := by decide +kernel
theorem dX6_alikeAt_69 : decode cX6_alikeAt 69 = .ok (.aload_n 0, 1) := by decide +kernel
theorem dX6_alikeAt_70 : decode cX6_alikeAt 70 = .ok (.getfield 51, 3) := by decide +kernel
theorem dX6_alikeAt_73 : decode cX6_alikeAt 73 = .ok (.iload 4, 2) := by decide +kernel
theorem dX6_alikeAt_75 : decode cX6_alikeAt 75 = .ok (.iaload, 1) := by decide +kernel
theorem dX6_alikeAt_76 : decode cX6_alikeAt 76 = .ok (.aload_n 0, 1) := by decide +kernel
theorem dX6_alikeAt_77 : decode cX6_alikeAt 77 = .ok (.getfield 51, 3) := by decide +kernel
theorem dX6_alikeAt_80 : decode cX6_alikeAt 80 = .ok (.iload 6, 2) := by decide +kernel
theorem dX6_alikeAt_82 : decode cX6_alikeAt 82 = .ok (.iaload, 1) := by decide +kernel
theorem dX6_alikeAt_83 : decode cX6_alikeAt 83 = .ok (.if_icmp .ne 7, 3) := by decide +kernel
theorem dX6_alikeAt_86 : decode cX6_alikeAt 86 = .ok (.iconst 1, 1) := by decide +kernel
theorem dX6_alikeAt_87 : decode cX6_alikeAt 87 = .ok (.goto 4, 3) := by decide +kernel
theorem dX6_alikeAt_90 : decode cX6_alikeAt 90 = .ok (.iconst 0, 1) := by decide +kernel
theorem dX6_alikeAt_91 : decode cX6_alikeAt 91 = .ok (.iadd, 1) := by decide +kernel
theorem dX6_alikeAt_92 : decode cX6_alikeAt 92 = .ok (.istore 5, 2) := by decide +kernel
theorem dX6_alikeAt_94 : decode cX6_alikeAt 94 = .ok (.iinc 6 1, 3) := by decide +kernel
theorem dX6_alikeAt_97 : decode cX6_alikeAt 97 = .ok (.goto (-51), 3) := by decide +kernel
theorem dX6_alikeAt_100 : decode cX6_alikeAt 100 = .ok (.iload 5, 2) := by decide +kernel
theorem dX6_alikeAt_102 : decode cX6_alikeAt 102 = .ok (.iload_n 3, 1) := by decide +kernel
theorem dX6_alikeAt_103 : decode cX6_alikeAt 103 = .ok (.if_icmp .le 8, 3) := by decide +kernel
theorem dX6_alikeAt_106 : decode cX6_alikeAt 106 = .ok (.iload 5, 2) := by decide +kernel
theorem dX6_alikeAt_108 : decode cX6_alikeAt 108 = .ok (.goto 4, 3) := by decide +kernel
theorem dX6_alikeAt_111 : decode cX6_alikeAt 111 = .ok (.iload_n 3, 1) := by decide +kernel
theorem dX6_alikeAt_112 : decode cX6_alikeAt 112 = .ok (.istore_n 3, 1) := by decide +kernel
theorem dX6_alikeAt_113 : decode cX6_alikeAt 113 = .ok (.iinc 4 1, 3) := by decide +kernel
theorem dX6_alikeAt_116 : decode cX6_alikeAt 116 = .ok (.goto (-82), 3) := by decide +kernel
theorem dX6_alikeAt_119 : decode cX6_alikeAt 119 = .ok (.iload_n 3, 1) := by decide +kernel
theorem dX6_alikeAt_120 : decode cX6_alikeAt 120 = .ok (.ireturn, 1) := by decide +kernel
theorem dX6_look_0 : decode cX6_look 0 = .ok (.aload_n 0, 1) := by decide +kernel
theorem dX6_look_1 : decode cX6_look 1 = .ok (.invokevirtual 214, 3) := by decide +kernel
theorem dX6_look_4 : decode cX6_look 4 = .ok (.istore_n 1, 1) := by decide +kernel
theorem dX6_look_5 : decode cX6_look 5 = .ok (.iload_n 1, 1) := by decide +kernel
theorem dX6_look_6 : decode cX6_look 6 = .ok (.iload_n 1, 1) := by decide +kernel
theorem dX6_look_7 : decode cX6_look 7 = .ok (.iconst 1, 1) := by decide +kernel
theorem dX6_look_8 : decode cX6_look 8 = .ok (.isub, 1) := by decide +kernel
theorem dX6_look_9 : decode cX6_look 9 = .ok (.iand, 1) := by decide +kernel
theorem dX6_look_10 : decode cX6_look 10 = .ok (.ifCond .ne 6, 3) := by decide +kernel
theorem dX6_look_13 : decode cX6_look 13 = .ok (.bipush (-9), 2) := by decide +kernel
theorem dX6_look_15 : decode cX6_look 15 = .ok (.ireturn, 1) := by decide +kernel
theorem dX6_look_16 : decode cX6_look 16 = .ok (.bipush (-9), 2) := by decide +kernel
theorem dX6_look_18 : decode cX6_look 18 = .ok (.istore_n 2, 1) := by decide +kernel
theorem dX6_look_19 : decode cX6_look 19 = .ok (.iconst 5, 1) := by decide +kernel
theorem dX6_look_20 : decode cX6_look 20 = .ok (.istore_n 3, 1) := by decide +kernel
theorem dX6_look_21 : decode cX6_look 21 = .ok (.iconst 0, 1) := by decide +kernel
theorem dX6_look_22 : decode cX6_look 22 = .ok (.istore 4, 2) := by decide +kernel
theorem dX6_look_24 : decode cX6_look 24 = .ok (.iload 4, 2) := by decide +kernel
theorem dX6_look_26 : decode cX6_look 26 = .ok (.bipush 100, 2) := by decide +kernel
theorem dX6_look_28 : decode cX6_look 28 = .ok (.if_icmp .ge 44, 3) := by decide +kernel
theorem dX6_look_31 : decode cX6_look 31 = .ok (.aload_n 0, 1) := by decide +kernel
theorem dX6_look_32 : decode cX6_look 32 = .ok (.iload_n 1, 1) := by decide +kernel
theorem dX6_look_33 : decode cX6_look 33 = .ok (.iload 4, 2) := by decide +kernel
theorem dX6_look_35 : decode cX6_look 35 = .ok (.invokevirtual 217, 3) := by decide +kernel
theorem dX6_look_38 : decode cX6_look 38 = .ok (.istore 5, 2) := by decide +kernel
theorem dX6_look_40 : decode cX6_look 40 = .ok (.iload 5, 2) := by decide +kernel
theorem dX6_look_42 : decode cX6_look 42 = .ok (.iload_n 3, 1) := by decide +kernel
theorem dX6_look_43 : decode cX6_look 43 = .ok (.if_icmp .ge 8, 3) := by decide +kernel
theorem dX6_look_46 : decode cX6_look 46 = .ok (.iload 4, 2) := by decide +kernel
theorem dX6_look_48 : decode cX6_look 48 = .ok (.goto 4, 3) := by decide +kernel
theorem dX6_look_51 : decode cX6_look 51 = .ok (.iload_n 2, 1) := by decide +kernel
theorem dX6_look_52 : decode cX6_look 52 = .ok (.istore_n 2, 1) := by decide +kernel
theorem dX6_look_53 : decode cX6_look 53 = .ok (.iload 5, 2) := by decide +kernel
theorem dX6_look_55 : decode cX6_look 55 = .ok (.iload_n 3, 1) := by decide +kernel
theorem dX6_look_56 : decode cX6_look 56 = .ok (.if_icmp .ge 8, 3) := by decide +kernel
theorem dX6_look_59 : decode cX6_look 59 = .ok (.iload 5, 2) := by decide +kernel
theorem dX6_look_61 : decode cX6_look 61 = .ok (.goto 4, 3) := by decide +kernel
theorem dX6_look_64 : decode cX6_look 64 = .ok (.iload_n 3, 1) := by decide +kernel
theorem dX6_look_65 : decode cX6_look 65 = .ok (.istore_n 3, 1) := by decide +kernel
theorem dX6_look_66 : decode cX6_look 66 = .ok (.iinc 4 1, 3) := by decide +kernel
theorem dX6_look_69 : decode cX6_look 69 = .ok (.goto (-45), 3) := by decide +kernel
theorem dX6_look_72 : decode cX6_look 72 = .ok (.iload_n 2, 1) := by decide +kernel
theorem dX6_look_73 : decode cX6_look 73 = .ok (.ireturn, 1) := by decide +kernel
theorem dX6_legsOfAll_0 : decode cX6_legsOfAll 0 = .ok (.iconst 0, 1) := by decide +kernel
theorem dX6_legsOfAll_1 : decode cX6_legsOfAll 1 = .ok (.istore_n 1, 1) := by decide +kernel
theorem dX6_legsOfAll_2 : decode cX6_legsOfAll 2 = .ok (.iconst 0, 1) := by decide +kernel
theorem dX6_legsOfAll_3 : decode cX6_legsOfAll 3 = .ok (.istore_n 2, 1) := by decide +kernel
theorem dX6_legsOfAll_4 : decode cX6_legsOfAll 4 = .ok (.iload_n 2, 1) := by decide +kernel
theorem dX6_legsOfAll_5 : decode cX6_legsOfAll 5 = .ok (.iconst 4, 1) := by decide +kernel
theorem dX6_legsOfAll_6 : decode cX6_legsOfAll 6 = .ok (.if_icmp .ge 18, 3) := by decide +kernel
theorem dX6_legsOfAll_9 : decode cX6_legsOfAll 9 = .ok (.iload_n 1, 1) := by decide +kernel
theorem dX6_legsOfAll_10 : decode cX6_legsOfAll 10 = .ok (.aload_n 0, 1) := by decide +kernel
theorem dX6_legsOfAll_11 : decode cX6_legsOfAll 11 = .ok (.iload_n 2, 1) := by decide +kernel
theorem dX6_legsOfAll_12 : decode cX6_legsOfAll 12 = .ok (.iconst 0, 1) := by decide +kernel
theorem dX6_legsOfAll_13 : decode cX6_legsOfAll 13 = .ok (.invokevirtual 70, 3) := by decide +kernel
theorem dX6_legsOfAll_16 : decode cX6_legsOfAll 16 = .ok (.iadd, 1) := by decide +kernel
theorem dX6_legsOfAll_17 : decode cX6_legsOfAll 17 = .ok (.istore_n 1, 1) := by decide +kernel
theorem dX6_legsOfAll_18 : decode cX6_legsOfAll 18 = .ok (.iinc 2 1, 3) := by decide +kernel
theorem dX6_legsOfAll_21 : decode cX6_legsOfAll 21 = .ok (.goto (-17), 3) := by decide +kernel
theorem dX6_legsOfAll_24 : decode cX6_legsOfAll 24 = .ok (.iload_n 1, 1) := by decide +kernel
theorem dX6_legsOfAll_25 : decode cX6_legsOfAll 25 = .ok (.ireturn, 1) := by decide +kernel
theorem dX6_keep_0 : decode cX6_keep 0 = .ok (.iload_n 1, 1) := by decide +kernel
theorem dX6_keep_1 : decode cX6_keep 1 = .ok (.iconst 0, 1) := by decide +kernel
theorem dX6_keep_2 : decode cX6_keep 2 = .ok (.iconst 1, 1) := by decide +kernel
theorem dX6_keep_3 : decode cX6_keep 3 = .ok (.invokestatic 62, 3) := by decide +kernel
theorem dX6_keep_6 : decode cX6_keep 6 = .ok (.ifCond .ne 5, 3) := by decide +kernel
theorem dX6_keep_9 : decode cX6_keep 9 = .ok (.iconst (-1), 1) := by decide +kernel
theorem dX6_keep_10 : decode cX6_keep 10 = .ok (.ireturn, 1) := by decide +kernel
theorem dX6_keep_11 : decode cX6_keep 11 = .ok (.iconst 0, 1) := by decide +kernel
theorem dX6_keep_12 : decode cX6_keep 12 = .ok (.istore_n 2, 1) := by decide +kernel
theorem dX6_keep_13 : decode cX6_keep 13 = .ok (.iload_n 2, 1) := by decide +kernel
theorem dX6_keep_14 : decode cX6_keep 14 = .ok (.sipush 132, 3) := by decide +kernel
theorem dX6_keep_17 : decode cX6_keep 17 = .ok (.if_icmp .ge 27, 3) := by decide +kernel
theorem dX6_keep_20 : decode cX6_keep 20 = .ok (.aload_n 0, 1) := by decide +kernel
theorem dX6_keep_21 : decode cX6_keep 21 = .ok (.getfield 16, 3) := by decide +kernel
theorem dX6_keep_24 : decode cX6_keep 24 = .ok (.sipush 132, 3) := by decide +kernel
theorem dX6_keep_27 : decode cX6_keep 27 = .ok (.iload_n 1, 1) := by decide +kernel
theorem dX6_keep_28 : decode cX6_keep 28 = .ok (.imul, 1) := by decide +kernel
theorem dX6_keep_29 : decode cX6_keep 29 = .ok (.iload_n 2, 1) := by decide +kernel
theorem dX6_keep_30 : decode cX6_keep 30 = .ok (.iadd, 1) := by decide +kernel
theorem dX6_keep_31 : decode cX6_keep 31 = .ok (.aload_n 0, 1) := by decide +kernel
theorem dX6_keep_32 : decode cX6_keep 32 = .ok (.getfield 7, 3) := by decide +kernel
theorem dX6_keep_35 : decode cX6_keep 35 = .ok (.iload_n 2, 1) := by decide +kernel
theorem dX6_keep_36 : decode cX6_keep 36 = .ok (.iaload, 1) := by decide +kernel
theorem dX6_keep_37 : decode cX6_keep 37 = .ok (.iastore, 1) := by decide +kernel
theorem dX6_keep_38 : decode cX6_keep 38 = .ok (.iinc 2 1, 3) := by decide +kernel
theorem dX6_keep_41 : decode cX6_keep 41 = .ok (.goto (-28), 3) := by decide +kernel
theorem dX6_keep_44 : decode cX6_keep 44 = .ok (.aload_n 0, 1) := by decide +kernel
theorem dX6_keep_45 : decode cX6_keep 45 = .ok (.getfield 19, 3) := by decide +kernel
theorem dX6_keep_48 : decode cX6_keep 48 = .ok (.iload_n 1, 1) := by decide +kernel
theorem dX6_keep_49 : decode cX6_keep 49 = .ok (.iconst 1, 1) := by decide +kernel
theorem dX6_keep_50 : decode cX6_keep 50 = .ok (.bastore, 1) := by decide +kernel
theorem dX6_keep_51 : decode cX6_keep 51 = .ok (.aload_n 0, 1) := by decide +kernel
theorem dX6_keep_52 : decode cX6_keep 52 = .ok (.invokevirtual 220, 3) := by decide +kernel
theorem dX6_keep_55 : decode cX6_keep 55 = .ok (.ireturn, 1) := by decide +kernel
theorem dX6_back_0 : decode cX6_back 0 = .ok (.iload_n 1, 1) := by decide +kernel
theorem dX6_back_1 : decode cX6_back 1 = .ok (.iconst 0, 1) := by decide +kernel
theorem dX6_back_2 : decode cX6_back 2 = .ok (.iconst 1, 1) := by decide +kernel
theorem dX6_back_3 : decode cX6_back 3 = .ok (.invokestatic 62, 3) := by decide +kernel
theorem dX6_back_6 : decode cX6_back 6 = .ok (.ifCond .ne 5, 3) := by decide +kernel
theorem dX6_back_9 : decode cX6_back 9 = .ok (.iconst (-1), 1) := by decide +kernel
theorem dX6_back_10 : decode cX6_back 10 = .ok (.ireturn, 1) := by decide +kernel
theorem dX6_back_11 : decode cX6_back 11 = .ok (.aload_n 0, 1) := by decide +kernel
theorem dX6_back_12 : decode cX6_back 12 = .ok (.getfield 19, 3) := by decide +kernel
theorem dX6_back_15 : decode cX6_back 15 = .ok (.iload_n 1, 1) := by decide +kernel
theorem dX6_back_16 : decode cX6_back 16 = .ok (.baload, 1) := by decide +kernel
theorem dX6_back_17 : decode cX6_back 17 = .ok (.ifCond .ne 6, 3) := by decide +kernel
theorem dX6_back_20 : decode cX6_back 20 = .ok (.bipush (-2), 2) := by decide +kernel
theorem dX6_back_22 : decode cX6_back 22 = .ok (.ireturn, 1) := by decide +kernel
theorem dX6_back_23 : decode cX6_back 23 = .ok (.iconst 0, 1) := by decide +kernel
theorem dX6_back_24 : decode cX6_back 24 = .ok (.istore_n 2, 1) := by decide +kernel
theorem dX6_back_25 : decode cX6_back 25 = .ok (.iload_n 2, 1) := by decide +kernel
theorem dX6_back_26 : decode cX6_back 26 = .ok (.sipush 132, 3) := by decide +kernel
theorem dX6_back_29 : decode cX6_back 29 = .ok (.if_icmp .ge 27, 3) := by decide +kernel
theorem dX6_back_32 : decode cX6_back 32 = .ok (.aload_n 0, 1) := by decide +kernel
theorem dX6_back_33 : decode cX6_back 33 = .ok (.getfield 7, 3) := by decide +kernel
theorem dX6_back_36 : decode cX6_back 36 = .ok (.iload_n 2, 1) := by decide +kernel
theorem dX6_back_37 : decode cX6_back 37 = .ok (.aload_n 0, 1) := by decide +kernel
theorem dX6_back_38 : decode cX6_back 38 = .ok (.getfield 16, 3) := by decide +kernel
theorem dX6_back_41 : decode cX6_back 41 = .ok (.sipush 132, 3) := by decide +kernel
theorem dX6_back_44 : decode cX6_back 44 = .ok (.iload_n 1, 1) := by decide +kernel
theorem dX6_back_45 : decode cX6_back 45 = .ok (.imul, 1) := by decide +kernel
theorem dX6_back_46 : decode cX6_back 46 = .ok (.iload_n 2, 1) := by decide +kernel
theorem dX6_back_47 : decode cX6_back 47 = .ok (.iadd, 1) := by decide +kernel
theorem dX6_back_48 : decode cX6_back 48 = .ok (.iaload, 1) := by decide +kernel
theorem dX6_back_49 : decode cX6_back 49 = .ok (.iastore, 1) := by decide +kernel
theorem dX6_back_50 : decode cX6_back 50 = .ok (.iinc 2 1, 3) := by decide +kernel
theorem dX6_back_53 : decode cX6_back 53 = .ok (.goto (-28), 3) := by decide +kernel
theorem dX6_back_56 : decode cX6_back 56 = .ok (.aload_n 0, 1) := by decide +kernel
theorem dX6_back_57 : decode cX6_back 57 = .ok (.iconst 0, 1) := by decide +kernel
theorem dX6_back_58 : decode cX6_back 58 = .ok (.putfield 58, 3) := by decide +kernel
theorem dX6_back_61 : decode cX6_back 61 = .ok (.aload_n 0, 1) := by decide +kernel
theorem dX6_back_62 : decode cX6_back 62 = .ok (.invokevirtual 220, 3) := by decide +kernel
theorem dX6_back_65 : decode cX6_back 65 = .ok (.ireturn, 1) := by decide +kernel
theorem dX6_count_0 : decode cX6_count 0 = .ok (.iload_n 1, 1) := by decide +kernel
theorem dX6_count_1 : decode cX6_count 1 = .ok (.tableswitch 51 0 3 #[31, 36, 41, 46], 31) := by decide +kernel
theorem dX6_count_32 : decode cX6_count 32 = .ok (.aload_n 0, 1) := by decide +kernel
theorem dX6_count_33 : decode cX6_count 33 = .ok (.invokevirtual 220, 3) := by decide +kernel
theorem dX6_count_36 : decode cX6_count 36 = .ok (.ireturn, 1) := by decide +kernel
theorem dX6_count_37 : decode cX6_count 37 = .ok (.aload_n 0, 1) := by decide +kernel
theorem dX6_count_38 : decode cX6_count 38 = .ok (.getfield 211, 3) := by decide +kernel
theorem dX6_count_41 : decode cX6_count 41 = .ok (.ireturn, 1) := by decide +kernel
theorem dX6_count_42 : decode cX6_count 42 = .ok (.aload_n 0, 1) := by decide +kernel
theorem dX6_count_43 : decode cX6_count 43 = .ok (.getfield 73, 3) := by decide +kernel
theorem dX6_count_46 : decode cX6_count 46 = .ok (.ireturn, 1) := by decide +kernel
theorem dX6_count_47 : decode cX6_count 47 = .ok (.aload_n 0, 1) := by decide +kernel
theorem dX6_count_48 : decode cX6_count 48 = .ok (.getfield 58, 3) := by decide +kernel
theorem dX6_count_51 : decode cX6_count 51 = .ok (.ireturn, 1) := by decide +kernel
theorem dX6_count_52 : decode cX6_count 52 = .ok (.iconst (-1), 1) := by decide +kernel
theorem dX6_count_53 : decode cX6_count 53 = .ok (.ireturn, 1) := by decide +kernel
theorem dJ6_bitCount_0f7a4_0 : decode cJ6_bitCount_0f7a4 0 = .ok (.iload_n 0, 1) := by decide +kernel
theorem dJ6_bitCount_0f7a4_1 : decode cJ6_bitCount_0f7a4 1 = .ok (.iload_n 0, 1) := by decide +kernel
theorem dJ6_bitCount_0f7a4_2 : decode cJ6_bitCount_0f7a4 2 = .ok (.iconst 1, 1) := by decide +kernel
theorem dJ6_bitCount_0f7a4_3 : decode cJ6_bitCount_0f7a4 3 = .ok (.iushr, 1) := by decide +kernel
theorem dJ6_bitCount_0f7a4_4 : decode cJ6_bitCount_0f7a4 4 = .ok (.ldc_w 265, 3) := by decide +kernel
theorem dJ6_bitCount_0f7a4_7 : decode cJ6_bitCount_0f7a4 7 = .ok (.iand, 1) := by decide +kernel
theorem dJ6_bitCount_0f7a4_8 : decode cJ6_bitCount_0f7a4 8 = .ok (.isub, 1) := by decide +kernel
theorem dJ6_bitCount_0f7a4_9 : decode cJ6_bitCount_0f7a4 9 = .ok (.istore_n 0, 1) := by decide +kernel
theorem dJ6_bitCount_0f7a4_10 : decode cJ6_bitCount_0f7a4 10 = .ok (.iload_n 0, 1) := by decide +kernel
theorem dJ6_bitCount_0f7a4_11 : decode cJ6_bitCount_0f7a4 11 = .ok (.ldc_w 266, 3) := by decide +kernel
theorem dJ6_bitCount_0f7a4_14 : decode cJ6_bitCount_0f7a4 14 = .ok (.iand, 1) := by decide +kernel
theorem dJ6_bitCount_0f7a4_15 : decode cJ6_bitCount_0f7a4 15 = .ok (.iload_n 0, 1) := by decide +kernel
theorem dJ6_bitCount_0f7a4_16 : decode cJ6_bitCount_0f7a4 16 = .ok (.iconst 2, 1) := by decide +kernel
theorem dJ6_bitCount_0f7a4_17 : decode cJ6_bitCount_0f7a4 17 = .ok (.iushr, 1) := by decide +kernel
theorem dJ6_bitCount_0f7a4_18 : decode cJ6_bitCount_0f7a4 18 = .ok (.ldc_w 266, 3) := by decide +kernel
theorem dJ6_bitCount_0f7a4_21 : decode cJ6_bitCount_0f7a4 21 = .ok (.iand, 1) := by decide +kernel
theorem dJ6_bitCount_0f7a4_22 : decode cJ6_bitCount_0f7a4 22 = .ok (.iadd, 1) := by decide +kernel
theorem dJ6_bitCount_0f7a4_23 : decode cJ6_bitCount_0f7a4 23 = .ok (.istore_n 0, 1) := by decide +kernel
theorem dJ6_bitCount_0f7a4_24 : decode cJ6_bitCount_0f7a4 24 = .ok (.iload_n 0, 1) := by decide +kernel
theorem dJ6_bitCount_0f7a4_25 : decode cJ6_bitCount_0f7a4 25 = .ok (.iload_n 0, 1) := by decide +kernel
theorem dJ6_bitCount_0f7a4_26 : decode cJ6_bitCount_0f7a4 26 = .ok (.iconst 4, 1) := by decide +kernel
theorem dJ6_bitCount_0f7a4_27 : decode cJ6_bitCount_0f7a4 27 = .ok (.iushr, 1) := by decide +kernel
theorem dJ6_bitCount_0f7a4_28 : decode cJ6_bitCount_0f7a4 28 = .ok (.iadd, 1) := by decide +kernel
theorem dJ6_bitCount_0f7a4_29 : decode cJ6_bitCount_0f7a4 29 = .ok (.ldc_w 267, 3) := by decide +kernel
theorem dJ6_bitCount_0f7a4_32 : decode cJ6_bitCount_0f7a4 32 = .ok (.iand, 1) := by decide +kernel
theorem dJ6_bitCount_0f7a4_33 : decode cJ6_bitCount_0f7a4 33 = .ok (.istore_n 0, 1) := by decide +kernel
theorem dJ6_bitCount_0f7a4_34 : decode cJ6_bitCount_0f7a4 34 = .ok (.iload_n 0, 1) := by decide +kernel
theorem dJ6_bitCount_0f7a4_35 : decode cJ6_bitCount_0f7a4 35 = .ok (.iload_n 0, 1) := by decide +kernel
theorem dJ6_bitCount_0f7a4_36 : decode cJ6_bitCount_0f7a4 36 = .ok (.bipush 8, 2) := by decide +kernel
theorem dJ6_bitCount_0f7a4_38 : decode cJ6_bitCount_0f7a4 38 = .ok (.iushr, 1) := by decide +kernel
theorem dJ6_bitCount_0f7a4_39 : decode cJ6_bitCount_0f7a4 39 = .ok (.iadd, 1) := by decide +kernel
theorem dJ6_bitCount_0f7a4_40 : decode cJ6_bitCount_0f7a4 40 = .ok (.istore_n 0, 1) := by decide +kernel
theorem dJ6_bitCount_0f7a4_41 : decode cJ6_bitCount_0f7a4 41 = .ok (.iload_n 0, 1) := by decide +kernel
theorem dJ6_bitCount_0f7a4_42 : decode cJ6_bitCount_0f7a4 42 = .ok (.iload_n 0, 1) := by decide +kernel
theorem dJ6_bitCount_0f7a4_43 : decode cJ6_bitCount_0f7a4 43 = .ok (.bipush 16, 2) := by decide +kernel
theorem dJ6_bitCount_0f7a4_45 : decode cJ6_bitCount_0f7a4 45 = .ok (.iushr, 1) := by decide +kernel
theorem dJ6_bitCount_0f7a4_46 : decode cJ6_bitCount_0f7a4 46 = .ok (.iadd, 1) := by decide +kernel
theorem dJ6_bitCount_0f7a4_47 : decode cJ6_bitCount_0f7a4 47 = .ok (.istore_n 0, 1) := by decide +kernel
theorem dJ6_bitCount_0f7a4_48 : decode cJ6_bitCount_0f7a4 48 = .ok (.iload_n 0, 1) := by decide +kernel
theorem dJ6_bitCount_0f7a4_49 : decode cJ6_bitCount_0f7a4 49 = .ok (.bipush 63, 2) := by decide +kernel
theorem dJ6_bitCount_0f7a4_51 : decode cJ6_bitCount_0f7a4 51 = .ok (.iand, 1) := by decide +kernel
theorem dJ6_bitCount_0f7a4_52 : decode cJ6_bitCount_0f7a4 52 = .ok (.ireturn, 1) := by decide +kernel
theorem dJ9_floorDiv_7cf53_0 : decode cJ9_floorDiv_7cf53 0 = .ok (.iload_n 0, 1) := by decide +kernel
theorem dJ9_floorDiv_7cf53_1 : decode cJ9_floorDiv_7cf53 1 = .ok (.iload_n 1, 1) := by decide +kernel
theorem dJ9_floorDiv_7cf53_2 : decode cJ9_floorDiv_7cf53 2 = .ok (.idiv, 1) := by decide +kernel
theorem dJ9_floorDiv_7cf53_3 : decode cJ9_floorDiv_7cf53 3 = .ok (.istore_n 2, 1) := by decide +kernel
theorem dJ9_floorDiv_7cf53_4 : decode cJ9_floorDiv_7cf53 4 = .ok (.iload_n 0, 1) := by decide +kernel
theorem dJ9_floorDiv_7cf53_5 : decode cJ9_floorDiv_7cf53 5 = .ok (.iload_n 1, 1) := by decide +kernel
theorem dJ9_floorDiv_7cf53_6 : decode cJ9_floorDiv_7cf53 6 = .ok (.ixor, 1) := by decide +kernel
theorem dJ9_floorDiv_7cf53_7 : decode cJ9_floorDiv_7cf53 7 = .ok (.ifCond .ge 14, 3) := by decide +kernel
theorem dJ9_floorDiv_7cf53_10 : decode cJ9_floorDiv_7cf53 10 = .ok (.iload_n 2, 1) := by decide +kernel
theorem dJ9_floorDiv_7cf53_11 : decode cJ9_floorDiv_7cf53 11 = .ok (.iload_n 1, 1) := by decide +kernel
theorem dJ9_floorDiv_7cf53_12 : decode cJ9_floorDiv_7cf53 12 = .ok (.imul, 1) := by decide +kernel
theorem dJ9_floorDiv_7cf53_13 : decode cJ9_floorDiv_7cf53 13 = .ok (.iload_n 0, 1) := by decide +kernel
theorem dJ9_floorDiv_7cf53_14 : decode cJ9_floorDiv_7cf53 14 = .ok (.if_icmp .eq 7, 3) := by decide +kernel
theorem dJ9_floorDiv_7cf53_17 : decode cJ9_floorDiv_7cf53 17 = .ok (.iload_n 2, 1) := by decide +kernel
theorem dJ9_floorDiv_7cf53_18 : decode cJ9_floorDiv_7cf53 18 = .ok (.iconst 1, 1) := by decide +kernel
theorem dJ9_floorDiv_7cf53_19 : decode cJ9_floorDiv_7cf53 19 = .ok (.isub, 1) := by decide +kernel
theorem dJ9_floorDiv_7cf53_20 : decode cJ9_floorDiv_7cf53 20 = .ok (.ireturn, 1) := by decide +kernel
theorem dJ9_floorDiv_7cf53_21 : decode cJ9_floorDiv_7cf53 21 = .ok (.iload_n 2, 1) := by decide +kernel
theorem dJ9_floorDiv_7cf53_22 : decode cJ9_floorDiv_7cf53 22 = .ok (.ireturn, 1) := by decide +kernel
theorem dJ9_abs_0f7a4_0 : decode cJ9_abs_0f7a4 0 = .ok (.iload_n 0, 1) := by decide +kernel
theorem dJ9_abs_0f7a4_1 : decode cJ9_abs_0f7a4 1 = .ok (.ifCond .ge 8, 3) := by decide +kernel
theorem dJ9_abs_0f7a4_4 : decode cJ9_abs_0f7a4 4 = .ok (.iload_n 0, 1) := by decide +kernel
theorem dJ9_abs_0f7a4_5 : decode cJ9_abs_0f7a4 5 = .ok (.ineg, 1) := by decide +kernel
theorem dJ9_abs_0f7a4_6 : decode cJ9_abs_0f7a4 6 = .ok (.goto 4, 3) := by decide +kernel
theorem dJ9_abs_0f7a4_9 : decode cJ9_abs_0f7a4 9 = .ok (.iload_n 0, 1) := by decide +kernel
theorem dJ9_abs_0f7a4_10 : decode cJ9_abs_0f7a4 10 = .ok (.ireturn, 1) := by decide +kernel
theorem dJ9_max_7cf53_0 : decode cJ9_max_7cf53 0 = .ok (.iload_n 0, 1) := by decide +kernel
theorem dJ9_max_7cf53_1 : decode cJ9_max_7cf53 1 = .ok (.iload_n 1, 1) := by decide +kernel
theorem dJ9_max_7cf53_2 : decode cJ9_max_7cf53 2 = .ok (.if_icmp .lt 7, 3) := by decide +kernel
theorem dJ9_max_7cf53_5 : decode cJ9_max_7cf53 5 = .ok (.iload_n 0, 1) := by decide +kernel
theorem dJ9_max_7cf53_6 : decode cJ9_max_7cf53 6 = .ok (.goto 4, 3) := by decide +kernel
theorem dJ9_max_7cf53_9 : decode cJ9_max_7cf53 9 = .ok (.iload_n 1, 1) := by decide +kernel
theorem dJ9_max_7cf53_10 : decode cJ9_max_7cf53 10 = .ok (.ireturn, 1) := by decide +kernel
theorem dJ9_min_7cf53_0 : decode cJ9_min_7cf53 0 = .ok (.iload_n 0, 1) := by decide +kernel
theorem dJ9_min_7cf53_1 : decode cJ9_min_7cf53 1 = .ok (.iload_n 1, 1) := by decide +kernel
theorem dJ9_min_7cf53_2 : decode cJ9_min_7cf53 2 = .ok (.if_icmp .gt 7, 3) := by decide +kernel
theorem dJ9_min_7cf53_5 : decode cJ9_min_7cf53 5 = .ok (.iload_n 0, 1) := by decide +kernel
theorem dJ9_min_7cf53_6 : decode cJ9_min_7cf53 6 = .ok (.goto 4, 3) := by decide +kernel
theorem dJ9_min_7cf53_9 : decode cJ9_min_7cf53 9 = .ok (.iload_n 1, 1) := by decide +kernel
theorem dJ9_min_7cf53_10 : decode cJ9_min_7cf53 10 = .ok (.ireturn, 1) := by decide +kernel
theorem dJ9_min_f86c9_0 : decode cJ9_min_f86c9 0 = .ok (.lload_n 0, 1) := by decide +kernel
theorem dJ9_min_f86c9_1 : decode cJ9_min_f86c9 1 = .ok (.lload_n 2, 1) := by decide +kernel
theorem dJ9_min_f86c9_2 : decode cJ9_min_f86c9 2 = .ok (.lcmp, 1) := by decide +kernel
theorem dJ9_min_f86c9_3 : decode cJ9_min_f86c9 3 = .ok (.ifCond .gt 7, 3) := by decide +kernel
theorem dJ9_min_f86c9_6 : decode cJ9_min_f86c9 6 = .ok (.lload_n 0, 1) := by decide +kernel
theorem dJ9_min_f86c9_7 : decode cJ9_min_f86c9 7 = .ok (.goto 4, 3) := by decide +kernel
theorem dJ9_min_f86c9_10 : decode cJ9_min_f86c9 10 = .ok (.lload_n 2, 1) := by decide +kernel
theorem dJ9_min_f86c9_11 : decode cJ9_min_f86c9 11 = .ok (.lreturn, 1) := by decide +kernel
theorem dJ7_fill_53178_0 : decode cJ7_fill_53178 0 = .ok (.iconst 0, 1) := by decide +kernel
theorem dJ7_fill_53178_1 : decode cJ7_fill_53178 1 = .ok (.istore_n 2, 1) := by decide +kernel
theorem dJ7_fill_53178_2 : decode cJ7_fill_53178 2 = .ok (.aload_n 0, 1) := by decide +kernel
theorem dJ7_fill_53178_3 : decode cJ7_fill_53178 3 = .ok (.arraylength, 1) := by decide +kernel
theorem dJ7_fill_53178_4 : decode cJ7_fill_53178 4 = .ok (.istore_n 3, 1) := by decide +kernel
theorem dJ7_fill_53178_5 : decode cJ7_fill_53178 5 = .ok (.iload_n 2, 1) := by decide +kernel
theorem dJ7_fill_53178_6 : decode cJ7_fill_53178 6 = .ok (.iload_n 3, 1) := by decide +kernel
theorem dJ7_fill_53178_7 : decode cJ7_fill_53178 7 = .ok (.if_icmp .ge 13, 3) := by decide +kernel
theorem dJ7_fill_53178_10 : decode cJ7_fill_53178 10 = .ok (.aload_n 0, 1) := by decide +kernel
theorem dJ7_fill_53178_11 : decode cJ7_fill_53178 11 = .ok (.iload_n 2, 1) := by decide +kernel
theorem dJ7_fill_53178_12 : decode cJ7_fill_53178 12 = .ok (.iload_n 1, 1) := by decide +kernel
theorem dJ7_fill_53178_13 : decode cJ7_fill_53178 13 = .ok (.iastore, 1) := by decide +kernel
theorem dJ7_fill_53178_14 : decode cJ7_fill_53178 14 = .ok (.iinc 2 1, 3) := by decide +kernel
theorem dJ7_fill_53178_17 : decode cJ7_fill_53178 17 = .ok (.goto (-12), 3) := by decide +kernel
theorem dJ7_fill_53178_20 : decode cJ7_fill_53178 20 = .ok (.return_, 1) := by decide +kernel
theorem dL_law_0 : decode cL_law 0 = .ok (.new 7, 3) := by decide +kernel
theorem dL_law_3 : decode cL_law 3 = .ok (.dup, 1) := by decide +kernel
theorem dL_law_4 : decode cL_law 4 = .ok (.invokespecial 9, 3) := by decide +kernel
theorem dL_law_7 : decode cL_law 7 = .ok (.astore_n 1, 1) := by decide +kernel
theorem dL_law_8 : decode cL_law 8 = .ok (.new 10, 3) := by decide +kernel
theorem dL_law_11 : decode cL_law 11 = .ok (.dup, 1) := by decide +kernel
theorem dL_law_12 : decode cL_law 12 = .ok (.invokespecial 12, 3) := by decide +kernel
theorem dL_law_15 : decode cL_law 15 = .ok (.astore_n 2, 1) := by decide +kernel
theorem dL_law_16 : decode cL_law 16 = .ok (.iconst 0, 1) := by decide +kernel
theorem dL_law_17 : decode cL_law 17 = .ok (.istore_n 3, 1) := by decide +kernel
theorem dL_law_18 : decode cL_law 18 = .ok (.iload_n 3, 1) := by decide +kernel
theorem dL_law_19 : decode cL_law 19 = .ok (.aload_n 0, 1) := by decide +kernel
theorem dL_law_20 : decode cL_law 20 = .ok (.arraylength, 1) := by decide +kernel
theorem dL_law_21 : decode cL_law 21 = .ok (.iconst 5, 1) := by decide +kernel
theorem dL_law_22 : decode cL_law 22 = .ok (.isub, 1) := by decide +kernel
theorem dL_law_23 : decode cL_law 23 = .ok (.if_icmp .gt 853, 3) := by decide +kernel
theorem dL_law_26 : decode cL_law 26 = .ok (.aload_n 0, 1) := by decide +kernel
theorem dL_law_27 : decode cL_law 27 = .ok (.iload_n 3, 1) := by decide +kernel
theorem dL_law_28 : decode cL_law 28 = .ok (.iaload, 1) := by decide +kernel
theorem dL_law_29 : decode cL_law 29 = .ok (.bipush 31, 2) := by decide +kernel
theorem dL_law_31 : decode cL_law 31 = .ok (.iand, 1) := by decide +kernel
theorem dL_law_32 : decode cL_law 32 = .ok (.tableswitch 838 0 25 #[120, 143, 156, 179, 202, 235, 288, 321, 334, 367, 410, 443, 486, 529, 562, 595, 618, 641, 664, 697, 730, 743, 756, 769, 792, 815], 120) := by decide +kernel
theorem dL_law_152 : decode cL_law 152 = .ok (.aload_n 1, 1) := by decide +kernel
theorem dL_law_153 : decode cL_law 153 = .ok (.aload_n 0, 1) := by decide +kernel
theorem dL_law_154 : decode cL_law 154 = .ok (.iload_n 3, 1) := by decide +kernel
theorem dL_law_155 : decode cL_law 155 = .ok (.iconst 1, 1) := by decide +kernel
theorem dL_law_156 : decode cL_law 156 = .ok (.iadd, 1) := by decide +kernel
theorem dL_law_157 : decode cL_law 157 = .ok (.iaload, 1) := by decide +kernel
theorem dL_law_158 : decode cL_law 158 = .ok (.invokevirtual 13, 3) := by decide +kernel
theorem dL_law_161 : decode cL_law 161 = .ok (.aload_n 2, 1) := by decide +kernel
theorem dL_law_162 : decode cL_law 162 = .ok (.aload_n 0, 1) := by decide +kernel
theorem dL_law_163 : decode cL_law 163 = .ok (.iload_n 3, 1) := by decide +kernel
theorem dL_law_164 : decode cL_law 164 = .ok (.iconst 1, 1) := by decide +kernel
theorem dL_law_165 : decode cL_law 165 = .ok (.iadd, 1) := by decide +kernel
theorem dL_law_166 : decode cL_law 166 = .ok (.iaload, 1) := by decide +kernel
theorem dL_law_167 : decode cL_law 167 = .ok (.invokevirtual 17, 3) := by decide +kernel
theorem dL_law_170 : decode cL_law 170 = .ok (.if_icmp .eq 700, 3) := by decide +kernel
theorem dL_law_173 : decode cL_law 173 = .ok (.iconst 0, 1) := by decide +kernel
theorem dL_law_174 : decode cL_law 174 = .ok (.ireturn, 1) := by decide +kernel
theorem dL_law_175 : decode cL_law 175 = .ok (.aload_n 1, 1) := by decide +kernel
theorem dL_law_176 : decode cL_law 176 = .ok (.invokevirtual 18, 3) := by decide +kernel
theorem dL_law_179 : decode cL_law 179 = .ok (.aload_n 2, 1) := by decide +kernel
theorem dL_law_180 : decode cL_law 180 = .ok (.invokevirtual 22, 3) := by decide +kernel
theorem dL_law_183 : decode cL_law 183 = .ok (.if_icmp .eq 687, 3) := by decide +kernel
theorem dL_law_186 : decode cL_law 186 = .ok (.iconst 0, 1) := by decide +kernel
theorem dL_law_187 : decode cL_law 187 = .ok (.ireturn, 1) := by decide +kernel
theorem dL_law_188 : decode cL_law 188 = .ok (.aload_n 1, 1) := by decide +kernel
theorem dL_law_189 : decode cL_law 189 = .ok (.aload_n 0, 1) := by decide +kernel
theorem dL_law_190 : decode cL_law 190 = .ok (.iload_n 3, 1) := by decide +kernel
theorem dL_law_191 : decode cL_law 191 = .ok (.iconst 1, 1) := by decide +kernel
theorem dL_law_192 : decode cL_law 192 = .ok (.iadd, 1) := by decide +kernel
theorem dL_law_193 : decode cL_law 193 = .ok (.iaload, 1) := by decide +kernel
theorem dL_law_194 : decode cL_law 194 = .ok (.invokevirtual 23, 3) := by decide +kernel
theorem dL_law_197 : decode cL_law 197 = .ok (.aload_n 2, 1) := by decide +kernel
theorem dL_law_198 : decode cL_law 198 = .ok (.aload_n 0, 1) := by decide +kernel
theorem dL_law_199 : decode cL_law 199 = .ok (.iload_n 3, 1) := by decide +kernel
theorem dL_law_200 : decode cL_law 200 = .ok (.iconst 1, 1) := by decide +kernel
theorem dL_law_201 : decode cL_law 201 = .ok (.iadd, 1) := by decide +kernel
theorem dL_law_202 : decode cL_law 202 = .ok (.iaload, 1) := by decide +kernel
theorem dL_law_203 : decode cL_law 203 = .ok (.invokevirtual 26, 3) := by decide +kernel
theorem dL_law_206 : decode cL_law 206 = .ok (.if_icmp .eq 664, 3) := by decide +kernel
theorem dL_law_209 : decode cL_law 209 = .ok (.iconst 0, 1) := by decide +kernel
theorem dL_law_210 : decode cL_law 210 = .ok (.ireturn, 1) := by decide +kernel
theorem dL_law_211 : decode cL_law 211 = .ok (.aload_n 1, 1) := by decide +kernel
theorem dL_law_212 : decode cL_law 212 = .ok (.aload_n 0, 1) := by decide +kernel
theorem dL_law_213 : decode cL_law 213 = .ok (.iload_n 3, 1) := by decide +kernel
theorem dL_law_214 : decode cL_law 214 = .ok (.iconst 1, 1) := by decide +kernel
theorem dL_law_215 : decode cL_law 215 = .ok (.iadd, 1) := by decide +kernel
theorem dL_law_216 : decode cL_law 216 = .ok (.iaload, 1) := by decide +kernel
theorem dL_law_217 : decode cL_law 217 = .ok (.invokevirtual 27, 3) := by decide +kernel
theorem dL_law_220 : decode cL_law 220 = .ok (.aload_n 2, 1) := by decide +kernel
theorem dL_law_221 : decode cL_law 221 = .ok (.aload_n 0, 1) := by decide +kernel
theorem dL_law_222 : decode cL_law 222 = .ok (.iload_n 3, 1) := by decide +kernel
theorem dL_law_223 : decode cL_law 223 = .ok (.iconst 1, 1) := by decide +kernel
theorem dL_law_224 : decode cL_law 224 = .ok (.iadd, 1) := by decide +kernel
theorem dL_law_225 : decode cL_law 225 = .ok (.iaload, 1) := by decide +kernel
theorem dL_law_226 : decode cL_law 226 = .ok (.invokevirtual 30, 3) := by decide +kernel
theorem dL_law_229 : decode cL_law 229 = .ok (.if_icmp .eq 641, 3) := by decide +kernel
theorem dL_law_232 : decode cL_law 232 = .ok (.iconst 0, 1) := by decide +kernel
theorem dL_law_233 : decode cL_law 233 = .ok (.ireturn, 1) := by decide +kernel
theorem dL_law_234 : decode cL_law 234 = .ok (.aload_n 1, 1) := by decide +kernel
theorem dL_law_235 : decode cL_law 235 = .ok (.aload_n 0, 1) := by decide +kernel
theorem dL_law_236 : decode cL_law 236 = .ok (.iload_n 3, 1) := by decide +kernel
theorem dL_law_237 : decode cL_law 237 = .ok (.iconst 1, 1) := by decide +kernel
theorem dL_law_238 : decode cL_law 238 = .ok (.iadd, 1) := by decide +kernel
theorem dL_law_239 : decode cL_law 239 = .ok (.iaload, 1) := by decide +kernel
theorem dL_law_240 : decode cL_law 240 = .ok (.aload_n 0, 1) := by decide +kernel
theorem dL_law_241 : decode cL_law 241 = .ok (.iload_n 3, 1) := by decide +kernel
theorem dL_law_242 : decode cL_law 242 = .ok (.iconst 2, 1) := by decide +kernel
theorem dL_law_243 : decode cL_law 243 = .ok (.iadd, 1) := by decide +kernel
theorem dL_law_244 : decode cL_law 244 = .ok (.iaload, 1) := by decide +kernel
theorem dL_law_245 : decode cL_law 245 = .ok (.invokevirtual 31, 3) := by decide +kernel
theorem dL_law_248 : decode cL_law 248 = .ok (.aload_n 2, 1) := by decide +kernel
theorem dL_law_249 : decode cL_law 249 = .ok (.aload_n 0, 1) := by decide +kernel
theorem dL_law_250 : decode cL_law 250 = .ok (.iload_n 3, 1) := by decide +kernel
theorem dL_law_251 : decode cL_law 251 = .ok (.iconst 1, 1) := by decide +kernel
theorem dL_law_252 : decode cL_law 252 = .ok (.iadd, 1) := by decide +kernel
theorem dL_law_253 : decode cL_law 253 = .ok (.iaload, 1) := by decide +kernel
theorem dL_law_254 : decode cL_law 254 = .ok (.aload_n 0, 1) := by decide +kernel
theorem dL_law_255 : decode cL_law 255 = .ok (.iload_n 3, 1) := by decide +kernel
theorem dL_law_256 : decode cL_law 256 = .ok (.iconst 2, 1) := by decide +kernel
theorem dL_law_257 : decode cL_law 257 = .ok (.iadd, 1) := by decide +kernel
theorem dL_law_258 : decode cL_law 258 = .ok (.iaload, 1) := by decide +kernel
theorem dL_law_259 : decode cL_law 259 = .ok (.invokevirtual 35, 3) := by decide +kernel
theorem dL_law_262 : decode cL_law 262 = .ok (.if_icmp .eq 608, 3) := by decide +kernel
theorem dL_law_265 : decode cL_law 265 = .ok (.iconst 0, 1) := by decide +kernel
theorem dL_law_266 : decode cL_law 266 = .ok (.ireturn, 1) := by decide +kernel
theorem dL_law_267 : decode cL_law 267 = .ok (.aload_n 1, 1) := by decide +kernel
theorem dL_law_268 : decode cL_law 268 = .ok (.aload_n 0, 1) := by decide +kernel
theorem dL_law_269 : decode cL_law 269 = .ok (.iload_n 3, 1) := by decide +kernel
theorem dL_law_270 : decode cL_law 270 = .ok (.iconst 1, 1) := by decide +kernel
theorem dL_law_271 : decode cL_law 271 = .ok (.iadd, 1) := by decide +kernel
theorem dL_law_272 : decode cL_law 272 = .ok (.iaload, 1) := by decide +kernel
theorem dL_law_273 : decode cL_law 273 = .ok (.aload_n 0, 1) := by decide +kernel
theorem dL_law_274 : decode cL_law 274 = .ok (.iload_n 3, 1) := by decide +kernel
theorem dL_law_275 : decode cL_law 275 = .ok (.iconst 2, 1) := by decide +kernel
theorem dL_law_276 : decode cL_law 276 = .ok (.iadd, 1) := by decide +kernel
theorem dL_law_277 : decode cL_law 277 = .ok (.iaload, 1) := by decide +kernel
theorem dL_law_278 : decode cL_law 278 = .ok (.aload_n 0, 1) := by decide +kernel
theorem dL_law_279 : decode cL_law 279 = .ok (.iload_n 3, 1) := by decide +kernel
theorem dL_law_280 : decode cL_law 280 = .ok (.iconst 3, 1) := by decide +kernel
theorem dL_law_281 : decode cL_law 281 = .ok (.iadd, 1) := by decide +kernel
theorem dL_law_282 : decode cL_law 282 = .ok (.iaload, 1) := by decide +kernel
theorem dL_law_283 : decode cL_law 283 = .ok (.aload_n 0, 1) := by decide +kernel
theorem dL_law_284 : decode cL_law 284 = .ok (.iload_n 3, 1) := by decide +kernel
theorem dL_law_285 : decode cL_law 285 = .ok (.iconst 4, 1) := by decide +kernel
theorem dL_law_286 : decode cL_law 286 = .ok (.iadd, 1) := by decide +kernel
theorem dL_law_287 : decode cL_law 287 = .ok (.iaload, 1) := by decide +kernel
theorem dL_law_288 : decode cL_law 288 = .ok (.invokevirtual 36, 3) := by decide +kernel
theorem dL_law_291 : decode cL_law 291 = .ok (.aload_n 2, 1) := by decide +kernel
theorem dL_law_292 : decode cL_law 292 = .ok (.aload_n 0, 1) := by decide +kernel
theorem dL_law_293 : decode cL_law 293 = .ok (.iload_n 3, 1) := by decide +kernel
theorem dL_law_294 : decode cL_law 294 = .ok (.iconst 1, 1) := by decide +kernel
theorem dL_law_295 : decode cL_law 295 = .ok (.iadd, 1) := by decide +kernel
theorem dL_law_296 : decode cL_law 296 = .ok (.iaload, 1) := by decide +kernel
theorem dL_law_297 : decode cL_law 297 = .ok (.aload_n 0, 1) := by decide +kernel
theorem dL_law_298 : decode cL_law 298 = .ok (.iload_n 3, 1) := by decide +kernel
theorem dL_law_299 : decode cL_law 299 = .ok (.iconst 2, 1) := by decide +kernel
theorem dL_law_300 : decode cL_law 300 = .ok (.iadd, 1) := by decide +kernel
theorem dL_law_301 : decode cL_law 301 = .ok (.iaload, 1) := by decide +kernel
theorem dL_law_302 : decode cL_law 302 = .ok (.aload_n 0, 1) := by decide +kernel
theorem dL_law_303 : decode cL_law 303 = .ok (.iload_n 3, 1) := by decide +kernel
theorem dL_law_304 : decode cL_law 304 = .ok (.iconst 3, 1) := by decide +kernel
theorem dL_law_305 : decode cL_law 305 = .ok (.iadd, 1) := by decide +kernel
theorem dL_law_306 : decode cL_law 306 = .ok (.iaload, 1) := by decide +kernel
theorem dL_law_307 : decode cL_law 307 = .ok (.aload_n 0, 1) := by decide +kernel
theorem dL_law_308 : decode cL_law 308 = .ok (.iload_n 3, 1) := by decide +kernel
theorem dL_law_309 : decode cL_law 309 = .ok (.iconst 4, 1) := by decide +kernel
theorem dL_law_310 : decode cL_law 310 = .ok (.iadd, 1) := by decide +kernel
theorem dL_law_311 : decode cL_law 311 = .ok (.iaload, 1) := by decide +kernel
theorem dL_law_312 : decode cL_law 312 = .ok (.invokevirtual 40, 3) := by decide +kernel
theorem dL_law_315 : decode cL_law 315 = .ok (.if_icmp .eq 555, 3) := by decide +kernel
theorem dL_law_318 : decode cL_law 318 = .ok (.iconst 0, 1) := by decide +kernel
theorem dL_law_319 : decode cL_law 319 = .ok (.ireturn, 1) := by decide +kernel
theorem dL_law_320 : decode cL_law 320 = .ok (.aload_n 1, 1) := by decide +kernel
theorem dL_law_321 : decode cL_law 321 = .ok (.aload_n 0, 1) := by decide +kernel
theorem dL_law_322 : decode cL_law 322 = .ok (.iload_n 3, 1) := by decide +kernel
theorem dL_law_323 : decode cL_law 323 = .ok (.iconst 1, 1) := by decide +kernel
theorem dL_law_324 : decode cL_law 324 = .ok (.iadd, 1) := by decide +kernel
theorem dL_law_325 : decode cL_law 325 = .ok (.iaload, 1) := by decide +kernel
theorem dL_law_326 : decode cL_law 326 = .ok (.aload_n 0, 1) := by decide +kernel
theorem dL_law_327 : decode cL_law 327 = .ok (.iload_n 3, 1) := by decide +kernel
theorem dL_law_328 : decode cL_law 328 = .ok (.iconst 2, 1) := by decide +kernel
theorem dL_law_329 : decode cL_law 329 = .ok (.iadd, 1) := by decide +kernel
theorem dL_law_330 : decode cL_law 330 = .ok (.iaload, 1) := by decide +kernel
theorem dL_law_331 : decode cL_law 331 = .ok (.invokevirtual 41, 3) := by decide +kernel
theorem dL_law_334 : decode cL_law 334 = .ok (.aload_n 2, 1) := by decide +kernel
theorem dL_law_335 : decode cL_law 335 = .ok (.aload_n 0, 1) := by decide +kernel
theorem dL_law_336 : decode cL_law 336 = .ok (.iload_n 3, 1) := by decide +kernel
theorem dL_law_337 : decode cL_law 337 = .ok (.iconst 1, 1) := by decide +kernel
theorem dL_law_338 : decode cL_law 338 = .ok (.iadd, 1) := by decide +kernel
theorem dL_law_339 : decode cL_law 339 = .ok (.iaload, 1) := by decide +kernel
theorem dL_law_340 : decode cL_law 340 = .ok (.aload_n 0, 1) := by decide +kernel
theorem dL_law_341 : decode cL_law 341 = .ok (.iload_n 3, 1) := by decide +kernel
theorem dL_law_342 : decode cL_law 342 = .ok (.iconst 2, 1) := by decide +kernel
theorem dL_law_343 : decode cL_law 343 = .ok (.iadd, 1) := by decide +kernel
theorem dL_law_344 : decode cL_law 344 = .ok (.iaload, 1) := by decide +kernel
theorem dL_law_345 : decode cL_law 345 = .ok (.invokevirtual 44, 3) := by decide +kernel
theorem dL_law_348 : decode cL_law 348 = .ok (.if_icmp .eq 522, 3) := by decide +kernel
theorem dL_law_351 : decode cL_law 351 = .ok (.iconst 0, 1) := by decide +kernel
theorem dL_law_352 : decode cL_law 352 = .ok (.ireturn, 1) := by decide +kernel
theorem dL_law_353 : decode cL_law 353 = .ok (.aload_n 1, 1) := by decide +kernel
theorem dL_law_354 : decode cL_law 354 = .ok (.invokevirtual 45, 3) := by decide +kernel
theorem dL_law_357 : decode cL_law 357 = .ok (.aload_n 2, 1) := by decide +kernel
theorem dL_law_358 : decode cL_law 358 = .ok (.invokevirtual 48, 3) := by decide +kernel
theorem dL_law_361 : decode cL_law 361 = .ok (.if_icmp .eq 509, 3) := by decide +kernel
theorem dL_law_364 : decode cL_law 364 = .ok (.iconst 0, 1) := by decide +kernel
theorem dL_law_365 : decode cL_law 365 = .ok (.ireturn, 1) := by decide +kernel
theorem dL_law_366 : decode cL_law 366 = .ok (.aload_n 1, 1) := by decide +kernel
theorem dL_law_367 : decode cL_law 367 = .ok (.aload_n 0, 1) := by decide +kernel
theorem dL_law_368 : decode cL_law 368 = .ok (.iload_n 3, 1) := by decide +kernel
theorem dL_law_369 : decode cL_law 369 = .ok (.iconst 1, 1) := by decide +kernel
theorem dL_law_370 : decode cL_law 370 = .ok (.iadd, 1) := by decide +kernel
theorem dL_law_371 : decode cL_law 371 = .ok (.iaload, 1) := by decide +kernel
theorem dL_law_372 : decode cL_law 372 = .ok (.aload_n 0, 1) := by decide +kernel
theorem dL_law_373 : decode cL_law 373 = .ok (.iload_n 3, 1) := by decide +kernel
theorem dL_law_374 : decode cL_law 374 = .ok (.iconst 2, 1) := by decide +kernel
theorem dL_law_375 : decode cL_law 375 = .ok (.iadd, 1) := by decide +kernel
theorem dL_law_376 : decode cL_law 376 = .ok (.iaload, 1) := by decide +kernel
theorem dL_law_377 : decode cL_law 377 = .ok (.invokevirtual 49, 3) := by decide +kernel
theorem dL_law_380 : decode cL_law 380 = .ok (.aload_n 2, 1) := by decide +kernel
theorem dL_law_381 : decode cL_law 381 = .ok (.aload_n 0, 1) := by decide +kernel
theorem dL_law_382 : decode cL_law 382 = .ok (.iload_n 3, 1) := by decide +kernel
theorem dL_law_383 : decode cL_law 383 = .ok (.iconst 1, 1) := by decide +kernel
theorem dL_law_384 : decode cL_law 384 = .ok (.iadd, 1) := by decide +kernel
theorem dL_law_385 : decode cL_law 385 = .ok (.iaload, 1) := by decide +kernel
theorem dL_law_386 : decode cL_law 386 = .ok (.aload_n 0, 1) := by decide +kernel
theorem dL_law_387 : decode cL_law 387 = .ok (.iload_n 3, 1) := by decide +kernel
theorem dL_law_388 : decode cL_law 388 = .ok (.iconst 2, 1) := by decide +kernel
theorem dL_law_389 : decode cL_law 389 = .ok (.iadd, 1) := by decide +kernel
theorem dL_law_390 : decode cL_law 390 = .ok (.iaload, 1) := by decide +kernel
theorem dL_law_391 : decode cL_law 391 = .ok (.invokevirtual 52, 3) := by decide +kernel
theorem dL_law_394 : decode cL_law 394 = .ok (.if_icmp .eq 476, 3) := by decide +kernel
theorem dL_law_397 : decode cL_law 397 = .ok (.iconst 0, 1) := by decide +kernel
theorem dL_law_398 : decode cL_law 398 = .ok (.ireturn, 1) := by decide +kernel
theorem dL_law_399 : decode cL_law 399 = .ok (.aload_n 1, 1) := by decide +kernel
theorem dL_law_400 : decode cL_law 400 = .ok (.aload_n 0, 1) := by decide +kernel
theorem dL_law_401 : decode cL_law 401 = .ok (.iload_n 3, 1) := by decide +kernel
theorem dL_law_402 : decode cL_law 402 = .ok (.iconst 1, 1) := by decide +kernel
theorem dL_law_403 : decode cL_law 403 = .ok (.iadd, 1) := by decide +kernel
theorem dL_law_404 : decode cL_law 404 = .ok (.iaload, 1) := by decide +kernel
theorem dL_law_405 : decode cL_law 405 = .ok (.aload_n 0, 1) := by decide +kernel
theorem dL_law_406 : decode cL_law 406 = .ok (.iload_n 3, 1) := by decide +kernel
theorem dL_law_407 : decode cL_law 407 = .ok (.iconst 2, 1) := by decide +kernel
theorem dL_law_408 : decode cL_law 408 = .ok (.iadd, 1) := by decide +kernel
theorem dL_law_409 : decode cL_law 409 = .ok (.iaload, 1) := by decide +kernel
theorem dL_law_410 : decode cL_law 410 = .ok (.aload_n 0, 1) := by decide +kernel
theorem dL_law_411 : decode cL_law 411 = .ok (.iload_n 3, 1) := by decide +kernel
theorem dL_law_412 : decode cL_law 412 = .ok (.iconst 3, 1) := by decide +kernel
theorem dL_law_413 : decode cL_law 413 = .ok (.iadd, 1) := by decide +kernel
theorem dL_law_414 : decode cL_law 414 = .ok (.iaload, 1) := by decide +kernel
theorem dL_law_415 : decode cL_law 415 = .ok (.invokevirtual 53, 3) := by decide +kernel
theorem dL_law_418 : decode cL_law 418 = .ok (.aload_n 2, 1) := by decide +kernel
theorem dL_law_419 : decode cL_law 419 = .ok (.aload_n 0, 1) := by decide +kernel
theorem dL_law_420 : decode cL_law 420 = .ok (.iload_n 3, 1) := by decide +kernel
theorem dL_law_421 : decode cL_law 421 = .ok (.iconst 1, 1) := by decide +kernel
theorem dL_law_422 : decode cL_law 422 = .ok (.iadd, 1) := by decide +kernel
theorem dL_law_423 : decode cL_law 423 = .ok (.iaload, 1) := by decide +kernel
theorem dL_law_424 : decode cL_law 424 = .ok (.aload_n 0, 1) := by decide +kernel
theorem dL_law_425 : decode cL_law 425 = .ok (.iload_n 3, 1) := by decide +kernel
theorem dL_law_426 : decode cL_law 426 = .ok (.iconst 2, 1) := by decide +kernel
theorem dL_law_427 : decode cL_law 427 = .ok (.iadd, 1) := by decide +kernel
theorem dL_law_428 : decode cL_law 428 = .ok (.iaload, 1) := by decide +kernel
theorem dL_law_429 : decode cL_law 429 = .ok (.aload_n 0, 1) := by decide +kernel
theorem dL_law_430 : decode cL_law 430 = .ok (.iload_n 3, 1) := by decide +kernel
theorem dL_law_431 : decode cL_law 431 = .ok (.iconst 3, 1) := by decide +kernel
theorem dL_law_432 : decode cL_law 432 = .ok (.iadd, 1) := by decide +kernel
theorem dL_law_433 : decode cL_law 433 = .ok (.iaload, 1) := by decide +kernel
theorem dL_law_434 : decode cL_law 434 = .ok (.invokevirtual 57, 3) := by decide +kernel
theorem dL_law_437 : decode cL_law 437 = .ok (.if_icmp .eq 433, 3) := by decide +kernel
theorem dL_law_440 : decode cL_law 440 = .ok (.iconst 0, 1) := by decide +kernel
theorem dL_law_441 : decode cL_law 441 = .ok (.ireturn, 1) := by decide +kernel
theorem dL_law_442 : decode cL_law 442 = .ok (.aload_n 1, 1) := by decide +kernel
theorem dL_law_443 : decode cL_law 443 = .ok (.aload_n 0, 1) := by decide +kernel
theorem dL_law_444 : decode cL_law 444 = .ok (.iload_n 3, 1) := by decide +kernel
theorem dL_law_445 : decode cL_law 445 = .ok (.iconst 1, 1) := by decide +kernel
theorem dL_law_446 : decode cL_law 446 = .ok (.iadd, 1) := by decide +kernel
theorem dL_law_447 : decode cL_law 447 = .ok (.iaload, 1) := by decide +kernel
theorem dL_law_448 : decode cL_law 448 = .ok (.aload_n 0, 1) := by decide +kernel
theorem dL_law_449 : decode cL_law 449 = .ok (.iload_n 3, 1) := by decide +kernel
theorem dL_law_450 : decode cL_law 450 = .ok (.iconst 2, 1) := by decide +kernel
theorem dL_law_451 : decode cL_law 451 = .ok (.iadd, 1) := by decide +kernel
theorem dL_law_452 : decode cL_law 452 = .ok (.iaload, 1) := by decide +kernel
theorem dL_law_453 : decode cL_law 453 = .ok (.invokevirtual 58, 3) := by decide +kernel
theorem dL_law_456 : decode cL_law 456 = .ok (.aload_n 2, 1) := by decide +kernel
theorem dL_law_457 : decode cL_law 457 = .ok (.aload_n 0, 1) := by decide +kernel
theorem dL_law_458 : decode cL_law 458 = .ok (.iload_n 3, 1) := by decide +kernel
theorem dL_law_459 : decode cL_law 459 = .ok (.iconst 1, 1) := by decide +kernel
theorem dL_law_460 : decode cL_law 460 = .ok (.iadd, 1) := by decide +kernel
theorem dL_law_461 : decode cL_law 461 = .ok (.iaload, 1) := by decide +kernel
theorem dL_law_462 : decode cL_law 462 = .ok (.aload_n 0, 1) := by decide +kernel
theorem dL_law_463 : decode cL_law 463 = .ok (.iload_n 3, 1) := by decide +kernel
theorem dL_law_464 : decode cL_law 464 = .ok (.iconst 2, 1) := by decide +kernel
theorem dL_law_465 : decode cL_law 465 = .ok (.iadd, 1) := by decide +kernel
theorem dL_law_466 : decode cL_law 466 = .ok (.iaload, 1) := by decide +kernel
theorem dL_law_467 : decode cL_law 467 = .ok (.invokevirtual 61, 3) := by decide +kernel
theorem dL_law_470 : decode cL_law 470 = .ok (.if_icmp .eq 400, 3) := by decide +kernel
theorem dL_law_473 : decode cL_law 473 = .ok (.iconst 0, 1) := by decide +kernel
theorem dL_law_474 : decode cL_law 474 = .ok (.ireturn, 1) := by decide +kernel
theorem dL_law_475 : decode cL_law 475 = .ok (.aload_n 1, 1) := by decide +kernel
theorem dL_law_476 : decode cL_law 476 = .ok (.aload_n 0, 1) := by decide +kernel
theorem dL_law_477 : decode cL_law 477 = .ok (.iload_n 3, 1) := by decide +kernel
theorem dL_law_478 : decode cL_law 478 = .ok (.iconst 1, 1) := by decide +kernel
theorem dL_law_479 : decode cL_law 479 = .ok (.iadd, 1) := by decide +kernel
theorem dL_law_480 : decode cL_law 480 = .ok (.iaload, 1) := by decide +kernel
theorem dL_law_481 : decode cL_law 481 = .ok (.aload_n 0, 1) := by decide +kernel
theorem dL_law_482 : decode cL_law 482 = .ok (.iload_n 3, 1) := by decide +kernel
theorem dL_law_483 : decode cL_law 483 = .ok (.iconst 2, 1) := by decide +kernel
theorem dL_law_484 : decode cL_law 484 = .ok (.iadd, 1) := by decide +kernel
theorem dL_law_485 : decode cL_law 485 = .ok (.iaload, 1) := by decide +kernel
theorem dL_law_486 : decode cL_law 486 = .ok (.aload_n 0, 1) := by decide +kernel
theorem dL_law_487 : decode cL_law 487 = .ok (.iload_n 3, 1) := by decide +kernel
theorem dL_law_488 : decode cL_law 488 = .ok (.iconst 3, 1) := by decide +kernel
theorem dL_law_489 : decode cL_law 489 = .ok (.iadd, 1) := by decide +kernel
theorem dL_law_490 : decode cL_law 490 = .ok (.iaload, 1) := by decide +kernel
theorem dL_law_491 : decode cL_law 491 = .ok (.invokevirtual 62, 3) := by decide +kernel
theorem dL_law_494 : decode cL_law 494 = .ok (.aload_n 2, 1) := by decide +kernel
theorem dL_law_495 : decode cL_law 495 = .ok (.aload_n 0, 1) := by decide +kernel
theorem dL_law_496 : decode cL_law 496 = .ok (.iload_n 3, 1) := by decide +kernel
theorem dL_law_497 : decode cL_law 497 = .ok (.iconst 1, 1) := by decide +kernel
theorem dL_law_498 : decode cL_law 498 = .ok (.iadd, 1) := by decide +kernel
theorem dL_law_499 : decode cL_law 499 = .ok (.iaload, 1) := by decide +kernel
theorem dL_law_500 : decode cL_law 500 = .ok (.aload_n 0, 1) := by decide +kernel
theorem dL_law_501 : decode cL_law 501 = .ok (.iload_n 3, 1) := by decide +kernel
theorem dL_law_502 : decode cL_law 502 = .ok (.iconst 2, 1) := by decide +kernel
theorem dL_law_503 : decode cL_law 503 = .ok (.iadd, 1) := by decide +kernel
theorem dL_law_504 : decode cL_law 504 = .ok (.iaload, 1) := by decide +kernel
theorem dL_law_505 : decode cL_law 505 = .ok (.aload_n 0, 1) := by decide +kernel
theorem dL_law_506 : decode cL_law 506 = .ok (.iload_n 3, 1) := by decide +kernel
theorem dL_law_507 : decode cL_law 507 = .ok (.iconst 3, 1) := by decide +kernel
theorem dL_law_508 : decode cL_law 508 = .ok (.iadd, 1) := by decide +kernel
theorem dL_law_509 : decode cL_law 509 = .ok (.iaload, 1) := by decide +kernel
theorem dL_law_510 : decode cL_law 510 = .ok (.invokevirtual 65, 3) := by decide +kernel
theorem dL_law_513 : decode cL_law 513 = .ok (.if_icmp .eq 357, 3) := by decide +kernel
theorem dL_law_516 : decode cL_law 516 = .ok (.iconst 0, 1) := by decide +kernel
theorem dL_law_517 : decode cL_law 517 = .ok (.ireturn, 1) := by decide +kernel
theorem dL_law_518 : decode cL_law 518 = .ok (.aload_n 1, 1) := by decide +kernel
theorem dL_law_519 : decode cL_law 519 = .ok (.aload_n 0, 1) := by decide +kernel
theorem dL_law_520 : decode cL_law 520 = .ok (.iload_n 3, 1) := by decide +kernel
theorem dL_law_521 : decode cL_law 521 = .ok (.iconst 1, 1) := by decide +kernel
theorem dL_law_522 : decode cL_law 522 = .ok (.iadd, 1) := by decide +kernel
theorem dL_law_523 : decode cL_law 523 = .ok (.iaload, 1) := by decide +kernel
theorem dL_law_524 : decode cL_law 524 = .ok (.aload_n 0, 1) := by decide +kernel
theorem dL_law_525 : decode cL_law 525 = .ok (.iload_n 3, 1) := by decide +kernel
theorem dL_law_526 : decode cL_law 526 = .ok (.iconst 2, 1) := by decide +kernel
theorem dL_law_527 : decode cL_law 527 = .ok (.iadd, 1) := by decide +kernel
theorem dL_law_528 : decode cL_law 528 = .ok (.iaload, 1) := by decide +kernel
theorem dL_law_529 : decode cL_law 529 = .ok (.aload_n 0, 1) := by decide +kernel
theorem dL_law_530 : decode cL_law 530 = .ok (.iload_n 3, 1) := by decide +kernel
theorem dL_law_531 : decode cL_law 531 = .ok (.iconst 3, 1) := by decide +kernel
theorem dL_law_532 : decode cL_law 532 = .ok (.iadd, 1) := by decide +kernel
theorem dL_law_533 : decode cL_law 533 = .ok (.iaload, 1) := by decide +kernel
theorem dL_law_534 : decode cL_law 534 = .ok (.invokevirtual 66, 3) := by decide +kernel
theorem dL_law_537 : decode cL_law 537 = .ok (.aload_n 2, 1) := by decide +kernel
theorem dL_law_538 : decode cL_law 538 = .ok (.aload_n 0, 1) := by decide +kernel
theorem dL_law_539 : decode cL_law 539 = .ok (.iload_n 3, 1) := by decide +kernel
theorem dL_law_540 : decode cL_law 540 = .ok (.iconst 1, 1) := by decide +kernel
theorem dL_law_541 : decode cL_law 541 = .ok (.iadd, 1) := by decide +kernel
theorem dL_law_542 : decode cL_law 542 = .ok (.iaload, 1) := by decide +kernel
theorem dL_law_543 : decode cL_law 543 = .ok (.aload_n 0, 1) := by decide +kernel
theorem dL_law_544 : decode cL_law 544 = .ok (.iload_n 3, 1) := by decide +kernel
theorem dL_law_545 : decode cL_law 545 = .ok (.iconst 2, 1) := by decide +kernel
theorem dL_law_546 : decode cL_law 546 = .ok (.iadd, 1) := by decide +kernel
theorem dL_law_547 : decode cL_law 547 = .ok (.iaload, 1) := by decide +kernel
theorem dL_law_548 : decode cL_law 548 = .ok (.aload_n 0, 1) := by decide +kernel
theorem dL_law_549 : decode cL_law 549 = .ok (.iload_n 3, 1) := by decide +kernel
theorem dL_law_550 : decode cL_law 550 = .ok (.iconst 3, 1) := by decide +kernel
theorem dL_law_551 : decode cL_law 551 = .ok (.iadd, 1) := by decide +kernel
theorem dL_law_552 : decode cL_law 552 = .ok (.iaload, 1) := by decide +kernel
theorem dL_law_553 : decode cL_law 553 = .ok (.invokevirtual 69, 3) := by decide +kernel
theorem dL_law_556 : decode cL_law 556 = .ok (.if_icmp .eq 314, 3) := by decide +kernel
theorem dL_law_559 : decode cL_law 559 = .ok (.iconst 0, 1) := by decide +kernel
theorem dL_law_560 : decode cL_law 560 = .ok (.ireturn, 1) := by decide +kernel
theorem dL_law_561 : decode cL_law 561 = .ok (.aload_n 1, 1) := by decide +kernel
theorem dL_law_562 : decode cL_law 562 = .ok (.aload_n 0, 1) := by decide +kernel
theorem dL_law_563 : decode cL_law 563 = .ok (.iload_n 3, 1) := by decide +kernel
theorem dL_law_564 : decode cL_law 564 = .ok (.iconst 1, 1) := by decide +kernel
theorem dL_law_565 : decode cL_law 565 = .ok (.iadd, 1) := by decide +kernel
theorem dL_law_566 : decode cL_law 566 = .ok (.iaload, 1) := by decide +kernel
theorem dL_law_567 : decode cL_law 567 = .ok (.aload_n 0, 1) := by decide +kernel
theorem dL_law_568 : decode cL_law 568 = .ok (.iload_n 3, 1) := by decide +kernel
theorem dL_law_569 : decode cL_law 569 = .ok (.iconst 2, 1) := by decide +kernel
theorem dL_law_570 : decode cL_law 570 = .ok (.iadd, 1) := by decide +kernel
theorem dL_law_571 : decode cL_law 571 = .ok (.iaload, 1) := by decide +kernel
theorem dL_law_572 : decode cL_law 572 = .ok (.invokevirtual 70, 3) := by decide +kernel
theorem dL_law_575 : decode cL_law 575 = .ok (.aload_n 2, 1) := by decide +kernel
theorem dL_law_576 : decode cL_law 576 = .ok (.aload_n 0, 1) := by decide +kernel
theorem dL_law_577 : decode cL_law 577 = .ok (.iload_n 3, 1) := by decide +kernel
theorem dL_law_578 : decode cL_law 578 = .ok (.iconst 1, 1) := by decide +kernel
theorem dL_law_579 : decode cL_law 579 = .ok (.iadd, 1) := by decide +kernel
theorem dL_law_580 : decode cL_law 580 = .ok (.iaload, 1) := by decide +kernel
theorem dL_law_581 : decode cL_law 581 = .ok (.aload_n 0, 1) := by decide +kernel
theorem dL_law_582 : decode cL_law 582 = .ok (.iload_n 3, 1) := by decide +kernel
theorem dL_law_583 : decode cL_law 583 = .ok (.iconst 2, 1) := by decide +kernel
theorem dL_law_584 : decode cL_law 584 = .ok (.iadd, 1) := by decide +kernel
theorem dL_law_585 : decode cL_law 585 = .ok (.iaload, 1) := by decide +kernel
theorem dL_law_586 : decode cL_law 586 = .ok (.invokevirtual 73, 3) := by decide +kernel
theorem dL_law_589 : decode cL_law 589 = .ok (.if_icmp .eq 281, 3) := by decide +kernel
theorem dL_law_592 : decode cL_law 592 = .ok (.iconst 0, 1) := by decide +kernel
theorem dL_law_593 : decode cL_law 593 = .ok (.ireturn, 1) := by decide +kernel
theorem dL_law_594 : decode cL_law 594 = .ok (.aload_n 1, 1) := by decide +kernel
theorem dL_law_595 : decode cL_law 595 = .ok (.aload_n 0, 1) := by decide +kernel
theorem dL_law_596 : decode cL_law 596 = .ok (.iload_n 3, 1) := by decide +kernel
theorem dL_law_597 : decode cL_law 597 = .ok (.iconst 1, 1) := by decide +kernel
theorem dL_law_598 : decode cL_law 598 = .ok (.iadd, 1) := by decide +kernel
theorem dL_law_599 : decode cL_law 599 = .ok (.iaload, 1) := by decide +kernel
theorem dL_law_600 : decode cL_law 600 = .ok (.aload_n 0, 1) := by decide +kernel
theorem dL_law_601 : decode cL_law 601 = .ok (.iload_n 3, 1) := by decide +kernel
theorem dL_law_602 : decode cL_law 602 = .ok (.iconst 2, 1) := by decide +kernel
theorem dL_law_603 : decode cL_law 603 = .ok (.iadd, 1) := by decide +kernel
theorem dL_law_604 : decode cL_law 604 = .ok (.iaload, 1) := by decide +kernel
theorem dL_law_605 : decode cL_law 605 = .ok (.invokevirtual 74, 3) := by decide +kernel
theorem dL_law_608 : decode cL_law 608 = .ok (.aload_n 2, 1) := by decide +kernel
theorem dL_law_609 : decode cL_law 609 = .ok (.aload_n 0, 1) := by decide +kernel
theorem dL_law_610 : decode cL_law 610 = .ok (.iload_n 3, 1) := by decide +kernel
theorem dL_law_611 : decode cL_law 611 = .ok (.iconst 1, 1) := by decide +kernel
theorem dL_law_612 : decode cL_law 612 = .ok (.iadd, 1) := by decide +kernel
theorem dL_law_613 : decode cL_law 613 = .ok (.iaload, 1) := by decide +kernel
theorem dL_law_614 : decode cL_law 614 = .ok (.aload_n 0, 1) := by decide +kernel
theorem dL_law_615 : decode cL_law 615 = .ok (.iload_n 3, 1) := by decide +kernel
theorem dL_law_616 : decode cL_law 616 = .ok (.iconst 2, 1) := by decide +kernel
theorem dL_law_617 : decode cL_law 617 = .ok (.iadd, 1) := by decide +kernel
theorem dL_law_618 : decode cL_law 618 = .ok (.iaload, 1) := by decide +kernel
theorem dL_law_619 : decode cL_law 619 = .ok (.invokevirtual 77, 3) := by decide +kernel
theorem dL_law_622 : decode cL_law 622 = .ok (.if_icmp .eq 248, 3) := by decide +kernel
theorem dL_law_625 : decode cL_law 625 = .ok (.iconst 0, 1) := by decide +kernel
theorem dL_law_626 : decode cL_law 626 = .ok (.ireturn, 1) := by decide +kernel
theorem dL_law_627 : decode cL_law 627 = .ok (.aload_n 1, 1) := by decide +kernel
theorem dL_law_628 : decode cL_law 628 = .ok (.aload_n 0, 1) := by decide +kernel
theorem dL_law_629 : decode cL_law 629 = .ok (.iload_n 3, 1) := by decide +kernel
theorem dL_law_630 : decode cL_law 630 = .ok (.iconst 1, 1) := by decide +kernel
theorem dL_law_631 : decode cL_law 631 = .ok (.iadd, 1) := by decide +kernel
theorem dL_law_632 : decode cL_law 632 = .ok (.iaload, 1) := by decide +kernel
theorem dL_law_633 : decode cL_law 633 = .ok (.invokevirtual 78, 3) := by decide +kernel
theorem dL_law_636 : decode cL_law 636 = .ok (.aload_n 2, 1) := by decide +kernel
theorem dL_law_637 : decode cL_law 637 = .ok (.aload_n 0, 1) := by decide +kernel
theorem dL_law_638 : decode cL_law 638 = .ok (.iload_n 3, 1) := by decide +kernel
theorem dL_law_639 : decode cL_law 639 = .ok (.iconst 1, 1) := by decide +kernel
theorem dL_law_640 : decode cL_law 640 = .ok (.iadd, 1) := by decide +kernel
theorem dL_law_641 : decode cL_law 641 = .ok (.iaload, 1) := by decide +kernel
theorem dL_law_642 : decode cL_law 642 = .ok (.invokevirtual 81, 3) := by decide +kernel
theorem dL_law_645 : decode cL_law 645 = .ok (.if_icmp .eq 225, 3) := by decide +kernel
theorem dL_law_648 : decode cL_law 648 = .ok (.iconst 0, 1) := by decide +kernel
theorem dL_law_649 : decode cL_law 649 = .ok (.ireturn, 1) := by decide +kernel
theorem dL_law_650 : decode cL_law 650 = .ok (.aload_n 1, 1) := by decide +kernel
theorem dL_law_651 : decode cL_law 651 = .ok (.aload_n 0, 1) := by decide +kernel
theorem dL_law_652 : decode cL_law 652 = .ok (.iload_n 3, 1) := by decide +kernel
theorem dL_law_653 : decode cL_law 653 = .ok (.iconst 1, 1) := by decide +kernel
theorem dL_law_654 : decode cL_law 654 = .ok (.iadd, 1) := by decide +kernel
theorem dL_law_655 : decode cL_law 655 = .ok (.iaload, 1) := by decide +kernel
theorem dL_law_656 : decode cL_law 656 = .ok (.invokevirtual 82, 3) := by decide +kernel
theorem dL_law_659 : decode cL_law 659 = .ok (.aload_n 2, 1) := by decide +kernel
theorem dL_law_660 : decode cL_law 660 = .ok (.aload_n 0, 1) := by decide +kernel
theorem dL_law_661 : decode cL_law 661 = .ok (.iload_n 3, 1) := by decide +kernel
theorem dL_law_662 : decode cL_law 662 = .ok (.iconst 1, 1) := by decide +kernel
theorem dL_law_663 : decode cL_law 663 = .ok (.iadd, 1) := by decide +kernel
theorem dL_law_664 : decode cL_law 664 = .ok (.iaload, 1) := by decide +kernel
theorem dL_law_665 : decode cL_law 665 = .ok (.invokevirtual 85, 3) := by decide +kernel
theorem dL_law_668 : decode cL_law 668 = .ok (.if_icmp .eq 202, 3) := by decide +kernel
theorem dL_law_671 : decode cL_law 671 = .ok (.iconst 0, 1) := by decide +kernel
theorem dL_law_672 : decode cL_law 672 = .ok (.ireturn, 1) := by decide +kernel
theorem dL_law_673 : decode cL_law 673 = .ok (.aload_n 1, 1) := by decide +kernel
theorem dL_law_674 : decode cL_law 674 = .ok (.aload_n 0, 1) := by decide +kernel
theorem dL_law_675 : decode cL_law 675 = .ok (.iload_n 3, 1) := by decide +kernel
theorem dL_law_676 : decode cL_law 676 = .ok (.iconst 1, 1) := by decide +kernel
theorem dL_law_677 : decode cL_law 677 = .ok (.iadd, 1) := by decide +kernel
theorem dL_law_678 : decode cL_law 678 = .ok (.iaload, 1) := by decide +kernel
theorem dL_law_679 : decode cL_law 679 = .ok (.invokevirtual 86, 3) := by decide +kernel
theorem dL_law_682 : decode cL_law 682 = .ok (.aload_n 2, 1) := by decide +kernel
theorem dL_law_683 : decode cL_law 683 = .ok (.aload_n 0, 1) := by decide +kernel
theorem dL_law_684 : decode cL_law 684 = .ok (.iload_n 3, 1) := by decide +kernel
theorem dL_law_685 : decode cL_law 685 = .ok (.iconst 1, 1) := by decide +kernel
theorem dL_law_686 : decode cL_law 686 = .ok (.iadd, 1) := by decide +kernel
theorem dL_law_687 : decode cL_law 687 = .ok (.iaload, 1) := by decide +kernel
theorem dL_law_688 : decode cL_law 688 = .ok (.invokevirtual 89, 3) := by decide +kernel
theorem dL_law_691 : decode cL_law 691 = .ok (.if_icmp .eq 179, 3) := by decide +kernel
theorem dL_law_694 : decode cL_law 694 = .ok (.iconst 0, 1) := by decide +kernel
theorem dL_law_695 : decode cL_law 695 = .ok (.ireturn, 1) := by decide +kernel
theorem dL_law_696 : decode cL_law 696 = .ok (.aload_n 1, 1) := by decide +kernel
theorem dL_law_697 : decode cL_law 697 = .ok (.aload_n 0, 1) := by decide +kernel
theorem dL_law_698 : decode cL_law 698 = .ok (.iload_n 3, 1) := by decide +kernel
theorem dL_law_699 : decode cL_law 699 = .ok (.iconst 1, 1) := by decide +kernel
theorem dL_law_700 : decode cL_law 700 = .ok (.iadd, 1) := by decide +kernel
theorem dL_law_701 : decode cL_law 701 = .ok (.iaload, 1) := by decide +kernel
theorem dL_law_702 : decode cL_law 702 = .ok (.aload_n 0, 1) := by decide +kernel
theorem dL_law_703 : decode cL_law 703 = .ok (.iload_n 3, 1) := by decide +kernel
theorem dL_law_704 : decode cL_law 704 = .ok (.iconst 2, 1) := by decide +kernel
theorem dL_law_705 : decode cL_law 705 = .ok (.iadd, 1) := by decide +kernel
theorem dL_law_706 : decode cL_law 706 = .ok (.iaload, 1) := by decide +kernel
theorem dL_law_707 : decode cL_law 707 = .ok (.invokevirtual 90, 3) := by decide +kernel
theorem dL_law_710 : decode cL_law 710 = .ok (.aload_n 2, 1) := by decide +kernel
theorem dL_law_711 : decode cL_law 711 = .ok (.aload_n 0, 1) := by decide +kernel
theorem dL_law_712 : decode cL_law 712 = .ok (.iload_n 3, 1) := by decide +kernel
theorem dL_law_713 : decode cL_law 713 = .ok (.iconst 1, 1) := by decide +kernel
theorem dL_law_714 : decode cL_law 714 = .ok (.iadd, 1) := by decide +kernel
theorem dL_law_715 : decode cL_law 715 = .ok (.iaload, 1) := by decide +kernel
theorem dL_law_716 : decode cL_law 716 = .ok (.aload_n 0, 1) := by decide +kernel
theorem dL_law_717 : decode cL_law 717 = .ok (.iload_n 3, 1) := by decide +kernel
theorem dL_law_718 : decode cL_law 718 = .ok (.iconst 2, 1) := by decide +kernel
theorem dL_law_719 : decode cL_law 719 = .ok (.iadd, 1) := by decide +kernel
theorem dL_law_720 : decode cL_law 720 = .ok (.iaload, 1) := by decide +kernel
theorem dL_law_721 : decode cL_law 721 = .ok (.invokevirtual 93, 3) := by decide +kernel
theorem dL_law_724 : decode cL_law 724 = .ok (.if_icmp .eq 146, 3) := by decide +kernel
theorem dL_law_727 : decode cL_law 727 = .ok (.iconst 0, 1) := by decide +kernel
theorem dL_law_728 : decode cL_law 728 = .ok (.ireturn, 1) := by decide +kernel
theorem dL_law_729 : decode cL_law 729 = .ok (.aload_n 1, 1) := by decide +kernel
theorem dL_law_730 : decode cL_law 730 = .ok (.aload_n 0, 1) := by decide +kernel
theorem dL_law_731 : decode cL_law 731 = .ok (.iload_n 3, 1) := by decide +kernel
theorem dL_law_732 : decode cL_law 732 = .ok (.iconst 1, 1) := by decide +kernel
theorem dL_law_733 : decode cL_law 733 = .ok (.iadd, 1) := by decide +kernel
theorem dL_law_734 : decode cL_law 734 = .ok (.iaload, 1) := by decide +kernel
theorem dL_law_735 : decode cL_law 735 = .ok (.aload_n 0, 1) := by decide +kernel
theorem dL_law_736 : decode cL_law 736 = .ok (.iload_n 3, 1) := by decide +kernel
theorem dL_law_737 : decode cL_law 737 = .ok (.iconst 2, 1) := by decide +kernel
theorem dL_law_738 : decode cL_law 738 = .ok (.iadd, 1) := by decide +kernel
theorem dL_law_739 : decode cL_law 739 = .ok (.iaload, 1) := by decide +kernel
theorem dL_law_740 : decode cL_law 740 = .ok (.invokevirtual 94, 3) := by decide +kernel
theorem dL_law_743 : decode cL_law 743 = .ok (.aload_n 2, 1) := by decide +kernel
theorem dL_law_744 : decode cL_law 744 = .ok (.aload_n 0, 1) := by decide +kernel
theorem dL_law_745 : decode cL_law 745 = .ok (.iload_n 3, 1) := by decide +kernel
theorem dL_law_746 : decode cL_law 746 = .ok (.iconst 1, 1) := by decide +kernel
theorem dL_law_747 : decode cL_law 747 = .ok (.iadd, 1) := by decide +kernel
theorem dL_law_748 : decode cL_law 748 = .ok (.iaload, 1) := by decide +kernel
theorem dL_law_749 : decode cL_law 749 = .ok (.aload_n 0, 1) := by decide +kernel
theorem dL_law_750 : decode cL_law 750 = .ok (.iload_n 3, 1) := by decide +kernel
theorem dL_law_751 : decode cL_law 751 = .ok (.iconst 2, 1) := by decide +kernel
theorem dL_law_752 : decode cL_law 752 = .ok (.iadd, 1) := by decide +kernel
theorem dL_law_753 : decode cL_law 753 = .ok (.iaload, 1) := by decide +kernel
theorem dL_law_754 : decode cL_law 754 = .ok (.invokevirtual 97, 3) := by decide +kernel
theorem dL_law_757 : decode cL_law 757 = .ok (.if_icmp .eq 113, 3) := by decide +kernel
theorem dL_law_760 : decode cL_law 760 = .ok (.iconst 0, 1) := by decide +kernel
theorem dL_law_761 : decode cL_law 761 = .ok (.ireturn, 1) := by decide +kernel
theorem dL_law_762 : decode cL_law 762 = .ok (.aload_n 1, 1) := by decide +kernel
theorem dL_law_763 : decode cL_law 763 = .ok (.invokevirtual 98, 3) := by decide +kernel
theorem dL_law_766 : decode cL_law 766 = .ok (.aload_n 2, 1) := by decide +kernel
theorem dL_law_767 : decode cL_law 767 = .ok (.invokevirtual 101, 3) := by decide +kernel
theorem dL_law_770 : decode cL_law 770 = .ok (.if_icmp .eq 100, 3) := by decide +kernel
theorem dL_law_773 : decode cL_law 773 = .ok (.iconst 0, 1) := by decide +kernel
theorem dL_law_774 : decode cL_law 774 = .ok (.ireturn, 1) := by decide +kernel
theorem dL_law_775 : decode cL_law 775 = .ok (.aload_n 1, 1) := by decide +kernel
theorem dL_law_776 : decode cL_law 776 = .ok (.invokevirtual 102, 3) := by decide +kernel
theorem dL_law_779 : decode cL_law 779 = .ok (.aload_n 2, 1) := by decide +kernel
theorem dL_law_780 : decode cL_law 780 = .ok (.invokevirtual 105, 3) := by decide +kernel
theorem dL_law_783 : decode cL_law 783 = .ok (.if_icmp .eq 87, 3) := by decide +kernel
theorem dL_law_786 : decode cL_law 786 = .ok (.iconst 0, 1) := by decide +kernel
theorem dL_law_787 : decode cL_law 787 = .ok (.ireturn, 1) := by decide +kernel
theorem dL_law_788 : decode cL_law 788 = .ok (.aload_n 1, 1) := by decide +kernel
theorem dL_law_789 : decode cL_law 789 = .ok (.invokevirtual 106, 3) := by decide +kernel
theorem dL_law_792 : decode cL_law 792 = .ok (.aload_n 2, 1) := by decide +kernel
theorem dL_law_793 : decode cL_law 793 = .ok (.invokevirtual 109, 3) := by decide +kernel
theorem dL_law_796 : decode cL_law 796 = .ok (.if_icmp .eq 74, 3) := by decide +kernel
theorem dL_law_799 : decode cL_law 799 = .ok (.iconst 0, 1) := by decide +kernel
theorem dL_law_800 : decode cL_law 800 = .ok (.ireturn, 1) := by decide +kernel
theorem dL_law_801 : decode cL_law 801 = .ok (.aload_n 1, 1) := by decide +kernel
theorem dL_law_802 : decode cL_law 802 = .ok (.aload_n 0, 1) := by decide +kernel
theorem dL_law_803 : decode cL_law 803 = .ok (.iload_n 3, 1) := by decide +kernel
theorem dL_law_804 : decode cL_law 804 = .ok (.iconst 1, 1) := by decide +kernel
theorem dL_law_805 : decode cL_law 805 = .ok (.iadd, 1) := by decide +kernel
theorem dL_law_806 : decode cL_law 806 = .ok (.iaload, 1) := by decide +kernel
theorem dL_law_807 : decode cL_law 807 = .ok (.invokevirtual 110, 3) := by decide +kernel
theorem dL_law_810 : decode cL_law 810 = .ok (.aload_n 2, 1) := by decide +kernel
theorem dL_law_811 : decode cL_law 811 = .ok (.aload_n 0, 1) := by decide +kernel
theorem dL_law_812 : decode cL_law 812 = .ok (.iload_n 3, 1) := by decide +kernel
theorem dL_law_813 : decode cL_law 813 = .ok (.iconst 1, 1) := by decide +kernel
theorem dL_law_814 : decode cL_law 814 = .ok (.iadd, 1) := by decide +kernel
theorem dL_law_815 : decode cL_law 815 = .ok (.iaload, 1) := by decide +kernel
theorem dL_law_816 : decode cL_law 816 = .ok (.invokevirtual 113, 3) := by decide +kernel
theorem dL_law_819 : decode cL_law 819 = .ok (.if_icmp .eq 51, 3) := by decide +kernel
theorem dL_law_822 : decode cL_law 822 = .ok (.iconst 0, 1) := by decide +kernel
theorem dL_law_823 : decode cL_law 823 = .ok (.ireturn, 1) := by decide +kernel
theorem dL_law_824 : decode cL_law 824 = .ok (.aload_n 1, 1) := by decide +kernel
theorem dL_law_825 : decode cL_law 825 = .ok (.aload_n 0, 1) := by decide +kernel
theorem dL_law_826 : decode cL_law 826 = .ok (.iload_n 3, 1) := by decide +kernel
theorem dL_law_827 : decode cL_law 827 = .ok (.iconst 1, 1) := by decide +kernel
theorem dL_law_828 : decode cL_law 828 = .ok (.iadd, 1) := by decide +kernel
theorem dL_law_829 : decode cL_law 829 = .ok (.iaload, 1) := by decide +kernel
theorem dL_law_830 : decode cL_law 830 = .ok (.invokevirtual 114, 3) := by decide +kernel
theorem dL_law_833 : decode cL_law 833 = .ok (.aload_n 2, 1) := by decide +kernel
theorem dL_law_834 : decode cL_law 834 = .ok (.aload_n 0, 1) := by decide +kernel
theorem dL_law_835 : decode cL_law 835 = .ok (.iload_n 3, 1) := by decide +kernel
theorem dL_law_836 : decode cL_law 836 = .ok (.iconst 1, 1) := by decide +kernel
theorem dL_law_837 : decode cL_law 837 = .ok (.iadd, 1) := by decide +kernel
theorem dL_law_838 : decode cL_law 838 = .ok (.iaload, 1) := by decide +kernel
theorem dL_law_839 : decode cL_law 839 = .ok (.invokevirtual 117, 3) := by decide +kernel
theorem dL_law_842 : decode cL_law 842 = .ok (.if_icmp .eq 28, 3) := by decide +kernel
theorem dL_law_845 : decode cL_law 845 = .ok (.iconst 0, 1) := by decide +kernel
theorem dL_law_846 : decode cL_law 846 = .ok (.ireturn, 1) := by decide +kernel
theorem dL_law_847 : decode cL_law 847 = .ok (.aload_n 1, 1) := by decide +kernel
theorem dL_law_848 : decode cL_law 848 = .ok (.aload_n 0, 1) := by decide +kernel
theorem dL_law_849 : decode cL_law 849 = .ok (.iload_n 3, 1) := by decide +kernel
theorem dL_law_850 : decode cL_law 850 = .ok (.iconst 1, 1) := by decide +kernel
theorem dL_law_851 : decode cL_law 851 = .ok (.iadd, 1) := by decide +kernel
theorem dL_law_852 : decode cL_law 852 = .ok (.iaload, 1) := by decide +kernel
theorem dL_law_853 : decode cL_law 853 = .ok (.invokevirtual 118, 3) := by decide +kernel
theorem dL_law_856 : decode cL_law 856 = .ok (.aload_n 2, 1) := by decide +kernel
theorem dL_law_857 : decode cL_law 857 = .ok (.aload_n 0, 1) := by decide +kernel
theorem dL_law_858 : decode cL_law 858 = .ok (.iload_n 3, 1) := by decide +kernel
theorem dL_law_859 : decode cL_law 859 = .ok (.iconst 1, 1) := by decide +kernel
theorem dL_law_860 : decode cL_law 860 = .ok (.iadd, 1) := by decide +kernel
theorem dL_law_861 : decode cL_law 861 = .ok (.iaload, 1) := by decide +kernel
theorem dL_law_862 : decode cL_law 862 = .ok (.invokevirtual 121, 3) := by decide +kernel
theorem dL_law_865 : decode cL_law 865 = .ok (.if_icmp .eq 5, 3) := by decide +kernel
theorem dL_law_868 : decode cL_law 868 = .ok (.iconst 0, 1) := by decide +kernel
theorem dL_law_869 : decode cL_law 869 = .ok (.ireturn, 1) := by decide +kernel
theorem dL_law_870 : decode cL_law 870 = .ok (.iinc 3 5, 3) := by decide +kernel
theorem dL_law_873 : decode cL_law 873 = .ok (.goto (-855), 3) := by decide +kernel
theorem dL_law_876 : decode cL_law 876 = .ok (.iconst 1, 1) := by decide +kernel
theorem dL_law_877 : decode cL_law 877 = .ok (.ireturn, 1) := by decide +kernel
