theorem dX0_init_0 : decode cX0_init 0 = .ok (.aload_n 0, 1) := by decide +kernel
theorem dX0_init_1 : decode cX0_init 1 = .ok (.invokespecial 3, 3) := by decide +kernel
theorem dX0_init_4 : decode cX0_init 4 = .ok (.aload_n 0, 1) := by decide +kernel
theorem dX0_init_5 : decode cX0_init 5 = .ok (.iconst 4, 1) := by decide +kernel
theorem dX0_init_6 : decode cX0_init 6 = .ok (.anewarray 9, 3) := by decide +kernel
theorem dX0_init_9 : decode cX0_init 9 = .ok (.putfield 11, 3) := by decide +kernel
theorem dX0_init_12 : decode cX0_init 12 = .ok (.iconst 0, 1) := by decide +kernel
theorem dX0_init_13 : decode cX0_init 13 = .ok (.istore_n 1, 1) := by decide +kernel
theorem dX0_init_14 : decode cX0_init 14 = .ok (.iload_n 1, 1) := by decide +kernel
theorem dX0_init_15 : decode cX0_init 15 = .ok (.iconst 4, 1) := by decide +kernel
theorem dX0_init_16 : decode cX0_init 16 = .ok (.if_icmp .ge 22, 3) := by decide +kernel
theorem dX0_init_19 : decode cX0_init 19 = .ok (.aload_n 0, 1) := by decide +kernel
theorem dX0_init_20 : decode cX0_init 20 = .ok (.getfield 11, 3) := by decide +kernel
theorem dX0_init_23 : decode cX0_init 23 = .ok (.iload_n 1, 1) := by decide +kernel
theorem dX0_init_24 : decode cX0_init 24 = .ok (.new 9, 3) := by decide +kernel
theorem dX0_init_27 : decode cX0_init 27 = .ok (.dup, 1) := by decide +kernel
theorem dX0_init_28 : decode cX0_init 28 = .ok (.invokespecial 17, 3) := by decide +kernel
theorem dX0_init_31 : decode cX0_init 31 = .ok (.aastore, 1) := by decide +kernel
theorem dX0_init_32 : decode cX0_init 32 = .ok (.iinc 1 1, 3) := by decide +kernel
theorem dX0_init_35 : decode cX0_init 35 = .ok (.goto (-21), 3) := by decide +kernel
theorem dX0_init_38 : decode cX0_init 38 = .ok (.return_, 1) := by decide +kernel
theorem dX0_becomeLike_0 : decode cX0_becomeLike 0 = .ok (.iconst 0, 1) := by decide +kernel
theorem dX0_becomeLike_1 : decode cX0_becomeLike 1 = .ok (.istore_n 2, 1) := by decide +kernel
theorem dX0_becomeLike_2 : decode cX0_becomeLike 2 = .ok (.iload_n 2, 1) := by decide +kernel
theorem dX0_becomeLike_3 : decode cX0_becomeLike 3 = .ok (.iconst 4, 1) := by decide +kernel
theorem dX0_becomeLike_4 : decode cX0_becomeLike 4 = .ok (.if_icmp .ge 24, 3) := by decide +kernel
theorem dX0_becomeLike_7 : decode cX0_becomeLike 7 = .ok (.aload_n 0, 1) := by decide +kernel
theorem dX0_becomeLike_8 : decode cX0_becomeLike 8 = .ok (.getfield 11, 3) := by decide +kernel
theorem dX0_becomeLike_11 : decode cX0_becomeLike 11 = .ok (.iload_n 2, 1) := by decide +kernel
theorem dX0_becomeLike_12 : decode cX0_becomeLike 12 = .ok (.aaload, 1) := by decide +kernel
theorem dX0_becomeLike_13 : decode cX0_becomeLike 13 = .ok (.aload_n 1, 1) := by decide +kernel
theorem dX0_becomeLike_14 : decode cX0_becomeLike 14 = .ok (.getfield 11, 3) := by decide +kernel
theorem dX0_becomeLike_17 : decode cX0_becomeLike 17 = .ok (.iload_n 2, 1) := by decide +kernel
theorem dX0_becomeLike_18 : decode cX0_becomeLike 18 = .ok (.aaload, 1) := by decide +kernel
theorem dX0_becomeLike_19 : decode cX0_becomeLike 19 = .ok (.invokevirtual 18, 3) := by decide +kernel
theorem dX0_becomeLike_22 : decode cX0_becomeLike 22 = .ok (.iinc 2 1, 3) := by decide +kernel
theorem dX0_becomeLike_25 : decode cX0_becomeLike 25 = .ok (.goto (-23), 3) := by decide +kernel
theorem dX0_becomeLike_28 : decode cX0_becomeLike 28 = .ok (.return_, 1) := by decide +kernel
theorem dX0_legsInAll_0 : decode cX0_legsInAll 0 = .ok (.iconst 0, 1) := by decide +kernel
theorem dX0_legsInAll_1 : decode cX0_legsInAll 1 = .ok (.istore_n 1, 1) := by decide +kernel
theorem dX0_legsInAll_2 : decode cX0_legsInAll 2 = .ok (.iconst 0, 1) := by decide +kernel
theorem dX0_legsInAll_3 : decode cX0_legsInAll 3 = .ok (.istore_n 2, 1) := by decide +kernel
theorem dX0_legsInAll_4 : decode cX0_legsInAll 4 = .ok (.iload_n 2, 1) := by decide +kernel
theorem dX0_legsInAll_5 : decode cX0_legsInAll 5 = .ok (.iconst 4, 1) := by decide +kernel
theorem dX0_legsInAll_6 : decode cX0_legsInAll 6 = .ok (.if_icmp .ge 22, 3) := by decide +kernel
theorem dX0_legsInAll_9 : decode cX0_legsInAll 9 = .ok (.iload_n 1, 1) := by decide +kernel
theorem dX0_legsInAll_10 : decode cX0_legsInAll 10 = .ok (.aload_n 0, 1) := by decide +kernel
theorem dX0_legsInAll_11 : decode cX0_legsInAll 11 = .ok (.getfield 11, 3) := by decide +kernel
theorem dX0_legsInAll_14 : decode cX0_legsInAll 14 = .ok (.iload_n 2, 1) := by decide +kernel
theorem dX0_legsInAll_15 : decode cX0_legsInAll 15 = .ok (.aaload, 1) := by decide +kernel
theorem dX0_legsInAll_16 : decode cX0_legsInAll 16 = .ok (.iconst 0, 1) := by decide +kernel
theorem dX0_legsInAll_17 : decode cX0_legsInAll 17 = .ok (.invokevirtual 22, 3) := by decide +kernel
theorem dX0_legsInAll_20 : decode cX0_legsInAll 20 = .ok (.iadd, 1) := by decide +kernel
theorem dX0_legsInAll_21 : decode cX0_legsInAll 21 = .ok (.istore_n 1, 1) := by decide +kernel
theorem dX0_legsInAll_22 : decode cX0_legsInAll 22 = .ok (.iinc 2 1, 3) := by decide +kernel
theorem dX0_legsInAll_25 : decode cX0_legsInAll 25 = .ok (.goto (-21), 3) := by decide +kernel
theorem dX0_legsInAll_28 : decode cX0_legsInAll 28 = .ok (.iload_n 1, 1) := by decide +kernel
theorem dX0_legsInAll_29 : decode cX0_legsInAll 29 = .ok (.ireturn, 1) := by decide +kernel
theorem dX1_init_0 : decode cX1_init 0 = .ok (.aload_n 0, 1) := by decide +kernel
theorem dX1_init_1 : decode cX1_init 1 = .ok (.invokespecial 1, 3) := by decide +kernel
theorem dX1_init_4 : decode cX1_init 4 = .ok (.aload_n 0, 1) := by decide +kernel
theorem dX1_init_5 : decode cX1_init 5 = .ok (.bipush 6, 2) := by decide +kernel
theorem dX1_init_7 : decode cX1_init 7 = .ok (.anewarray 9, 3) := by decide +kernel
theorem dX1_init_10 : decode cX1_init 10 = .ok (.putfield 11, 3) := by decide +kernel
theorem dX1_init_13 : decode cX1_init 13 = .ok (.aload_n 0, 1) := by decide +kernel
theorem dX1_init_14 : decode cX1_init 14 = .ok (.iconst 0, 1) := by decide +kernel
theorem dX1_init_15 : decode cX1_init 15 = .ok (.putfield 15, 3) := by decide +kernel
theorem dX1_init_18 : decode cX1_init 18 = .ok (.aload_n 0, 1) := by decide +kernel
theorem dX1_init_19 : decode cX1_init 19 = .ok (.iconst 0, 1) := by decide +kernel
theorem dX1_init_20 : decode cX1_init 20 = .ok (.putfield 19, 3) := by decide +kernel
theorem dX1_init_23 : decode cX1_init 23 = .ok (.iconst 0, 1) := by decide +kernel
theorem dX1_init_24 : decode cX1_init 24 = .ok (.istore_n 1, 1) := by decide +kernel
theorem dX1_init_25 : decode cX1_init 25 = .ok (.iload_n 1, 1) := by decide +kernel
theorem dX1_init_26 : decode cX1_init 26 = .ok (.bipush 6, 2) := by decide +kernel
theorem dX1_init_28 : decode cX1_init 28 = .ok (.if_icmp .ge 22, 3) := by decide +kernel
theorem dX1_init_31 : decode cX1_init 31 = .ok (.aload_n 0, 1) := by decide +kernel
theorem dX1_init_32 : decode cX1_init 32 = .ok (.getfield 11, 3) := by decide +kernel
theorem dX1_init_35 : decode cX1_init 35 = .ok (.iload_n 1, 1) := by decide +kernel
theorem dX1_init_36 : decode cX1_init 36 = .ok (.new 9, 3) := by decide +kernel
theorem dX1_init_39 : decode cX1_init 39 = .ok (.dup, 1) := by decide +kernel
theorem dX1_init_40 : decode cX1_init 40 = .ok (.invokespecial 22, 3) := by decide +kernel
theorem dX1_init_43 : decode cX1_init 43 = .ok (.aastore, 1) := by decide +kernel
theorem dX1_init_44 : decode cX1_init 44 = .ok (.iinc 1 1, 3) := by decide +kernel
theorem dX1_init_47 : decode cX1_init 47 = .ok (.goto (-22), 3) := by decide +kernel
theorem dX1_init_50 : decode cX1_init 50 = .ok (.return_, 1) := by decide +kernel
theorem dX1_known_0 : decode cX1_known 0 = .ok (.aload_n 0, 1) := by decide +kernel
theorem dX1_known_1 : decode cX1_known 1 = .ok (.getfield 19, 3) := by decide +kernel
theorem dX1_known_4 : decode cX1_known 4 = .ok (.ireturn, 1) := by decide +kernel
theorem dX1_remember_0 : decode cX1_remember 0 = .ok (.aload_n 0, 1) := by decide +kernel
theorem dX1_remember_1 : decode cX1_remember 1 = .ok (.getfield 11, 3) := by decide +kernel
theorem dX1_remember_4 : decode cX1_remember 4 = .ok (.aload_n 0, 1) := by decide +kernel
theorem dX1_remember_5 : decode cX1_remember 5 = .ok (.getfield 15, 3) := by decide +kernel
theorem dX1_remember_8 : decode cX1_remember 8 = .ok (.aaload, 1) := by decide +kernel
theorem dX1_remember_9 : decode cX1_remember 9 = .ok (.aload_n 1, 1) := by decide +kernel
theorem dX1_remember_10 : decode cX1_remember 10 = .ok (.invokevirtual 23, 3) := by decide +kernel
theorem dX1_remember_13 : decode cX1_remember 13 = .ok (.aload_n 0, 1) := by decide +kernel
theorem dX1_remember_14 : decode cX1_remember 14 = .ok (.aload_n 0, 1) := by decide +kernel
theorem dX1_remember_15 : decode cX1_remember 15 = .ok (.getfield 15, 3) := by decide +kernel
theorem dX1_remember_18 : decode cX1_remember 18 = .ok (.iconst 1, 1) := by decide +kernel
theorem dX1_remember_19 : decode cX1_remember 19 = .ok (.iadd, 1) := by decide +kernel
theorem dX1_remember_20 : decode cX1_remember 20 = .ok (.bipush 6, 2) := by decide +kernel
theorem dX1_remember_22 : decode cX1_remember 22 = .ok (.if_icmp .ge 12, 3) := by decide +kernel
theorem dX1_remember_25 : decode cX1_remember 25 = .ok (.aload_n 0, 1) := by decide +kernel
theorem dX1_remember_26 : decode cX1_remember 26 = .ok (.getfield 15, 3) := by decide +kernel
theorem dX1_remember_29 : decode cX1_remember 29 = .ok (.iconst 1, 1) := by decide +kernel
theorem dX1_remember_30 : decode cX1_remember 30 = .ok (.iadd, 1) := by decide +kernel
theorem dX1_remember_31 : decode cX1_remember 31 = .ok (.goto 4, 3) := by decide +kernel
theorem dX1_remember_34 : decode cX1_remember 34 = .ok (.iconst 0, 1) := by decide +kernel
theorem dX1_remember_35 : decode cX1_remember 35 = .ok (.putfield 15, 3) := by decide +kernel
theorem dX1_remember_38 : decode cX1_remember 38 = .ok (.aload_n 0, 1) := by decide +kernel
theorem dX1_remember_39 : decode cX1_remember 39 = .ok (.bipush 6, 2) := by decide +kernel
theorem dX1_remember_41 : decode cX1_remember 41 = .ok (.aload_n 0, 1) := by decide +kernel
theorem dX1_remember_42 : decode cX1_remember 42 = .ok (.getfield 19, 3) := by decide +kernel
theorem dX1_remember_45 : decode cX1_remember 45 = .ok (.iconst 1, 1) := by decide +kernel
theorem dX1_remember_46 : decode cX1_remember 46 = .ok (.iadd, 1) := by decide +kernel
theorem dX1_remember_47 : decode cX1_remember 47 = .ok (.invokestatic 27, 3) := by decide +kernel
theorem dX1_remember_50 : decode cX1_remember 50 = .ok (.putfield 19, 3) := by decide +kernel
theorem dX1_remember_53 : decode cX1_remember 53 = .ok (.return_, 1) := by decide +kernel
theorem dX1_restore_0 : decode cX1_restore 0 = .ok (.aload_n 0, 1) := by decide +kernel
theorem dX1_restore_1 : decode cX1_restore 1 = .ok (.getfield 19, 3) := by decide +kernel
theorem dX1_restore_4 : decode cX1_restore 4 = .ok (.ifCond .ne 4, 3) := by decide +kernel
theorem dX1_restore_7 : decode cX1_restore 7 = .ok (.return_, 1) := by decide +kernel
theorem dX1_restore_8 : decode cX1_restore 8 = .ok (.aload_n 0, 1) := by decide +kernel
theorem dX1_restore_9 : decode cX1_restore 9 = .ok (.aload_n 0, 1) := by decide +kernel
theorem dX1_restore_10 : decode cX1_restore 10 = .ok (.getfield 15, 3) := by decide +kernel
theorem dX1_restore_13 : decode cX1_restore 13 = .ok (.ifCond .le 12, 3) := by decide +kernel
theorem dX1_restore_16 : decode cX1_restore 16 = .ok (.aload_n 0, 1) := by decide +kernel
theorem dX1_restore_17 : decode cX1_restore 17 = .ok (.getfield 15, 3) := by decide +kernel
theorem dX1_restore_20 : decode cX1_restore 20 = .ok (.iconst 1, 1) := by decide +kernel
theorem dX1_restore_21 : decode cX1_restore 21 = .ok (.isub, 1) := by decide +kernel
theorem dX1_restore_22 : decode cX1_restore 22 = .ok (.goto 4, 3) := by decide +kernel
theorem dX1_restore_25 : decode cX1_restore 25 = .ok (.iconst 5, 1) := by decide +kernel
theorem dX1_restore_26 : decode cX1_restore 26 = .ok (.putfield 15, 3) := by decide +kernel
theorem dX1_restore_29 : decode cX1_restore 29 = .ok (.aload_n 0, 1) := by decide +kernel
theorem dX1_restore_30 : decode cX1_restore 30 = .ok (.dup, 1) := by decide +kernel
theorem dX1_restore_31 : decode cX1_restore 31 = .ok (.getfield 19, 3) := by decide +kernel
theorem dX1_restore_34 : decode cX1_restore 34 = .ok (.iconst 1, 1) := by decide +kernel
theorem dX1_restore_35 : decode cX1_restore 35 = .ok (.isub, 1) := by decide +kernel
theorem dX1_restore_36 : decode cX1_restore 36 = .ok (.putfield 19, 3) := by decide +kernel
theorem dX1_restore_39 : decode cX1_restore 39 = .ok (.aload_n 1, 1) := by decide +kernel
theorem dX1_restore_40 : decode cX1_restore 40 = .ok (.aload_n 0, 1) := by decide +kernel
theorem dX1_restore_41 : decode cX1_restore 41 = .ok (.getfield 11, 3) := by decide +kernel
theorem dX1_restore_44 : decode cX1_restore 44 = .ok (.aload_n 0, 1) := by decide +kernel
theorem dX1_restore_45 : decode cX1_restore 45 = .ok (.getfield 15, 3) := by decide +kernel
theorem dX1_restore_48 : decode cX1_restore 48 = .ok (.aaload, 1) := by decide +kernel
theorem dX1_restore_49 : decode cX1_restore 49 = .ok (.invokevirtual 23, 3) := by decide +kernel
theorem dX1_restore_52 : decode cX1_restore 52 = .ok (.return_, 1) := by decide +kernel
theorem dX1_lose_0 : decode cX1_lose 0 = .ok (.aload_n 0, 1) := by decide +kernel
theorem dX1_lose_1 : decode cX1_lose 1 = .ok (.iconst 0, 1) := by decide +kernel
theorem dX1_lose_2 : decode cX1_lose 2 = .ok (.putfield 19, 3) := by decide +kernel
theorem dX1_lose_5 : decode cX1_lose 5 = .ok (.return_, 1) := by decide +kernel
theorem dX2_init_0 : decode cX2_init 0 = .ok (.aload_n 0, 1) := by decide +kernel
theorem dX2_init_1 : decode cX2_init 1 = .ok (.invokespecial 5, 3) := by decide +kernel
theorem dX2_init_4 : decode cX2_init 4 = .ok (.aload_n 0, 1) := by decide +kernel
theorem dX2_init_5 : decode cX2_init 5 = .ok (.iconst 0, 1) := by decide +kernel
theorem dX2_init_6 : decode cX2_init 6 = .ok (.putfield 11, 3) := by decide +kernel
theorem dX2_init_9 : decode cX2_init 9 = .ok (.aload_n 0, 1) := by decide +kernel
theorem dX2_init_10 : decode cX2_init 10 = .ok (.iconst 0, 1) := by decide +kernel
theorem dX2_init_11 : decode cX2_init 11 = .ok (.putfield 17, 3) := by decide +kernel
theorem dX2_init_14 : decode cX2_init 14 = .ok (.aload_n 0, 1) := by decide +kernel
theorem dX2_init_15 : decode cX2_init 15 = .ok (.bipush 7, 2) := by decide +kernel
theorem dX2_init_17 : decode cX2_init 17 = .ok (.newarray .int, 2) := by decide +kernel
theorem dX2_init_19 : decode cX2_init 19 = .ok (.putfield 20, 3) := by decide +kernel
theorem dX2_init_22 : decode cX2_init 22 = .ok (.aload_n 0, 1) := by decide +kernel
theorem dX2_init_23 : decode cX2_init 23 = .ok (.bipush 7, 2) := by decide +kernel
theorem dX2_init_25 : decode cX2_init 25 = .ok (.newarray .int, 2) := by decide +kernel
theorem dX2_init_27 : decode cX2_init 27 = .ok (.putfield 24, 3) := by decide +kernel
theorem dX2_init_30 : decode cX2_init 30 = .ok (.aload_n 0, 1) := by decide +kernel
theorem dX2_init_31 : decode cX2_init 31 = .ok (.bipush 7, 2) := by decide +kernel
theorem dX2_init_33 : decode cX2_init 33 = .ok (.newarray .int, 2) := by decide +kernel
theorem dX2_init_35 : decode cX2_init 35 = .ok (.putfield 27, 3) := by decide +kernel
theorem dX2_init_38 : decode cX2_init 38 = .ok (.aload_n 0, 1) := by decide +kernel
theorem dX2_init_39 : decode cX2_init 39 = .ok (.bipush 7, 2) := by decide +kernel
theorem dX2_init_41 : decode cX2_init 41 = .ok (.newarray .int, 2) := by decide +kernel
theorem dX2_init_43 : decode cX2_init 43 = .ok (.putfield 30, 3) := by decide +kernel
theorem dX2_init_46 : decode cX2_init 46 = .ok (.aload_n 0, 1) := by decide +kernel
theorem dX2_init_47 : decode cX2_init 47 = .ok (.bipush 7, 2) := by decide +kernel
theorem dX2_init_49 : decode cX2_init 49 = .ok (.newarray .int, 2) := by decide +kernel
theorem dX2_init_51 : decode cX2_init 51 = .ok (.putfield 33, 3) := by decide +kernel
theorem dX2_init_54 : decode cX2_init 54 = .ok (.aload_n 0, 1) := by decide +kernel
theorem dX2_init_55 : decode cX2_init 55 = .ok (.bipush 7, 2) := by decide +kernel
theorem dX2_init_57 : decode cX2_init 57 = .ok (.newarray .int, 2) := by decide +kernel
theorem dX2_init_59 : decode cX2_init 59 = .ok (.putfield 36, 3) := by decide +kernel
theorem dX2_init_62 : decode cX2_init 62 = .ok (.aload_n 0, 1) := by decide +kernel
theorem dX2_init_63 : decode cX2_init 63 = .ok (.bipush 6, 2) := by decide +kernel
theorem dX2_init_65 : decode cX2_init 65 = .ok (.newarray .int, 2) := by decide +kernel
theorem dX2_init_67 : decode cX2_init 67 = .ok (.putfield 39, 3) := by decide +kernel
theorem dX2_init_70 : decode cX2_init 70 = .ok (.aload_n 0, 1) := by decide +kernel
theorem dX2_init_71 : decode cX2_init 71 = .ok (.bipush 6, 2) := by decide +kernel
theorem dX2_init_73 : decode cX2_init 73 = .ok (.newarray .int, 2) := by decide +kernel
theorem dX2_init_75 : decode cX2_init 75 = .ok (.putfield 42, 3) := by decide +kernel
theorem dX2_init_78 : decode cX2_init 78 = .ok (.aload_n 0, 1) := by decide +kernel
theorem dX2_init_79 : decode cX2_init 79 = .ok (.iconst 4, 1) := by decide +kernel
theorem dX2_init_80 : decode cX2_init 80 = .ok (.newarray .int, 2) := by decide +kernel
theorem dX2_init_82 : decode cX2_init 82 = .ok (.putfield 45, 3) := by decide +kernel
theorem dX2_init_85 : decode cX2_init 85 = .ok (.aload_n 0, 1) := by decide +kernel
theorem dX2_init_86 : decode cX2_init 86 = .ok (.iconst 0, 1) := by decide +kernel
theorem dX2_init_87 : decode cX2_init 87 = .ok (.putfield 48, 3) := by decide +kernel
theorem dX2_init_90 : decode cX2_init 90 = .ok (.aload_n 0, 1) := by decide +kernel
theorem dX2_init_91 : decode cX2_init 91 = .ok (.iconst 0, 1) := by decide +kernel
theorem dX2_init_92 : decode cX2_init 92 = .ok (.putfield 51, 3) := by decide +kernel
theorem dX2_init_95 : decode cX2_init 95 = .ok (.aload_n 0, 1) := by decide +kernel
theorem dX2_init_96 : decode cX2_init 96 = .ok (.iconst 0, 1) := by decide +kernel
theorem dX2_init_97 : decode cX2_init 97 = .ok (.putfield 54, 3) := by decide +kernel
theorem dX2_init_100 : decode cX2_init 100 = .ok (.return_, 1) := by decide +kernel
theorem dX2_draw_0 : decode cX2_draw 0 = .ok (.aload_n 0, 1) := by decide +kernel
theorem dX2_draw_1 : decode cX2_draw 1 = .ok (.aload_n 1, 1) := by decide +kernel
theorem dX2_draw_2 : decode cX2_draw 2 = .ok (.iconst 2, 1) := by decide +kernel
theorem dX2_draw_3 : decode cX2_draw 3 = .ok (.invokevirtual 57, 3) := by decide +kernel
theorem dX2_draw_6 : decode cX2_draw 6 = .ok (.iconst 0, 1) := by decide +kernel
theorem dX2_draw_7 : decode cX2_draw 7 = .ok (.invokestatic 61, 3) := by decide +kernel
theorem dX2_draw_10 : decode cX2_draw 10 = .ok (.bipush 6, 2) := by decide +kernel
theorem dX2_draw_12 : decode cX2_draw 12 = .ok (.invokestatic 67, 3) := by decide +kernel
theorem dX2_draw_15 : decode cX2_draw 15 = .ok (.putfield 11, 3) := by decide +kernel
theorem dX2_draw_18 : decode cX2_draw 18 = .ok (.aload_n 0, 1) := by decide +kernel
theorem dX2_draw_19 : decode cX2_draw 19 = .ok (.aload_n 1, 1) := by decide +kernel
theorem dX2_draw_20 : decode cX2_draw 20 = .ok (.iconst 0, 1) := by decide +kernel
theorem dX2_draw_21 : decode cX2_draw 21 = .ok (.invokevirtual 57, 3) := by decide +kernel
theorem dX2_draw_24 : decode cX2_draw 24 = .ok (.aload_n 0, 1) := by decide +kernel
theorem dX2_draw_25 : decode cX2_draw 25 = .ok (.getfield 11, 3) := by decide +kernel
theorem dX2_draw_28 : decode cX2_draw 28 = .ok (.invokestatic 61, 3) := by decide +kernel
theorem dX2_draw_31 : decode cX2_draw 31 = .ok (.bipush 6, 2) := by decide +kernel
theorem dX2_draw_33 : decode cX2_draw 33 = .ok (.invokestatic 67, 3) := by decide +kernel
theorem dX2_draw_36 : decode cX2_draw 36 = .ok (.putfield 17, 3) := by decide +kernel
theorem dX2_draw_39 : decode cX2_draw 39 = .ok (.aload_n 0, 1) := by decide +kernel
theorem dX2_draw_40 : decode cX2_draw 40 = .ok (.aload_n 1, 1) := by decide +kernel
theorem dX2_draw_41 : decode cX2_draw 41 = .ok (.iconst 1, 1) := by decide +kernel
theorem dX2_draw_42 : decode cX2_draw 42 = .ok (.invokevirtual 57, 3) := by decide +kernel
theorem dX2_draw_45 : decode cX2_draw 45 = .ok (.putfield 54, 3) := by decide +kernel
theorem dX2_draw_48 : decode cX2_draw 48 = .ok (.iconst 0, 1) := by decide +kernel
theorem dX2_draw_49 : decode cX2_draw 49 = .ok (.istore_n 2, 1) := by decide +kernel
theorem dX2_draw_50 : decode cX2_draw 50 = .ok (.iload_n 2, 1) := by decide +kernel
theorem dX2_draw_51 : decode cX2_draw 51 = .ok (.iconst 4, 1) := by decide +kernel
theorem dX2_draw_52 : decode cX2_draw 52 = .ok (.if_icmp .ge 22, 3) := by decide +kernel
theorem dX2_draw_55 : decode cX2_draw 55 = .ok (.aload_n 0, 1) := by decide +kernel
theorem dX2_draw_56 : decode cX2_draw 56 = .ok (.getfield 45, 3) := by decide +kernel
theorem dX2_draw_59 : decode cX2_draw 59 = .ok (.iload_n 2, 1) := by decide +kernel
theorem dX2_draw_60 : decode cX2_draw 60 = .ok (.aload_n 1, 1) := by decide +kernel
theorem dX2_draw_61 : decode cX2_draw 61 = .ok (.iconst 5, 1) := by decide +kernel
theorem dX2_draw_62 : decode cX2_draw 62 = .ok (.iload_n 2, 1) := by decide +kernel
theorem dX2_draw_63 : decode cX2_draw 63 = .ok (.iadd, 1) := by decide +kernel
theorem dX2_draw_64 : decode cX2_draw 64 = .ok (.invokevirtual 57, 3) := by decide +kernel
theorem dX2_draw_67 : decode cX2_draw 67 = .ok (.iastore, 1) := by decide +kernel
theorem dX2_draw_68 : decode cX2_draw 68 = .ok (.iinc 2 1, 3) := by decide +kernel
theorem dX2_draw_71 : decode cX2_draw 71 = .ok (.goto (-21), 3) := by decide +kernel
theorem dX2_draw_74 : decode cX2_draw 74 = .ok (.aload_n 0, 1) := by decide +kernel
theorem dX2_draw_75 : decode cX2_draw 75 = .ok (.aload_n 1, 1) := by decide +kernel
theorem dX2_draw_76 : decode cX2_draw 76 = .ok (.invokevirtual 70, 3) := by decide +kernel
theorem dX2_draw_79 : decode cX2_draw 79 = .ok (.aload_n 0, 1) := by decide +kernel
theorem dX2_draw_80 : decode cX2_draw 80 = .ok (.getfield 33, 3) := by decide +kernel
theorem dX2_draw_83 : decode cX2_draw 83 = .ok (.aload_n 0, 1) := by decide +kernel
theorem dX2_draw_84 : decode cX2_draw 84 = .ok (.getfield 11, 3) := by decide +kernel
theorem dX2_draw_87 : decode cX2_draw 87 = .ok (.aload_n 1, 1) := by decide +kernel
theorem dX2_draw_88 : decode cX2_draw 88 = .ok (.iconst 3, 1) := by decide +kernel
theorem dX2_draw_89 : decode cX2_draw 89 = .ok (.invokevirtual 57, 3) := by decide +kernel
theorem dX2_draw_92 : decode cX2_draw 92 = .ok (.iastore, 1) := by decide +kernel
theorem dX2_draw_93 : decode cX2_draw 93 = .ok (.aload_n 0, 1) := by decide +kernel
theorem dX2_draw_94 : decode cX2_draw 94 = .ok (.getfield 17, 3) := by decide +kernel
theorem dX2_draw_97 : decode cX2_draw 97 = .ok (.aload_n 0, 1) := by decide +kernel
theorem dX2_draw_98 : decode cX2_draw 98 = .ok (.getfield 11, 3) := by decide +kernel
theorem dX2_draw_101 : decode cX2_draw 101 = .ok (.if_icmp .le 21, 3) := by decide +kernel
theorem dX2_draw_104 : decode cX2_draw 104 = .ok (.aload_n 0, 1) := by decide +kernel
theorem dX2_draw_105 : decode cX2_draw 105 = .ok (.getfield 33, 3) := by decide +kernel
theorem dX2_draw_108 : decode cX2_draw 108 = .ok (.aload_n 0, 1) := by decide +kernel
theorem dX2_draw_109 : decode cX2_draw 109 = .ok (.getfield 17, 3) := by decide +kernel
theorem dX2_draw_112 : decode cX2_draw 112 = .ok (.aload_n 0, 1) := by decide +kernel
theorem dX2_draw_113 : decode cX2_draw 113 = .ok (.getfield 30, 3) := by decide +kernel
theorem dX2_draw_116 : decode cX2_draw 116 = .ok (.aload_n 0, 1) := by decide +kernel
theorem dX2_draw_117 : decode cX2_draw 117 = .ok (.getfield 17, 3) := by decide +kernel
theorem dX2_draw_120 : decode cX2_draw 120 = .ok (.iaload, 1) := by decide +kernel
theorem dX2_draw_121 : decode cX2_draw 121 = .ok (.iastore, 1) := by decide +kernel
theorem dX2_draw_122 : decode cX2_draw 122 = .ok (.aload_n 0, 1) := by decide +kernel
theorem dX2_draw_123 : decode cX2_draw 123 = .ok (.invokevirtual 74, 3) := by decide +kernel
theorem dX2_draw_126 : decode cX2_draw 126 = .ok (.aload_n 0, 1) := by decide +kernel
theorem dX2_draw_127 : decode cX2_draw 127 = .ok (.invokevirtual 77, 3) := by decide +kernel
theorem dX2_draw_130 : decode cX2_draw 130 = .ok (.return_, 1) := by decide +kernel
theorem dX2_stands_0 : decode cX2_stands 0 = .ok (.aload_n 0, 1) := by decide +kernel
theorem dX2_stands_1 : decode cX2_stands 1 = .ok (.getfield 51, 3) := by decide +kernel
theorem dX2_stands_4 : decode cX2_stands 4 = .ok (.ifCond .le 18, 3) := by decide +kernel
theorem dX2_stands_7 : decode cX2_stands 7 = .ok (.aload_n 0, 1) := by decide +kernel
theorem dX2_stands_8 : decode cX2_stands 8 = .ok (.getfield 51, 3) := by decide +kernel
theorem dX2_stands_11 : decode cX2_stands 11 = .ok (.aload_n 0, 1) := by decide +kernel
theorem dX2_stands_12 : decode cX2_stands 12 = .ok (.getfield 54, 3) := by decide +kernel
theorem dX2_stands_15 : decode cX2_stands 15 = .ok (.if_icmp .gt 7, 3) := by decide +kernel
theorem dX2_stands_18 : decode cX2_stands 18 = .ok (.iconst 1, 1) := by decide +kernel
theorem dX2_stands_19 : decode cX2_stands 19 = .ok (.goto 4, 3) := by decide +kernel
theorem dX2_stands_22 : decode cX2_stands 22 = .ok (.iconst 0, 1) := by decide +kernel
theorem dX2_stands_23 : decode cX2_stands 23 = .ok (.ireturn, 1) := by decide +kernel
theorem dX2_neededSpeed_0 : decode cX2_neededSpeed 0 = .ok (.aload_n 0, 1) := by decide +kernel
theorem dX2_neededSpeed_1 : decode cX2_neededSpeed 1 = .ok (.getfield 51, 3) := by decide +kernel
theorem dX2_neededSpeed_4 : decode cX2_neededSpeed 4 = .ok (.ireturn, 1) := by decide +kernel
theorem dX2_stretchCount_0 : decode cX2_stretchCount 0 = .ok (.aload_n 0, 1) := by decide +kernel
theorem dX2_stretchCount_1 : decode cX2_stretchCount 1 = .ok (.getfield 48, 3) := by decide +kernel
theorem dX2_stretchCount_4 : decode cX2_stretchCount 4 = .ok (.ireturn, 1) := by decide +kernel
theorem dX2_meetingAt_0 : decode cX2_meetingAt 0 = .ok (.iload_n 1, 1) := by decide +kernel
theorem dX2_meetingAt_1 : decode cX2_meetingAt 1 = .ok (.aload_n 0, 1) := by decide +kernel
theorem dX2_meetingAt_2 : decode cX2_meetingAt 2 = .ok (.getfield 11, 3) := by decide +kernel
theorem dX2_meetingAt_5 : decode cX2_meetingAt 5 = .ok (.if_icmp .le 11, 3) := by decide +kernel
theorem dX2_meetingAt_8 : decode cX2_meetingAt 8 = .ok (.iload_n 1, 1) := by decide +kernel
theorem dX2_meetingAt_9 : decode cX2_meetingAt 9 = .ok (.aload_n 0, 1) := by decide +kernel
theorem dX2_meetingAt_10 : decode cX2_meetingAt 10 = .ok (.getfield 17, 3) := by decide +kernel
theorem dX2_meetingAt_13 : decode cX2_meetingAt 13 = .ok (.if_icmp .lt 5, 3) := by decide +kernel
theorem dX2_meetingAt_16 : decode cX2_meetingAt 16 = .ok (.iconst 0, 1) := by decide +kernel
theorem dX2_meetingAt_17 : decode cX2_meetingAt 17 = .ok (.ireturn, 1) := by decide +kernel
theorem dX2_meetingAt_18 : decode cX2_meetingAt 18 = .ok (.aload_n 0, 1) := by decide +kernel
theorem dX2_meetingAt_19 : decode cX2_meetingAt 19 = .ok (.getfield 36, 3) := by decide +kernel
theorem dX2_meetingAt_22 : decode cX2_meetingAt 22 = .ok (.iload_n 1, 1) := by decide +kernel
theorem dX2_meetingAt_23 : decode cX2_meetingAt 23 = .ok (.iaload, 1) := by decide +kernel
theorem dX2_meetingAt_24 : decode cX2_meetingAt 24 = .ok (.ireturn, 1) := by decide +kernel
theorem dX2_milesAround_0 : decode cX2_milesAround 0 = .ok (.aload_n 0, 1) := by decide +kernel
theorem dX2_milesAround_1 : decode cX2_milesAround 1 = .ok (.iload_n 1, 1) := by decide +kernel
theorem dX2_milesAround_2 : decode cX2_milesAround 2 = .ok (.invokevirtual 80, 3) := by decide +kernel
theorem dX2_milesAround_5 : decode cX2_milesAround 5 = .ok (.ifCond .eq 5, 3) := by decide +kernel
theorem dX2_milesAround_8 : decode cX2_milesAround 8 = .ok (.iconst 0, 1) := by decide +kernel
theorem dX2_milesAround_9 : decode cX2_milesAround 9 = .ok (.ireturn, 1) := by decide +kernel
theorem dX2_milesAround_10 : decode cX2_milesAround 10 = .ok (.aload_n 0, 1) := by decide +kernel
theorem dX2_milesAround_11 : decode cX2_milesAround 11 = .ok (.getfield 20, 3) := by decide +kernel
theorem dX2_milesAround_14 : decode cX2_milesAround 14 = .ok (.aload_n 0, 1) := by decide +kernel
theorem dX2_milesAround_15 : decode cX2_milesAround 15 = .ok (.getfield 42, 3) := by decide +kernel
theorem dX2_milesAround_18 : decode cX2_milesAround 18 = .ok (.iload_n 1, 1) := by decide +kernel
theorem dX2_milesAround_19 : decode cX2_milesAround 19 = .ok (.iaload, 1) := by decide +kernel
theorem dX2_milesAround_20 : decode cX2_milesAround 20 = .ok (.iaload, 1) := by decide +kernel
theorem dX2_milesAround_21 : decode cX2_milesAround 21 = .ok (.aload_n 0, 1) := by decide +kernel
theorem dX2_milesAround_22 : decode cX2_milesAround 22 = .ok (.getfield 20, 3) := by decide +kernel
theorem dX2_milesAround_25 : decode cX2_milesAround 25 = .ok (.aload_n 0, 1) := by decide +kernel
theorem dX2_milesAround_26 : decode cX2_milesAround 26 = .ok (.getfield 39, 3) := by decide +kernel
theorem dX2_milesAround_29 : decode cX2_milesAround 29 = .ok (.iload_n 1, 1) := by decide +kernel
theorem dX2_milesAround_30 : decode cX2_milesAround 30 = .ok (.iaload, 1) := by decide +kernel
theorem dX2_milesAround_31 : decode cX2_milesAround 31 = .ok (.iaload, 1) := by decide +kernel
theorem dX2_milesAround_32 : decode cX2_milesAround 32 = .ok (.isub, 1) := by decide +kernel
theorem dX2_milesAround_33 : decode cX2_milesAround 33 = .ok (.ireturn, 1) := by decide +kernel
theorem dX2_hoursAround_0 : decode cX2_hoursAround 0 = .ok (.aload_n 0, 1) := by decide +kernel
theorem dX2_hoursAround_1 : decode cX2_hoursAround 1 = .ok (.iload_n 1, 1) := by decide +kernel
theorem dX2_hoursAround_2 : decode cX2_hoursAround 2 = .ok (.invokevirtual 80, 3) := by decide +kernel
theorem dX2_hoursAround_5 : decode cX2_hoursAround 5 = .ok (.ifCond .eq 5, 3) := by decide +kernel
theorem dX2_hoursAround_8 : decode cX2_hoursAround 8 = .ok (.iconst 0, 1) := by decide +kernel
theorem dX2_hoursAround_9 : decode cX2_hoursAround 9 = .ok (.ireturn, 1) := by decide +kernel
theorem dX2_hoursAround_10 : decode cX2_hoursAround 10 = .ok (.aload_n 0, 1) := by decide +kernel
theorem dX2_hoursAround_11 : decode cX2_hoursAround 11 = .ok (.getfield 33, 3) := by decide +kernel
theorem dX2_hoursAround_14 : decode cX2_hoursAround 14 = .ok (.aload_n 0, 1) := by decide +kernel
theorem dX2_hoursAround_15 : decode cX2_hoursAround 15 = .ok (.getfield 42, 3) := by decide +kernel
theorem dX2_hoursAround_18 : decode cX2_hoursAround 18 = .ok (.iload_n 1, 1) := by decide +kernel
theorem dX2_hoursAround_19 : decode cX2_hoursAround 19 = .ok (.iaload, 1) := by decide +kernel
theorem dX2_hoursAround_20 : decode cX2_hoursAround 20 = .ok (.iaload, 1) := by decide +kernel
theorem dX2_hoursAround_21 : decode cX2_hoursAround 21 = .ok (.aload_n 0, 1) := by decide +kernel
theorem dX2_hoursAround_22 : decode cX2_hoursAround 22 = .ok (.getfield 33, 3) := by decide +kernel
theorem dX2_hoursAround_25 : decode cX2_hoursAround 25 = .ok (.aload_n 0, 1) := by decide +kernel
theorem dX2_hoursAround_26 : decode cX2_hoursAround 26 = .ok (.getfield 39, 3) := by decide +kernel
theorem dX2_hoursAround_29 : decode cX2_hoursAround 29 = .ok (.iload_n 1, 1) := by decide +kernel
theorem dX2_hoursAround_30 : decode cX2_hoursAround 30 = .ok (.iaload, 1) := by decide +kernel
theorem dX2_hoursAround_31 : decode cX2_hoursAround 31 = .ok (.iaload, 1) := by decide +kernel
theorem dX2_hoursAround_32 : decode cX2_hoursAround 32 = .ok (.isub, 1) := by decide +kernel
theorem dX2_hoursAround_33 : decode cX2_hoursAround 33 = .ok (.ireturn, 1) := by decide +kernel
theorem dX2_hourUpper_0 : decode cX2_hourUpper 0 = .ok (.iload_n 1, 1) := by decide +kernel
theorem dX2_hourUpper_1 : decode cX2_hourUpper 1 = .ok (.iconst 1, 1) := by decide +kernel
theorem dX2_hourUpper_2 : decode cX2_hourUpper 2 = .ok (.isub, 1) := by decide +kernel
theorem dX2_hourUpper_3 : decode cX2_hourUpper 3 = .ok (.istore_n 2, 1) := by decide +kernel
theorem dX2_hourUpper_4 : decode cX2_hourUpper 4 = .ok (.aload_n 0, 1) := by decide +kernel
theorem dX2_hourUpper_5 : decode cX2_hourUpper 5 = .ok (.iload_n 2, 1) := by decide +kernel
theorem dX2_hourUpper_6 : decode cX2_hourUpper 6 = .ok (.invokevirtual 80, 3) := by decide +kernel
theorem dX2_hourUpper_9 : decode cX2_hourUpper 9 = .ok (.ifCond .eq 5, 3) := by decide +kernel
theorem dX2_hourUpper_12 : decode cX2_hourUpper 12 = .ok (.iconst 0, 1) := by decide +kernel
theorem dX2_hourUpper_13 : decode cX2_hourUpper 13 = .ok (.ireturn, 1) := by decide +kernel
theorem dX2_hourUpper_14 : decode cX2_hourUpper 14 = .ok (.aload_n 0, 1) := by decide +kernel
theorem dX2_hourUpper_15 : decode cX2_hourUpper 15 = .ok (.aload_n 0, 1) := by decide +kernel
theorem dX2_hourUpper_16 : decode cX2_hourUpper 16 = .ok (.getfield 39, 3) := by decide +kernel
theorem dX2_hourUpper_19 : decode cX2_hourUpper 19 = .ok (.iload_n 2, 1) := by decide +kernel
theorem dX2_hourUpper_20 : decode cX2_hourUpper 20 = .ok (.iaload, 1) := by decide +kernel
theorem dX2_hourUpper_21 : decode cX2_hourUpper 21 = .ok (.aload_n 0, 1) := by decide +kernel
theorem dX2_hourUpper_22 : decode cX2_hourUpper 22 = .ok (.getfield 42, 3) := by decide +kernel
theorem dX2_hourUpper_25 : decode cX2_hourUpper 25 = .ok (.iload_n 2, 1) := by decide +kernel
theorem dX2_hourUpper_26 : decode cX2_hourUpper 26 = .ok (.iaload, 1) := by decide +kernel
theorem dX2_hourUpper_27 : decode cX2_hourUpper 27 = .ok (.iload_n 1, 1) := by decide +kernel
theorem dX2_hourUpper_28 : decode cX2_hourUpper 28 = .ok (.invokevirtual 84, 3) := by decide +kernel
theorem dX2_hourUpper_31 : decode cX2_hourUpper 31 = .ok (.aload_n 0, 1) := by decide +kernel
theorem dX2_hourUpper_32 : decode cX2_hourUpper 32 = .ok (.getfield 24, 3) := by decide +kernel
theorem dX2_hourUpper_35 : decode cX2_hourUpper 35 = .ok (.iload_n 1, 1) := by decide +kernel
theorem dX2_hourUpper_36 : decode cX2_hourUpper 36 = .ok (.iaload, 1) := by decide +kernel
theorem dX2_hourUpper_37 : decode cX2_hourUpper 37 = .ok (.aload_n 0, 1) := by decide +kernel
theorem dX2_hourUpper_38 : decode cX2_hourUpper 38 = .ok (.iload_n 2, 1) := by decide +kernel
theorem dX2_hourUpper_39 : decode cX2_hourUpper 39 = .ok (.invokevirtual 88, 3) := by decide +kernel
theorem dX2_hourUpper_42 : decode cX2_hourUpper 42 = .ok (.imul, 1) := by decide +kernel
theorem dX2_hourUpper_43 : decode cX2_hourUpper 43 = .ok (.iadd, 1) := by decide +kernel
theorem dX2_hourUpper_44 : decode cX2_hourUpper 44 = .ok (.ireturn, 1) := by decide +kernel
theorem dX2_hourLower_0 : decode cX2_hourLower 0 = .ok (.aload_n 0, 1) := by decide +kernel
theorem dX2_hourLower_1 : decode cX2_hourLower 1 = .ok (.iload_n 1, 1) := by decide +kernel
theorem dX2_hourLower_2 : decode cX2_hourLower 2 = .ok (.iconst 1, 1) := by decide +kernel
theorem dX2_hourLower_3 : decode cX2_hourLower 3 = .ok (.isub, 1) := by decide +kernel
theorem dX2_hourLower_4 : decode cX2_hourLower 4 = .ok (.invokevirtual 88, 3) := by decide +kernel
theorem dX2_hourLower_7 : decode cX2_hourLower 7 = .ok (.ireturn, 1) := by decide +kernel
theorem dX2_hourRoundedUp_0 : decode cX2_hourRoundedUp 0 = .ok (.aload_n 0, 1) := by decide +kernel
theorem dX2_hourRoundedUp_1 : decode cX2_hourRoundedUp 1 = .ok (.iload_n 1, 1) := by decide +kernel
theorem dX2_hourRoundedUp_2 : decode cX2_hourRoundedUp 2 = .ok (.invokevirtual 91, 3) := by decide +kernel
theorem dX2_hourRoundedUp_5 : decode cX2_hourRoundedUp 5 = .ok (.istore_n 2, 1) := by decide +kernel
theorem dX2_hourRoundedUp_6 : decode cX2_hourRoundedUp 6 = .ok (.iload_n 2, 1) := by decide +kernel
theorem dX2_hourRoundedUp_7 : decode cX2_hourRoundedUp 7 = .ok (.ifCond .gt 7, 3) := by decide +kernel
theorem dX2_hourRoundedUp_10 : decode cX2_hourRoundedUp 10 = .ok (.iconst 0, 1) := by decide +kernel
theorem dX2_hourRoundedUp_11 : decode cX2_hourRoundedUp 11 = .ok (.goto 14, 3) := by decide +kernel
theorem dX2_hourRoundedUp_14 : decode cX2_hourRoundedUp 14 = .ok (.aload_n 0, 1) := by decide +kernel
theorem dX2_hourRoundedUp_15 : decode cX2_hourRoundedUp 15 = .ok (.iload_n 1, 1) := by decide +kernel
theorem dX2_hourRoundedUp_16 : decode cX2_hourRoundedUp 16 = .ok (.invokevirtual 94, 3) := by decide +kernel
theorem dX2_hourRoundedUp_19 : decode cX2_hourRoundedUp 19 = .ok (.ineg, 1) := by decide +kernel
theorem dX2_hourRoundedUp_20 : decode cX2_hourRoundedUp 20 = .ok (.iload_n 2, 1) := by decide +kernel
theorem dX2_hourRoundedUp_21 : decode cX2_hourRoundedUp 21 = .ok (.invokestatic 97, 3) := by decide +kernel
theorem dX2_hourRoundedUp_24 : decode cX2_hourRoundedUp 24 = .ok (.ineg, 1) := by decide +kernel
theorem dX2_hourRoundedUp_25 : decode cX2_hourRoundedUp 25 = .ok (.ireturn, 1) := by decide +kernel
theorem dX2_burntOnLeg_0 : decode cX2_burntOnLeg 0 = .ok (.aload_n 0, 1) := by decide +kernel
theorem dX2_burntOnLeg_1 : decode cX2_burntOnLeg 1 = .ok (.iload_n 1, 1) := by decide +kernel
theorem dX2_burntOnLeg_2 : decode cX2_burntOnLeg 2 = .ok (.invokevirtual 100, 3) := by decide +kernel
theorem dX2_burntOnLeg_5 : decode cX2_burntOnLeg 5 = .ok (.i2l, 1) := by decide +kernel
theorem dX2_burntOnLeg_6 : decode cX2_burntOnLeg 6 = .ok (.lstore_n 2, 1) := by decide +kernel
theorem dX2_burntOnLeg_7 : decode cX2_burntOnLeg 7 = .ok (.lload_n 2, 1) := by decide +kernel
theorem dX2_burntOnLeg_8 : decode cX2_burntOnLeg 8 = .ok (.lconst 0, 1) := by decide +kernel
theorem dX2_burntOnLeg_9 : decode cX2_burntOnLeg 9 = .ok (.lcmp, 1) := by decide +kernel
theorem dX2_burntOnLeg_10 : decode cX2_burntOnLeg 10 = .ok (.ifCond .gt 5, 3) := by decide +kernel
theorem dX2_burntOnLeg_13 : decode cX2_burntOnLeg 13 = .ok (.iconst 0, 1) := by decide +kernel
theorem dX2_burntOnLeg_14 : decode cX2_burntOnLeg 14 = .ok (.ireturn, 1) := by decide +kernel
theorem dX2_burntOnLeg_15 : decode cX2_burntOnLeg 15 = .ok (.aload_n 0, 1) := by decide +kernel
theorem dX2_burntOnLeg_16 : decode cX2_burntOnLeg 16 = .ok (.iload_n 1, 1) := by decide +kernel
theorem dX2_burntOnLeg_17 : decode cX2_burntOnLeg 17 = .ok (.invokevirtual 88, 3) := by decide +kernel
theorem dX2_burntOnLeg_20 : decode cX2_burntOnLeg 20 = .ok (.i2l, 1) := by decide +kernel
theorem dX2_burntOnLeg_21 : decode cX2_burntOnLeg 21 = .ok (.lstore 4, 2) := by decide +kernel
theorem dX2_burntOnLeg_23 : decode cX2_burntOnLeg 23 = .ok (.ldc2_w 103, 3) := by decide +kernel
theorem dX2_burntOnLeg_26 : decode cX2_burntOnLeg 26 = .ok (.lload 4, 2) := by decide +kernel
theorem dX2_burntOnLeg_28 : decode cX2_burntOnLeg 28 = .ok (.ldc2_w 105, 3) := by decide +kernel
theorem dX2_burntOnLeg_31 : decode cX2_burntOnLeg 31 = .ok (.lload_n 2, 1) := by decide +kernel
theorem dX2_burntOnLeg_32 : decode cX2_burntOnLeg 32 = .ok (.lmul, 1) := by decide +kernel
theorem dX2_burntOnLeg_33 : decode cX2_burntOnLeg 33 = .ok (.ldiv, 1) := by decide +kernel
theorem dX2_burntOnLeg_34 : decode cX2_burntOnLeg 34 = .ok (.invokestatic 107, 3) := by decide +kernel
theorem dX2_burntOnLeg_37 : decode cX2_burntOnLeg 37 = .ok (.l2i, 1) := by decide +kernel
theorem dX2_burntOnLeg_38 : decode cX2_burntOnLeg 38 = .ok (.istore 6, 2) := by decide +kernel
theorem dX2_burntOnLeg_40 : decode cX2_burntOnLeg 40 = .ok (.iload 6, 2) := by decide +kernel
theorem dX2_burntOnLeg_42 : decode cX2_burntOnLeg 42 = .ok (.ifCond .ge 5, 3) := by decide +kernel
theorem dX2_burntOnLeg_45 : decode cX2_burntOnLeg 45 = .ok (.iconst 0, 1) := by decide +kernel
theorem dX2_burntOnLeg_46 : decode cX2_burntOnLeg 46 = .ok (.ireturn, 1) := by decide +kernel
theorem dX2_burntOnLeg_47 : decode cX2_burntOnLeg 47 = .ok (.aload_n 0, 1) := by decide +kernel
theorem dX2_burntOnLeg_48 : decode cX2_burntOnLeg 48 = .ok (.getfield 45, 3) := by decide +kernel
theorem dX2_burntOnLeg_51 : decode cX2_burntOnLeg 51 = .ok (.iload 6, 2) := by decide +kernel
theorem dX2_burntOnLeg_53 : decode cX2_burntOnLeg 53 = .ok (.iaload, 1) := by decide +kernel
theorem dX2_burntOnLeg_54 : decode cX2_burntOnLeg 54 = .ok (.i2l, 1) := by decide +kernel
theorem dX2_burntOnLeg_55 : decode cX2_burntOnLeg 55 = .ok (.lstore 7, 2) := by decide +kernel
theorem dX2_burntOnLeg_57 : decode cX2_burntOnLeg 57 = .ok (.aload_n 0, 1) := by decide +kernel
theorem dX2_burntOnLeg_58 : decode cX2_burntOnLeg 58 = .ok (.getfield 45, 3) := by decide +kernel
theorem dX2_burntOnLeg_61 : decode cX2_burntOnLeg 61 = .ok (.iload 6, 2) := by decide +kernel
theorem dX2_burntOnLeg_63 : decode cX2_burntOnLeg 63 = .ok (.iconst 1, 1) := by decide +kernel
theorem dX2_burntOnLeg_64 : decode cX2_burntOnLeg 64 = .ok (.iadd, 1) := by decide +kernel
theorem dX2_burntOnLeg_65 : decode cX2_burntOnLeg 65 = .ok (.iaload, 1) := by decide +kernel
theorem dX2_burntOnLeg_66 : decode cX2_burntOnLeg 66 = .ok (.i2l, 1) := by decide +kernel
theorem dX2_burntOnLeg_67 : decode cX2_burntOnLeg 67 = .ok (.lload 7, 2) := by decide +kernel
theorem dX2_burntOnLeg_69 : decode cX2_burntOnLeg 69 = .ok (.lsub, 1) := by decide +kernel
theorem dX2_burntOnLeg_70 : decode cX2_burntOnLeg 70 = .ok (.lstore 9, 2) := by decide +kernel
theorem dX2_burntOnLeg_72 : decode cX2_burntOnLeg 72 = .ok (.lload 4, 2) := by decide +kernel
theorem dX2_burntOnLeg_74 : decode cX2_burntOnLeg 74 = .ok (.bipush 10, 2) := by decide +kernel
theorem dX2_burntOnLeg_76 : decode cX2_burntOnLeg 76 = .ok (.iload 6, 2) := by decide +kernel
theorem dX2_burntOnLeg_78 : decode cX2_burntOnLeg 78 = .ok (.imul, 1) := by decide +kernel
theorem dX2_burntOnLeg_79 : decode cX2_burntOnLeg 79 = .ok (.i2l, 1) := by decide +kernel
theorem dX2_burntOnLeg_80 : decode cX2_burntOnLeg 80 = .ok (.lload_n 2, 1) := by decide +kernel
theorem dX2_burntOnLeg_81 : decode cX2_burntOnLeg 81 = .ok (.lmul, 1) := by decide +kernel
theorem dX2_burntOnLeg_82 : decode cX2_burntOnLeg 82 = .ok (.lsub, 1) := by decide +kernel
theorem dX2_burntOnLeg_83 : decode cX2_burntOnLeg 83 = .ok (.lstore 11, 2) := by decide +kernel
theorem dX2_burntOnLeg_85 : decode cX2_burntOnLeg 85 = .ok (.lload 7, 2) := by decide +kernel
theorem dX2_burntOnLeg_87 : decode cX2_burntOnLeg 87 = .ok (.ldc2_w 105, 3) := by decide +kernel
theorem dX2_burntOnLeg_90 : decode cX2_burntOnLeg 90 = .ok (.lmul, 1) := by decide +kernel
theorem dX2_burntOnLeg_91 : decode cX2_burntOnLeg 91 = .ok (.lload_n 2, 1) := by decide +kernel
theorem dX2_burntOnLeg_92 : decode cX2_burntOnLeg 92 = .ok (.lmul, 1) := by decide +kernel
theorem dX2_burntOnLeg_93 : decode cX2_burntOnLeg 93 = .ok (.lload 9, 2) := by decide +kernel
theorem dX2_burntOnLeg_95 : decode cX2_burntOnLeg 95 = .ok (.lload 11, 2) := by decide +kernel
theorem dX2_burntOnLeg_97 : decode cX2_burntOnLeg 97 = .ok (.lmul, 1) := by decide +kernel
theorem dX2_burntOnLeg_98 : decode cX2_burntOnLeg 98 = .ok (.ladd, 1) := by decide +kernel
theorem dX2_burntOnLeg_99 : decode cX2_burntOnLeg 99 = .ok (.lstore 13, 2) := by decide +kernel
theorem dX2_burntOnLeg_101 : decode cX2_burntOnLeg 101 = .ok (.aload_n 0, 1) := by decide +kernel
theorem dX2_burntOnLeg_102 : decode cX2_burntOnLeg 102 = .ok (.iload_n 1, 1) := by decide +kernel
theorem dX2_burntOnLeg_103 : decode cX2_burntOnLeg 103 = .ok (.invokevirtual 110, 3) := by decide +kernel
theorem dX2_burntOnLeg_106 : decode cX2_burntOnLeg 106 = .ok (.i2l, 1) := by decide +kernel
theorem dX2_burntOnLeg_107 : decode cX2_burntOnLeg 107 = .ok (.lload 13, 2) := by decide +kernel
theorem dX2_burntOnLeg_109 : decode cX2_burntOnLeg 109 = .ok (.lmul, 1) := by decide +kernel
theorem dX2_burntOnLeg_110 : decode cX2_burntOnLeg 110 = .ok (.ldc2_w 105, 3) := by decide +kernel
theorem dX2_burntOnLeg_113 : decode cX2_burntOnLeg 113 = .ok (.lload_n 2, 1) := by decide +kernel
theorem dX2_burntOnLeg_114 : decode cX2_burntOnLeg 114 = .ok (.lmul, 1) := by decide +kernel
theorem dX2_burntOnLeg_115 : decode cX2_burntOnLeg 115 = .ok (.ldiv, 1) := by decide +kernel
theorem dX2_burntOnLeg_116 : decode cX2_burntOnLeg 116 = .ok (.l2i, 1) := by decide +kernel
theorem dX2_burntOnLeg_117 : decode cX2_burntOnLeg 117 = .ok (.ireturn, 1) := by decide +kernel
theorem dX2_burntInAll_0 : decode cX2_burntInAll 0 = .ok (.iconst 0, 1) := by decide +kernel
theorem dX2_burntInAll_1 : decode cX2_burntInAll 1 = .ok (.istore_n 1, 1) := by decide +kernel
theorem dX2_burntInAll_2 : decode cX2_burntInAll 2 = .ok (.aload_n 0, 1) := by decide +kernel
theorem dX2_burntInAll_3 : decode cX2_burntInAll 3 = .ok (.getfield 11, 3) := by decide +kernel
theorem dX2_burntInAll_6 : decode cX2_burntInAll 6 = .ok (.istore_n 2, 1) := by decide +kernel
theorem dX2_burntInAll_7 : decode cX2_burntInAll 7 = .ok (.iload_n 2, 1) := by decide +kernel
theorem dX2_burntInAll_8 : decode cX2_burntInAll 8 = .ok (.aload_n 0, 1) := by decide +kernel
theorem dX2_burntInAll_9 : decode cX2_burntInAll 9 = .ok (.getfield 17, 3) := by decide +kernel
theorem dX2_burntInAll_12 : decode cX2_burntInAll 12 = .ok (.if_icmp .ge 17, 3) := by decide +kernel
theorem dX2_burntInAll_15 : decode cX2_burntInAll 15 = .ok (.iload_n 1, 1) := by decide +kernel
theorem dX2_burntInAll_16 : decode cX2_burntInAll 16 = .ok (.aload_n 0, 1) := by decide +kernel
theorem dX2_burntInAll_17 : decode cX2_burntInAll 17 = .ok (.iload_n 2, 1) := by decide +kernel
theorem dX2_burntInAll_18 : decode cX2_burntInAll 18 = .ok (.invokevirtual 113, 3) := by decide +kernel
theorem dX2_burntInAll_21 : decode cX2_burntInAll 21 = .ok (.iadd, 1) := by decide +kernel
theorem dX2_burntInAll_22 : decode cX2_burntInAll 22 = .ok (.istore_n 1, 1) := by decide +kernel
theorem dX2_burntInAll_23 : decode cX2_burntInAll 23 = .ok (.iinc 2 1, 3) := by decide +kernel
theorem dX2_burntInAll_26 : decode cX2_burntInAll 26 = .ok (.goto (-19), 3) := by decide +kernel
theorem dX2_burntInAll_29 : decode cX2_burntInAll 29 = .ok (.iload_n 1, 1) := by decide +kernel
theorem dX2_burntInAll_30 : decode cX2_burntInAll 30 = .ok (.ireturn, 1) := by decide +kernel
theorem dX2_mileAt_0 : decode cX2_mileAt 0 = .ok (.aload_n 0, 1) := by decide +kernel
theorem dX2_mileAt_1 : decode cX2_mileAt 1 = .ok (.invokevirtual 116, 3) := by decide +kernel
theorem dX2_mileAt_4 : decode cX2_mileAt 4 = .ok (.ifCond .ne 6, 3) := by decide +kernel
theorem dX2_mileAt_7 : decode cX2_mileAt 7 = .ok (.bipush (-9), 2) := by decide +kernel
theorem dX2_mileAt_9 : decode cX2_mileAt 9 = .ok (.ireturn, 1) := by decide +kernel
theorem dX2_mileAt_10 : decode cX2_mileAt 10 = .ok (.aload_n 0, 1) := by decide +kernel
theorem dX2_mileAt_11 : decode cX2_mileAt 11 = .ok (.getfield 20, 3) := by decide +kernel
theorem dX2_mileAt_14 : decode cX2_mileAt 14 = .ok (.aload_n 0, 1) := by decide +kernel
theorem dX2_mileAt_15 : decode cX2_mileAt 15 = .ok (.getfield 11, 3) := by decide +kernel
theorem dX2_mileAt_18 : decode cX2_mileAt 18 = .ok (.iaload, 1) := by decide +kernel
theorem dX2_mileAt_19 : decode cX2_mileAt 19 = .ok (.istore_n 2, 1) := by decide +kernel
theorem dX2_mileAt_20 : decode cX2_mileAt 20 = .ok (.aload_n 0, 1) := by decide +kernel
theorem dX2_mileAt_21 : decode cX2_mileAt 21 = .ok (.getfield 11, 3) := by decide +kernel
theorem dX2_mileAt_24 : decode cX2_mileAt 24 = .ok (.istore_n 3, 1) := by decide +kernel
theorem dX2_mileAt_25 : decode cX2_mileAt 25 = .ok (.iload_n 3, 1) := by decide +kernel
theorem dX2_mileAt_26 : decode cX2_mileAt 26 = .ok (.aload_n 0, 1) := by decide +kernel
theorem dX2_mileAt_27 : decode cX2_mileAt 27 = .ok (.getfield 17, 3) := by decide +kernel
theorem dX2_mileAt_30 : decode cX2_mileAt 30 = .ok (.if_icmp .ge 18, 3) := by decide +kernel
theorem dX2_mileAt_33 : decode cX2_mileAt 33 = .ok (.iload_n 2, 1) := by decide +kernel
theorem dX2_mileAt_34 : decode cX2_mileAt 34 = .ok (.aload_n 0, 1) := by decide +kernel
theorem dX2_mileAt_35 : decode cX2_mileAt 35 = .ok (.iload_n 3, 1) := by decide +kernel
theorem dX2_mileAt_36 : decode cX2_mileAt 36 = .ok (.iload_n 1, 1) := by decide +kernel
theorem dX2_mileAt_37 : decode cX2_mileAt 37 = .ok (.invokevirtual 120, 3) := by decide +kernel
theorem dX2_mileAt_40 : decode cX2_mileAt 40 = .ok (.iadd, 1) := by decide +kernel
theorem dX2_mileAt_41 : decode cX2_mileAt 41 = .ok (.istore_n 2, 1) := by decide +kernel
theorem dX2_mileAt_42 : decode cX2_mileAt 42 = .ok (.iinc 3 1, 3) := by decide +kernel
theorem dX2_mileAt_45 : decode cX2_mileAt 45 = .ok (.goto (-20), 3) := by decide +kernel
theorem dX2_mileAt_48 : decode cX2_mileAt 48 = .ok (.iload_n 2, 1) := by decide +kernel
theorem dX2_mileAt_49 : decode cX2_mileAt 49 = .ok (.ireturn, 1) := by decide +kernel
theorem dX2_isNoLeg_0 : decode cX2_isNoLeg 0 = .ok (.iload_n 1, 1) := by decide +kernel
theorem dX2_isNoLeg_1 : decode cX2_isNoLeg 1 = .ok (.aload_n 0, 1) := by decide +kernel
theorem dX2_isNoLeg_2 : decode cX2_isNoLeg 2 = .ok (.getfield 11, 3) := by decide +kernel
theorem dX2_isNoLeg_5 : decode cX2_isNoLeg 5 = .ok (.if_icmp .lt 11, 3) := by decide +kernel
theorem dX2_isNoLeg_8 : decode cX2_isNoLeg 8 = .ok (.iload_n 1, 1) := by decide +kernel
theorem dX2_isNoLeg_9 : decode cX2_isNoLeg 9 = .ok (.aload_n 0, 1) := by decide +kernel
theorem dX2_isNoLeg_10 : decode cX2_isNoLeg 10 = .ok (.getfield 17, 3) := by decide +kernel
theorem dX2_isNoLeg_13 : decode cX2_isNoLeg 13 = .ok (.if_icmp .lt 7, 3) := by decide +kernel
theorem dX2_isNoLeg_16 : decode cX2_isNoLeg 16 = .ok (.iconst 1, 1) := by decide +kernel
theorem dX2_isNoLeg_17 : decode cX2_isNoLeg 17 = .ok (.goto 4, 3) := by decide +kernel
theorem dX2_isNoLeg_20 : decode cX2_isNoLeg 20 = .ok (.iconst 0, 1) := by decide +kernel
theorem dX2_isNoLeg_21 : decode cX2_isNoLeg 21 = .ok (.ireturn, 1) := by decide +kernel
theorem dX2_milesOfLeg_0 : decode cX2_milesOfLeg 0 = .ok (.aload_n 0, 1) := by decide +kernel
theorem dX2_milesOfLeg_1 : decode cX2_milesOfLeg 1 = .ok (.iload_n 1, 1) := by decide +kernel
theorem dX2_milesOfLeg_2 : decode cX2_milesOfLeg 2 = .ok (.invokevirtual 80, 3) := by decide +kernel
theorem dX2_milesOfLeg_5 : decode cX2_milesOfLeg 5 = .ok (.ifCond .eq 7, 3) := by decide +kernel
theorem dX2_milesOfLeg_8 : decode cX2_milesOfLeg 8 = .ok (.iconst 0, 1) := by decide +kernel
theorem dX2_milesOfLeg_9 : decode cX2_milesOfLeg 9 = .ok (.goto 18, 3) := by decide +kernel
theorem dX2_milesOfLeg_12 : decode cX2_milesOfLeg 12 = .ok (.aload_n 0, 1) := by decide +kernel
theorem dX2_milesOfLeg_13 : decode cX2_milesOfLeg 13 = .ok (.getfield 20, 3) := by decide +kernel
theorem dX2_milesOfLeg_16 : decode cX2_milesOfLeg 16 = .ok (.iload_n 1, 1) := by decide +kernel
theorem dX2_milesOfLeg_17 : decode cX2_milesOfLeg 17 = .ok (.iconst 1, 1) := by decide +kernel
theorem dX2_milesOfLeg_18 : decode cX2_milesOfLeg 18 = .ok (.iadd, 1) := by decide +kernel
theorem dX2_milesOfLeg_19 : decode cX2_milesOfLeg 19 = .ok (.iaload, 1) := by decide +kernel
theorem dX2_milesOfLeg_20 : decode cX2_milesOfLeg 20 = .ok (.aload_n 0, 1) := by decide +kernel
theorem dX2_milesOfLeg_21 : decode cX2_milesOfLeg 21 = .ok (.getfield 20, 3) := by decide +kernel
theorem dX2_milesOfLeg_24 : decode cX2_milesOfLeg 24 = .ok (.iload_n 1, 1) := by decide +kernel
theorem dX2_milesOfLeg_25 : decode cX2_milesOfLeg 25 = .ok (.iaload, 1) := by decide +kernel
theorem dX2_milesOfLeg_26 : decode cX2_milesOfLeg 26 = .ok (.isub, 1) := by decide +kernel
theorem dX2_milesOfLeg_27 : decode cX2_milesOfLeg 27 = .ok (.ireturn, 1) := by decide +kernel
theorem dX2_sailedOnLeg_0 : decode cX2_sailedOnLeg 0 = .ok (.aload_n 0, 1) := by decide +kernel
theorem dX2_sailedOnLeg_1 : decode cX2_sailedOnLeg 1 = .ok (.iload_n 1, 1) := by decide +kernel
theorem dX2_sailedOnLeg_2 : decode cX2_sailedOnLeg 2 = .ok (.invokevirtual 100, 3) := by decide +kernel
theorem dX2_sailedOnLeg_5 : decode cX2_sailedOnLeg 5 = .ok (.istore_n 3, 1) := by decide +kernel
theorem dX2_sailedOnLeg_6 : decode cX2_sailedOnLeg 6 = .ok (.iload_n 3, 1) := by decide +kernel
theorem dX2_sailedOnLeg_7 : decode cX2_sailedOnLeg 7 = .ok (.ifCond .gt 5, 3) := by decide +kernel
theorem dX2_sailedOnLeg_10 : decode cX2_sailedOnLeg 10 = .ok (.iconst 0, 1) := by decide +kernel
theorem dX2_sailedOnLeg_11 : decode cX2_sailedOnLeg 11 = .ok (.ireturn, 1) := by decide +kernel
theorem dX2_sailedOnLeg_12 : decode cX2_sailedOnLeg 12 = .ok (.aload_n 0, 1) := by decide +kernel
theorem dX2_sailedOnLeg_13 : decode cX2_sailedOnLeg 13 = .ok (.getfield 39, 3) := by decide +kernel
theorem dX2_sailedOnLeg_16 : decode cX2_sailedOnLeg 16 = .ok (.iload_n 1, 1) := by decide +kernel
theorem dX2_sailedOnLeg_17 : decode cX2_sailedOnLeg 17 = .ok (.iaload, 1) := by decide +kernel
theorem dX2_sailedOnLeg_18 : decode cX2_sailedOnLeg 18 = .ok (.istore 4, 2) := by decide +kernel
theorem dX2_sailedOnLeg_20 : decode cX2_sailedOnLeg 20 = .ok (.iload_n 2, 1) := by decide +kernel
theorem dX2_sailedOnLeg_21 : decode cX2_sailedOnLeg 21 = .ok (.aload_n 0, 1) := by decide +kernel
theorem dX2_sailedOnLeg_22 : decode cX2_sailedOnLeg 22 = .ok (.getfield 24, 3) := by decide +kernel
theorem dX2_sailedOnLeg_25 : decode cX2_sailedOnLeg 25 = .ok (.iload_n 1, 1) := by decide +kernel
theorem dX2_sailedOnLeg_26 : decode cX2_sailedOnLeg 26 = .ok (.iconst 1, 1) := by decide +kernel
theorem dX2_sailedOnLeg_27 : decode cX2_sailedOnLeg 27 = .ok (.iadd, 1) := by decide +kernel
theorem dX2_sailedOnLeg_28 : decode cX2_sailedOnLeg 28 = .ok (.iaload, 1) := by decide +kernel
theorem dX2_sailedOnLeg_29 : decode cX2_sailedOnLeg 29 = .ok (.isub, 1) := by decide +kernel
theorem dX2_sailedOnLeg_30 : decode cX2_sailedOnLeg 30 = .ok (.aload_n 0, 1) := by decide +kernel
theorem dX2_sailedOnLeg_31 : decode cX2_sailedOnLeg 31 = .ok (.getfield 33, 3) := by decide +kernel
theorem dX2_sailedOnLeg_34 : decode cX2_sailedOnLeg 34 = .ok (.iload 4, 2) := by decide +kernel
theorem dX2_sailedOnLeg_36 : decode cX2_sailedOnLeg 36 = .ok (.iaload, 1) := by decide +kernel
theorem dX2_sailedOnLeg_37 : decode cX2_sailedOnLeg 37 = .ok (.isub, 1) := by decide +kernel
theorem dX2_sailedOnLeg_38 : decode cX2_sailedOnLeg 38 = .ok (.istore 5, 2) := by decide +kernel
theorem dX2_sailedOnLeg_40 : decode cX2_sailedOnLeg 40 = .ok (.aload_n 0, 1) := by decide +kernel
theorem dX2_sailedOnLeg_41 : decode cX2_sailedOnLeg 41 = .ok (.iload_n 1, 1) := by decide +kernel
theorem dX2_sailedOnLeg_42 : decode cX2_sailedOnLeg 42 = .ok (.invokevirtual 88, 3) := by decide +kernel
theorem dX2_sailedOnLeg_45 : decode cX2_sailedOnLeg 45 = .ok (.iload 5, 2) := by decide +kernel
theorem dX2_sailedOnLeg_47 : decode cX2_sailedOnLeg 47 = .ok (.imul, 1) := by decide +kernel
theorem dX2_sailedOnLeg_48 : decode cX2_sailedOnLeg 48 = .ok (.iload_n 3, 1) := by decide +kernel
theorem dX2_sailedOnLeg_49 : decode cX2_sailedOnLeg 49 = .ok (.aload_n 0, 1) := by decide +kernel
theorem dX2_sailedOnLeg_50 : decode cX2_sailedOnLeg 50 = .ok (.getfield 20, 3) := by decide +kernel
theorem dX2_sailedOnLeg_53 : decode cX2_sailedOnLeg 53 = .ok (.iload_n 1, 1) := by decide +kernel
theorem dX2_sailedOnLeg_54 : decode cX2_sailedOnLeg 54 = .ok (.iaload, 1) := by decide +kernel
theorem dX2_sailedOnLeg_55 : decode cX2_sailedOnLeg 55 = .ok (.aload_n 0, 1) := by decide +kernel
theorem dX2_sailedOnLeg_56 : decode cX2_sailedOnLeg 56 = .ok (.getfield 20, 3) := by decide +kernel
theorem dX2_sailedOnLeg_59 : decode cX2_sailedOnLeg 59 = .ok (.iload 4, 2) := by decide +kernel
theorem dX2_sailedOnLeg_61 : decode cX2_sailedOnLeg 61 = .ok (.iaload, 1) := by decide +kernel
theorem dX2_sailedOnLeg_62 : decode cX2_sailedOnLeg 62 = .ok (.isub, 1) := by decide +kernel
theorem dX2_sailedOnLeg_63 : decode cX2_sailedOnLeg 63 = .ok (.imul, 1) := by decide +kernel
theorem dX2_sailedOnLeg_64 : decode cX2_sailedOnLeg 64 = .ok (.isub, 1) := by decide +kernel
theorem dX2_sailedOnLeg_65 : decode cX2_sailedOnLeg 65 = .ok (.istore 6, 2) := by decide +kernel
theorem dX2_sailedOnLeg_67 : decode cX2_sailedOnLeg 67 = .ok (.iload 6, 2) := by decide +kernel
theorem dX2_sailedOnLeg_69 : decode cX2_sailedOnLeg 69 = .ok (.ifCond .gt 7, 3) := by decide +kernel
theorem dX2_sailedOnLeg_72 : decode cX2_sailedOnLeg 72 = .ok (.iconst 0, 1) := by decide +kernel
theorem dX2_sailedOnLeg_73 : decode cX2_sailedOnLeg 73 = .ok (.goto 15, 3) := by decide +kernel
theorem dX2_sailedOnLeg_76 : decode cX2_sailedOnLeg 76 = .ok (.aload_n 0, 1) := by decide +kernel
theorem dX2_sailedOnLeg_77 : decode cX2_sailedOnLeg 77 = .ok (.iload_n 1, 1) := by decide +kernel
theorem dX2_sailedOnLeg_78 : decode cX2_sailedOnLeg 78 = .ok (.invokevirtual 110, 3) := by decide +kernel
theorem dX2_sailedOnLeg_81 : decode cX2_sailedOnLeg 81 = .ok (.iload 6, 2) := by decide +kernel
theorem dX2_sailedOnLeg_83 : decode cX2_sailedOnLeg 83 = .ok (.iload_n 3, 1) := by decide +kernel
theorem dX2_sailedOnLeg_84 : decode cX2_sailedOnLeg 84 = .ok (.idiv, 1) := by decide +kernel
theorem dX2_sailedOnLeg_85 : decode cX2_sailedOnLeg 85 = .ok (.invokestatic 67, 3) := by decide +kernel
theorem dX2_sailedOnLeg_88 : decode cX2_sailedOnLeg 88 = .ok (.ireturn, 1) := by decide +kernel
theorem dX2_layPorts_0 : decode cX2_layPorts 0 = .ok (.aload_n 0, 1) := by decide +kernel
theorem dX2_layPorts_1 : decode cX2_layPorts 1 = .ok (.getfield 20, 3) := by decide +kernel
theorem dX2_layPorts_4 : decode cX2_layPorts 4 = .ok (.iconst 0, 1) := by decide +kernel
theorem dX2_layPorts_5 : decode cX2_layPorts 5 = .ok (.iconst 0, 1) := by decide +kernel
theorem dX2_layPorts_6 : decode cX2_layPorts 6 = .ok (.iastore, 1) := by decide +kernel
theorem dX2_layPorts_7 : decode cX2_layPorts 7 = .ok (.iconst 1, 1) := by decide +kernel
theorem dX2_layPorts_8 : decode cX2_layPorts 8 = .ok (.istore_n 2, 1) := by decide +kernel
theorem dX2_layPorts_9 : decode cX2_layPorts 9 = .ok (.iload_n 2, 1) := by decide +kernel
theorem dX2_layPorts_10 : decode cX2_layPorts 10 = .ok (.aload_n 0, 1) := by decide +kernel
theorem dX2_layPorts_11 : decode cX2_layPorts 11 = .ok (.getfield 17, 3) := by decide +kernel
theorem dX2_layPorts_14 : decode cX2_layPorts 14 = .ok (.if_icmp .gt 32, 3) := by decide +kernel
theorem dX2_layPorts_17 : decode cX2_layPorts 17 = .ok (.aload_n 0, 1) := by decide +kernel
theorem dX2_layPorts_18 : decode cX2_layPorts 18 = .ok (.getfield 20, 3) := by decide +kernel
theorem dX2_layPorts_21 : decode cX2_layPorts 21 = .ok (.iload_n 2, 1) := by decide +kernel
theorem dX2_layPorts_22 : decode cX2_layPorts 22 = .ok (.aload_n 0, 1) := by decide +kernel
theorem dX2_layPorts_23 : decode cX2_layPorts 23 = .ok (.getfield 20, 3) := by decide +kernel
theorem dX2_layPorts_26 : decode cX2_layPorts 26 = .ok (.iload_n 2, 1) := by decide +kernel
theorem dX2_layPorts_27 : decode cX2_layPorts 27 = .ok (.iconst 1, 1) := by decide +kernel
theorem dX2_layPorts_28 : decode cX2_layPorts 28 = .ok (.isub, 1) := by decide +kernel
theorem dX2_layPorts_29 : decode cX2_layPorts 29 = .ok (.iaload, 1) := by decide +kernel
theorem dX2_layPorts_30 : decode cX2_layPorts 30 = .ok (.aload_n 1, 1) := by decide +kernel
theorem dX2_layPorts_31 : decode cX2_layPorts 31 = .ok (.iload_n 2, 1) := by decide +kernel
theorem dX2_layPorts_32 : decode cX2_layPorts 32 = .ok (.iconst 1, 1) := by decide +kernel
theorem dX2_layPorts_33 : decode cX2_layPorts 33 = .ok (.isub, 1) := by decide +kernel
theorem dX2_layPorts_34 : decode cX2_layPorts 34 = .ok (.iconst 0, 1) := by decide +kernel
theorem dX2_layPorts_35 : decode cX2_layPorts 35 = .ok (.invokevirtual 123, 3) := by decide +kernel
theorem dX2_layPorts_38 : decode cX2_layPorts 38 = .ok (.iadd, 1) := by decide +kernel
theorem dX2_layPorts_39 : decode cX2_layPorts 39 = .ok (.iastore, 1) := by decide +kernel
theorem dX2_layPorts_40 : decode cX2_layPorts 40 = .ok (.iinc 2 1, 3) := by decide +kernel
theorem dX2_layPorts_43 : decode cX2_layPorts 43 = .ok (.goto (-34), 3) := by decide +kernel
theorem dX2_layPorts_46 : decode cX2_layPorts 46 = .ok (.iconst 0, 1) := by decide +kernel
theorem dX2_layPorts_47 : decode cX2_layPorts 47 = .ok (.istore_n 2, 1) := by decide +kernel
theorem dX2_layPorts_48 : decode cX2_layPorts 48 = .ok (.aload_n 0, 1) := by decide +kernel
theorem dX2_layPorts_49 : decode cX2_layPorts 49 = .ok (.getfield 11, 3) := by decide +kernel
theorem dX2_layPorts_52 : decode cX2_layPorts 52 = .ok (.iconst 1, 1) := by decide +kernel
theorem dX2_layPorts_53 : decode cX2_layPorts 53 = .ok (.iadd, 1) := by decide +kernel
theorem dX2_layPorts_54 : decode cX2_layPorts 54 = .ok (.istore_n 3, 1) := by decide +kernel
theorem dX2_layPorts_55 : decode cX2_layPorts 55 = .ok (.iload_n 3, 1) := by decide +kernel
theorem dX2_layPorts_56 : decode cX2_layPorts 56 = .ok (.aload_n 0, 1) := by decide +kernel
theorem dX2_layPorts_57 : decode cX2_layPorts 57 = .ok (.getfield 17, 3) := by decide +kernel
theorem dX2_layPorts_60 : decode cX2_layPorts 60 = .ok (.if_icmp .gt 66, 3) := by decide +kernel
theorem dX2_layPorts_63 : decode cX2_layPorts 63 = .ok (.aload_n 0, 1) := by decide +kernel
theorem dX2_layPorts_64 : decode cX2_layPorts 64 = .ok (.getfield 24, 3) := by decide +kernel
theorem dX2_layPorts_67 : decode cX2_layPorts 67 = .ok (.iload_n 3, 1) := by decide +kernel
theorem dX2_layPorts_68 : decode cX2_layPorts 68 = .ok (.iload_n 2, 1) := by decide +kernel
theorem dX2_layPorts_69 : decode cX2_layPorts 69 = .ok (.iastore, 1) := by decide +kernel
theorem dX2_layPorts_70 : decode cX2_layPorts 70 = .ok (.aload_n 0, 1) := by decide +kernel
theorem dX2_layPorts_71 : decode cX2_layPorts 71 = .ok (.getfield 27, 3) := by decide +kernel
theorem dX2_layPorts_74 : decode cX2_layPorts 74 = .ok (.iload_n 3, 1) := by decide +kernel
theorem dX2_layPorts_75 : decode cX2_layPorts 75 = .ok (.aload_n 1, 1) := by decide +kernel
theorem dX2_layPorts_76 : decode cX2_layPorts 76 = .ok (.iload_n 3, 1) := by decide +kernel
theorem dX2_layPorts_77 : decode cX2_layPorts 77 = .ok (.iconst 1, 1) := by decide +kernel
theorem dX2_layPorts_78 : decode cX2_layPorts 78 = .ok (.isub, 1) := by decide +kernel
theorem dX2_layPorts_79 : decode cX2_layPorts 79 = .ok (.iconst 2, 1) := by decide +kernel
theorem dX2_layPorts_80 : decode cX2_layPorts 80 = .ok (.invokevirtual 123, 3) := by decide +kernel
theorem dX2_layPorts_83 : decode cX2_layPorts 83 = .ok (.iload_n 2, 1) := by decide +kernel
theorem dX2_layPorts_84 : decode cX2_layPorts 84 = .ok (.isub, 1) := by decide +kernel
theorem dX2_layPorts_85 : decode cX2_layPorts 85 = .ok (.iastore, 1) := by decide +kernel
theorem dX2_layPorts_86 : decode cX2_layPorts 86 = .ok (.aload_n 0, 1) := by decide +kernel
theorem dX2_layPorts_87 : decode cX2_layPorts 87 = .ok (.getfield 30, 3) := by decide +kernel
theorem dX2_layPorts_90 : decode cX2_layPorts 90 = .ok (.iload_n 3, 1) := by decide +kernel
theorem dX2_layPorts_91 : decode cX2_layPorts 91 = .ok (.aload_n 1, 1) := by decide +kernel
theorem dX2_layPorts_92 : decode cX2_layPorts 92 = .ok (.iload_n 3, 1) := by decide +kernel
theorem dX2_layPorts_93 : decode cX2_layPorts 93 = .ok (.iconst 1, 1) := by decide +kernel
theorem dX2_layPorts_94 : decode cX2_layPorts 94 = .ok (.isub, 1) := by decide +kernel
theorem dX2_layPorts_95 : decode cX2_layPorts 95 = .ok (.iconst 3, 1) := by decide +kernel
theorem dX2_layPorts_96 : decode cX2_layPorts 96 = .ok (.invokevirtual 123, 3) := by decide +kernel
theorem dX2_layPorts_99 : decode cX2_layPorts 99 = .ok (.iload_n 2, 1) := by decide +kernel
theorem dX2_layPorts_100 : decode cX2_layPorts 100 = .ok (.isub, 1) := by decide +kernel
theorem dX2_layPorts_101 : decode cX2_layPorts 101 = .ok (.iastore, 1) := by decide +kernel
theorem dX2_layPorts_102 : decode cX2_layPorts 102 = .ok (.aload_n 0, 1) := by decide +kernel
theorem dX2_layPorts_103 : decode cX2_layPorts 103 = .ok (.getfield 36, 3) := by decide +kernel
theorem dX2_layPorts_106 : decode cX2_layPorts 106 = .ok (.iload_n 3, 1) := by decide +kernel
theorem dX2_layPorts_107 : decode cX2_layPorts 107 = .ok (.iconst 0, 1) := by decide +kernel
theorem dX2_layPorts_108 : decode cX2_layPorts 108 = .ok (.iastore, 1) := by decide +kernel
theorem dX2_layPorts_109 : decode cX2_layPorts 109 = .ok (.iload_n 2, 1) := by decide +kernel
theorem dX2_layPorts_110 : decode cX2_layPorts 110 = .ok (.aload_n 1, 1) := by decide +kernel
theorem dX2_layPorts_111 : decode cX2_layPorts 111 = .ok (.iload_n 3, 1) := by decide +kernel
theorem dX2_layPorts_112 : decode cX2_layPorts 112 = .ok (.iconst 1, 1) := by decide +kernel
theorem dX2_layPorts_113 : decode cX2_layPorts 113 = .ok (.isub, 1) := by decide +kernel
theorem dX2_layPorts_114 : decode cX2_layPorts 114 = .ok (.iconst 1, 1) := by decide +kernel
theorem dX2_layPorts_115 : decode cX2_layPorts 115 = .ok (.invokevirtual 123, 3) := by decide +kernel
theorem dX2_layPorts_118 : decode cX2_layPorts 118 = .ok (.iadd, 1) := by decide +kernel
theorem dX2_layPorts_119 : decode cX2_layPorts 119 = .ok (.istore_n 2, 1) := by decide +kernel
theorem dX2_layPorts_120 : decode cX2_layPorts 120 = .ok (.iinc 3 1, 3) := by decide +kernel
theorem dX2_layPorts_123 : decode cX2_layPorts 123 = .ok (.goto (-68), 3) := by decide +kernel
theorem dX2_layPorts_126 : decode cX2_layPorts 126 = .ok (.return_, 1) := by decide +kernel
theorem dX2_splitStretches_0 : decode cX2_splitStretches 0 = .ok (.aload_n 0, 1) := by decide +kernel
theorem dX2_splitStretches_1 : decode cX2_splitStretches 1 = .ok (.getfield 11, 3) := by decide +kernel
theorem dX2_splitStretches_4 : decode cX2_splitStretches 4 = .ok (.istore_n 1, 1) := by decide +kernel
theorem dX2_splitStretches_5 : decode cX2_splitStretches 5 = .ok (.iconst 0, 1) := by decide +kernel
theorem dX2_splitStretches_6 : decode cX2_splitStretches 6 = .ok (.istore_n 2, 1) := by decide +kernel
theorem dX2_splitStretches_7 : decode cX2_splitStretches 7 = .ok (.iload_n 2, 1) := by decide +kernel
theorem dX2_splitStretches_8 : decode cX2_splitStretches 8 = .ok (.bipush 14, 2) := by decide +kernel
theorem dX2_splitStretches_10 : decode cX2_splitStretches 10 = .ok (.if_icmp .ge 100, 3) := by decide +kernel
theorem dX2_splitStretches_13 : decode cX2_splitStretches 13 = .ok (.iload_n 1, 1) := by decide +kernel
theorem dX2_splitStretches_14 : decode cX2_splitStretches 14 = .ok (.aload_n 0, 1) := by decide +kernel
theorem dX2_splitStretches_15 : decode cX2_splitStretches 15 = .ok (.getfield 17, 3) := by decide +kernel
theorem dX2_splitStretches_18 : decode cX2_splitStretches 18 = .ok (.if_icmp .ge 92, 3) := by decide +kernel
theorem dX2_splitStretches_21 : decode cX2_splitStretches 21 = .ok (.aload_n 0, 1) := by decide +kernel
theorem dX2_splitStretches_22 : decode cX2_splitStretches 22 = .ok (.iload_n 1, 1) := by decide +kernel
theorem dX2_splitStretches_23 : decode cX2_splitStretches 23 = .ok (.invokevirtual 126, 3) := by decide +kernel
theorem dX2_splitStretches_26 : decode cX2_splitStretches 26 = .ok (.istore_n 3, 1) := by decide +kernel
theorem dX2_splitStretches_27 : decode cX2_splitStretches 27 = .ok (.aload_n 0, 1) := by decide +kernel
theorem dX2_splitStretches_28 : decode cX2_splitStretches 28 = .ok (.iload_n 1, 1) := by decide +kernel
theorem dX2_splitStretches_29 : decode cX2_splitStretches 29 = .ok (.iload_n 3, 1) := by decide +kernel
theorem dX2_splitStretches_30 : decode cX2_splitStretches 30 = .ok (.invokevirtual 129, 3) := by decide +kernel
theorem dX2_splitStretches_33 : decode cX2_splitStretches 33 = .ok (.istore 4, 2) := by decide +kernel
theorem dX2_splitStretches_35 : decode cX2_splitStretches 35 = .ok (.iload 4, 2) := by decide +kernel
theorem dX2_splitStretches_37 : decode cX2_splitStretches 37 = .ok (.iload_n 1, 1) := by decide +kernel
theorem dX2_splitStretches_38 : decode cX2_splitStretches 38 = .ok (.if_icmp .ne 8, 3) := by decide +kernel
theorem dX2_splitStretches_41 : decode cX2_splitStretches 41 = .ok (.iload_n 3, 1) := by decide +kernel
theorem dX2_splitStretches_42 : decode cX2_splitStretches 42 = .ok (.istore_n 1, 1) := by decide +kernel
theorem dX2_splitStretches_43 : decode cX2_splitStretches 43 = .ok (.goto 61, 3) := by decide +kernel
theorem dX2_splitStretches_46 : decode cX2_splitStretches 46 = .ok (.aload_n 0, 1) := by decide +kernel
theorem dX2_splitStretches_47 : decode cX2_splitStretches 47 = .ok (.iload_n 1, 1) := by decide +kernel
theorem dX2_splitStretches_48 : decode cX2_splitStretches 48 = .ok (.iload_n 3, 1) := by decide +kernel
theorem dX2_splitStretches_49 : decode cX2_splitStretches 49 = .ok (.iload 4, 2) := by decide +kernel
theorem dX2_splitStretches_51 : decode cX2_splitStretches 51 = .ok (.invokevirtual 132, 3) := by decide +kernel
theorem dX2_splitStretches_54 : decode cX2_splitStretches 54 = .ok (.ifCond .ge 28, 3) := by decide +kernel
theorem dX2_splitStretches_57 : decode cX2_splitStretches 57 = .ok (.aload_n 0, 1) := by decide +kernel
theorem dX2_splitStretches_58 : decode cX2_splitStretches 58 = .ok (.getfield 33, 3) := by decide +kernel
theorem dX2_splitStretches_61 : decode cX2_splitStretches 61 = .ok (.iload 4, 2) := by decide +kernel
theorem dX2_splitStretches_63 : decode cX2_splitStretches 63 = .ok (.aload_n 0, 1) := by decide +kernel
theorem dX2_splitStretches_64 : decode cX2_splitStretches 64 = .ok (.getfield 27, 3) := by decide +kernel
theorem dX2_splitStretches_67 : decode cX2_splitStretches 67 = .ok (.iload 4, 2) := by decide +kernel
theorem dX2_splitStretches_69 : decode cX2_splitStretches 69 = .ok (.iaload, 1) := by decide +kernel
theorem dX2_splitStretches_70 : decode cX2_splitStretches 70 = .ok (.iastore, 1) := by decide +kernel
theorem dX2_splitStretches_71 : decode cX2_splitStretches 71 = .ok (.aload_n 0, 1) := by decide +kernel
theorem dX2_splitStretches_72 : decode cX2_splitStretches 72 = .ok (.getfield 36, 3) := by decide +kernel
theorem dX2_splitStretches_75 : decode cX2_splitStretches 75 = .ok (.iload 4, 2) := by decide +kernel
theorem dX2_splitStretches_77 : decode cX2_splitStretches 77 = .ok (.iconst 1, 1) := by decide +kernel
theorem dX2_splitStretches_78 : decode cX2_splitStretches 78 = .ok (.iastore, 1) := by decide +kernel
theorem dX2_splitStretches_79 : decode cX2_splitStretches 79 = .ok (.goto 25, 3) := by decide +kernel
theorem dX2_splitStretches_82 : decode cX2_splitStretches 82 = .ok (.aload_n 0, 1) := by decide +kernel
theorem dX2_splitStretches_83 : decode cX2_splitStretches 83 = .ok (.getfield 33, 3) := by decide +kernel
theorem dX2_splitStretches_86 : decode cX2_splitStretches 86 = .ok (.iload 4, 2) := by decide +kernel
theorem dX2_splitStretches_88 : decode cX2_splitStretches 88 = .ok (.aload_n 0, 1) := by decide +kernel
theorem dX2_splitStretches_89 : decode cX2_splitStretches 89 = .ok (.getfield 30, 3) := by decide +kernel
theorem dX2_splitStretches_92 : decode cX2_splitStretches 92 = .ok (.iload 4, 2) := by decide +kernel
theorem dX2_splitStretches_94 : decode cX2_splitStretches 94 = .ok (.iaload, 1) := by decide +kernel
theorem dX2_splitStretches_95 : decode cX2_splitStretches 95 = .ok (.iastore, 1) := by decide +kernel
theorem dX2_splitStretches_96 : decode cX2_splitStretches 96 = .ok (.aload_n 0, 1) := by decide +kernel
theorem dX2_splitStretches_97 : decode cX2_splitStretches 97 = .ok (.getfield 36, 3) := by decide +kernel
theorem dX2_splitStretches_100 : decode cX2_splitStretches 100 = .ok (.iload 4, 2) := by decide +kernel
theorem dX2_splitStretches_102 : decode cX2_splitStretches 102 = .ok (.iconst 2, 1) := by decide +kernel
theorem dX2_splitStretches_103 : decode cX2_splitStretches 103 = .ok (.iastore, 1) := by decide +kernel
theorem dX2_splitStretches_104 : decode cX2_splitStretches 104 = .ok (.iinc 2 1, 3) := by decide +kernel
theorem dX2_splitStretches_107 : decode cX2_splitStretches 107 = .ok (.goto (-100), 3) := by decide +kernel
theorem dX2_splitStretches_110 : decode cX2_splitStretches 110 = .ok (.return_, 1) := by decide +kernel
theorem dX2_nextEnd_0 : decode cX2_nextEnd 0 = .ok (.iload_n 1, 1) := by decide +kernel
theorem dX2_nextEnd_1 : decode cX2_nextEnd 1 = .ok (.iconst 1, 1) := by decide +kernel
theorem dX2_nextEnd_2 : decode cX2_nextEnd 2 = .ok (.iadd, 1) := by decide +kernel
theorem dX2_nextEnd_3 : decode cX2_nextEnd 3 = .ok (.istore_n 2, 1) := by decide +kernel
theorem dX2_nextEnd_4 : decode cX2_nextEnd 4 = .ok (.iload_n 2, 1) := by decide +kernel
theorem dX2_nextEnd_5 : decode cX2_nextEnd 5 = .ok (.aload_n 0, 1) := by decide +kernel
theorem dX2_nextEnd_6 : decode cX2_nextEnd 6 = .ok (.getfield 17, 3) := by decide +kernel
theorem dX2_nextEnd_9 : decode cX2_nextEnd 9 = .ok (.if_icmp .ge 20, 3) := by decide +kernel
theorem dX2_nextEnd_12 : decode cX2_nextEnd 12 = .ok (.aload_n 0, 1) := by decide +kernel
theorem dX2_nextEnd_13 : decode cX2_nextEnd 13 = .ok (.getfield 36, 3) := by decide +kernel
theorem dX2_nextEnd_16 : decode cX2_nextEnd 16 = .ok (.iload_n 2, 1) := by decide +kernel
theorem dX2_nextEnd_17 : decode cX2_nextEnd 17 = .ok (.iaload, 1) := by decide +kernel
theorem dX2_nextEnd_18 : decode cX2_nextEnd 18 = .ok (.ifCond .eq 5, 3) := by decide +kernel
theorem dX2_nextEnd_21 : decode cX2_nextEnd 21 = .ok (.iload_n 2, 1) := by decide +kernel
theorem dX2_nextEnd_22 : decode cX2_nextEnd 22 = .ok (.ireturn, 1) := by decide +kernel
theorem dX2_nextEnd_23 : decode cX2_nextEnd 23 = .ok (.iinc 2 1, 3) := by decide +kernel
theorem dX2_nextEnd_26 : decode cX2_nextEnd 26 = .ok (.goto (-22), 3) := by decide +kernel
theorem dX2_nextEnd_29 : decode cX2_nextEnd 29 = .ok (.aload_n 0, 1) := by decide +kernel
theorem dX2_nextEnd_30 : decode cX2_nextEnd 30 = .ok (.getfield 17, 3) := by decide +kernel
theorem dX2_nextEnd_33 : decode cX2_nextEnd 33 = .ok (.ireturn, 1) := by decide +kernel
theorem dX2_mostMissed_0 : decode cX2_mostMissed 0 = .ok (.iload_n 1, 1) := by decide +kernel
theorem dX2_mostMissed_1 : decode cX2_mostMissed 1 = .ok (.istore_n 3, 1) := by decide +kernel
theorem dX2_mostMissed_2 : decode cX2_mostMissed 2 = .ok (.iconst 0, 1) := by decide +kernel
theorem dX2_mostMissed_3 : decode cX2_mostMissed 3 = .ok (.istore 4, 2) := by decide +kernel
theorem dX2_mostMissed_5 : decode cX2_mostMissed 5 = .ok (.iload_n 1, 1) := by decide +kernel
theorem dX2_mostMissed_6 : decode cX2_mostMissed 6 = .ok (.iconst 1, 1) := by decide +kernel
theorem dX2_mostMissed_7 : decode cX2_mostMissed 7 = .ok (.iadd, 1) := by decide +kernel
theorem dX2_mostMissed_8 : decode cX2_mostMissed 8 = .ok (.istore 5, 2) := by decide +kernel
theorem dX2_mostMissed_10 : decode cX2_mostMissed 10 = .ok (.iload 5, 2) := by decide +kernel
theorem dX2_mostMissed_12 : decode cX2_mostMissed 12 = .ok (.iload_n 2, 1) := by decide +kernel
theorem dX2_mostMissed_13 : decode cX2_mostMissed 13 = .ok (.if_icmp .ge 36, 3) := by decide +kernel
theorem dX2_mostMissed_16 : decode cX2_mostMissed 16 = .ok (.aload_n 0, 1) := by decide +kernel
theorem dX2_mostMissed_17 : decode cX2_mostMissed 17 = .ok (.iload_n 1, 1) := by decide +kernel
theorem dX2_mostMissed_18 : decode cX2_mostMissed 18 = .ok (.iload_n 2, 1) := by decide +kernel
theorem dX2_mostMissed_19 : decode cX2_mostMissed 19 = .ok (.iload 5, 2) := by decide +kernel
theorem dX2_mostMissed_21 : decode cX2_mostMissed 21 = .ok (.invokevirtual 132, 3) := by decide +kernel
theorem dX2_mostMissed_24 : decode cX2_mostMissed 24 = .ok (.invokestatic 135, 3) := by decide +kernel
theorem dX2_mostMissed_27 : decode cX2_mostMissed 27 = .ok (.istore 6, 2) := by decide +kernel
theorem dX2_mostMissed_29 : decode cX2_mostMissed 29 = .ok (.iload 6, 2) := by decide +kernel
theorem dX2_mostMissed_31 : decode cX2_mostMissed 31 = .ok (.iload 4, 2) := by decide +kernel
theorem dX2_mostMissed_33 : decode cX2_mostMissed 33 = .ok (.if_icmp .le 10, 3) := by decide +kernel
theorem dX2_mostMissed_36 : decode cX2_mostMissed 36 = .ok (.iload 6, 2) := by decide +kernel
theorem dX2_mostMissed_38 : decode cX2_mostMissed 38 = .ok (.istore 4, 2) := by decide +kernel
theorem dX2_mostMissed_40 : decode cX2_mostMissed 40 = .ok (.iload 5, 2) := by decide +kernel
theorem dX2_mostMissed_42 : decode cX2_mostMissed 42 = .ok (.istore_n 3, 1) := by decide +kernel
theorem dX2_mostMissed_43 : decode cX2_mostMissed 43 = .ok (.iinc 5 1, 3) := by decide +kernel
theorem dX2_mostMissed_46 : decode cX2_mostMissed 46 = .ok (.goto (-36), 3) := by decide +kernel
theorem dX2_mostMissed_49 : decode cX2_mostMissed 49 = .ok (.iload_n 3, 1) := by decide +kernel
theorem dX2_mostMissed_50 : decode cX2_mostMissed 50 = .ok (.ireturn, 1) := by decide +kernel
theorem dX2_missAt_0 : decode cX2_missAt 0 = .ok (.aload_n 0, 1) := by decide +kernel
theorem dX2_missAt_1 : decode cX2_missAt 1 = .ok (.getfield 20, 3) := by decide +kernel
theorem dX2_missAt_4 : decode cX2_missAt 4 = .ok (.iload_n 2, 1) := by decide +kernel
theorem dX2_missAt_5 : decode cX2_missAt 5 = .ok (.iaload, 1) := by decide +kernel
theorem dX2_missAt_6 : decode cX2_missAt 6 = .ok (.aload_n 0, 1) := by decide +kernel
theorem dX2_missAt_7 : decode cX2_missAt 7 = .ok (.getfield 20, 3) := by decide +kernel
theorem dX2_missAt_10 : decode cX2_missAt 10 = .ok (.iload_n 1, 1) := by decide +kernel
theorem dX2_missAt_11 : decode cX2_missAt 11 = .ok (.iaload, 1) := by decide +kernel
theorem dX2_missAt_12 : decode cX2_missAt 12 = .ok (.isub, 1) := by decide +kernel
theorem dX2_missAt_13 : decode cX2_missAt 13 = .ok (.istore 4, 2) := by decide +kernel
theorem dX2_missAt_15 : decode cX2_missAt 15 = .ok (.aload_n 0, 1) := by decide +kernel
theorem dX2_missAt_16 : decode cX2_missAt 16 = .ok (.iload_n 1, 1) := by decide +kernel
theorem dX2_missAt_17 : decode cX2_missAt 17 = .ok (.iload_n 2, 1) := by decide +kernel
theorem dX2_missAt_18 : decode cX2_missAt 18 = .ok (.iload_n 3, 1) := by decide +kernel
theorem dX2_missAt_19 : decode cX2_missAt 19 = .ok (.invokevirtual 84, 3) := by decide +kernel
theorem dX2_missAt_22 : decode cX2_missAt 22 = .ok (.istore 5, 2) := by decide +kernel
theorem dX2_missAt_24 : decode cX2_missAt 24 = .ok (.iload 5, 2) := by decide +kernel
theorem dX2_missAt_26 : decode cX2_missAt 26 = .ok (.aload_n 0, 1) := by decide +kernel
theorem dX2_missAt_27 : decode cX2_missAt 27 = .ok (.getfield 27, 3) := by decide +kernel
theorem dX2_missAt_30 : decode cX2_missAt 30 = .ok (.iload_n 3, 1) := by decide +kernel
theorem dX2_missAt_31 : decode cX2_missAt 31 = .ok (.iaload, 1) := by decide +kernel
theorem dX2_missAt_32 : decode cX2_missAt 32 = .ok (.iload 4, 2) := by decide +kernel
theorem dX2_missAt_34 : decode cX2_missAt 34 = .ok (.imul, 1) := by decide +kernel
theorem dX2_missAt_35 : decode cX2_missAt 35 = .ok (.if_icmp .ge 16, 3) := by decide +kernel
theorem dX2_missAt_38 : decode cX2_missAt 38 = .ok (.iload 5, 2) := by decide +kernel
theorem dX2_missAt_40 : decode cX2_missAt 40 = .ok (.aload_n 0, 1) := by decide +kernel
theorem dX2_missAt_41 : decode cX2_missAt 41 = .ok (.getfield 27, 3) := by decide +kernel
theorem dX2_missAt_44 : decode cX2_missAt 44 = .ok (.iload_n 3, 1) := by decide +kernel
theorem dX2_missAt_45 : decode cX2_missAt 45 = .ok (.iaload, 1) := by decide +kernel
theorem dX2_missAt_46 : decode cX2_missAt 46 = .ok (.iload 4, 2) := by decide +kernel
theorem dX2_missAt_48 : decode cX2_missAt 48 = .ok (.imul, 1) := by decide +kernel
theorem dX2_missAt_49 : decode cX2_missAt 49 = .ok (.isub, 1) := by decide +kernel
theorem dX2_missAt_50 : decode cX2_missAt 50 = .ok (.ireturn, 1) := by decide +kernel
theorem dX2_missAt_51 : decode cX2_missAt 51 = .ok (.iconst 0, 1) := by decide +kernel
theorem dX2_missAt_52 : decode cX2_missAt 52 = .ok (.iload 5, 2) := by decide +kernel
theorem dX2_missAt_54 : decode cX2_missAt 54 = .ok (.aload_n 0, 1) := by decide +kernel
theorem dX2_missAt_55 : decode cX2_missAt 55 = .ok (.getfield 30, 3) := by decide +kernel
theorem dX2_missAt_58 : decode cX2_missAt 58 = .ok (.iload_n 3, 1) := by decide +kernel
theorem dX2_missAt_59 : decode cX2_missAt 59 = .ok (.iaload, 1) := by decide +kernel
theorem dX2_missAt_60 : decode cX2_missAt 60 = .ok (.iload 4, 2) := by decide +kernel
theorem dX2_missAt_62 : decode cX2_missAt 62 = .ok (.imul, 1) := by decide +kernel
theorem dX2_missAt_63 : decode cX2_missAt 63 = .ok (.isub, 1) := by decide +kernel
theorem dX2_missAt_64 : decode cX2_missAt 64 = .ok (.invokestatic 61, 3) := by decide +kernel
theorem dX2_missAt_67 : decode cX2_missAt 67 = .ok (.ireturn, 1) := by decide +kernel
theorem dX2_evenHour_0 : decode cX2_evenHour 0 = .ok (.aload_n 0, 1) := by decide +kernel
theorem dX2_evenHour_1 : decode cX2_evenHour 1 = .ok (.getfield 20, 3) := by decide +kernel
theorem dX2_evenHour_4 : decode cX2_evenHour 4 = .ok (.iload_n 2, 1) := by decide +kernel
theorem dX2_evenHour_5 : decode cX2_evenHour 5 = .ok (.iaload, 1) := by decide +kernel
theorem dX2_evenHour_6 : decode cX2_evenHour 6 = .ok (.aload_n 0, 1) := by decide +kernel
theorem dX2_evenHour_7 : decode cX2_evenHour 7 = .ok (.getfield 20, 3) := by decide +kernel
theorem dX2_evenHour_10 : decode cX2_evenHour 10 = .ok (.iload_n 1, 1) := by decide +kernel
theorem dX2_evenHour_11 : decode cX2_evenHour 11 = .ok (.iaload, 1) := by decide +kernel
theorem dX2_evenHour_12 : decode cX2_evenHour 12 = .ok (.isub, 1) := by decide +kernel
theorem dX2_evenHour_13 : decode cX2_evenHour 13 = .ok (.istore 4, 2) := by decide +kernel
theorem dX2_evenHour_15 : decode cX2_evenHour 15 = .ok (.aload_n 0, 1) := by decide +kernel
theorem dX2_evenHour_16 : decode cX2_evenHour 16 = .ok (.getfield 20, 3) := by decide +kernel
theorem dX2_evenHour_19 : decode cX2_evenHour 19 = .ok (.iload_n 3, 1) := by decide +kernel
theorem dX2_evenHour_20 : decode cX2_evenHour 20 = .ok (.iaload, 1) := by decide +kernel
theorem dX2_evenHour_21 : decode cX2_evenHour 21 = .ok (.aload_n 0, 1) := by decide +kernel
theorem dX2_evenHour_22 : decode cX2_evenHour 22 = .ok (.getfield 20, 3) := by decide +kernel
theorem dX2_evenHour_25 : decode cX2_evenHour 25 = .ok (.iload_n 1, 1) := by decide +kernel
theorem dX2_evenHour_26 : decode cX2_evenHour 26 = .ok (.iaload, 1) := by decide +kernel
theorem dX2_evenHour_27 : decode cX2_evenHour 27 = .ok (.isub, 1) := by decide +kernel
theorem dX2_evenHour_28 : decode cX2_evenHour 28 = .ok (.istore 5, 2) := by decide +kernel
theorem dX2_evenHour_30 : decode cX2_evenHour 30 = .ok (.aload_n 0, 1) := by decide +kernel
theorem dX2_evenHour_31 : decode cX2_evenHour 31 = .ok (.getfield 33, 3) := by decide +kernel
theorem dX2_evenHour_34 : decode cX2_evenHour 34 = .ok (.iload_n 1, 1) := by decide +kernel
theorem dX2_evenHour_35 : decode cX2_evenHour 35 = .ok (.iaload, 1) := by decide +kernel
theorem dX2_evenHour_36 : decode cX2_evenHour 36 = .ok (.iload 4, 2) := by decide +kernel
theorem dX2_evenHour_38 : decode cX2_evenHour 38 = .ok (.imul, 1) := by decide +kernel
theorem dX2_evenHour_39 : decode cX2_evenHour 39 = .ok (.aload_n 0, 1) := by decide +kernel
theorem dX2_evenHour_40 : decode cX2_evenHour 40 = .ok (.getfield 33, 3) := by decide +kernel
theorem dX2_evenHour_43 : decode cX2_evenHour 43 = .ok (.iload_n 2, 1) := by decide +kernel
theorem dX2_evenHour_44 : decode cX2_evenHour 44 = .ok (.iaload, 1) := by decide +kernel
theorem dX2_evenHour_45 : decode cX2_evenHour 45 = .ok (.aload_n 0, 1) := by decide +kernel
theorem dX2_evenHour_46 : decode cX2_evenHour 46 = .ok (.getfield 33, 3) := by decide +kernel
theorem dX2_evenHour_49 : decode cX2_evenHour 49 = .ok (.iload_n 1, 1) := by decide +kernel
theorem dX2_evenHour_50 : decode cX2_evenHour 50 = .ok (.iaload, 1) := by decide +kernel
theorem dX2_evenHour_51 : decode cX2_evenHour 51 = .ok (.isub, 1) := by decide +kernel
theorem dX2_evenHour_52 : decode cX2_evenHour 52 = .ok (.iload 5, 2) := by decide +kernel
theorem dX2_evenHour_54 : decode cX2_evenHour 54 = .ok (.imul, 1) := by decide +kernel
theorem dX2_evenHour_55 : decode cX2_evenHour 55 = .ok (.iadd, 1) := by decide +kernel
theorem dX2_evenHour_56 : decode cX2_evenHour 56 = .ok (.ireturn, 1) := by decide +kernel
theorem dX2_measureStretches_0 : decode cX2_measureStretches 0 = .ok (.aload_n 0, 1) := by decide +kernel
theorem dX2_measureStretches_1 : decode cX2_measureStretches 1 = .ok (.iconst 0, 1) := by decide +kernel
theorem dX2_measureStretches_2 : decode cX2_measureStretches 2 = .ok (.putfield 48, 3) := by decide +kernel
theorem dX2_measureStretches_5 : decode cX2_measureStretches 5 = .ok (.aload_n 0, 1) := by decide +kernel
theorem dX2_measureStretches_6 : decode cX2_measureStretches 6 = .ok (.iconst 0, 1) := by decide +kernel
theorem dX2_measureStretches_7 : decode cX2_measureStretches 7 = .ok (.putfield 51, 3) := by decide +kernel
theorem dX2_measureStretches_10 : decode cX2_measureStretches 10 = .ok (.iconst 1, 1) := by decide +kernel
theorem dX2_measureStretches_11 : decode cX2_measureStretches 11 = .ok (.istore_n 1, 1) := by decide +kernel
theorem dX2_measureStretches_12 : decode cX2_measureStretches 12 = .ok (.aload_n 0, 1) := by decide +kernel
theorem dX2_measureStretches_13 : decode cX2_measureStretches 13 = .ok (.getfield 11, 3) := by decide +kernel
theorem dX2_measureStretches_16 : decode cX2_measureStretches 16 = .ok (.istore_n 2, 1) := by decide +kernel
theorem dX2_measureStretches_17 : decode cX2_measureStretches 17 = .ok (.iconst 0, 1) := by decide +kernel
theorem dX2_measureStretches_18 : decode cX2_measureStretches 18 = .ok (.istore_n 3, 1) := by decide +kernel
theorem dX2_measureStretches_19 : decode cX2_measureStretches 19 = .ok (.iload_n 3, 1) := by decide +kernel
theorem dX2_measureStretches_20 : decode cX2_measureStretches 20 = .ok (.bipush 7, 2) := by decide +kernel
theorem dX2_measureStretches_22 : decode cX2_measureStretches 22 = .ok (.if_icmp .ge 133, 3) := by decide +kernel
theorem dX2_measureStretches_25 : decode cX2_measureStretches 25 = .ok (.iload_n 2, 1) := by decide +kernel
theorem dX2_measureStretches_26 : decode cX2_measureStretches 26 = .ok (.aload_n 0, 1) := by decide +kernel
theorem dX2_measureStretches_27 : decode cX2_measureStretches 27 = .ok (.getfield 17, 3) := by decide +kernel
theorem dX2_measureStretches_30 : decode cX2_measureStretches 30 = .ok (.if_icmp .ge 125, 3) := by decide +kernel
theorem dX2_measureStretches_33 : decode cX2_measureStretches 33 = .ok (.aload_n 0, 1) := by decide +kernel
theorem dX2_measureStretches_34 : decode cX2_measureStretches 34 = .ok (.iload_n 2, 1) := by decide +kernel
theorem dX2_measureStretches_35 : decode cX2_measureStretches 35 = .ok (.invokevirtual 126, 3) := by decide +kernel
theorem dX2_measureStretches_38 : decode cX2_measureStretches 38 = .ok (.istore 4, 2) := by decide +kernel
theorem dX2_measureStretches_40 : decode cX2_measureStretches 40 = .ok (.iload_n 2, 1) := by decide +kernel
theorem dX2_measureStretches_41 : decode cX2_measureStretches 41 = .ok (.istore 5, 2) := by decide +kernel
theorem dX2_measureStretches_43 : decode cX2_measureStretches 43 = .ok (.iload 5, 2) := by decide +kernel
theorem dX2_measureStretches_45 : decode cX2_measureStretches 45 = .ok (.iload 4, 2) := by decide +kernel
theorem dX2_measureStretches_47 : decode cX2_measureStretches 47 = .ok (.if_icmp .ge 26, 3) := by decide +kernel
theorem dX2_measureStretches_50 : decode cX2_measureStretches 50 = .ok (.aload_n 0, 1) := by decide +kernel
theorem dX2_measureStretches_51 : decode cX2_measureStretches 51 = .ok (.getfield 39, 3) := by decide +kernel
theorem dX2_measureStretches_54 : decode cX2_measureStretches 54 = .ok (.iload 5, 2) := by decide +kernel
theorem dX2_measureStretches_56 : decode cX2_measureStretches 56 = .ok (.iload_n 2, 1) := by decide +kernel
theorem dX2_measureStretches_57 : decode cX2_measureStretches 57 = .ok (.iastore, 1) := by decide +kernel
theorem dX2_measureStretches_58 : decode cX2_measureStretches 58 = .ok (.aload_n 0, 1) := by decide +kernel
theorem dX2_measureStretches_59 : decode cX2_measureStretches 59 = .ok (.getfield 42, 3) := by decide +kernel
theorem dX2_measureStretches_62 : decode cX2_measureStretches 62 = .ok (.iload 5, 2) := by decide +kernel
theorem dX2_measureStretches_64 : decode cX2_measureStretches 64 = .ok (.iload 4, 2) := by decide +kernel
theorem dX2_measureStretches_66 : decode cX2_measureStretches 66 = .ok (.iastore, 1) := by decide +kernel
theorem dX2_measureStretches_67 : decode cX2_measureStretches 67 = .ok (.iinc 5 1, 3) := by decide +kernel
theorem dX2_measureStretches_70 : decode cX2_measureStretches 70 = .ok (.goto (-27), 3) := by decide +kernel
theorem dX2_measureStretches_73 : decode cX2_measureStretches 73 = .ok (.aload_n 0, 1) := by decide +kernel
theorem dX2_measureStretches_74 : decode cX2_measureStretches 74 = .ok (.getfield 33, 3) := by decide +kernel
theorem dX2_measureStretches_77 : decode cX2_measureStretches 77 = .ok (.iload 4, 2) := by decide +kernel
theorem dX2_measureStretches_79 : decode cX2_measureStretches 79 = .ok (.iaload, 1) := by decide +kernel
theorem dX2_measureStretches_80 : decode cX2_measureStretches 80 = .ok (.aload_n 0, 1) := by decide +kernel
theorem dX2_measureStretches_81 : decode cX2_measureStretches 81 = .ok (.getfield 33, 3) := by decide +kernel
theorem dX2_measureStretches_84 : decode cX2_measureStretches 84 = .ok (.iload_n 2, 1) := by decide +kernel
theorem dX2_measureStretches_85 : decode cX2_measureStretches 85 = .ok (.iaload, 1) := by decide +kernel
theorem dX2_measureStretches_86 : decode cX2_measureStretches 86 = .ok (.isub, 1) := by decide +kernel
theorem dX2_measureStretches_87 : decode cX2_measureStretches 87 = .ok (.istore 5, 2) := by decide +kernel
theorem dX2_measureStretches_89 : decode cX2_measureStretches 89 = .ok (.iload 5, 2) := by decide +kernel
theorem dX2_measureStretches_91 : decode cX2_measureStretches 91 = .ok (.ifCond .le 43, 3) := by decide +kernel
theorem dX2_measureStretches_94 : decode cX2_measureStretches 94 = .ok (.aload_n 0, 1) := by decide +kernel
theorem dX2_measureStretches_95 : decode cX2_measureStretches 95 = .ok (.getfield 20, 3) := by decide +kernel
theorem dX2_measureStretches_98 : decode cX2_measureStretches 98 = .ok (.iload 4, 2) := by decide +kernel
theorem dX2_measureStretches_100 : decode cX2_measureStretches 100 = .ok (.iaload, 1) := by decide +kernel
theorem dX2_measureStretches_101 : decode cX2_measureStretches 101 = .ok (.aload_n 0, 1) := by decide +kernel
theorem dX2_measureStretches_102 : decode cX2_measureStretches 102 = .ok (.getfield 20, 3) := by decide +kernel
theorem dX2_measureStretches_105 : decode cX2_measureStretches 105 = .ok (.iload_n 2, 1) := by decide +kernel
theorem dX2_measureStretches_106 : decode cX2_measureStretches 106 = .ok (.iaload, 1) := by decide +kernel
theorem dX2_measureStretches_107 : decode cX2_measureStretches 107 = .ok (.isub, 1) := by decide +kernel
theorem dX2_measureStretches_108 : decode cX2_measureStretches 108 = .ok (.istore 6, 2) := by decide +kernel
theorem dX2_measureStretches_110 : decode cX2_measureStretches 110 = .ok (.aload_n 0, 1) := by decide +kernel
theorem dX2_measureStretches_111 : decode cX2_measureStretches 111 = .ok (.aload_n 0, 1) := by decide +kernel
theorem dX2_measureStretches_112 : decode cX2_measureStretches 112 = .ok (.getfield 51, 3) := by decide +kernel
theorem dX2_measureStretches_115 : decode cX2_measureStretches 115 = .ok (.iload 6, 2) := by decide +kernel
theorem dX2_measureStretches_117 : decode cX2_measureStretches 117 = .ok (.iload 5, 2) := by decide +kernel
theorem dX2_measureStretches_119 : decode cX2_measureStretches 119 = .ok (.iadd, 1) := by decide +kernel
theorem dX2_measureStretches_120 : decode cX2_measureStretches 120 = .ok (.iconst 1, 1) := by decide +kernel
theorem dX2_measureStretches_121 : decode cX2_measureStretches 121 = .ok (.isub, 1) := by decide +kernel
theorem dX2_measureStretches_122 : decode cX2_measureStretches 122 = .ok (.iload 5, 2) := by decide +kernel
theorem dX2_measureStretches_124 : decode cX2_measureStretches 124 = .ok (.idiv, 1) := by decide +kernel
theorem dX2_measureStretches_125 : decode cX2_measureStretches 125 = .ok (.invokestatic 61, 3) := by decide +kernel
theorem dX2_measureStretches_128 : decode cX2_measureStretches 128 = .ok (.putfield 51, 3) := by decide +kernel
theorem dX2_measureStretches_131 : decode cX2_measureStretches 131 = .ok (.goto 5, 3) := by decide +kernel
theorem dX2_measureStretches_134 : decode cX2_measureStretches 134 = .ok (.iconst 0, 1) := by decide +kernel
theorem dX2_measureStretches_135 : decode cX2_measureStretches 135 = .ok (.istore_n 1, 1) := by decide +kernel
theorem dX2_measureStretches_136 : decode cX2_measureStretches 136 = .ok (.aload_n 0, 1) := by decide +kernel
theorem dX2_measureStretches_137 : decode cX2_measureStretches 137 = .ok (.dup, 1) := by decide +kernel
theorem dX2_measureStretches_138 : decode cX2_measureStretches 138 = .ok (.getfield 48, 3) := by decide +kernel
theorem dX2_measureStretches_141 : decode cX2_measureStretches 141 = .ok (.iconst 1, 1) := by decide +kernel
theorem dX2_measureStretches_142 : decode cX2_measureStretches 142 = .ok (.iadd, 1) := by decide +kernel
theorem dX2_measureStretches_143 : decode cX2_measureStretches 143 = .ok (.putfield 48, 3) := by decide +kernel
theorem dX2_measureStretches_146 : decode cX2_measureStretches 146 = .ok (.iload 4, 2) := by decide +kernel
theorem dX2_measureStretches_148 : decode cX2_measureStretches 148 = .ok (.istore_n 2, 1) := by decide +kernel
theorem dX2_measureStretches_149 : decode cX2_measureStretches 149 = .ok (.iinc 3 1, 3) := by decide +kernel
theorem dX2_measureStretches_152 : decode cX2_measureStretches 152 = .ok (.goto (-133), 3) := by decide +kernel
theorem dX2_measureStretches_155 : decode cX2_measureStretches 155 = .ok (.iload_n 1, 1) := by decide +kernel
theorem dX2_measureStretches_156 : decode cX2_measureStretches 156 = .ok (.ifCond .ne 8, 3) := by decide +kernel
theorem dX2_measureStretches_159 : decode cX2_measureStretches 159 = .ok (.aload_n 0, 1) := by decide +kernel
theorem dX2_measureStretches_160 : decode cX2_measureStretches 160 = .ok (.iconst 0, 1) := by decide +kernel
theorem dX2_measureStretches_161 : decode cX2_measureStretches 161 = .ok (.putfield 51, 3) := by decide +kernel
theorem dX2_measureStretches_164 : decode cX2_measureStretches 164 = .ok (.return_, 1) := by decide +kernel
theorem dX3_init_0 : decode cX3_init 0 = .ok (.aload_n 0, 1) := by decide +kernel
theorem dX3_init_1 : decode cX3_init 1 = .ok (.invokespecial 1, 3) := by decide +kernel
theorem dX3_init_4 : decode cX3_init 4 = .ok (.aload_n 0, 1) := by decide +kernel
theorem dX3_init_5 : decode cX3_init 5 = .ok (.bipush 9, 2) := by decide +kernel
theorem dX3_init_7 : decode cX3_init 7 = .ok (.newarray .int, 2) := by decide +kernel
theorem dX3_init_9 : decode cX3_init 9 = .ok (.putfield 9, 3) := by decide +kernel
theorem dX3_init_12 : decode cX3_init 12 = .ok (.aload_n 0, 1) := by decide +kernel
theorem dX3_init_13 : decode cX3_init 13 = .ok (.bipush 24, 2) := by decide +kernel
theorem dX3_init_15 : decode cX3_init 15 = .ok (.newarray .int, 2) := by decide +kernel
theorem dX3_init_17 : decode cX3_init 17 = .ok (.putfield 13, 3) := by decide +kernel
theorem dX3_init_20 : decode cX3_init 20 = .ok (.aload_n 0, 1) := by decide +kernel
theorem dX3_init_21 : decode cX3_init 21 = .ok (.invokevirtual 16, 3) := by decide +kernel
theorem dX3_init_24 : decode cX3_init 24 = .ok (.return_, 1) := by decide +kernel
theorem dX3_becomeNew_0 : decode cX3_becomeNew 0 = .ok (.getstatic 19, 3) := by decide +kernel
theorem dX3_becomeNew_3 : decode cX3_becomeNew 3 = .ok (.iconst 0, 1) := by decide +kernel
theorem dX3_becomeNew_4 : decode cX3_becomeNew 4 = .ok (.aload_n 0, 1) := by decide +kernel
theorem dX3_becomeNew_5 : decode cX3_becomeNew 5 = .ok (.getfield 9, 3) := by decide +kernel
theorem dX3_becomeNew_8 : decode cX3_becomeNew 8 = .ok (.iconst 0, 1) := by decide +kernel
theorem dX3_becomeNew_9 : decode cX3_becomeNew 9 = .ok (.bipush 9, 2) := by decide +kernel
theorem dX3_becomeNew_11 : decode cX3_becomeNew 11 = .ok (.invokestatic 22, 3) := by decide +kernel
theorem dX3_becomeNew_14 : decode cX3_becomeNew 14 = .ok (.aload_n 0, 1) := by decide +kernel
theorem dX3_becomeNew_15 : decode cX3_becomeNew 15 = .ok (.getfield 13, 3) := by decide +kernel
theorem dX3_becomeNew_18 : decode cX3_becomeNew 18 = .ok (.iconst 0, 1) := by decide +kernel
theorem dX3_becomeNew_19 : decode cX3_becomeNew 19 = .ok (.invokestatic 28, 3) := by decide +kernel
theorem dX3_becomeNew_22 : decode cX3_becomeNew 22 = .ok (.return_, 1) := by decide +kernel
theorem dX3_becomeLike_0 : decode cX3_becomeLike 0 = .ok (.aload_n 1, 1) := by decide +kernel
theorem dX3_becomeLike_1 : decode cX3_becomeLike 1 = .ok (.getfield 9, 3) := by decide +kernel
theorem dX3_becomeLike_4 : decode cX3_becomeLike 4 = .ok (.iconst 0, 1) := by decide +kernel
theorem dX3_becomeLike_5 : decode cX3_becomeLike 5 = .ok (.aload_n 0, 1) := by decide +kernel
theorem dX3_becomeLike_6 : decode cX3_becomeLike 6 = .ok (.getfield 9, 3) := by decide +kernel
theorem dX3_becomeLike_9 : decode cX3_becomeLike 9 = .ok (.iconst 0, 1) := by decide +kernel
theorem dX3_becomeLike_10 : decode cX3_becomeLike 10 = .ok (.bipush 9, 2) := by decide +kernel
theorem dX3_becomeLike_12 : decode cX3_becomeLike 12 = .ok (.invokestatic 22, 3) := by decide +kernel
theorem dX3_becomeLike_15 : decode cX3_becomeLike 15 = .ok (.aload_n 1, 1) := by decide +kernel
theorem dX3_becomeLike_16 : decode cX3_becomeLike 16 = .ok (.getfield 13, 3) := by decide +kernel
theorem dX3_becomeLike_19 : decode cX3_becomeLike 19 = .ok (.iconst 0, 1) := by decide +kernel
theorem dX3_becomeLike_20 : decode cX3_becomeLike 20 = .ok (.aload_n 0, 1) := by decide +kernel
theorem dX3_becomeLike_21 : decode cX3_becomeLike 21 = .ok (.getfield 13, 3) := by decide +kernel
theorem dX3_becomeLike_24 : decode cX3_becomeLike 24 = .ok (.iconst 0, 1) := by decide +kernel
theorem dX3_becomeLike_25 : decode cX3_becomeLike 25 = .ok (.bipush 24, 2) := by decide +kernel
theorem dX3_becomeLike_27 : decode cX3_becomeLike 27 = .ok (.invokestatic 22, 3) := by decide +kernel
theorem dX3_becomeLike_30 : decode cX3_becomeLike 30 = .ok (.return_, 1) := by decide +kernel
theorem dX3_trait_0 : decode cX3_trait 0 = .ok (.iload_n 1, 1) := by decide +kernel
theorem dX3_trait_1 : decode cX3_trait 1 = .ok (.ifCond .lt 18, 3) := by decide +kernel
theorem dX3_trait_4 : decode cX3_trait 4 = .ok (.iload_n 1, 1) := by decide +kernel
theorem dX3_trait_5 : decode cX3_trait 5 = .ok (.bipush 9, 2) := by decide +kernel
theorem dX3_trait_7 : decode cX3_trait 7 = .ok (.if_icmp .ge 12, 3) := by decide +kernel
theorem dX3_trait_10 : decode cX3_trait 10 = .ok (.aload_n 0, 1) := by decide +kernel
theorem dX3_trait_11 : decode cX3_trait 11 = .ok (.getfield 9, 3) := by decide +kernel
theorem dX3_trait_14 : decode cX3_trait 14 = .ok (.iload_n 1, 1) := by decide +kernel
theorem dX3_trait_15 : decode cX3_trait 15 = .ok (.iaload, 1) := by decide +kernel
theorem dX3_trait_16 : decode cX3_trait 16 = .ok (.goto 4, 3) := by decide +kernel
theorem dX3_trait_19 : decode cX3_trait 19 = .ok (.iconst 0, 1) := by decide +kernel
theorem dX3_trait_20 : decode cX3_trait 20 = .ok (.ireturn, 1) := by decide +kernel
theorem dX3_setTrait_0 : decode cX3_setTrait 0 = .ok (.iload_n 1, 1) := by decide +kernel
theorem dX3_setTrait_1 : decode cX3_setTrait 1 = .ok (.ifCond .lt 16, 3) := by decide +kernel
theorem dX3_setTrait_4 : decode cX3_setTrait 4 = .ok (.iload_n 1, 1) := by decide +kernel
theorem dX3_setTrait_5 : decode cX3_setTrait 5 = .ok (.bipush 9, 2) := by decide +kernel
theorem dX3_setTrait_7 : decode cX3_setTrait 7 = .ok (.if_icmp .ge 10, 3) := by decide +kernel
theorem dX3_setTrait_10 : decode cX3_setTrait 10 = .ok (.aload_n 0, 1) := by decide +kernel
theorem dX3_setTrait_11 : decode cX3_setTrait 11 = .ok (.getfield 9, 3) := by decide +kernel
theorem dX3_setTrait_14 : decode cX3_setTrait 14 = .ok (.iload_n 1, 1) := by decide +kernel
theorem dX3_setTrait_15 : decode cX3_setTrait 15 = .ok (.iload_n 2, 1) := by decide +kernel
theorem dX3_setTrait_16 : decode cX3_setTrait 16 = .ok (.iastore, 1) := by decide +kernel
theorem dX3_setTrait_17 : decode cX3_setTrait 17 = .ok (.return_, 1) := by decide +kernel
theorem dX3_ofLeg_0 : decode cX3_ofLeg 0 = .ok (.iload_n 1, 1) := by decide +kernel
theorem dX3_ofLeg_1 : decode cX3_ofLeg 1 = .ok (.iload_n 2, 1) := by decide +kernel
theorem dX3_ofLeg_2 : decode cX3_ofLeg 2 = .ok (.invokestatic 34, 3) := by decide +kernel
theorem dX3_ofLeg_5 : decode cX3_ofLeg 5 = .ok (.istore_n 3, 1) := by decide +kernel
theorem dX3_ofLeg_6 : decode cX3_ofLeg 6 = .ok (.iload_n 3, 1) := by decide +kernel
theorem dX3_ofLeg_7 : decode cX3_ofLeg 7 = .ok (.ifCond .ge 7, 3) := by decide +kernel
theorem dX3_ofLeg_10 : decode cX3_ofLeg 10 = .ok (.iconst 0, 1) := by decide +kernel
theorem dX3_ofLeg_11 : decode cX3_ofLeg 11 = .ok (.goto 9, 3) := by decide +kernel
theorem dX3_ofLeg_14 : decode cX3_ofLeg 14 = .ok (.aload_n 0, 1) := by decide +kernel
theorem dX3_ofLeg_15 : decode cX3_ofLeg 15 = .ok (.getfield 13, 3) := by decide +kernel
theorem dX3_ofLeg_18 : decode cX3_ofLeg 18 = .ok (.iload_n 3, 1) := by decide +kernel
theorem dX3_ofLeg_19 : decode cX3_ofLeg 19 = .ok (.iaload, 1) := by decide +kernel
theorem dX3_ofLeg_20 : decode cX3_ofLeg 20 = .ok (.ireturn, 1) := by decide +kernel
theorem dX3_setOfLeg_0 : decode cX3_setOfLeg 0 = .ok (.iload_n 1, 1) := by decide +kernel
theorem dX3_setOfLeg_1 : decode cX3_setOfLeg 1 = .ok (.iload_n 2, 1) := by decide +kernel
theorem dX3_setOfLeg_2 : decode cX3_setOfLeg 2 = .ok (.invokestatic 34, 3) := by decide +kernel
theorem dX3_setOfLeg_5 : decode cX3_setOfLeg 5 = .ok (.istore 4, 2) := by decide +kernel
theorem dX3_setOfLeg_7 : decode cX3_setOfLeg 7 = .ok (.iload 4, 2) := by decide +kernel
theorem dX3_setOfLeg_9 : decode cX3_setOfLeg 9 = .ok (.ifCond .lt 11, 3) := by decide +kernel
theorem dX3_setOfLeg_12 : decode cX3_setOfLeg 12 = .ok (.aload_n 0, 1) := by decide +kernel
theorem dX3_setOfLeg_13 : decode cX3_setOfLeg 13 = .ok (.getfield 13, 3) := by decide +kernel
theorem dX3_setOfLeg_16 : decode cX3_setOfLeg 16 = .ok (.iload 4, 2) := by decide +kernel
theorem dX3_setOfLeg_18 : decode cX3_setOfLeg 18 = .ok (.iload_n 3, 1) := by decide +kernel
theorem dX3_setOfLeg_19 : decode cX3_setOfLeg 19 = .ok (.iastore, 1) := by decide +kernel
theorem dX3_setOfLeg_20 : decode cX3_setOfLeg 20 = .ok (.return_, 1) := by decide +kernel
theorem dX3_isPortAhead_0 : decode cX3_isPortAhead 0 = .ok (.iload_n 1, 1) := by decide +kernel
theorem dX3_isPortAhead_1 : decode cX3_isPortAhead 1 = .ok (.aload_n 0, 1) := by decide +kernel
theorem dX3_isPortAhead_2 : decode cX3_isPortAhead 2 = .ok (.getfield 9, 3) := by decide +kernel
theorem dX3_isPortAhead_5 : decode cX3_isPortAhead 5 = .ok (.iconst 2, 1) := by decide +kernel
theorem dX3_isPortAhead_6 : decode cX3_isPortAhead 6 = .ok (.iaload, 1) := by decide +kernel
theorem dX3_isPortAhead_7 : decode cX3_isPortAhead 7 = .ok (.if_icmp .le 17, 3) := by decide +kernel
theorem dX3_isPortAhead_10 : decode cX3_isPortAhead 10 = .ok (.iload_n 1, 1) := by decide +kernel
theorem dX3_isPortAhead_11 : decode cX3_isPortAhead 11 = .ok (.aload_n 0, 1) := by decide +kernel
theorem dX3_isPortAhead_12 : decode cX3_isPortAhead 12 = .ok (.getfield 9, 3) := by decide +kernel
theorem dX3_isPortAhead_15 : decode cX3_isPortAhead 15 = .ok (.iconst 0, 1) := by decide +kernel
theorem dX3_isPortAhead_16 : decode cX3_isPortAhead 16 = .ok (.iaload, 1) := by decide +kernel
theorem dX3_isPortAhead_17 : decode cX3_isPortAhead 17 = .ok (.if_icmp .gt 7, 3) := by decide +kernel
theorem dX3_isPortAhead_20 : decode cX3_isPortAhead 20 = .ok (.iconst 1, 1) := by decide +kernel
theorem dX3_isPortAhead_21 : decode cX3_isPortAhead 21 = .ok (.goto 4, 3) := by decide +kernel
theorem dX3_isPortAhead_24 : decode cX3_isPortAhead 24 = .ok (.iconst 0, 1) := by decide +kernel
theorem dX3_isPortAhead_25 : decode cX3_isPortAhead 25 = .ok (.ireturn, 1) := by decide +kernel
theorem dX3_isLegAhead_0 : decode cX3_isLegAhead 0 = .ok (.iload_n 1, 1) := by decide +kernel
theorem dX3_isLegAhead_1 : decode cX3_isLegAhead 1 = .ok (.aload_n 0, 1) := by decide +kernel
theorem dX3_isLegAhead_2 : decode cX3_isLegAhead 2 = .ok (.getfield 9, 3) := by decide +kernel
theorem dX3_isLegAhead_5 : decode cX3_isLegAhead 5 = .ok (.iconst 2, 1) := by decide +kernel
theorem dX3_isLegAhead_6 : decode cX3_isLegAhead 6 = .ok (.iaload, 1) := by decide +kernel
theorem dX3_isLegAhead_7 : decode cX3_isLegAhead 7 = .ok (.if_icmp .lt 17, 3) := by decide +kernel
theorem dX3_isLegAhead_10 : decode cX3_isLegAhead 10 = .ok (.iload_n 1, 1) := by decide +kernel
theorem dX3_isLegAhead_11 : decode cX3_isLegAhead 11 = .ok (.aload_n 0, 1) := by decide +kernel
theorem dX3_isLegAhead_12 : decode cX3_isLegAhead 12 = .ok (.getfield 9, 3) := by decide +kernel
theorem dX3_isLegAhead_15 : decode cX3_isLegAhead 15 = .ok (.iconst 0, 1) := by decide +kernel
theorem dX3_isLegAhead_16 : decode cX3_isLegAhead 16 = .ok (.iaload, 1) := by decide +kernel
theorem dX3_isLegAhead_17 : decode cX3_isLegAhead 17 = .ok (.if_icmp .ge 7, 3) := by decide +kernel
theorem dX3_isLegAhead_20 : decode cX3_isLegAhead 20 = .ok (.iconst 1, 1) := by decide +kernel
theorem dX3_isLegAhead_21 : decode cX3_isLegAhead 21 = .ok (.goto 4, 3) := by decide +kernel
theorem dX3_isLegAhead_24 : decode cX3_isLegAhead 24 = .ok (.iconst 0, 1) := by decide +kernel
theorem dX3_isLegAhead_25 : decode cX3_isLegAhead 25 = .ok (.ireturn, 1) := by decide +kernel
theorem dX3_placeOf_0 : decode cX3_placeOf 0 = .ok (.iload_n 0, 1) := by decide +kernel
theorem dX3_placeOf_1 : decode cX3_placeOf 1 = .ok (.ifCond .lt 18, 3) := by decide +kernel
theorem dX3_placeOf_4 : decode cX3_placeOf 4 = .ok (.iload_n 0, 1) := by decide +kernel
theorem dX3_placeOf_5 : decode cX3_placeOf 5 = .ok (.bipush 6, 2) := by decide +kernel
theorem dX3_placeOf_7 : decode cX3_placeOf 7 = .ok (.if_icmp .ge 12, 3) := by decide +kernel
theorem dX3_placeOf_10 : decode cX3_placeOf 10 = .ok (.iload_n 1, 1) := by decide +kernel
theorem dX3_placeOf_11 : decode cX3_placeOf 11 = .ok (.ifCond .lt 8, 3) := by decide +kernel
theorem dX3_placeOf_14 : decode cX3_placeOf 14 = .ok (.iload_n 1, 1) := by decide +kernel
theorem dX3_placeOf_15 : decode cX3_placeOf 15 = .ok (.iconst 4, 1) := by decide +kernel
theorem dX3_placeOf_16 : decode cX3_placeOf 16 = .ok (.if_icmp .lt 5, 3) := by decide +kernel
theorem dX3_placeOf_19 : decode cX3_placeOf 19 = .ok (.iconst (-1), 1) := by decide +kernel
theorem dX3_placeOf_20 : decode cX3_placeOf 20 = .ok (.ireturn, 1) := by decide +kernel
theorem dX3_placeOf_21 : decode cX3_placeOf 21 = .ok (.iload_n 0, 1) := by decide +kernel
theorem dX3_placeOf_22 : decode cX3_placeOf 22 = .ok (.iconst 4, 1) := by decide +kernel
theorem dX3_placeOf_23 : decode cX3_placeOf 23 = .ok (.imul, 1) := by decide +kernel
theorem dX3_placeOf_24 : decode cX3_placeOf 24 = .ok (.iload_n 1, 1) := by decide +kernel
theorem dX3_placeOf_25 : decode cX3_placeOf 25 = .ok (.iadd, 1) := by decide +kernel
theorem dX3_placeOf_26 : decode cX3_placeOf 26 = .ok (.ireturn, 1) := by decide +kernel
theorem dX4_init_0 : decode cX4_init 0 = .ok (.aload_n 0, 1) := by decide +kernel
theorem dX4_init_1 : decode cX4_init 1 = .ok (.invokespecial 3, 3) := by decide +kernel
theorem dX4_init_4 : decode cX4_init 4 = .ok (.aload_n 0, 1) := by decide +kernel
theorem dX4_init_5 : decode cX4_init 5 = .ok (.sipush 150, 3) := by decide +kernel
theorem dX4_init_8 : decode cX4_init 8 = .ok (.newarray .int, 2) := by decide +kernel
theorem dX4_init_10 : decode cX4_init 10 = .ok (.putfield 9, 3) := by decide +kernel
theorem dX4_init_13 : decode cX4_init 13 = .ok (.aload_n 0, 1) := by decide +kernel
theorem dX4_init_14 : decode cX4_init 14 = .ok (.iconst 0, 1) := by decide +kernel
theorem dX4_init_15 : decode cX4_init 15 = .ok (.putfield 13, 3) := by decide +kernel
theorem dX4_init_18 : decode cX4_init 18 = .ok (.aload_n 0, 1) := by decide +kernel
theorem dX4_init_19 : decode cX4_init 19 = .ok (.iconst 0, 1) := by decide +kernel
theorem dX4_init_20 : decode cX4_init 20 = .ok (.putfield 17, 3) := by decide +kernel
theorem dX4_init_23 : decode cX4_init 23 = .ok (.aload_n 0, 1) := by decide +kernel
theorem dX4_init_24 : decode cX4_init 24 = .ok (.iconst 0, 1) := by decide +kernel
theorem dX4_init_25 : decode cX4_init 25 = .ok (.putfield 20, 3) := by decide +kernel
theorem dX4_init_28 : decode cX4_init 28 = .ok (.aload_n 0, 1) := by decide +kernel
theorem dX4_init_29 : decode cX4_init 29 = .ok (.iconst 4, 1) := by decide +kernel
theorem dX4_init_30 : decode cX4_init 30 = .ok (.newarray .int, 2) := by decide +kernel
theorem dX4_init_32 : decode cX4_init 32 = .ok (.putfield 23, 3) := by decide +kernel
theorem dX4_init_35 : decode cX4_init 35 = .ok (.aload_n 0, 1) := by decide +kernel
theorem dX4_init_36 : decode cX4_init 36 = .ok (.iconst 0, 1) := by decide +kernel
theorem dX4_init_37 : decode cX4_init 37 = .ok (.putfield 26, 3) := by decide +kernel
theorem dX4_init_40 : decode cX4_init 40 = .ok (.aload_n 0, 1) := by decide +kernel
theorem dX4_init_41 : decode cX4_init 41 = .ok (.iconst 0, 1) := by decide +kernel
theorem dX4_init_42 : decode cX4_init 42 = .ok (.putfield 29, 3) := by decide +kernel
theorem dX4_init_45 : decode cX4_init 45 = .ok (.aload_n 0, 1) := by decide +kernel
theorem dX4_init_46 : decode cX4_init 46 = .ok (.iconst 0, 1) := by decide +kernel
theorem dX4_init_47 : decode cX4_init 47 = .ok (.putfield 33, 3) := by decide +kernel
theorem dX4_init_50 : decode cX4_init 50 = .ok (.return_, 1) := by decide +kernel
theorem dX4_length_0 : decode cX4_length 0 = .ok (.aload_n 0, 1) := by decide +kernel
theorem dX4_length_1 : decode cX4_length 1 = .ok (.getfield 13, 3) := by decide +kernel
theorem dX4_length_4 : decode cX4_length 4 = .ok (.ireturn, 1) := by decide +kernel
theorem dX4_takesLetter_0 : decode cX4_takesLetter 0 = .ok (.aload_n 0, 1) := by decide +kernel
theorem dX4_takesLetter_1 : decode cX4_takesLetter 1 = .ok (.getfield 13, 3) := by decide +kernel
theorem dX4_takesLetter_4 : decode cX4_takesLetter 4 = .ok (.sipush 150, 3) := by decide +kernel
theorem dX4_takesLetter_7 : decode cX4_takesLetter 7 = .ok (.if_icmp .lt 5, 3) := by decide +kernel
theorem dX4_takesLetter_10 : decode cX4_takesLetter 10 = .ok (.iconst 0, 1) := by decide +kernel
theorem dX4_takesLetter_11 : decode cX4_takesLetter 11 = .ok (.ireturn, 1) := by decide +kernel
theorem dX4_takesLetter_12 : decode cX4_takesLetter 12 = .ok (.aload_n 0, 1) := by decide +kernel
theorem dX4_takesLetter_13 : decode cX4_takesLetter 13 = .ok (.getfield 9, 3) := by decide +kernel
theorem dX4_takesLetter_16 : decode cX4_takesLetter 16 = .ok (.aload_n 0, 1) := by decide +kernel
theorem dX4_takesLetter_17 : decode cX4_takesLetter 17 = .ok (.getfield 13, 3) := by decide +kernel
theorem dX4_takesLetter_20 : decode cX4_takesLetter 20 = .ok (.iload_n 1, 1) := by decide +kernel
theorem dX4_takesLetter_21 : decode cX4_takesLetter 21 = .ok (.iastore, 1) := by decide +kernel
theorem dX4_takesLetter_22 : decode cX4_takesLetter 22 = .ok (.aload_n 0, 1) := by decide +kernel
theorem dX4_takesLetter_23 : decode cX4_takesLetter 23 = .ok (.dup, 1) := by decide +kernel
theorem dX4_takesLetter_24 : decode cX4_takesLetter 24 = .ok (.getfield 13, 3) := by decide +kernel
theorem dX4_takesLetter_27 : decode cX4_takesLetter 27 = .ok (.iconst 1, 1) := by decide +kernel
theorem dX4_takesLetter_28 : decode cX4_takesLetter 28 = .ok (.iadd, 1) := by decide +kernel
theorem dX4_takesLetter_29 : decode cX4_takesLetter 29 = .ok (.putfield 13, 3) := by decide +kernel
theorem dX4_takesLetter_32 : decode cX4_takesLetter 32 = .ok (.iconst 1, 1) := by decide +kernel
theorem dX4_takesLetter_33 : decode cX4_takesLetter 33 = .ok (.ireturn, 1) := by decide +kernel
theorem dX4_becomeEmpty_0 : decode cX4_becomeEmpty 0 = .ok (.aload_n 0, 1) := by decide +kernel
theorem dX4_becomeEmpty_1 : decode cX4_becomeEmpty 1 = .ok (.iconst 0, 1) := by decide +kernel
theorem dX4_becomeEmpty_2 : decode cX4_becomeEmpty 2 = .ok (.putfield 13, 3) := by decide +kernel
theorem dX4_becomeEmpty_5 : decode cX4_becomeEmpty 5 = .ok (.return_, 1) := by decide +kernel
theorem dX4_tellShip_0 : decode cX4_tellShip 0 = .ok (.aload_n 1, 1) := by decide +kernel
theorem dX4_tellShip_1 : decode cX4_tellShip 1 = .ok (.invokevirtual 36, 3) := by decide +kernel
theorem dX4_tellShip_4 : decode cX4_tellShip 4 = .ok (.aload_n 0, 1) := by decide +kernel
theorem dX4_tellShip_5 : decode cX4_tellShip 5 = .ok (.iconst 0, 1) := by decide +kernel
theorem dX4_tellShip_6 : decode cX4_tellShip 6 = .ok (.putfield 17, 3) := by decide +kernel
theorem dX4_tellShip_9 : decode cX4_tellShip 9 = .ok (.aload_n 0, 1) := by decide +kernel
theorem dX4_tellShip_10 : decode cX4_tellShip 10 = .ok (.iconst 0, 1) := by decide +kernel
theorem dX4_tellShip_11 : decode cX4_tellShip 11 = .ok (.putfield 26, 3) := by decide +kernel
theorem dX4_tellShip_14 : decode cX4_tellShip 14 = .ok (.aload_n 0, 1) := by decide +kernel
theorem dX4_tellShip_15 : decode cX4_tellShip 15 = .ok (.iconst 0, 1) := by decide +kernel
theorem dX4_tellShip_16 : decode cX4_tellShip 16 = .ok (.putfield 29, 3) := by decide +kernel
theorem dX4_tellShip_19 : decode cX4_tellShip 19 = .ok (.aload_n 0, 1) := by decide +kernel
theorem dX4_tellShip_20 : decode cX4_tellShip 20 = .ok (.iconst 0, 1) := by decide +kernel
theorem dX4_tellShip_21 : decode cX4_tellShip 21 = .ok (.putfield 33, 3) := by decide +kernel
theorem dX4_tellShip_24 : decode cX4_tellShip 24 = .ok (.iconst 0, 1) := by decide +kernel
theorem dX4_tellShip_25 : decode cX4_tellShip 25 = .ok (.istore_n 2, 1) := by decide +kernel
theorem dX4_tellShip_26 : decode cX4_tellShip 26 = .ok (.iconst 0, 1) := by decide +kernel
theorem dX4_tellShip_27 : decode cX4_tellShip 27 = .ok (.istore_n 3, 1) := by decide +kernel
theorem dX4_tellShip_28 : decode cX4_tellShip 28 = .ok (.iload_n 3, 1) := by decide +kernel
theorem dX4_tellShip_29 : decode cX4_tellShip 29 = .ok (.sipush 150, 3) := by decide +kernel
theorem dX4_tellShip_32 : decode cX4_tellShip 32 = .ok (.if_icmp .ge 54, 3) := by decide +kernel
theorem dX4_tellShip_35 : decode cX4_tellShip 35 = .ok (.iload_n 2, 1) := by decide +kernel
theorem dX4_tellShip_36 : decode cX4_tellShip 36 = .ok (.aload_n 0, 1) := by decide +kernel
theorem dX4_tellShip_37 : decode cX4_tellShip 37 = .ok (.getfield 13, 3) := by decide +kernel
theorem dX4_tellShip_40 : decode cX4_tellShip 40 = .ok (.if_icmp .ge 46, 3) := by decide +kernel
theorem dX4_tellShip_43 : decode cX4_tellShip 43 = .ok (.aload_n 0, 1) := by decide +kernel
theorem dX4_tellShip_44 : decode cX4_tellShip 44 = .ok (.getfield 9, 3) := by decide +kernel
theorem dX4_tellShip_47 : decode cX4_tellShip 47 = .ok (.iload_n 2, 1) := by decide +kernel
theorem dX4_tellShip_48 : decode cX4_tellShip 48 = .ok (.iaload, 1) := by decide +kernel
theorem dX4_tellShip_49 : decode cX4_tellShip 49 = .ok (.bipush 32, 2) := by decide +kernel
theorem dX4_tellShip_51 : decode cX4_tellShip 51 = .ok (.if_icmp .ne 9, 3) := by decide +kernel
theorem dX4_tellShip_54 : decode cX4_tellShip 54 = .ok (.iinc 2 1, 3) := by decide +kernel
theorem dX4_tellShip_57 : decode cX4_tellShip 57 = .ok (.goto 23, 3) := by decide +kernel
theorem dX4_tellShip_60 : decode cX4_tellShip 60 = .ok (.aload_n 0, 1) := by decide +kernel
theorem dX4_tellShip_61 : decode cX4_tellShip 61 = .ok (.aload_n 1, 1) := by decide +kernel
theorem dX4_tellShip_62 : decode cX4_tellShip 62 = .ok (.iload_n 2, 1) := by decide +kernel
theorem dX4_tellShip_63 : decode cX4_tellShip 63 = .ok (.invokevirtual 41, 3) := by decide +kernel
theorem dX4_tellShip_66 : decode cX4_tellShip 66 = .ok (.ifCond .ne 8, 3) := by decide +kernel
theorem dX4_tellShip_69 : decode cX4_tellShip 69 = .ok (.bipush (-10), 2) := by decide +kernel
theorem dX4_tellShip_71 : decode cX4_tellShip 71 = .ok (.iload_n 2, 1) := by decide +kernel
theorem dX4_tellShip_72 : decode cX4_tellShip 72 = .ok (.isub, 1) := by decide +kernel
theorem dX4_tellShip_73 : decode cX4_tellShip 73 = .ok (.ireturn, 1) := by decide +kernel
theorem dX4_tellShip_74 : decode cX4_tellShip 74 = .ok (.aload_n 0, 1) := by decide +kernel
theorem dX4_tellShip_75 : decode cX4_tellShip 75 = .ok (.iload_n 2, 1) := by decide +kernel
theorem dX4_tellShip_76 : decode cX4_tellShip 76 = .ok (.invokevirtual 45, 3) := by decide +kernel
theorem dX4_tellShip_79 : decode cX4_tellShip 79 = .ok (.istore_n 2, 1) := by decide +kernel
theorem dX4_tellShip_80 : decode cX4_tellShip 80 = .ok (.iinc 3 1, 3) := by decide +kernel
theorem dX4_tellShip_83 : decode cX4_tellShip 83 = .ok (.goto (-55), 3) := by decide +kernel
theorem dX4_tellShip_86 : decode cX4_tellShip 86 = .ok (.aload_n 0, 1) := by decide +kernel
theorem dX4_tellShip_87 : decode cX4_tellShip 87 = .ok (.getfield 17, 3) := by decide +kernel
theorem dX4_tellShip_90 : decode cX4_tellShip 90 = .ok (.ifCond .ne 10, 3) := by decide +kernel
theorem dX4_tellShip_93 : decode cX4_tellShip 93 = .ok (.aload_n 0, 1) := by decide +kernel
theorem dX4_tellShip_94 : decode cX4_tellShip 94 = .ok (.getfield 26, 3) := by decide +kernel
theorem dX4_tellShip_97 : decode cX4_tellShip 97 = .ok (.goto 10, 3) := by decide +kernel
theorem dX4_tellShip_100 : decode cX4_tellShip 100 = .ok (.bipush (-10), 2) := by decide +kernel
theorem dX4_tellShip_102 : decode cX4_tellShip 102 = .ok (.aload_n 0, 1) := by decide +kernel
theorem dX4_tellShip_103 : decode cX4_tellShip 103 = .ok (.getfield 13, 3) := by decide +kernel
theorem dX4_tellShip_106 : decode cX4_tellShip 106 = .ok (.isub, 1) := by decide +kernel
theorem dX4_tellShip_107 : decode cX4_tellShip 107 = .ok (.ireturn, 1) := by decide +kernel
theorem dX4_takesToken_0 : decode cX4_takesToken 0 = .ok (.aload_n 0, 1) := by decide +kernel
theorem dX4_takesToken_1 : decode cX4_takesToken 1 = .ok (.getfield 9, 3) := by decide +kernel
theorem dX4_takesToken_4 : decode cX4_takesToken 4 = .ok (.iload_n 2, 1) := by decide +kernel
theorem dX4_takesToken_5 : decode cX4_takesToken 5 = .ok (.iaload, 1) := by decide +kernel
theorem dX4_takesToken_6 : decode cX4_takesToken 6 = .ok (.istore_n 3, 1) := by decide +kernel
theorem dX4_takesToken_7 : decode cX4_takesToken 7 = .ok (.aload_n 0, 1) := by decide +kernel
theorem dX4_takesToken_8 : decode cX4_takesToken 8 = .ok (.getfield 17, 3) := by decide +kernel
theorem dX4_takesToken_11 : decode cX4_takesToken 11 = .ok (.ifCond .ne 10, 3) := by decide +kernel
theorem dX4_takesToken_14 : decode cX4_takesToken 14 = .ok (.aload_n 0, 1) := by decide +kernel
theorem dX4_takesToken_15 : decode cX4_takesToken 15 = .ok (.aload_n 1, 1) := by decide +kernel
theorem dX4_takesToken_16 : decode cX4_takesToken 16 = .ok (.iload_n 3, 1) := by decide +kernel
theorem dX4_takesToken_17 : decode cX4_takesToken 17 = .ok (.invokevirtual 49, 3) := by decide +kernel
theorem dX4_takesToken_20 : decode cX4_takesToken 20 = .ok (.ireturn, 1) := by decide +kernel
theorem dX4_takesToken_21 : decode cX4_takesToken 21 = .ok (.aload_n 0, 1) := by decide +kernel
theorem dX4_takesToken_22 : decode cX4_takesToken 22 = .ok (.getfield 20, 3) := by decide +kernel
theorem dX4_takesToken_25 : decode cX4_takesToken 25 = .ok (.aload_n 0, 1) := by decide +kernel
theorem dX4_takesToken_26 : decode cX4_takesToken 26 = .ok (.invokevirtual 52, 3) := by decide +kernel
theorem dX4_takesToken_29 : decode cX4_takesToken 29 = .ok (.if_icmp .ge 28, 3) := by decide +kernel
theorem dX4_takesToken_32 : decode cX4_takesToken 32 = .ok (.iload_n 3, 1) := by decide +kernel
theorem dX4_takesToken_33 : decode cX4_takesToken 33 = .ok (.invokestatic 56, 3) := by decide +kernel
theorem dX4_takesToken_36 : decode cX4_takesToken 36 = .ok (.ifCond .eq 19, 3) := by decide +kernel
theorem dX4_takesToken_39 : decode cX4_takesToken 39 = .ok (.aload_n 0, 1) := by decide +kernel
theorem dX4_takesToken_40 : decode cX4_takesToken 40 = .ok (.aload_n 0, 1) := by decide +kernel
theorem dX4_takesToken_41 : decode cX4_takesToken 41 = .ok (.iload_n 2, 1) := by decide +kernel
theorem dX4_takesToken_42 : decode cX4_takesToken 42 = .ok (.invokevirtual 60, 3) := by decide +kernel
theorem dX4_takesToken_45 : decode cX4_takesToken 45 = .ok (.invokevirtual 63, 3) := by decide +kernel
theorem dX4_takesToken_48 : decode cX4_takesToken 48 = .ok (.ifCond .eq 7, 3) := by decide +kernel
theorem dX4_takesToken_51 : decode cX4_takesToken 51 = .ok (.iconst 1, 1) := by decide +kernel
theorem dX4_takesToken_52 : decode cX4_takesToken 52 = .ok (.goto 4, 3) := by decide +kernel
theorem dX4_takesToken_55 : decode cX4_takesToken 55 = .ok (.iconst 0, 1) := by decide +kernel
theorem dX4_takesToken_56 : decode cX4_takesToken 56 = .ok (.ireturn, 1) := by decide +kernel
theorem dX4_takesToken_57 : decode cX4_takesToken 57 = .ok (.iload_n 3, 1) := by decide +kernel
theorem dX4_takesToken_58 : decode cX4_takesToken 58 = .ok (.bipush 59, 2) := by decide +kernel
theorem dX4_takesToken_60 : decode cX4_takesToken 60 = .ok (.if_icmp .eq 5, 3) := by decide +kernel
theorem dX4_takesToken_63 : decode cX4_takesToken 63 = .ok (.iconst 0, 1) := by decide +kernel
theorem dX4_takesToken_64 : decode cX4_takesToken 64 = .ok (.ireturn, 1) := by decide +kernel
theorem dX4_takesToken_65 : decode cX4_takesToken 65 = .ok (.aload_n 0, 1) := by decide +kernel
theorem dX4_takesToken_66 : decode cX4_takesToken 66 = .ok (.aload_n 1, 1) := by decide +kernel
theorem dX4_takesToken_67 : decode cX4_takesToken 67 = .ok (.invokevirtual 66, 3) := by decide +kernel
theorem dX4_takesToken_70 : decode cX4_takesToken 70 = .ok (.iconst 1, 1) := by decide +kernel
theorem dX4_takesToken_71 : decode cX4_takesToken 71 = .ok (.ireturn, 1) := by decide +kernel
theorem dX4_beginsItem_0 : decode cX4_beginsItem 0 = .ok (.iload_n 2, 1) := by decide +kernel
theorem dX4_beginsItem_1 : decode cX4_beginsItem 1 = .ok (.bipush 108, 2) := by decide +kernel
theorem dX4_beginsItem_3 : decode cX4_beginsItem 3 = .ok (.if_icmp .ne 13, 3) := by decide +kernel
theorem dX4_beginsItem_6 : decode cX4_beginsItem 6 = .ok (.aload_n 1, 1) := by decide +kernel
theorem dX4_beginsItem_7 : decode cX4_beginsItem 7 = .ok (.iconst 0, 1) := by decide +kernel
theorem dX4_beginsItem_8 : decode cX4_beginsItem 8 = .ok (.invokevirtual 70, 3) := by decide +kernel
theorem dX4_beginsItem_11 : decode cX4_beginsItem 11 = .ok (.bipush 6, 2) := by decide +kernel
theorem dX4_beginsItem_13 : decode cX4_beginsItem 13 = .ok (.if_icmp .lt 29, 3) := by decide +kernel
theorem dX4_beginsItem_16 : decode cX4_beginsItem 16 = .ok (.iload_n 2, 1) := by decide +kernel
theorem dX4_beginsItem_17 : decode cX4_beginsItem 17 = .ok (.bipush 118, 2) := by decide +kernel
theorem dX4_beginsItem_19 : decode cX4_beginsItem 19 = .ok (.if_icmp .ne 10, 3) := by decide +kernel
theorem dX4_beginsItem_22 : decode cX4_beginsItem 22 = .ok (.aload_n 0, 1) := by decide +kernel
theorem dX4_beginsItem_23 : decode cX4_beginsItem 23 = .ok (.getfield 29, 3) := by decide +kernel
theorem dX4_beginsItem_26 : decode cX4_beginsItem 26 = .ok (.ifCond .eq 16, 3) := by decide +kernel
theorem dX4_beginsItem_29 : decode cX4_beginsItem 29 = .ok (.iload_n 2, 1) := by decide +kernel
theorem dX4_beginsItem_30 : decode cX4_beginsItem 30 = .ok (.bipush 102, 2) := by decide +kernel
theorem dX4_beginsItem_32 : decode cX4_beginsItem 32 = .ok (.if_icmp .ne 14, 3) := by decide +kernel
theorem dX4_beginsItem_35 : decode cX4_beginsItem 35 = .ok (.aload_n 0, 1) := by decide +kernel
theorem dX4_beginsItem_36 : decode cX4_beginsItem 36 = .ok (.getfield 33, 3) := by decide +kernel
theorem dX4_beginsItem_39 : decode cX4_beginsItem 39 = .ok (.ifCond .ne 7, 3) := by decide +kernel
theorem dX4_beginsItem_42 : decode cX4_beginsItem 42 = .ok (.iconst 1, 1) := by decide +kernel
theorem dX4_beginsItem_43 : decode cX4_beginsItem 43 = .ok (.goto 4, 3) := by decide +kernel
theorem dX4_beginsItem_46 : decode cX4_beginsItem 46 = .ok (.iconst 0, 1) := by decide +kernel
theorem dX4_beginsItem_47 : decode cX4_beginsItem 47 = .ok (.istore_n 3, 1) := by decide +kernel
theorem dX4_beginsItem_48 : decode cX4_beginsItem 48 = .ok (.iload_n 3, 1) := by decide +kernel
theorem dX4_beginsItem_49 : decode cX4_beginsItem 49 = .ok (.ifCond .eq 13, 3) := by decide +kernel
theorem dX4_beginsItem_52 : decode cX4_beginsItem 52 = .ok (.aload_n 0, 1) := by decide +kernel
theorem dX4_beginsItem_53 : decode cX4_beginsItem 53 = .ok (.iload_n 2, 1) := by decide +kernel
theorem dX4_beginsItem_54 : decode cX4_beginsItem 54 = .ok (.putfield 17, 3) := by decide +kernel
theorem dX4_beginsItem_57 : decode cX4_beginsItem 57 = .ok (.aload_n 0, 1) := by decide +kernel
theorem dX4_beginsItem_58 : decode cX4_beginsItem 58 = .ok (.iconst 0, 1) := by decide +kernel
theorem dX4_beginsItem_59 : decode cX4_beginsItem 59 = .ok (.putfield 20, 3) := by decide +kernel
theorem dX4_beginsItem_62 : decode cX4_beginsItem 62 = .ok (.iload_n 3, 1) := by decide +kernel
theorem dX4_beginsItem_63 : decode cX4_beginsItem 63 = .ok (.ireturn, 1) := by decide +kernel
theorem dX4_numbersOfItem_0 : decode cX4_numbersOfItem 0 = .ok (.aload_n 0, 1) := by decide +kernel
theorem dX4_numbersOfItem_1 : decode cX4_numbersOfItem 1 = .ok (.getfield 17, 3) := by decide +kernel
theorem dX4_numbersOfItem_4 : decode cX4_numbersOfItem 4 = .ok (.bipush 118, 2) := by decide +kernel
theorem dX4_numbersOfItem_6 : decode cX4_numbersOfItem 6 = .ok (.if_icmp .ne 7, 3) := by decide +kernel
theorem dX4_numbersOfItem_9 : decode cX4_numbersOfItem 9 = .ok (.iconst 1, 1) := by decide +kernel
theorem dX4_numbersOfItem_10 : decode cX4_numbersOfItem 10 = .ok (.goto 4, 3) := by decide +kernel
theorem dX4_numbersOfItem_13 : decode cX4_numbersOfItem 13 = .ok (.iconst 4, 1) := by decide +kernel
theorem dX4_numbersOfItem_14 : decode cX4_numbersOfItem 14 = .ok (.ireturn, 1) := by decide +kernel
theorem dX4_takesNumber_0 : decode cX4_takesNumber 0 = .ok (.aload_n 0, 1) := by decide +kernel
theorem dX4_takesNumber_1 : decode cX4_takesNumber 1 = .ok (.getfield 20, 3) := by decide +kernel
theorem dX4_takesNumber_4 : decode cX4_takesNumber 4 = .ok (.ifCond .lt 31, 3) := by decide +kernel
theorem dX4_takesNumber_7 : decode cX4_takesNumber 7 = .ok (.aload_n 0, 1) := by decide +kernel
theorem dX4_takesNumber_8 : decode cX4_takesNumber 8 = .ok (.getfield 20, 3) := by decide +kernel
theorem dX4_takesNumber_11 : decode cX4_takesNumber 11 = .ok (.aload_n 0, 1) := by decide +kernel
theorem dX4_takesNumber_12 : decode cX4_takesNumber 12 = .ok (.getfield 23, 3) := by decide +kernel
theorem dX4_takesNumber_15 : decode cX4_takesNumber 15 = .ok (.arraylength, 1) := by decide +kernel
theorem dX4_takesNumber_16 : decode cX4_takesNumber 16 = .ok (.if_icmp .ge 19, 3) := by decide +kernel
theorem dX4_takesNumber_19 : decode cX4_takesNumber 19 = .ok (.iload_n 1, 1) := by decide +kernel
theorem dX4_takesNumber_20 : decode cX4_takesNumber 20 = .ok (.aload_n 0, 1) := by decide +kernel
theorem dX4_takesNumber_21 : decode cX4_takesNumber 21 = .ok (.invokevirtual 73, 3) := by decide +kernel
theorem dX4_takesNumber_24 : decode cX4_takesNumber 24 = .ok (.if_icmp .lt 11, 3) := by decide +kernel
theorem dX4_takesNumber_27 : decode cX4_takesNumber 27 = .ok (.iload_n 1, 1) := by decide +kernel
theorem dX4_takesNumber_28 : decode cX4_takesNumber 28 = .ok (.aload_n 0, 1) := by decide +kernel
theorem dX4_takesNumber_29 : decode cX4_takesNumber 29 = .ok (.invokevirtual 76, 3) := by decide +kernel
theorem dX4_takesNumber_32 : decode cX4_takesNumber 32 = .ok (.if_icmp .le 5, 3) := by decide +kernel
theorem dX4_takesNumber_35 : decode cX4_takesNumber 35 = .ok (.iconst 0, 1) := by decide +kernel
theorem dX4_takesNumber_36 : decode cX4_takesNumber 36 = .ok (.ireturn, 1) := by decide +kernel
theorem dX4_takesNumber_37 : decode cX4_takesNumber 37 = .ok (.aload_n 0, 1) := by decide +kernel
theorem dX4_takesNumber_38 : decode cX4_takesNumber 38 = .ok (.getfield 23, 3) := by decide +kernel
theorem dX4_takesNumber_41 : decode cX4_takesNumber 41 = .ok (.aload_n 0, 1) := by decide +kernel
theorem dX4_takesNumber_42 : decode cX4_takesNumber 42 = .ok (.getfield 20, 3) := by decide +kernel
theorem dX4_takesNumber_45 : decode cX4_takesNumber 45 = .ok (.iload_n 1, 1) := by decide +kernel
theorem dX4_takesNumber_46 : decode cX4_takesNumber 46 = .ok (.iastore, 1) := by decide +kernel
theorem dX4_takesNumber_47 : decode cX4_takesNumber 47 = .ok (.aload_n 0, 1) := by decide +kernel
theorem dX4_takesNumber_48 : decode cX4_takesNumber 48 = .ok (.dup, 1) := by decide +kernel
theorem dX4_takesNumber_49 : decode cX4_takesNumber 49 = .ok (.getfield 20, 3) := by decide +kernel
theorem dX4_takesNumber_52 : decode cX4_takesNumber 52 = .ok (.iconst 1, 1) := by decide +kernel
theorem dX4_takesNumber_53 : decode cX4_takesNumber 53 = .ok (.iadd, 1) := by decide +kernel
theorem dX4_takesNumber_54 : decode cX4_takesNumber 54 = .ok (.putfield 20, 3) := by decide +kernel
theorem dX4_takesNumber_57 : decode cX4_takesNumber 57 = .ok (.iconst 1, 1) := by decide +kernel
theorem dX4_takesNumber_58 : decode cX4_takesNumber 58 = .ok (.ireturn, 1) := by decide +kernel
theorem dX4_least_0 : decode cX4_least 0 = .ok (.aload_n 0, 1) := by decide +kernel
theorem dX4_least_1 : decode cX4_least 1 = .ok (.getfield 17, 3) := by decide +kernel
theorem dX4_least_4 : decode cX4_least 4 = .ok (.bipush 118, 2) := by decide +kernel
theorem dX4_least_6 : decode cX4_least 6 = .ok (.if_icmp .ne 5, 3) := by decide +kernel
theorem dX4_least_9 : decode cX4_least 9 = .ok (.iconst 1, 1) := by decide +kernel
theorem dX4_least_10 : decode cX4_least 10 = .ok (.ireturn, 1) := by decide +kernel
theorem dX4_least_11 : decode cX4_least 11 = .ok (.aload_n 0, 1) := by decide +kernel
theorem dX4_least_12 : decode cX4_least 12 = .ok (.getfield 17, 3) := by decide +kernel
theorem dX4_least_15 : decode cX4_least 15 = .ok (.bipush 108, 2) := by decide +kernel
theorem dX4_least_17 : decode cX4_least 17 = .ok (.if_icmp .ne 29, 3) := by decide +kernel
theorem dX4_least_20 : decode cX4_least 20 = .ok (.aload_n 0, 1) := by decide +kernel
theorem dX4_least_21 : decode cX4_least 21 = .ok (.getfield 20, 3) := by decide +kernel
theorem dX4_least_24 : decode cX4_least 24 = .ok (.iconst 3, 1) := by decide +kernel
theorem dX4_least_25 : decode cX4_least 25 = .ok (.if_icmp .ne 12, 3) := by decide +kernel
theorem dX4_least_28 : decode cX4_least 28 = .ok (.aload_n 0, 1) := by decide +kernel
theorem dX4_least_29 : decode cX4_least 29 = .ok (.getfield 23, 3) := by decide +kernel
theorem dX4_least_32 : decode cX4_least 32 = .ok (.iconst 2, 1) := by decide +kernel
theorem dX4_least_33 : decode cX4_least 33 = .ok (.iaload, 1) := by decide +kernel
theorem dX4_least_34 : decode cX4_least 34 = .ok (.goto 11, 3) := by decide +kernel
theorem dX4_least_37 : decode cX4_least 37 = .ok (.getstatic 79, 3) := by decide +kernel
theorem dX4_least_40 : decode cX4_least 40 = .ok (.aload_n 0, 1) := by decide +kernel
theorem dX4_least_41 : decode cX4_least 41 = .ok (.getfield 20, 3) := by decide +kernel
theorem dX4_least_44 : decode cX4_least 44 = .ok (.iaload, 1) := by decide +kernel
theorem dX4_least_45 : decode cX4_least 45 = .ok (.ireturn, 1) := by decide +kernel
theorem dX4_least_46 : decode cX4_least 46 = .ok (.aload_n 0, 1) := by decide +kernel
theorem dX4_least_47 : decode cX4_least 47 = .ok (.getfield 20, 3) := by decide +kernel
theorem dX4_least_50 : decode cX4_least 50 = .ok (.ifCond .ne 5, 3) := by decide +kernel
theorem dX4_least_53 : decode cX4_least 53 = .ok (.iconst 0, 1) := by decide +kernel
theorem dX4_least_54 : decode cX4_least 54 = .ok (.ireturn, 1) := by decide +kernel
theorem dX4_least_55 : decode cX4_least 55 = .ok (.aload_n 0, 1) := by decide +kernel
theorem dX4_least_56 : decode cX4_least 56 = .ok (.getfield 23, 3) := by decide +kernel
theorem dX4_least_59 : decode cX4_least 59 = .ok (.aload_n 0, 1) := by decide +kernel
theorem dX4_least_60 : decode cX4_least 60 = .ok (.getfield 20, 3) := by decide +kernel
theorem dX4_least_63 : decode cX4_least 63 = .ok (.iconst 1, 1) := by decide +kernel
theorem dX4_least_64 : decode cX4_least 64 = .ok (.isub, 1) := by decide +kernel
theorem dX4_least_65 : decode cX4_least 65 = .ok (.iaload, 1) := by decide +kernel
theorem dX4_least_66 : decode cX4_least 66 = .ok (.istore_n 1, 1) := by decide +kernel
theorem dX4_least_67 : decode cX4_least 67 = .ok (.aload_n 0, 1) := by decide +kernel
theorem dX4_least_68 : decode cX4_least 68 = .ok (.getfield 20, 3) := by decide +kernel
theorem dX4_least_71 : decode cX4_least 71 = .ok (.iconst 1, 1) := by decide +kernel
theorem dX4_least_72 : decode cX4_least 72 = .ok (.if_icmp .ne 7, 3) := by decide +kernel
theorem dX4_least_75 : decode cX4_least 75 = .ok (.iload_n 1, 1) := by decide +kernel
theorem dX4_least_76 : decode cX4_least 76 = .ok (.goto 18, 3) := by decide +kernel
theorem dX4_least_79 : decode cX4_least 79 = .ok (.iload_n 1, 1) := by decide +kernel
theorem dX4_least_80 : decode cX4_least 80 = .ok (.iload_n 1, 1) := by decide +kernel
theorem dX4_least_81 : decode cX4_least 81 = .ok (.iadd, 1) := by decide +kernel
theorem dX4_least_82 : decode cX4_least 82 = .ok (.aload_n 0, 1) := by decide +kernel
theorem dX4_least_83 : decode cX4_least 83 = .ok (.getfield 23, 3) := by decide +kernel
theorem dX4_least_86 : decode cX4_least 86 = .ok (.aload_n 0, 1) := by decide +kernel
theorem dX4_least_87 : decode cX4_least 87 = .ok (.getfield 20, 3) := by decide +kernel
theorem dX4_least_90 : decode cX4_least 90 = .ok (.iconst 2, 1) := by decide +kernel
theorem dX4_least_91 : decode cX4_least 91 = .ok (.isub, 1) := by decide +kernel
theorem dX4_least_92 : decode cX4_least 92 = .ok (.iaload, 1) := by decide +kernel
theorem dX4_least_93 : decode cX4_least 93 = .ok (.isub, 1) := by decide +kernel
theorem dX4_least_94 : decode cX4_least 94 = .ok (.ireturn, 1) := by decide +kernel
theorem dX4_greatest_0 : decode cX4_greatest 0 = .ok (.aload_n 0, 1) := by decide +kernel
theorem dX4_greatest_1 : decode cX4_greatest 1 = .ok (.getfield 17, 3) := by decide +kernel
theorem dX4_greatest_4 : decode cX4_greatest 4 = .ok (.bipush 118, 2) := by decide +kernel
theorem dX4_greatest_6 : decode cX4_greatest 6 = .ok (.if_icmp .ne 6, 3) := by decide +kernel
theorem dX4_greatest_9 : decode cX4_greatest 9 = .ok (.bipush 60, 2) := by decide +kernel
theorem dX4_greatest_11 : decode cX4_greatest 11 = .ok (.ireturn, 1) := by decide +kernel
theorem dX4_greatest_12 : decode cX4_greatest 12 = .ok (.aload_n 0, 1) := by decide +kernel
theorem dX4_greatest_13 : decode cX4_greatest 13 = .ok (.getfield 17, 3) := by decide +kernel
theorem dX4_greatest_16 : decode cX4_greatest 16 = .ok (.bipush 108, 2) := by decide +kernel
theorem dX4_greatest_18 : decode cX4_greatest 18 = .ok (.if_icmp .ne 14, 3) := by decide +kernel
theorem dX4_greatest_21 : decode cX4_greatest 21 = .ok (.getstatic 82, 3) := by decide +kernel
theorem dX4_greatest_24 : decode cX4_greatest 24 = .ok (.aload_n 0, 1) := by decide +kernel
theorem dX4_greatest_25 : decode cX4_greatest 25 = .ok (.getfield 20, 3) := by decide +kernel
theorem dX4_greatest_28 : decode cX4_greatest 28 = .ok (.iaload, 1) := by decide +kernel
theorem dX4_greatest_29 : decode cX4_greatest 29 = .ok (.goto 6, 3) := by decide +kernel
theorem dX4_greatest_32 : decode cX4_greatest 32 = .ok (.sipush 999, 3) := by decide +kernel
theorem dX4_greatest_35 : decode cX4_greatest 35 = .ok (.ireturn, 1) := by decide +kernel
theorem dX4_endItem_0 : decode cX4_endItem 0 = .ok (.aload_n 0, 1) := by decide +kernel
theorem dX4_endItem_1 : decode cX4_endItem 1 = .ok (.getfield 17, 3) := by decide +kernel
theorem dX4_endItem_4 : decode cX4_endItem 4 = .ok (.bipush 108, 2) := by decide +kernel
theorem dX4_endItem_6 : decode cX4_endItem 6 = .ok (.if_icmp .ne 45, 3) := by decide +kernel
theorem dX4_endItem_9 : decode cX4_endItem 9 = .ok (.aload_n 1, 1) := by decide +kernel
theorem dX4_endItem_10 : decode cX4_endItem 10 = .ok (.iconst 0, 1) := by decide +kernel
theorem dX4_endItem_11 : decode cX4_endItem 11 = .ok (.invokevirtual 70, 3) := by decide +kernel
theorem dX4_endItem_14 : decode cX4_endItem 14 = .ok (.istore_n 2, 1) := by decide +kernel
theorem dX4_endItem_15 : decode cX4_endItem 15 = .ok (.iconst 0, 1) := by decide +kernel
theorem dX4_endItem_16 : decode cX4_endItem 16 = .ok (.istore_n 3, 1) := by decide +kernel
theorem dX4_endItem_17 : decode cX4_endItem 17 = .ok (.iload_n 3, 1) := by decide +kernel
theorem dX4_endItem_18 : decode cX4_endItem 18 = .ok (.iconst 4, 1) := by decide +kernel
theorem dX4_endItem_19 : decode cX4_endItem 19 = .ok (.if_icmp .ge 21, 3) := by decide +kernel
theorem dX4_endItem_22 : decode cX4_endItem 22 = .ok (.aload_n 1, 1) := by decide +kernel
theorem dX4_endItem_23 : decode cX4_endItem 23 = .ok (.iload_n 2, 1) := by decide +kernel
theorem dX4_endItem_24 : decode cX4_endItem 24 = .ok (.iload_n 3, 1) := by decide +kernel
theorem dX4_endItem_25 : decode cX4_endItem 25 = .ok (.aload_n 0, 1) := by decide +kernel
theorem dX4_endItem_26 : decode cX4_endItem 26 = .ok (.getfield 23, 3) := by decide +kernel
theorem dX4_endItem_29 : decode cX4_endItem 29 = .ok (.iload_n 3, 1) := by decide +kernel
theorem dX4_endItem_30 : decode cX4_endItem 30 = .ok (.iaload, 1) := by decide +kernel
theorem dX4_endItem_31 : decode cX4_endItem 31 = .ok (.invokevirtual 85, 3) := by decide +kernel
theorem dX4_endItem_34 : decode cX4_endItem 34 = .ok (.iinc 3 1, 3) := by decide +kernel
theorem dX4_endItem_37 : decode cX4_endItem 37 = .ok (.goto (-20), 3) := by decide +kernel
theorem dX4_endItem_40 : decode cX4_endItem 40 = .ok (.aload_n 1, 1) := by decide +kernel
theorem dX4_endItem_41 : decode cX4_endItem 41 = .ok (.iconst 0, 1) := by decide +kernel
theorem dX4_endItem_42 : decode cX4_endItem 42 = .ok (.iload_n 2, 1) := by decide +kernel
theorem dX4_endItem_43 : decode cX4_endItem 43 = .ok (.iconst 1, 1) := by decide +kernel
theorem dX4_endItem_44 : decode cX4_endItem 44 = .ok (.iadd, 1) := by decide +kernel
theorem dX4_endItem_45 : decode cX4_endItem 45 = .ok (.invokevirtual 89, 3) := by decide +kernel
theorem dX4_endItem_48 : decode cX4_endItem 48 = .ok (.goto 62, 3) := by decide +kernel
theorem dX4_endItem_51 : decode cX4_endItem 51 = .ok (.aload_n 0, 1) := by decide +kernel
theorem dX4_endItem_52 : decode cX4_endItem 52 = .ok (.getfield 17, 3) := by decide +kernel
theorem dX4_endItem_55 : decode cX4_endItem 55 = .ok (.bipush 118, 2) := by decide +kernel
theorem dX4_endItem_57 : decode cX4_endItem 57 = .ok (.if_icmp .ne 22, 3) := by decide +kernel
theorem dX4_endItem_60 : decode cX4_endItem 60 = .ok (.aload_n 1, 1) := by decide +kernel
theorem dX4_endItem_61 : decode cX4_endItem 61 = .ok (.iconst 1, 1) := by decide +kernel
theorem dX4_endItem_62 : decode cX4_endItem 62 = .ok (.aload_n 0, 1) := by decide +kernel
theorem dX4_endItem_63 : decode cX4_endItem 63 = .ok (.getfield 23, 3) := by decide +kernel
theorem dX4_endItem_66 : decode cX4_endItem 66 = .ok (.iconst 0, 1) := by decide +kernel
theorem dX4_endItem_67 : decode cX4_endItem 67 = .ok (.iaload, 1) := by decide +kernel
theorem dX4_endItem_68 : decode cX4_endItem 68 = .ok (.invokevirtual 89, 3) := by decide +kernel
theorem dX4_endItem_71 : decode cX4_endItem 71 = .ok (.aload_n 0, 1) := by decide +kernel
theorem dX4_endItem_72 : decode cX4_endItem 72 = .ok (.iconst 1, 1) := by decide +kernel
theorem dX4_endItem_73 : decode cX4_endItem 73 = .ok (.putfield 29, 3) := by decide +kernel
theorem dX4_endItem_76 : decode cX4_endItem 76 = .ok (.goto 34, 3) := by decide +kernel
theorem dX4_endItem_79 : decode cX4_endItem 79 = .ok (.iconst 0, 1) := by decide +kernel
theorem dX4_endItem_80 : decode cX4_endItem 80 = .ok (.istore_n 2, 1) := by decide +kernel
theorem dX4_endItem_81 : decode cX4_endItem 81 = .ok (.iload_n 2, 1) := by decide +kernel
theorem dX4_endItem_82 : decode cX4_endItem 82 = .ok (.iconst 4, 1) := by decide +kernel
theorem dX4_endItem_83 : decode cX4_endItem 83 = .ok (.if_icmp .ge 22, 3) := by decide +kernel
theorem dX4_endItem_86 : decode cX4_endItem 86 = .ok (.aload_n 1, 1) := by decide +kernel
theorem dX4_endItem_87 : decode cX4_endItem 87 = .ok (.iconst 5, 1) := by decide +kernel
theorem dX4_endItem_88 : decode cX4_endItem 88 = .ok (.iload_n 2, 1) := by decide +kernel
theorem dX4_endItem_89 : decode cX4_endItem 89 = .ok (.iadd, 1) := by decide +kernel
theorem dX4_endItem_90 : decode cX4_endItem 90 = .ok (.aload_n 0, 1) := by decide +kernel
theorem dX4_endItem_91 : decode cX4_endItem 91 = .ok (.getfield 23, 3) := by decide +kernel
theorem dX4_endItem_94 : decode cX4_endItem 94 = .ok (.iload_n 2, 1) := by decide +kernel
theorem dX4_endItem_95 : decode cX4_endItem 95 = .ok (.iaload, 1) := by decide +kernel
theorem dX4_endItem_96 : decode cX4_endItem 96 = .ok (.invokevirtual 89, 3) := by decide +kernel
theorem dX4_endItem_99 : decode cX4_endItem 99 = .ok (.iinc 2 1, 3) := by decide +kernel
theorem dX4_endItem_102 : decode cX4_endItem 102 = .ok (.goto (-21), 3) := by decide +kernel
theorem dX4_endItem_105 : decode cX4_endItem 105 = .ok (.aload_n 0, 1) := by decide +kernel
theorem dX4_endItem_106 : decode cX4_endItem 106 = .ok (.iconst 1, 1) := by decide +kernel
theorem dX4_endItem_107 : decode cX4_endItem 107 = .ok (.putfield 33, 3) := by decide +kernel
