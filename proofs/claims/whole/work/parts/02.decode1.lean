theorem dX10_keep_0 : decode cX10_keep 0 = .ok (.iload_n 1, 1) := by decide +kernel
theorem dX10_keep_1 : decode cX10_keep 1 = .ok (.ifCond .lt 8, 3) := by decide +kernel
theorem dX10_keep_4 : decode cX10_keep 4 = .ok (.iload_n 1, 1) := by decide +kernel
theorem dX10_keep_5 : decode cX10_keep 5 = .ok (.iconst 2, 1) := by decide +kernel
theorem dX10_keep_6 : decode cX10_keep 6 = .ok (.if_icmp .lt 5, 3) := by decide +kernel
theorem dX10_keep_9 : decode cX10_keep 9 = .ok (.iconst (-1), 1) := by decide +kernel
theorem dX10_keep_10 : decode cX10_keep 10 = .ok (.ireturn, 1) := by decide +kernel
theorem dX10_keep_11 : decode cX10_keep 11 = .ok (.aload_n 0, 1) := by decide +kernel
theorem dX10_keep_12 : decode cX10_keep 12 = .ok (.getfield 32, 3) := by decide +kernel
theorem dX10_keep_15 : decode cX10_keep 15 = .ok (.iload_n 1, 1) := by decide +kernel
theorem dX10_keep_16 : decode cX10_keep 16 = .ok (.aaload, 1) := by decide +kernel
theorem dX10_keep_17 : decode cX10_keep 17 = .ok (.aload_n 0, 1) := by decide +kernel
theorem dX10_keep_18 : decode cX10_keep 18 = .ok (.getfield 19, 3) := by decide +kernel
theorem dX10_keep_21 : decode cX10_keep 21 = .ok (.getfield 138, 3) := by decide +kernel
theorem dX10_keep_24 : decode cX10_keep 24 = .ok (.aload_n 0, 1) := by decide +kernel
theorem dX10_keep_25 : decode cX10_keep 25 = .ok (.getfield 26, 3) := by decide +kernel
theorem dX10_keep_28 : decode cX10_keep 28 = .ok (.invokevirtual 269, 3) := by decide +kernel
theorem dX10_keep_31 : decode cX10_keep 31 = .ok (.aload_n 0, 1) := by decide +kernel
theorem dX10_keep_32 : decode cX10_keep 32 = .ok (.getfield 19, 3) := by decide +kernel
theorem dX10_keep_35 : decode cX10_keep 35 = .ok (.getfield 138, 3) := by decide +kernel
theorem dX10_keep_38 : decode cX10_keep 38 = .ok (.getfield 176, 3) := by decide +kernel
theorem dX10_keep_41 : decode cX10_keep 41 = .ok (.ireturn, 1) := by decide +kernel
theorem dX10_mark_0 : decode cX10_mark 0 = .ok (.iload_n 1, 1) := by decide +kernel
theorem dX10_mark_1 : decode cX10_mark 1 = .ok (.ifCond .lt 20, 3) := by decide +kernel
theorem dX10_mark_4 : decode cX10_mark 4 = .ok (.iload_n 1, 1) := by decide +kernel
theorem dX10_mark_5 : decode cX10_mark 5 = .ok (.bipush 6, 2) := by decide +kernel
theorem dX10_mark_7 : decode cX10_mark 7 = .ok (.if_icmp .ge 14, 3) := by decide +kernel
theorem dX10_mark_10 : decode cX10_mark 10 = .ok (.aload_n 0, 1) := by decide +kernel
theorem dX10_mark_11 : decode cX10_mark 11 = .ok (.getfield 19, 3) := by decide +kernel
theorem dX10_mark_14 : decode cX10_mark 14 = .ok (.iload_n 2, 1) := by decide +kernel
theorem dX10_mark_15 : decode cX10_mark 15 = .ok (.invokevirtual 129, 3) := by decide +kernel
theorem dX10_mark_18 : decode cX10_mark 18 = .ok (.ifCond .ne 7, 3) := by decide +kernel
theorem dX10_mark_21 : decode cX10_mark 21 = .ok (.ldc_w 265, 3) := by decide +kernel
theorem dX10_mark_24 : decode cX10_mark 24 = .ok (.ireturn, 1) := by decide +kernel
theorem dX10_mark_25 : decode cX10_mark 25 = .ok (.aload_n 0, 1) := by decide +kernel
theorem dX10_mark_26 : decode cX10_mark 26 = .ok (.getfield 63, 3) := by decide +kernel
theorem dX10_mark_29 : decode cX10_mark 29 = .ok (.iload_n 1, 1) := by decide +kernel
theorem dX10_mark_30 : decode cX10_mark 30 = .ok (.iload_n 2, 1) := by decide +kernel
theorem dX10_mark_31 : decode cX10_mark 31 = .ok (.invokevirtual 266, 3) := by decide +kernel
theorem dX10_mark_34 : decode cX10_mark 34 = .ok (.ireturn, 1) := by decide +kernel
theorem dX10_mends_0 : decode cX10_mends 0 = .ok (.aload_n 0, 1) := by decide +kernel
theorem dX10_mends_1 : decode cX10_mends 1 = .ok (.getfield 19, 3) := by decide +kernel
theorem dX10_mends_4 : decode cX10_mends 4 = .ok (.iload_n 1, 1) := by decide +kernel
theorem dX10_mends_5 : decode cX10_mends 5 = .ok (.invokevirtual 129, 3) := by decide +kernel
theorem dX10_mends_8 : decode cX10_mends 8 = .ok (.ifCond .ne 5, 3) := by decide +kernel
theorem dX10_mends_11 : decode cX10_mends 11 = .ok (.iconst (-1), 1) := by decide +kernel
theorem dX10_mends_12 : decode cX10_mends 12 = .ok (.ireturn, 1) := by decide +kernel
theorem dX10_mends_13 : decode cX10_mends 13 = .ok (.aload_n 0, 1) := by decide +kernel
theorem dX10_mends_14 : decode cX10_mends 14 = .ok (.getfield 19, 3) := by decide +kernel
theorem dX10_mends_17 : decode cX10_mends 17 = .ok (.getfield 138, 3) := by decide +kernel
theorem dX10_mends_20 : decode cX10_mends 20 = .ok (.getfield 147, 3) := by decide +kernel
theorem dX10_mends_23 : decode cX10_mends 23 = .ok (.iload_n 1, 1) := by decide +kernel
theorem dX10_mends_24 : decode cX10_mends 24 = .ok (.iaload, 1) := by decide +kernel
theorem dX10_mends_25 : decode cX10_mends 25 = .ok (.istore_n 2, 1) := by decide +kernel
theorem dX10_mends_26 : decode cX10_mends 26 = .ok (.iload_n 2, 1) := by decide +kernel
theorem dX10_mends_27 : decode cX10_mends 27 = .ok (.ifCond .ne 6, 3) := by decide +kernel
theorem dX10_mends_30 : decode cX10_mends 30 = .ok (.bipush (-2), 2) := by decide +kernel
theorem dX10_mends_32 : decode cX10_mends 32 = .ok (.ireturn, 1) := by decide +kernel
theorem dX10_mends_33 : decode cX10_mends 33 = .ok (.aload_n 0, 1) := by decide +kernel
theorem dX10_mends_34 : decode cX10_mends 34 = .ok (.getfield 26, 3) := by decide +kernel
theorem dX10_mends_37 : decode cX10_mends 37 = .ok (.aload_n 0, 1) := by decide +kernel
theorem dX10_mends_38 : decode cX10_mends 38 = .ok (.getfield 19, 3) := by decide +kernel
theorem dX10_mends_41 : decode cX10_mends 41 = .ok (.getfield 138, 3) := by decide +kernel
theorem dX10_mends_44 : decode cX10_mends 44 = .ok (.invokevirtual 172, 3) := by decide +kernel
theorem dX10_mends_47 : decode cX10_mends 47 = .ok (.aload_n 0, 1) := by decide +kernel
theorem dX10_mends_48 : decode cX10_mends 48 = .ok (.getfield 19, 3) := by decide +kernel
theorem dX10_mends_51 : decode cX10_mends 51 = .ok (.getfield 138, 3) := by decide +kernel
theorem dX10_mends_54 : decode cX10_mends 54 = .ok (.getfield 147, 3) := by decide +kernel
theorem dX10_mends_57 : decode cX10_mends 57 = .ok (.iload_n 1, 1) := by decide +kernel
theorem dX10_mends_58 : decode cX10_mends 58 = .ok (.iconst 0, 1) := by decide +kernel
theorem dX10_mends_59 : decode cX10_mends 59 = .ok (.iastore, 1) := by decide +kernel
theorem dX10_mends_60 : decode cX10_mends 60 = .ok (.aload_n 0, 1) := by decide +kernel
theorem dX10_mends_61 : decode cX10_mends 61 = .ok (.getfield 19, 3) := by decide +kernel
theorem dX10_mends_64 : decode cX10_mends 64 = .ok (.getfield 138, 3) := by decide +kernel
theorem dX10_mends_67 : decode cX10_mends 67 = .ok (.dup, 1) := by decide +kernel
theorem dX10_mends_68 : decode cX10_mends 68 = .ok (.getfield 182, 3) := by decide +kernel
theorem dX10_mends_71 : decode cX10_mends 71 = .ok (.iconst 1, 1) := by decide +kernel
theorem dX10_mends_72 : decode cX10_mends 72 = .ok (.iload_n 1, 1) := by decide +kernel
theorem dX10_mends_73 : decode cX10_mends 73 = .ok (.ishl, 1) := by decide +kernel
theorem dX10_mends_74 : decode cX10_mends 74 = .ok (.iconst (-1), 1) := by decide +kernel
theorem dX10_mends_75 : decode cX10_mends 75 = .ok (.ixor, 1) := by decide +kernel
theorem dX10_mends_76 : decode cX10_mends 76 = .ok (.iand, 1) := by decide +kernel
theorem dX10_mends_77 : decode cX10_mends 77 = .ok (.putfield 182, 3) := by decide +kernel
theorem dX10_mends_80 : decode cX10_mends 80 = .ok (.iload_n 2, 1) := by decide +kernel
theorem dX10_mends_81 : decode cX10_mends 81 = .ok (.ireturn, 1) := by decide +kernel
theorem dX10_near_0 : decode cX10_near 0 = .ok (.aload_n 0, 1) := by decide +kernel
theorem dX10_near_1 : decode cX10_near 1 = .ok (.getfield 19, 3) := by decide +kernel
theorem dX10_near_4 : decode cX10_near 4 = .ok (.iload_n 1, 1) := by decide +kernel
theorem dX10_near_5 : decode cX10_near 5 = .ok (.invokevirtual 129, 3) := by decide +kernel
theorem dX10_near_8 : decode cX10_near 8 = .ok (.ifCond .eq 19, 3) := by decide +kernel
theorem dX10_near_11 : decode cX10_near 11 = .ok (.aload_n 0, 1) := by decide +kernel
theorem dX10_near_12 : decode cX10_near 12 = .ok (.getfield 19, 3) := by decide +kernel
theorem dX10_near_15 : decode cX10_near 15 = .ok (.iload_n 2, 1) := by decide +kernel
theorem dX10_near_16 : decode cX10_near 16 = .ok (.invokevirtual 129, 3) := by decide +kernel
theorem dX10_near_19 : decode cX10_near 19 = .ok (.ifCond .eq 8, 3) := by decide +kernel
theorem dX10_near_22 : decode cX10_near 22 = .ok (.iload_n 1, 1) := by decide +kernel
theorem dX10_near_23 : decode cX10_near 23 = .ok (.iload_n 2, 1) := by decide +kernel
theorem dX10_near_24 : decode cX10_near 24 = .ok (.if_icmp .ne 5, 3) := by decide +kernel
theorem dX10_near_27 : decode cX10_near 27 = .ok (.iconst (-1), 1) := by decide +kernel
theorem dX10_near_28 : decode cX10_near 28 = .ok (.ireturn, 1) := by decide +kernel
theorem dX10_near_29 : decode cX10_near 29 = .ok (.aload_n 0, 1) := by decide +kernel
theorem dX10_near_30 : decode cX10_near 30 = .ok (.getfield 19, 3) := by decide +kernel
theorem dX10_near_33 : decode cX10_near 33 = .ok (.iload_n 1, 1) := by decide +kernel
theorem dX10_near_34 : decode cX10_near 34 = .ok (.iload_n 2, 1) := by decide +kernel
theorem dX10_near_35 : decode cX10_near 35 = .ok (.invokevirtual 242, 3) := by decide +kernel
theorem dX10_near_38 : decode cX10_near 38 = .ok (.ireturn, 1) := by decide +kernel
theorem dX10_nights_0 : decode cX10_nights 0 = .ok (.iload_n 1, 1) := by decide +kernel
theorem dX10_nights_1 : decode cX10_nights 1 = .ok (.iconst 1, 1) := by decide +kernel
theorem dX10_nights_2 : decode cX10_nights 2 = .ok (.if_icmp .lt 9, 3) := by decide +kernel
theorem dX10_nights_5 : decode cX10_nights 5 = .ok (.iload_n 1, 1) := by decide +kernel
theorem dX10_nights_6 : decode cX10_nights 6 = .ok (.bipush 9, 2) := by decide +kernel
theorem dX10_nights_8 : decode cX10_nights 8 = .ok (.if_icmp .le 5, 3) := by decide +kernel
theorem dX10_nights_11 : decode cX10_nights 11 = .ok (.iconst (-1), 1) := by decide +kernel
theorem dX10_nights_12 : decode cX10_nights 12 = .ok (.ireturn, 1) := by decide +kernel
theorem dX10_nights_13 : decode cX10_nights 13 = .ok (.aload_n 0, 1) := by decide +kernel
theorem dX10_nights_14 : decode cX10_nights 14 = .ok (.getfield 19, 3) := by decide +kernel
theorem dX10_nights_17 : decode cX10_nights 17 = .ok (.getfield 138, 3) := by decide +kernel
theorem dX10_nights_20 : decode cX10_nights 20 = .ok (.getfield 176, 3) := by decide +kernel
theorem dX10_nights_23 : decode cX10_nights 23 = .ok (.iload_n 1, 1) := by decide +kernel
theorem dX10_nights_24 : decode cX10_nights 24 = .ok (.iadd, 1) := by decide +kernel
theorem dX10_nights_25 : decode cX10_nights 25 = .ok (.sipush 999, 3) := by decide +kernel
theorem dX10_nights_28 : decode cX10_nights 28 = .ok (.if_icmp .le 6, 3) := by decide +kernel
theorem dX10_nights_31 : decode cX10_nights 31 = .ok (.bipush (-2), 2) := by decide +kernel
theorem dX10_nights_33 : decode cX10_nights 33 = .ok (.ireturn, 1) := by decide +kernel
theorem dX10_nights_34 : decode cX10_nights 34 = .ok (.aload_n 0, 1) := by decide +kernel
theorem dX10_nights_35 : decode cX10_nights 35 = .ok (.getfield 26, 3) := by decide +kernel
theorem dX10_nights_38 : decode cX10_nights 38 = .ok (.aload_n 0, 1) := by decide +kernel
theorem dX10_nights_39 : decode cX10_nights 39 = .ok (.getfield 19, 3) := by decide +kernel
theorem dX10_nights_42 : decode cX10_nights 42 = .ok (.getfield 138, 3) := by decide +kernel
theorem dX10_nights_45 : decode cX10_nights 45 = .ok (.invokevirtual 172, 3) := by decide +kernel
theorem dX10_nights_48 : decode cX10_nights 48 = .ok (.iconst 0, 1) := by decide +kernel
theorem dX10_nights_49 : decode cX10_nights 49 = .ok (.istore_n 2, 1) := by decide +kernel
theorem dX10_nights_50 : decode cX10_nights 50 = .ok (.iload_n 2, 1) := by decide +kernel
theorem dX10_nights_51 : decode cX10_nights 51 = .ok (.iload_n 1, 1) := by decide +kernel
theorem dX10_nights_52 : decode cX10_nights 52 = .ok (.if_icmp .ge 16, 3) := by decide +kernel
theorem dX10_nights_55 : decode cX10_nights 55 = .ok (.aload_n 0, 1) := by decide +kernel
theorem dX10_nights_56 : decode cX10_nights 56 = .ok (.getfield 19, 3) := by decide +kernel
theorem dX10_nights_59 : decode cX10_nights 59 = .ok (.invokevirtual 179, 3) := by decide +kernel
theorem dX10_nights_62 : decode cX10_nights 62 = .ok (.iinc 2 1, 3) := by decide +kernel
theorem dX10_nights_65 : decode cX10_nights 65 = .ok (.goto (-15), 3) := by decide +kernel
theorem dX10_nights_68 : decode cX10_nights 68 = .ok (.aload_n 0, 1) := by decide +kernel
theorem dX10_nights_69 : decode cX10_nights 69 = .ok (.getfield 19, 3) := by decide +kernel
theorem dX10_nights_72 : decode cX10_nights 72 = .ok (.getfield 138, 3) := by decide +kernel
theorem dX10_nights_75 : decode cX10_nights 75 = .ok (.getfield 182, 3) := by decide +kernel
theorem dX10_nights_78 : decode cX10_nights 78 = .ok (.invokestatic 185, 3) := by decide +kernel
theorem dX10_nights_81 : decode cX10_nights 81 = .ok (.ireturn, 1) := by decide +kernel
theorem dX10_now_0 : decode cX10_now 0 = .ok (.iload_n 1, 1) := by decide +kernel
theorem dX10_now_1 : decode cX10_now 1 = .ok (.tableswitch 81 0 4 #[35, 46, 57, 65, 73], 35) := by decide +kernel
theorem dX10_now_36 : decode cX10_now 36 = .ok (.aload_n 0, 1) := by decide +kernel
theorem dX10_now_37 : decode cX10_now 37 = .ok (.getfield 19, 3) := by decide +kernel
theorem dX10_now_40 : decode cX10_now 40 = .ok (.getfield 138, 3) := by decide +kernel
theorem dX10_now_43 : decode cX10_now 43 = .ok (.getfield 176, 3) := by decide +kernel
theorem dX10_now_46 : decode cX10_now 46 = .ok (.ireturn, 1) := by decide +kernel
theorem dX10_now_47 : decode cX10_now 47 = .ok (.aload_n 0, 1) := by decide +kernel
theorem dX10_now_48 : decode cX10_now 48 = .ok (.getfield 19, 3) := by decide +kernel
theorem dX10_now_51 : decode cX10_now 51 = .ok (.getfield 138, 3) := by decide +kernel
theorem dX10_now_54 : decode cX10_now 54 = .ok (.getfield 182, 3) := by decide +kernel
theorem dX10_now_57 : decode cX10_now 57 = .ok (.ireturn, 1) := by decide +kernel
theorem dX10_now_58 : decode cX10_now 58 = .ok (.aload_n 0, 1) := by decide +kernel
theorem dX10_now_59 : decode cX10_now 59 = .ok (.getfield 19, 3) := by decide +kernel
theorem dX10_now_62 : decode cX10_now 62 = .ok (.invokevirtual 200, 3) := by decide +kernel
theorem dX10_now_65 : decode cX10_now 65 = .ok (.ireturn, 1) := by decide +kernel
theorem dX10_now_66 : decode cX10_now 66 = .ok (.aload_n 0, 1) := by decide +kernel
theorem dX10_now_67 : decode cX10_now 67 = .ok (.getfield 19, 3) := by decide +kernel
theorem dX10_now_70 : decode cX10_now 70 = .ok (.invokevirtual 204, 3) := by decide +kernel
theorem dX10_now_73 : decode cX10_now 73 = .ok (.ireturn, 1) := by decide +kernel
theorem dX10_now_74 : decode cX10_now 74 = .ok (.aload_n 0, 1) := by decide +kernel
theorem dX10_now_75 : decode cX10_now 75 = .ok (.getfield 19, 3) := by decide +kernel
theorem dX10_now_78 : decode cX10_now 78 = .ok (.invokevirtual 207, 3) := by decide +kernel
theorem dX10_now_81 : decode cX10_now 81 = .ok (.ireturn, 1) := by decide +kernel
theorem dX10_now_82 : decode cX10_now 82 = .ok (.iconst (-1), 1) := by decide +kernel
theorem dX10_now_83 : decode cX10_now 83 = .ok (.ireturn, 1) := by decide +kernel
theorem dX10_odds_0 : decode cX10_odds 0 = .ok (.iload_n 1, 1) := by decide +kernel
theorem dX10_odds_1 : decode cX10_odds 1 = .ok (.ifCond .lt 28, 3) := by decide +kernel
theorem dX10_odds_4 : decode cX10_odds 4 = .ok (.iload_n 1, 1) := by decide +kernel
theorem dX10_odds_5 : decode cX10_odds 5 = .ok (.bipush 10, 2) := by decide +kernel
theorem dX10_odds_7 : decode cX10_odds 7 = .ok (.if_icmp .gt 22, 3) := by decide +kernel
theorem dX10_odds_10 : decode cX10_odds 10 = .ok (.iload_n 2, 1) := by decide +kernel
theorem dX10_odds_11 : decode cX10_odds 11 = .ok (.ifCond .lt 18, 3) := by decide +kernel
theorem dX10_odds_14 : decode cX10_odds 14 = .ok (.iload_n 2, 1) := by decide +kernel
theorem dX10_odds_15 : decode cX10_odds 15 = .ok (.bipush 6, 2) := by decide +kernel
theorem dX10_odds_17 : decode cX10_odds 17 = .ok (.if_icmp .gt 12, 3) := by decide +kernel
theorem dX10_odds_20 : decode cX10_odds 20 = .ok (.iload_n 3, 1) := by decide +kernel
theorem dX10_odds_21 : decode cX10_odds 21 = .ok (.ifCond .lt 8, 3) := by decide +kernel
theorem dX10_odds_24 : decode cX10_odds 24 = .ok (.iload_n 3, 1) := by decide +kernel
theorem dX10_odds_25 : decode cX10_odds 25 = .ok (.iconst 1, 1) := by decide +kernel
theorem dX10_odds_26 : decode cX10_odds 26 = .ok (.if_icmp .le 5, 3) := by decide +kernel
theorem dX10_odds_29 : decode cX10_odds 29 = .ok (.iconst (-1), 1) := by decide +kernel
theorem dX10_odds_30 : decode cX10_odds 30 = .ok (.ireturn, 1) := by decide +kernel
theorem dX10_odds_31 : decode cX10_odds 31 = .ok (.aload_n 0, 1) := by decide +kernel
theorem dX10_odds_32 : decode cX10_odds 32 = .ok (.getfield 19, 3) := by decide +kernel
theorem dX10_odds_35 : decode cX10_odds 35 = .ok (.getfield 98, 3) := by decide +kernel
theorem dX10_odds_38 : decode cX10_odds 38 = .ok (.getfield 106, 3) := by decide +kernel
theorem dX10_odds_41 : decode cX10_odds 41 = .ok (.aload_n 0, 1) := by decide +kernel
theorem dX10_odds_42 : decode cX10_odds 42 = .ok (.getfield 19, 3) := by decide +kernel
theorem dX10_odds_45 : decode cX10_odds 45 = .ok (.getfield 138, 3) := by decide +kernel
theorem dX10_odds_48 : decode cX10_odds 48 = .ok (.getfield 182, 3) := by decide +kernel
theorem dX10_odds_51 : decode cX10_odds 51 = .ok (.invokestatic 185, 3) := by decide +kernel
theorem dX10_odds_54 : decode cX10_odds 54 = .ok (.isub, 1) := by decide +kernel
theorem dX10_odds_55 : decode cX10_odds 55 = .ok (.istore 4, 2) := by decide +kernel
theorem dX10_odds_57 : decode cX10_odds 57 = .ok (.iload 4, 2) := by decide +kernel
theorem dX10_odds_59 : decode cX10_odds 59 = .ok (.iload_n 1, 1) := by decide +kernel
theorem dX10_odds_60 : decode cX10_odds 60 = .ok (.iload_n 2, 1) := by decide +kernel
theorem dX10_odds_61 : decode cX10_odds 61 = .ok (.invokestatic 245, 3) := by decide +kernel
theorem dX10_odds_64 : decode cX10_odds 64 = .ok (.istore 5, 2) := by decide +kernel
theorem dX10_odds_66 : decode cX10_odds 66 = .ok (.bipush 10, 2) := by decide +kernel
theorem dX10_odds_68 : decode cX10_odds 68 = .ok (.iload 4, 2) := by decide +kernel
theorem dX10_odds_70 : decode cX10_odds 70 = .ok (.invokestatic 249, 3) := by decide +kernel
theorem dX10_odds_73 : decode cX10_odds 73 = .ok (.istore 6, 2) := by decide +kernel
theorem dX10_odds_75 : decode cX10_odds 75 = .ok (.iload 5, 2) := by decide +kernel
theorem dX10_odds_77 : decode cX10_odds 77 = .ok (.iload 6, 2) := by decide +kernel
theorem dX10_odds_79 : decode cX10_odds 79 = .ok (.invokestatic 252, 3) := by decide +kernel
theorem dX10_odds_82 : decode cX10_odds 82 = .ok (.istore 7, 2) := by decide +kernel
theorem dX10_odds_84 : decode cX10_odds 84 = .ok (.iload_n 3, 1) := by decide +kernel
theorem dX10_odds_85 : decode cX10_odds 85 = .ok (.ifCond .ne 8, 3) := by decide +kernel
theorem dX10_odds_88 : decode cX10_odds 88 = .ok (.iload 5, 2) := by decide +kernel
theorem dX10_odds_90 : decode cX10_odds 90 = .ok (.goto 5, 3) := by decide +kernel
theorem dX10_odds_93 : decode cX10_odds 93 = .ok (.iload 6, 2) := by decide +kernel
theorem dX10_odds_95 : decode cX10_odds 95 = .ok (.iload 7, 2) := by decide +kernel
theorem dX10_odds_97 : decode cX10_odds 97 = .ok (.idiv, 1) := by decide +kernel
theorem dX10_odds_98 : decode cX10_odds 98 = .ok (.ireturn, 1) := by decide +kernel
theorem dX10_orNone_0 : decode cX10_orNone 0 = .ok (.iload_n 0, 1) := by decide +kernel
theorem dX10_orNone_1 : decode cX10_orNone 1 = .ok (.iconst (-1), 1) := by decide +kernel
theorem dX10_orNone_2 : decode cX10_orNone 2 = .ok (.if_icmp .ne 8, 3) := by decide +kernel
theorem dX10_orNone_5 : decode cX10_orNone 5 = .ok (.bipush (-9), 2) := by decide +kernel
theorem dX10_orNone_7 : decode cX10_orNone 7 = .ok (.goto 4, 3) := by decide +kernel
theorem dX10_orNone_10 : decode cX10_orNone 10 = .ok (.iload_n 0, 1) := by decide +kernel
theorem dX10_orNone_11 : decode cX10_orNone 11 = .ok (.ireturn, 1) := by decide +kernel
theorem dX10_own_0 : decode cX10_own 0 = .ok (.iload_n 1, 1) := by decide +kernel
theorem dX10_own_1 : decode cX10_own 1 = .ok (.iconst (-1), 1) := by decide +kernel
theorem dX10_own_2 : decode cX10_own 2 = .ok (.if_icmp .eq 16, 3) := by decide +kernel
theorem dX10_own_5 : decode cX10_own 5 = .ok (.aload_n 0, 1) := by decide +kernel
theorem dX10_own_6 : decode cX10_own 6 = .ok (.getfield 19, 3) := by decide +kernel
theorem dX10_own_9 : decode cX10_own 9 = .ok (.iload_n 1, 1) := by decide +kernel
theorem dX10_own_10 : decode cX10_own 10 = .ok (.invokevirtual 129, 3) := by decide +kernel
theorem dX10_own_13 : decode cX10_own 13 = .ok (.ifCond .ne 5, 3) := by decide +kernel
theorem dX10_own_16 : decode cX10_own 16 = .ok (.iconst (-1), 1) := by decide +kernel
theorem dX10_own_17 : decode cX10_own 17 = .ok (.ireturn, 1) := by decide +kernel
theorem dX10_own_18 : decode cX10_own 18 = .ok (.aload_n 0, 1) := by decide +kernel
theorem dX10_own_19 : decode cX10_own 19 = .ok (.getfield 49, 3) := by decide +kernel
theorem dX10_own_22 : decode cX10_own 22 = .ok (.invokevirtual 233, 3) := by decide +kernel
theorem dX10_own_25 : decode cX10_own 25 = .ok (.iload_n 1, 1) := by decide +kernel
theorem dX10_own_26 : decode cX10_own 26 = .ok (.iconst (-1), 1) := by decide +kernel
theorem dX10_own_27 : decode cX10_own 27 = .ok (.if_icmp .ne 13, 3) := by decide +kernel
theorem dX10_own_30 : decode cX10_own 30 = .ok (.aload_n 0, 1) := by decide +kernel
theorem dX10_own_31 : decode cX10_own 31 = .ok (.getfield 49, 3) := by decide +kernel
theorem dX10_own_34 : decode cX10_own 34 = .ok (.invokevirtual 236, 3) := by decide +kernel
theorem dX10_own_37 : decode cX10_own 37 = .ok (.goto 11, 3) := by decide +kernel
theorem dX10_own_40 : decode cX10_own 40 = .ok (.aload_n 0, 1) := by decide +kernel
theorem dX10_own_41 : decode cX10_own 41 = .ok (.getfield 49, 3) := by decide +kernel
theorem dX10_own_44 : decode cX10_own 44 = .ok (.iload_n 1, 1) := by decide +kernel
theorem dX10_own_45 : decode cX10_own 45 = .ok (.invokevirtual 239, 3) := by decide +kernel
theorem dX10_own_48 : decode cX10_own 48 = .ok (.ireturn, 1) := by decide +kernel
theorem dX10_plan_0 : decode cX10_plan 0 = .ok (.aload_n 0, 1) := by decide +kernel
theorem dX10_plan_1 : decode cX10_plan 1 = .ok (.getfield 19, 3) := by decide +kernel
theorem dX10_plan_4 : decode cX10_plan 4 = .ok (.iload_n 1, 1) := by decide +kernel
theorem dX10_plan_5 : decode cX10_plan 5 = .ok (.invokevirtual 129, 3) := by decide +kernel
theorem dX10_plan_8 : decode cX10_plan 8 = .ok (.ifCond .eq 26, 3) := by decide +kernel
theorem dX10_plan_11 : decode cX10_plan 11 = .ok (.aload_n 0, 1) := by decide +kernel
theorem dX10_plan_12 : decode cX10_plan 12 = .ok (.getfield 19, 3) := by decide +kernel
theorem dX10_plan_15 : decode cX10_plan 15 = .ok (.iload_n 2, 1) := by decide +kernel
theorem dX10_plan_16 : decode cX10_plan 16 = .ok (.invokevirtual 109, 3) := by decide +kernel
theorem dX10_plan_19 : decode cX10_plan 19 = .ok (.ifCond .eq 15, 3) := by decide +kernel
theorem dX10_plan_22 : decode cX10_plan 22 = .ok (.iload_n 3, 1) := by decide +kernel
theorem dX10_plan_23 : decode cX10_plan 23 = .ok (.bipush (-3), 2) := by decide +kernel
theorem dX10_plan_25 : decode cX10_plan 25 = .ok (.if_icmp .lt 9, 3) := by decide +kernel
theorem dX10_plan_28 : decode cX10_plan 28 = .ok (.iload_n 3, 1) := by decide +kernel
theorem dX10_plan_29 : decode cX10_plan 29 = .ok (.bipush 8, 2) := by decide +kernel
theorem dX10_plan_31 : decode cX10_plan 31 = .ok (.if_icmp .lt 5, 3) := by decide +kernel
theorem dX10_plan_34 : decode cX10_plan 34 = .ok (.iconst (-1), 1) := by decide +kernel
theorem dX10_plan_35 : decode cX10_plan 35 = .ok (.ireturn, 1) := by decide +kernel
theorem dX10_plan_36 : decode cX10_plan 36 = .ok (.aload_n 0, 1) := by decide +kernel
theorem dX10_plan_37 : decode cX10_plan 37 = .ok (.getfield 42, 3) := by decide +kernel
theorem dX10_plan_40 : decode cX10_plan 40 = .ok (.iload_n 1, 1) := by decide +kernel
theorem dX10_plan_41 : decode cX10_plan 41 = .ok (.iload_n 2, 1) := by decide +kernel
theorem dX10_plan_42 : decode cX10_plan 42 = .ok (.invokevirtual 210, 3) := by decide +kernel
theorem dX10_plan_45 : decode cX10_plan 45 = .ok (.istore 4, 2) := by decide +kernel
theorem dX10_plan_47 : decode cX10_plan 47 = .ok (.aload_n 0, 1) := by decide +kernel
theorem dX10_plan_48 : decode cX10_plan 48 = .ok (.getfield 42, 3) := by decide +kernel
theorem dX10_plan_51 : decode cX10_plan 51 = .ok (.iload_n 1, 1) := by decide +kernel
theorem dX10_plan_52 : decode cX10_plan 52 = .ok (.invokevirtual 214, 3) := by decide +kernel
theorem dX10_plan_55 : decode cX10_plan 55 = .ok (.iload 4, 2) := by decide +kernel
theorem dX10_plan_57 : decode cX10_plan 57 = .ok (.ifCond .eq 19, 3) := by decide +kernel
theorem dX10_plan_60 : decode cX10_plan 60 = .ok (.aload_n 0, 1) := by decide +kernel
theorem dX10_plan_61 : decode cX10_plan 61 = .ok (.getfield 42, 3) := by decide +kernel
theorem dX10_plan_64 : decode cX10_plan 64 = .ok (.iload_n 1, 1) := by decide +kernel
theorem dX10_plan_65 : decode cX10_plan 65 = .ok (.iload 4, 2) := by decide +kernel
theorem dX10_plan_67 : decode cX10_plan 67 = .ok (.invokevirtual 218, 3) := by decide +kernel
theorem dX10_plan_70 : decode cX10_plan 70 = .ok (.ifCond .ne 6, 3) := by decide +kernel
theorem dX10_plan_73 : decode cX10_plan 73 = .ok (.bipush (-9), 2) := by decide +kernel
theorem dX10_plan_75 : decode cX10_plan 75 = .ok (.ireturn, 1) := by decide +kernel
theorem dX10_plan_76 : decode cX10_plan 76 = .ok (.iload_n 3, 1) := by decide +kernel
theorem dX10_plan_77 : decode cX10_plan 77 = .ok (.tableswitch 50 (-3) (-1) #[40, 30, 27], 27) := by decide +kernel
theorem dX10_plan_104 : decode cX10_plan 104 = .ok (.iload 4, 2) := by decide +kernel
theorem dX10_plan_106 : decode cX10_plan 106 = .ok (.ireturn, 1) := by decide +kernel
theorem dX10_plan_107 : decode cX10_plan 107 = .ok (.aload_n 0, 1) := by decide +kernel
theorem dX10_plan_108 : decode cX10_plan 108 = .ok (.getfield 42, 3) := by decide +kernel
theorem dX10_plan_111 : decode cX10_plan 111 = .ok (.iload 4, 2) := by decide +kernel
theorem dX10_plan_113 : decode cX10_plan 113 = .ok (.invokevirtual 221, 3) := by decide +kernel
theorem dX10_plan_116 : decode cX10_plan 116 = .ok (.ireturn, 1) := by decide +kernel
theorem dX10_plan_117 : decode cX10_plan 117 = .ok (.aload_n 0, 1) := by decide +kernel
theorem dX10_plan_118 : decode cX10_plan 118 = .ok (.getfield 42, 3) := by decide +kernel
theorem dX10_plan_121 : decode cX10_plan 121 = .ok (.iload 4, 2) := by decide +kernel
theorem dX10_plan_123 : decode cX10_plan 123 = .ok (.invokevirtual 224, 3) := by decide +kernel
theorem dX10_plan_126 : decode cX10_plan 126 = .ok (.ireturn, 1) := by decide +kernel
theorem dX10_plan_127 : decode cX10_plan 127 = .ok (.aload_n 0, 1) := by decide +kernel
theorem dX10_plan_128 : decode cX10_plan 128 = .ok (.getfield 42, 3) := by decide +kernel
theorem dX10_plan_131 : decode cX10_plan 131 = .ok (.iload 4, 2) := by decide +kernel
theorem dX10_plan_133 : decode cX10_plan 133 = .ok (.iload_n 3, 1) := by decide +kernel
theorem dX10_plan_134 : decode cX10_plan 134 = .ok (.invokevirtual 227, 3) := by decide +kernel
theorem dX10_plan_137 : decode cX10_plan 137 = .ok (.ireturn, 1) := by decide +kernel
theorem dX10_power_0 : decode cX10_power 0 = .ok (.iconst 1, 1) := by decide +kernel
theorem dX10_power_1 : decode cX10_power 1 = .ok (.istore_n 2, 1) := by decide +kernel
theorem dX10_power_2 : decode cX10_power 2 = .ok (.iconst 0, 1) := by decide +kernel
theorem dX10_power_3 : decode cX10_power 3 = .ok (.istore_n 3, 1) := by decide +kernel
theorem dX10_power_4 : decode cX10_power 4 = .ok (.iload_n 3, 1) := by decide +kernel
theorem dX10_power_5 : decode cX10_power 5 = .ok (.iload_n 1, 1) := by decide +kernel
theorem dX10_power_6 : decode cX10_power 6 = .ok (.if_icmp .ge 13, 3) := by decide +kernel
theorem dX10_power_9 : decode cX10_power 9 = .ok (.iload_n 2, 1) := by decide +kernel
theorem dX10_power_10 : decode cX10_power 10 = .ok (.iload_n 0, 1) := by decide +kernel
theorem dX10_power_11 : decode cX10_power 11 = .ok (.imul, 1) := by decide +kernel
theorem dX10_power_12 : decode cX10_power 12 = .ok (.istore_n 2, 1) := by decide +kernel
theorem dX10_power_13 : decode cX10_power 13 = .ok (.iinc 3 1, 3) := by decide +kernel
theorem dX10_power_16 : decode cX10_power 16 = .ok (.goto (-12), 3) := by decide +kernel
theorem dX10_power_19 : decode cX10_power 19 = .ok (.iload_n 2, 1) := by decide +kernel
theorem dX10_power_20 : decode cX10_power 20 = .ok (.ireturn, 1) := by decide +kernel
theorem dX10_sets_0 : decode cX10_sets 0 = .ok (.aload_n 0, 1) := by decide +kernel
theorem dX10_sets_1 : decode cX10_sets 1 = .ok (.getfield 19, 3) := by decide +kernel
theorem dX10_sets_4 : decode cX10_sets 4 = .ok (.iload_n 1, 1) := by decide +kernel
theorem dX10_sets_5 : decode cX10_sets 5 = .ok (.invokevirtual 129, 3) := by decide +kernel
theorem dX10_sets_8 : decode cX10_sets 8 = .ok (.ifCond .eq 19, 3) := by decide +kernel
theorem dX10_sets_11 : decode cX10_sets 11 = .ok (.iload_n 2, 1) := by decide +kernel
theorem dX10_sets_12 : decode cX10_sets 12 = .ok (.iconst (-1), 1) := by decide +kernel
theorem dX10_sets_13 : decode cX10_sets 13 = .ok (.if_icmp .eq 16, 3) := by decide +kernel
theorem dX10_sets_16 : decode cX10_sets 16 = .ok (.aload_n 0, 1) := by decide +kernel
theorem dX10_sets_17 : decode cX10_sets 17 = .ok (.getfield 19, 3) := by decide +kernel
theorem dX10_sets_20 : decode cX10_sets 20 = .ok (.iload_n 2, 1) := by decide +kernel
theorem dX10_sets_21 : decode cX10_sets 21 = .ok (.invokevirtual 109, 3) := by decide +kernel
theorem dX10_sets_24 : decode cX10_sets 24 = .ok (.ifCond .ne 5, 3) := by decide +kernel
theorem dX10_sets_27 : decode cX10_sets 27 = .ok (.iconst (-1), 1) := by decide +kernel
theorem dX10_sets_28 : decode cX10_sets 28 = .ok (.ireturn, 1) := by decide +kernel
theorem dX10_sets_29 : decode cX10_sets 29 = .ok (.aload_n 0, 1) := by decide +kernel
theorem dX10_sets_30 : decode cX10_sets 30 = .ok (.getfield 19, 3) := by decide +kernel
theorem dX10_sets_33 : decode cX10_sets 33 = .ok (.getfield 138, 3) := by decide +kernel
theorem dX10_sets_36 : decode cX10_sets 36 = .ok (.getfield 159, 3) := by decide +kernel
theorem dX10_sets_39 : decode cX10_sets 39 = .ok (.iload_n 1, 1) := by decide +kernel
theorem dX10_sets_40 : decode cX10_sets 40 = .ok (.iaload, 1) := by decide +kernel
theorem dX10_sets_41 : decode cX10_sets 41 = .ok (.istore_n 3, 1) := by decide +kernel
theorem dX10_sets_42 : decode cX10_sets 42 = .ok (.iload_n 2, 1) := by decide +kernel
theorem dX10_sets_43 : decode cX10_sets 43 = .ok (.iload_n 3, 1) := by decide +kernel
theorem dX10_sets_44 : decode cX10_sets 44 = .ok (.if_icmp .eq 20, 3) := by decide +kernel
theorem dX10_sets_47 : decode cX10_sets 47 = .ok (.iload_n 2, 1) := by decide +kernel
theorem dX10_sets_48 : decode cX10_sets 48 = .ok (.iconst (-1), 1) := by decide +kernel
theorem dX10_sets_49 : decode cX10_sets 49 = .ok (.if_icmp .eq 18, 3) := by decide +kernel
theorem dX10_sets_52 : decode cX10_sets 52 = .ok (.aload_n 0, 1) := by decide +kernel
theorem dX10_sets_53 : decode cX10_sets 53 = .ok (.getfield 19, 3) := by decide +kernel
theorem dX10_sets_56 : decode cX10_sets 56 = .ok (.iload_n 1, 1) := by decide +kernel
theorem dX10_sets_57 : decode cX10_sets 57 = .ok (.iload_n 2, 1) := by decide +kernel
theorem dX10_sets_58 : decode cX10_sets 58 = .ok (.invokevirtual 168, 3) := by decide +kernel
theorem dX10_sets_61 : decode cX10_sets 61 = .ok (.ifCond .ne 6, 3) := by decide +kernel
theorem dX10_sets_64 : decode cX10_sets 64 = .ok (.bipush (-2), 2) := by decide +kernel
theorem dX10_sets_66 : decode cX10_sets 66 = .ok (.ireturn, 1) := by decide +kernel
theorem dX10_sets_67 : decode cX10_sets 67 = .ok (.aload_n 0, 1) := by decide +kernel
theorem dX10_sets_68 : decode cX10_sets 68 = .ok (.getfield 26, 3) := by decide +kernel
theorem dX10_sets_71 : decode cX10_sets 71 = .ok (.aload_n 0, 1) := by decide +kernel
theorem dX10_sets_72 : decode cX10_sets 72 = .ok (.getfield 19, 3) := by decide +kernel
theorem dX10_sets_75 : decode cX10_sets 75 = .ok (.getfield 138, 3) := by decide +kernel
theorem dX10_sets_78 : decode cX10_sets 78 = .ok (.invokevirtual 172, 3) := by decide +kernel
theorem dX10_sets_81 : decode cX10_sets 81 = .ok (.aload_n 0, 1) := by decide +kernel
theorem dX10_sets_82 : decode cX10_sets 82 = .ok (.getfield 19, 3) := by decide +kernel
theorem dX10_sets_85 : decode cX10_sets 85 = .ok (.getfield 138, 3) := by decide +kernel
theorem dX10_sets_88 : decode cX10_sets 88 = .ok (.getfield 159, 3) := by decide +kernel
theorem dX10_sets_91 : decode cX10_sets 91 = .ok (.iload_n 1, 1) := by decide +kernel
theorem dX10_sets_92 : decode cX10_sets 92 = .ok (.iload_n 2, 1) := by decide +kernel
theorem dX10_sets_93 : decode cX10_sets 93 = .ok (.iastore, 1) := by decide +kernel
theorem dX10_sets_94 : decode cX10_sets 94 = .ok (.iload_n 3, 1) := by decide +kernel
theorem dX10_sets_95 : decode cX10_sets 95 = .ok (.invokestatic 162, 3) := by decide +kernel
theorem dX10_sets_98 : decode cX10_sets 98 = .ok (.ireturn, 1) := by decide +kernel
theorem dX10_thing_0 : decode cX10_thing 0 = .ok (.aload_n 0, 1) := by decide +kernel
theorem dX10_thing_1 : decode cX10_thing 1 = .ok (.getfield 19, 3) := by decide +kernel
theorem dX10_thing_4 : decode cX10_thing 4 = .ok (.iload_n 1, 1) := by decide +kernel
theorem dX10_thing_5 : decode cX10_thing 5 = .ok (.invokevirtual 109, 3) := by decide +kernel
theorem dX10_thing_8 : decode cX10_thing 8 = .ok (.ifCond .ne 5, 3) := by decide +kernel
theorem dX10_thing_11 : decode cX10_thing 11 = .ok (.iconst (-1), 1) := by decide +kernel
theorem dX10_thing_12 : decode cX10_thing 12 = .ok (.ireturn, 1) := by decide +kernel
theorem dX10_thing_13 : decode cX10_thing 13 = .ok (.iload_n 2, 1) := by decide +kernel
theorem dX10_thing_14 : decode cX10_thing 14 = .ok (.tableswitch 95 0 4 #[34, 47, 60, 73, 86], 34) := by decide +kernel
theorem dX10_thing_48 : decode cX10_thing 48 = .ok (.aload_n 0, 1) := by decide +kernel
theorem dX10_thing_49 : decode cX10_thing 49 = .ok (.getfield 19, 3) := by decide +kernel
theorem dX10_thing_52 : decode cX10_thing 52 = .ok (.getfield 98, 3) := by decide +kernel
theorem dX10_thing_55 : decode cX10_thing 55 = .ok (.getfield 113, 3) := by decide +kernel
theorem dX10_thing_58 : decode cX10_thing 58 = .ok (.iload_n 1, 1) := by decide +kernel
theorem dX10_thing_59 : decode cX10_thing 59 = .ok (.iaload, 1) := by decide +kernel
theorem dX10_thing_60 : decode cX10_thing 60 = .ok (.ireturn, 1) := by decide +kernel
theorem dX10_thing_61 : decode cX10_thing 61 = .ok (.aload_n 0, 1) := by decide +kernel
theorem dX10_thing_62 : decode cX10_thing 62 = .ok (.getfield 19, 3) := by decide +kernel
theorem dX10_thing_65 : decode cX10_thing 65 = .ok (.getfield 98, 3) := by decide +kernel
theorem dX10_thing_68 : decode cX10_thing 68 = .ok (.getfield 116, 3) := by decide +kernel
theorem dX10_thing_71 : decode cX10_thing 71 = .ok (.iload_n 1, 1) := by decide +kernel
theorem dX10_thing_72 : decode cX10_thing 72 = .ok (.iaload, 1) := by decide +kernel
theorem dX10_thing_73 : decode cX10_thing 73 = .ok (.ireturn, 1) := by decide +kernel
theorem dX10_thing_74 : decode cX10_thing 74 = .ok (.aload_n 0, 1) := by decide +kernel
theorem dX10_thing_75 : decode cX10_thing 75 = .ok (.getfield 19, 3) := by decide +kernel
theorem dX10_thing_78 : decode cX10_thing 78 = .ok (.getfield 98, 3) := by decide +kernel
theorem dX10_thing_81 : decode cX10_thing 81 = .ok (.getfield 119, 3) := by decide +kernel
theorem dX10_thing_84 : decode cX10_thing 84 = .ok (.iload_n 1, 1) := by decide +kernel
theorem dX10_thing_85 : decode cX10_thing 85 = .ok (.iaload, 1) := by decide +kernel
theorem dX10_thing_86 : decode cX10_thing 86 = .ok (.ireturn, 1) := by decide +kernel
theorem dX10_thing_87 : decode cX10_thing 87 = .ok (.aload_n 0, 1) := by decide +kernel
theorem dX10_thing_88 : decode cX10_thing 88 = .ok (.getfield 19, 3) := by decide +kernel
theorem dX10_thing_91 : decode cX10_thing 91 = .ok (.getfield 98, 3) := by decide +kernel
theorem dX10_thing_94 : decode cX10_thing 94 = .ok (.getfield 122, 3) := by decide +kernel
theorem dX10_thing_97 : decode cX10_thing 97 = .ok (.iload_n 1, 1) := by decide +kernel
theorem dX10_thing_98 : decode cX10_thing 98 = .ok (.iaload, 1) := by decide +kernel
theorem dX10_thing_99 : decode cX10_thing 99 = .ok (.ireturn, 1) := by decide +kernel
theorem dX10_thing_100 : decode cX10_thing 100 = .ok (.aload_n 0, 1) := by decide +kernel
theorem dX10_thing_101 : decode cX10_thing 101 = .ok (.getfield 19, 3) := by decide +kernel
theorem dX10_thing_104 : decode cX10_thing 104 = .ok (.iload_n 1, 1) := by decide +kernel
theorem dX10_thing_105 : decode cX10_thing 105 = .ok (.invokevirtual 125, 3) := by decide +kernel
theorem dX10_thing_108 : decode cX10_thing 108 = .ok (.ireturn, 1) := by decide +kernel
theorem dX10_thing_109 : decode cX10_thing 109 = .ok (.iconst (-1), 1) := by decide +kernel
theorem dX10_thing_110 : decode cX10_thing 110 = .ok (.ireturn, 1) := by decide +kernel
theorem dX10_trace_0 : decode cX10_trace 0 = .ok (.aload_n 0, 1) := by decide +kernel
theorem dX10_trace_1 : decode cX10_trace 1 = .ok (.getfield 63, 3) := by decide +kernel
theorem dX10_trace_4 : decode cX10_trace 4 = .ok (.getfield 276, 3) := by decide +kernel
theorem dX10_trace_7 : decode cX10_trace 7 = .ok (.lreturn, 1) := by decide +kernel
theorem dX10_type_0 : decode cX10_type 0 = .ok (.iload_n 1, 1) := by decide +kernel
theorem dX10_type_1 : decode cX10_type 1 = .ok (.ifCond .lt 10, 3) := by decide +kernel
theorem dX10_type_4 : decode cX10_type 4 = .ok (.iload_n 1, 1) := by decide +kernel
theorem dX10_type_5 : decode cX10_type 5 = .ok (.sipush 255, 3) := by decide +kernel
theorem dX10_type_8 : decode cX10_type 8 = .ok (.if_icmp .le 5, 3) := by decide +kernel
theorem dX10_type_11 : decode cX10_type 11 = .ok (.iconst (-1), 1) := by decide +kernel
theorem dX10_type_12 : decode cX10_type 12 = .ok (.ireturn, 1) := by decide +kernel
theorem dX10_type_13 : decode cX10_type 13 = .ok (.aload_n 0, 1) := by decide +kernel
theorem dX10_type_14 : decode cX10_type 14 = .ok (.getfield 10, 3) := by decide +kernel
theorem dX10_type_17 : decode cX10_type 17 = .ok (.getfield 67, 3) := by decide +kernel
theorem dX10_type_20 : decode cX10_type 20 = .ok (.sipush 150, 3) := by decide +kernel
theorem dX10_type_23 : decode cX10_type 23 = .ok (.if_icmp .lt 6, 3) := by decide +kernel
theorem dX10_type_26 : decode cX10_type 26 = .ok (.bipush (-3), 2) := by decide +kernel
theorem dX10_type_28 : decode cX10_type 28 = .ok (.ireturn, 1) := by decide +kernel
theorem dX10_type_29 : decode cX10_type 29 = .ok (.aload_n 0, 1) := by decide +kernel
theorem dX10_type_30 : decode cX10_type 30 = .ok (.getfield 10, 3) := by decide +kernel
theorem dX10_type_33 : decode cX10_type 33 = .ok (.getfield 71, 3) := by decide +kernel
theorem dX10_type_36 : decode cX10_type 36 = .ok (.aload_n 0, 1) := by decide +kernel
theorem dX10_type_37 : decode cX10_type 37 = .ok (.getfield 10, 3) := by decide +kernel
theorem dX10_type_40 : decode cX10_type 40 = .ok (.getfield 67, 3) := by decide +kernel
theorem dX10_type_43 : decode cX10_type 43 = .ok (.iload_n 1, 1) := by decide +kernel
theorem dX10_type_44 : decode cX10_type 44 = .ok (.iastore, 1) := by decide +kernel
theorem dX10_type_45 : decode cX10_type 45 = .ok (.aload_n 0, 1) := by decide +kernel
theorem dX10_type_46 : decode cX10_type 46 = .ok (.getfield 10, 3) := by decide +kernel
theorem dX10_type_49 : decode cX10_type 49 = .ok (.dup, 1) := by decide +kernel
theorem dX10_type_50 : decode cX10_type 50 = .ok (.getfield 67, 3) := by decide +kernel
theorem dX10_type_53 : decode cX10_type 53 = .ok (.iconst 1, 1) := by decide +kernel
theorem dX10_type_54 : decode cX10_type 54 = .ok (.iadd, 1) := by decide +kernel
theorem dX10_type_55 : decode cX10_type 55 = .ok (.putfield 67, 3) := by decide +kernel
theorem dX10_type_58 : decode cX10_type 58 = .ok (.aload_n 0, 1) := by decide +kernel
theorem dX10_type_59 : decode cX10_type 59 = .ok (.getfield 10, 3) := by decide +kernel
theorem dX10_type_62 : decode cX10_type 62 = .ok (.getfield 67, 3) := by decide +kernel
theorem dX10_type_65 : decode cX10_type 65 = .ok (.ireturn, 1) := by decide +kernel
theorem dX10_undo_0 : decode cX10_undo 0 = .ok (.aload_n 0, 1) := by decide +kernel
theorem dX10_undo_1 : decode cX10_undo 1 = .ok (.getfield 26, 3) := by decide +kernel
theorem dX10_undo_4 : decode cX10_undo 4 = .ok (.getfield 90, 3) := by decide +kernel
theorem dX10_undo_7 : decode cX10_undo 7 = .ok (.ifCond .ne 6, 3) := by decide +kernel
theorem dX10_undo_10 : decode cX10_undo 10 = .ok (.bipush (-2), 2) := by decide +kernel
theorem dX10_undo_12 : decode cX10_undo 12 = .ok (.ireturn, 1) := by decide +kernel
theorem dX10_undo_13 : decode cX10_undo 13 = .ok (.aload_n 0, 1) := by decide +kernel
theorem dX10_undo_14 : decode cX10_undo 14 = .ok (.getfield 26, 3) := by decide +kernel
theorem dX10_undo_17 : decode cX10_undo 17 = .ok (.aload_n 0, 1) := by decide +kernel
theorem dX10_undo_18 : decode cX10_undo 18 = .ok (.getfield 19, 3) := by decide +kernel
theorem dX10_undo_21 : decode cX10_undo 21 = .ok (.getfield 138, 3) := by decide +kernel
theorem dX10_undo_24 : decode cX10_undo 24 = .ok (.invokevirtual 197, 3) := by decide +kernel
theorem dX10_undo_27 : decode cX10_undo 27 = .ok (.aload_n 0, 1) := by decide +kernel
theorem dX10_undo_28 : decode cX10_undo 28 = .ok (.getfield 26, 3) := by decide +kernel
theorem dX10_undo_31 : decode cX10_undo 31 = .ok (.getfield 90, 3) := by decide +kernel
theorem dX10_undo_34 : decode cX10_undo 34 = .ok (.ireturn, 1) := by decide +kernel
theorem dX10_waysToFall_0 : decode cX10_waysToFall 0 = .ok (.iconst 0, 1) := by decide +kernel
theorem dX10_waysToFall_1 : decode cX10_waysToFall 1 = .ok (.istore_n 3, 1) := by decide +kernel
theorem dX10_waysToFall_2 : decode cX10_waysToFall 2 = .ok (.iconst 1, 1) := by decide +kernel
theorem dX10_waysToFall_3 : decode cX10_waysToFall 3 = .ok (.istore 4, 2) := by decide +kernel
theorem dX10_waysToFall_5 : decode cX10_waysToFall 5 = .ok (.iconst 0, 1) := by decide +kernel
theorem dX10_waysToFall_6 : decode cX10_waysToFall 6 = .ok (.istore 5, 2) := by decide +kernel
theorem dX10_waysToFall_8 : decode cX10_waysToFall 8 = .ok (.iload 5, 2) := by decide +kernel
theorem dX10_waysToFall_10 : decode cX10_waysToFall 10 = .ok (.iload_n 0, 1) := by decide +kernel
theorem dX10_waysToFall_11 : decode cX10_waysToFall 11 = .ok (.if_icmp .gt 53, 3) := by decide +kernel
theorem dX10_waysToFall_14 : decode cX10_waysToFall 14 = .ok (.iload 5, 2) := by decide +kernel
theorem dX10_waysToFall_16 : decode cX10_waysToFall 16 = .ok (.iload_n 2, 1) := by decide +kernel
theorem dX10_waysToFall_17 : decode cX10_waysToFall 17 = .ok (.if_icmp .gt 47, 3) := by decide +kernel
theorem dX10_waysToFall_20 : decode cX10_waysToFall 20 = .ok (.iload_n 3, 1) := by decide +kernel
theorem dX10_waysToFall_21 : decode cX10_waysToFall 21 = .ok (.iload 4, 2) := by decide +kernel
theorem dX10_waysToFall_23 : decode cX10_waysToFall 23 = .ok (.iload_n 1, 1) := by decide +kernel
theorem dX10_waysToFall_24 : decode cX10_waysToFall 24 = .ok (.iload 5, 2) := by decide +kernel
theorem dX10_waysToFall_26 : decode cX10_waysToFall 26 = .ok (.invokestatic 249, 3) := by decide +kernel
theorem dX10_waysToFall_29 : decode cX10_waysToFall 29 = .ok (.imul, 1) := by decide +kernel
theorem dX10_waysToFall_30 : decode cX10_waysToFall 30 = .ok (.bipush 10, 2) := by decide +kernel
theorem dX10_waysToFall_32 : decode cX10_waysToFall 32 = .ok (.iload_n 1, 1) := by decide +kernel
theorem dX10_waysToFall_33 : decode cX10_waysToFall 33 = .ok (.isub, 1) := by decide +kernel
theorem dX10_waysToFall_34 : decode cX10_waysToFall 34 = .ok (.iload_n 0, 1) := by decide +kernel
theorem dX10_waysToFall_35 : decode cX10_waysToFall 35 = .ok (.iload 5, 2) := by decide +kernel
theorem dX10_waysToFall_37 : decode cX10_waysToFall 37 = .ok (.isub, 1) := by decide +kernel
theorem dX10_waysToFall_38 : decode cX10_waysToFall 38 = .ok (.invokestatic 249, 3) := by decide +kernel
theorem dX10_waysToFall_41 : decode cX10_waysToFall 41 = .ok (.imul, 1) := by decide +kernel
theorem dX10_waysToFall_42 : decode cX10_waysToFall 42 = .ok (.iadd, 1) := by decide +kernel
theorem dX10_waysToFall_43 : decode cX10_waysToFall 43 = .ok (.istore_n 3, 1) := by decide +kernel
theorem dX10_waysToFall_44 : decode cX10_waysToFall 44 = .ok (.iload 4, 2) := by decide +kernel
theorem dX10_waysToFall_46 : decode cX10_waysToFall 46 = .ok (.iload_n 0, 1) := by decide +kernel
theorem dX10_waysToFall_47 : decode cX10_waysToFall 47 = .ok (.iload 5, 2) := by decide +kernel
theorem dX10_waysToFall_49 : decode cX10_waysToFall 49 = .ok (.isub, 1) := by decide +kernel
theorem dX10_waysToFall_50 : decode cX10_waysToFall 50 = .ok (.imul, 1) := by decide +kernel
theorem dX10_waysToFall_51 : decode cX10_waysToFall 51 = .ok (.iload 5, 2) := by decide +kernel
theorem dX10_waysToFall_53 : decode cX10_waysToFall 53 = .ok (.iconst 1, 1) := by decide +kernel
theorem dX10_waysToFall_54 : decode cX10_waysToFall 54 = .ok (.iadd, 1) := by decide +kernel
theorem dX10_waysToFall_55 : decode cX10_waysToFall 55 = .ok (.idiv, 1) := by decide +kernel
theorem dX10_waysToFall_56 : decode cX10_waysToFall 56 = .ok (.istore 4, 2) := by decide +kernel
theorem dX10_waysToFall_58 : decode cX10_waysToFall 58 = .ok (.iinc 5 1, 3) := by decide +kernel
theorem dX10_waysToFall_61 : decode cX10_waysToFall 61 = .ok (.goto (-53), 3) := by decide +kernel
theorem dX10_waysToFall_64 : decode cX10_waysToFall 64 = .ok (.iload_n 3, 1) := by decide +kernel
theorem dX10_waysToFall_65 : decode cX10_waysToFall 65 = .ok (.ireturn, 1) := by decide +kernel
theorem dX10_who_0 : decode cX10_who 0 = .ok (.aload_n 0, 1) := by decide +kernel
theorem dX10_who_1 : decode cX10_who 1 = .ok (.getfield 56, 3) := by decide +kernel
theorem dX10_who_4 : decode cX10_who 4 = .ok (.invokevirtual 259, 3) := by decide +kernel
theorem dX10_who_7 : decode cX10_who 7 = .ok (.ireturn, 1) := by decide +kernel
theorem dX11_ask_0 : decode cX11_ask 0 = .ok (.aload_n 0, 1) := by decide +kernel
theorem dX11_ask_1 : decode cX11_ask 1 = .ok (.invokevirtual 222, 3) := by decide +kernel
theorem dX11_ask_4 : decode cX11_ask 4 = .ok (.istore_n 1, 1) := by decide +kernel
theorem dX11_ask_5 : decode cX11_ask 5 = .ok (.iload_n 1, 1) := by decide +kernel
theorem dX11_ask_6 : decode cX11_ask 6 = .ok (.invokestatic 175, 3) := by decide +kernel
theorem dX11_ask_9 : decode cX11_ask 9 = .ok (.istore_n 2, 1) := by decide +kernel
theorem dX11_ask_10 : decode cX11_ask 10 = .ok (.bipush (-9), 2) := by decide +kernel
theorem dX11_ask_12 : decode cX11_ask 12 = .ok (.istore_n 3, 1) := by decide +kernel
theorem dX11_ask_13 : decode cX11_ask 13 = .ok (.iload_n 2, 1) := by decide +kernel
theorem dX11_ask_14 : decode cX11_ask 14 = .ok (.istore 4, 2) := by decide +kernel
theorem dX11_ask_16 : decode cX11_ask 16 = .ok (.iconst 0, 1) := by decide +kernel
theorem dX11_ask_17 : decode cX11_ask 17 = .ok (.istore 5, 2) := by decide +kernel
theorem dX11_ask_19 : decode cX11_ask 19 = .ok (.iload 5, 2) := by decide +kernel
theorem dX11_ask_21 : decode cX11_ask 21 = .ok (.aload_n 0, 1) := by decide +kernel
theorem dX11_ask_22 : decode cX11_ask 22 = .ok (.getfield 68, 3) := by decide +kernel
theorem dX11_ask_25 : decode cX11_ask 25 = .ok (.if_icmp .ge 72, 3) := by decide +kernel
theorem dX11_ask_28 : decode cX11_ask 28 = .ok (.iload_n 1, 1) := by decide +kernel
theorem dX11_ask_29 : decode cX11_ask 29 = .ok (.aload_n 0, 1) := by decide +kernel
theorem dX11_ask_30 : decode cX11_ask 30 = .ok (.iload 5, 2) := by decide +kernel
theorem dX11_ask_32 : decode cX11_ask 32 = .ok (.invokevirtual 159, 3) := by decide +kernel
theorem dX11_ask_35 : decode cX11_ask 35 = .ok (.iand, 1) := by decide +kernel
theorem dX11_ask_36 : decode cX11_ask 36 = .ok (.invokestatic 175, 3) := by decide +kernel
theorem dX11_ask_39 : decode cX11_ask 39 = .ok (.istore 6, 2) := by decide +kernel
theorem dX11_ask_41 : decode cX11_ask 41 = .ok (.iload 6, 2) := by decide +kernel
theorem dX11_ask_43 : decode cX11_ask 43 = .ok (.iload_n 2, 1) := by decide +kernel
theorem dX11_ask_44 : decode cX11_ask 44 = .ok (.iload 6, 2) := by decide +kernel
theorem dX11_ask_46 : decode cX11_ask 46 = .ok (.isub, 1) := by decide +kernel
theorem dX11_ask_47 : decode cX11_ask 47 = .ok (.if_icmp .le 8, 3) := by decide +kernel
theorem dX11_ask_50 : decode cX11_ask 50 = .ok (.iload 6, 2) := by decide +kernel
theorem dX11_ask_52 : decode cX11_ask 52 = .ok (.goto 7, 3) := by decide +kernel
theorem dX11_ask_55 : decode cX11_ask 55 = .ok (.iload_n 2, 1) := by decide +kernel
theorem dX11_ask_56 : decode cX11_ask 56 = .ok (.iload 6, 2) := by decide +kernel
theorem dX11_ask_58 : decode cX11_ask 58 = .ok (.isub, 1) := by decide +kernel
theorem dX11_ask_59 : decode cX11_ask 59 = .ok (.istore 7, 2) := by decide +kernel
theorem dX11_ask_61 : decode cX11_ask 61 = .ok (.iload 7, 2) := by decide +kernel
theorem dX11_ask_63 : decode cX11_ask 63 = .ok (.iload 4, 2) := by decide +kernel
theorem dX11_ask_65 : decode cX11_ask 65 = .ok (.if_icmp .ge 8, 3) := by decide +kernel
theorem dX11_ask_68 : decode cX11_ask 68 = .ok (.iload 5, 2) := by decide +kernel
theorem dX11_ask_70 : decode cX11_ask 70 = .ok (.goto 4, 3) := by decide +kernel
theorem dX11_ask_73 : decode cX11_ask 73 = .ok (.iload_n 3, 1) := by decide +kernel
theorem dX11_ask_74 : decode cX11_ask 74 = .ok (.istore_n 3, 1) := by decide +kernel
theorem dX11_ask_75 : decode cX11_ask 75 = .ok (.iload 7, 2) := by decide +kernel
theorem dX11_ask_77 : decode cX11_ask 77 = .ok (.iload 4, 2) := by decide +kernel
theorem dX11_ask_79 : decode cX11_ask 79 = .ok (.if_icmp .ge 8, 3) := by decide +kernel
theorem dX11_ask_82 : decode cX11_ask 82 = .ok (.iload 7, 2) := by decide +kernel
theorem dX11_ask_84 : decode cX11_ask 84 = .ok (.goto 5, 3) := by decide +kernel
theorem dX11_ask_87 : decode cX11_ask 87 = .ok (.iload 4, 2) := by decide +kernel
theorem dX11_ask_89 : decode cX11_ask 89 = .ok (.istore 4, 2) := by decide +kernel
theorem dX11_ask_91 : decode cX11_ask 91 = .ok (.iinc 5 1, 3) := by decide +kernel
theorem dX11_ask_94 : decode cX11_ask 94 = .ok (.goto (-75), 3) := by decide +kernel
theorem dX11_ask_97 : decode cX11_ask 97 = .ok (.iload_n 3, 1) := by decide +kernel
theorem dX11_ask_98 : decode cX11_ask 98 = .ok (.ireturn, 1) := by decide +kernel
theorem dX11_back_0 : decode cX11_back 0 = .ok (.iload_n 1, 1) := by decide +kernel
theorem dX11_back_1 : decode cX11_back 1 = .ok (.iconst 0, 1) := by decide +kernel
theorem dX11_back_2 : decode cX11_back 2 = .ok (.iconst 1, 1) := by decide +kernel
theorem dX11_back_3 : decode cX11_back 3 = .ok (.invokestatic 72, 3) := by decide +kernel
theorem dX11_back_6 : decode cX11_back 6 = .ok (.ifCond .ne 5, 3) := by decide +kernel
theorem dX11_back_9 : decode cX11_back 9 = .ok (.iconst (-1), 1) := by decide +kernel
theorem dX11_back_10 : decode cX11_back 10 = .ok (.ireturn, 1) := by decide +kernel
theorem dX11_back_11 : decode cX11_back 11 = .ok (.aload_n 0, 1) := by decide +kernel
theorem dX11_back_12 : decode cX11_back 12 = .ok (.getfield 34, 3) := by decide +kernel
theorem dX11_back_15 : decode cX11_back 15 = .ok (.iload_n 1, 1) := by decide +kernel
theorem dX11_back_16 : decode cX11_back 16 = .ok (.baload, 1) := by decide +kernel
theorem dX11_back_17 : decode cX11_back 17 = .ok (.ifCond .ne 6, 3) := by decide +kernel
theorem dX11_back_20 : decode cX11_back 20 = .ok (.bipush (-2), 2) := by decide +kernel
theorem dX11_back_22 : decode cX11_back 22 = .ok (.ireturn, 1) := by decide +kernel
theorem dX11_back_23 : decode cX11_back 23 = .ok (.iconst 0, 1) := by decide +kernel
theorem dX11_back_24 : decode cX11_back 24 = .ok (.istore_n 2, 1) := by decide +kernel
theorem dX11_back_25 : decode cX11_back 25 = .ok (.iload_n 2, 1) := by decide +kernel
theorem dX11_back_26 : decode cX11_back 26 = .ok (.sipush 815, 3) := by decide +kernel
theorem dX11_back_29 : decode cX11_back 29 = .ok (.if_icmp .ge 27, 3) := by decide +kernel
theorem dX11_back_32 : decode cX11_back 32 = .ok (.aload_n 0, 1) := by decide +kernel
theorem dX11_back_33 : decode cX11_back 33 = .ok (.getfield 28, 3) := by decide +kernel
theorem dX11_back_36 : decode cX11_back 36 = .ok (.iload_n 2, 1) := by decide +kernel
theorem dX11_back_37 : decode cX11_back 37 = .ok (.aload_n 0, 1) := by decide +kernel
theorem dX11_back_38 : decode cX11_back 38 = .ok (.getfield 31, 3) := by decide +kernel
theorem dX11_back_41 : decode cX11_back 41 = .ok (.sipush 815, 3) := by decide +kernel
theorem dX11_back_44 : decode cX11_back 44 = .ok (.iload_n 1, 1) := by decide +kernel
theorem dX11_back_45 : decode cX11_back 45 = .ok (.imul, 1) := by decide +kernel
theorem dX11_back_46 : decode cX11_back 46 = .ok (.iload_n 2, 1) := by decide +kernel
theorem dX11_back_47 : decode cX11_back 47 = .ok (.iadd, 1) := by decide +kernel
theorem dX11_back_48 : decode cX11_back 48 = .ok (.iaload, 1) := by decide +kernel
theorem dX11_back_49 : decode cX11_back 49 = .ok (.iastore, 1) := by decide +kernel
theorem dX11_back_50 : decode cX11_back 50 = .ok (.iinc 2 1, 3) := by decide +kernel
theorem dX11_back_53 : decode cX11_back 53 = .ok (.goto (-28), 3) := by decide +kernel
theorem dX11_back_56 : decode cX11_back 56 = .ok (.aload_n 0, 1) := by decide +kernel
theorem dX11_back_57 : decode cX11_back 57 = .ok (.getfield 28, 3) := by decide +kernel
theorem dX11_back_60 : decode cX11_back 60 = .ok (.iconst 0, 1) := by decide +kernel
theorem dX11_back_61 : decode cX11_back 61 = .ok (.iaload, 1) := by decide +kernel
theorem dX11_back_62 : decode cX11_back 62 = .ok (.ireturn, 1) := by decide +kernel
theorem dX11_bears_0 : decode cX11_bears 0 = .ok (.aload_n 0, 1) := by decide +kernel
theorem dX11_bears_1 : decode cX11_bears 1 = .ok (.iload_n 1, 1) := by decide +kernel
theorem dX11_bears_2 : decode cX11_bears 2 = .ok (.invokevirtual 144, 3) := by decide +kernel
theorem dX11_bears_5 : decode cX11_bears 5 = .ok (.ifCond .ne 32, 3) := by decide +kernel
theorem dX11_bears_8 : decode cX11_bears 8 = .ok (.aload_n 0, 1) := by decide +kernel
theorem dX11_bears_9 : decode cX11_bears 9 = .ok (.getfield 28, 3) := by decide +kernel
theorem dX11_bears_12 : decode cX11_bears 12 = .ok (.bipush 61, 2) := by decide +kernel
theorem dX11_bears_14 : decode cX11_bears 14 = .ok (.iload_n 1, 1) := by decide +kernel
theorem dX11_bears_15 : decode cX11_bears 15 = .ok (.iadd, 1) := by decide +kernel
theorem dX11_bears_16 : decode cX11_bears 16 = .ok (.iaload, 1) := by decide +kernel
theorem dX11_bears_17 : decode cX11_bears 17 = .ok (.aload_n 0, 1) := by decide +kernel
theorem dX11_bears_18 : decode cX11_bears 18 = .ok (.iload_n 1, 1) := by decide +kernel
theorem dX11_bears_19 : decode cX11_bears 19 = .ok (.iload_n 2, 1) := by decide +kernel
theorem dX11_bears_20 : decode cX11_bears 20 = .ok (.invokevirtual 191, 3) := by decide +kernel
theorem dX11_bears_23 : decode cX11_bears 23 = .ok (.iadd, 1) := by decide +kernel
theorem dX11_bears_24 : decode cX11_bears 24 = .ok (.aload_n 0, 1) := by decide +kernel
theorem dX11_bears_25 : decode cX11_bears 25 = .ok (.getfield 22, 3) := by decide +kernel
theorem dX11_bears_28 : decode cX11_bears 28 = .ok (.iload_n 1, 1) := by decide +kernel
theorem dX11_bears_29 : decode cX11_bears 29 = .ok (.iaload, 1) := by decide +kernel
theorem dX11_bears_30 : decode cX11_bears 30 = .ok (.if_icmp .gt 7, 3) := by decide +kernel
theorem dX11_bears_33 : decode cX11_bears 33 = .ok (.iconst 1, 1) := by decide +kernel
theorem dX11_bears_34 : decode cX11_bears 34 = .ok (.goto 4, 3) := by decide +kernel
theorem dX11_bears_37 : decode cX11_bears 37 = .ok (.iconst 0, 1) := by decide +kernel
theorem dX11_bears_38 : decode cX11_bears 38 = .ok (.istore_n 3, 1) := by decide +kernel
theorem dX11_bears_39 : decode cX11_bears 39 = .ok (.iconst 0, 1) := by decide +kernel
theorem dX11_bears_40 : decode cX11_bears 40 = .ok (.istore 4, 2) := by decide +kernel
theorem dX11_bears_42 : decode cX11_bears 42 = .ok (.iload 4, 2) := by decide +kernel
theorem dX11_bears_44 : decode cX11_bears 44 = .ok (.aload_n 0, 1) := by decide +kernel
theorem dX11_bears_45 : decode cX11_bears 45 = .ok (.getfield 68, 3) := by decide +kernel
theorem dX11_bears_48 : decode cX11_bears 48 = .ok (.if_icmp .ge 38, 3) := by decide +kernel
theorem dX11_bears_51 : decode cX11_bears 51 = .ok (.iload_n 3, 1) := by decide +kernel
theorem dX11_bears_52 : decode cX11_bears 52 = .ok (.ifCond .eq 26, 3) := by decide +kernel
theorem dX11_bears_55 : decode cX11_bears 55 = .ok (.iload_n 2, 1) := by decide +kernel
theorem dX11_bears_56 : decode cX11_bears 56 = .ok (.iload 4, 2) := by decide +kernel
theorem dX11_bears_58 : decode cX11_bears 58 = .ok (.invokestatic 140, 3) := by decide +kernel
theorem dX11_bears_61 : decode cX11_bears 61 = .ok (.ifCond .eq 13, 3) := by decide +kernel
theorem dX11_bears_64 : decode cX11_bears 64 = .ok (.aload_n 0, 1) := by decide +kernel
theorem dX11_bears_65 : decode cX11_bears 65 = .ok (.iload_n 1, 1) := by decide +kernel
theorem dX11_bears_66 : decode cX11_bears 66 = .ok (.iload 4, 2) := by decide +kernel
theorem dX11_bears_68 : decode cX11_bears 68 = .ok (.invokevirtual 150, 3) := by decide +kernel
theorem dX11_bears_71 : decode cX11_bears 71 = .ok (.ifCond .eq 7, 3) := by decide +kernel
theorem dX11_bears_74 : decode cX11_bears 74 = .ok (.iconst 1, 1) := by decide +kernel
theorem dX11_bears_75 : decode cX11_bears 75 = .ok (.goto 4, 3) := by decide +kernel
theorem dX11_bears_78 : decode cX11_bears 78 = .ok (.iconst 0, 1) := by decide +kernel
theorem dX11_bears_79 : decode cX11_bears 79 = .ok (.istore_n 3, 1) := by decide +kernel
theorem dX11_bears_80 : decode cX11_bears 80 = .ok (.iinc 4 1, 3) := by decide +kernel
theorem dX11_bears_83 : decode cX11_bears 83 = .ok (.goto (-41), 3) := by decide +kernel
theorem dX11_bears_86 : decode cX11_bears 86 = .ok (.iload_n 3, 1) := by decide +kernel
theorem dX11_bears_87 : decode cX11_bears 87 = .ok (.ireturn, 1) := by decide +kernel
theorem dX11_best_0 : decode cX11_best 0 = .ok (.aload_n 0, 1) := by decide +kernel
theorem dX11_best_1 : decode cX11_best 1 = .ok (.iload_n 1, 1) := by decide +kernel
theorem dX11_best_2 : decode cX11_best 2 = .ok (.invokevirtual 162, 3) := by decide +kernel
theorem dX11_best_5 : decode cX11_best 5 = .ok (.ifCond .eq 22, 3) := by decide +kernel
theorem dX11_best_8 : decode cX11_best 8 = .ok (.iload_n 2, 1) := by decide +kernel
theorem dX11_best_9 : decode cX11_best 9 = .ok (.iconst 0, 1) := by decide +kernel
theorem dX11_best_10 : decode cX11_best 10 = .ok (.bipush 99, 2) := by decide +kernel
theorem dX11_best_12 : decode cX11_best 12 = .ok (.invokestatic 72, 3) := by decide +kernel
theorem dX11_best_15 : decode cX11_best 15 = .ok (.ifCond .eq 12, 3) := by decide +kernel
theorem dX11_best_18 : decode cX11_best 18 = .ok (.iload_n 3, 1) := by decide +kernel
theorem dX11_best_19 : decode cX11_best 19 = .ok (.iconst 0, 1) := by decide +kernel
theorem dX11_best_20 : decode cX11_best 20 = .ok (.iconst 1, 1) := by decide +kernel
theorem dX11_best_21 : decode cX11_best 21 = .ok (.invokestatic 72, 3) := by decide +kernel
theorem dX11_best_24 : decode cX11_best 24 = .ok (.ifCond .ne 5, 3) := by decide +kernel
theorem dX11_best_27 : decode cX11_best 27 = .ok (.iconst (-1), 1) := by decide +kernel
theorem dX11_best_28 : decode cX11_best 28 = .ok (.ireturn, 1) := by decide +kernel
theorem dX11_best_29 : decode cX11_best 29 = .ok (.iconst 0, 1) := by decide +kernel
theorem dX11_best_30 : decode cX11_best 30 = .ok (.istore 4, 2) := by decide +kernel
theorem dX11_best_32 : decode cX11_best 32 = .ok (.iconst 1, 1) := by decide +kernel
theorem dX11_best_33 : decode cX11_best 33 = .ok (.istore 5, 2) := by decide +kernel
theorem dX11_best_35 : decode cX11_best 35 = .ok (.iload 5, 2) := by decide +kernel
theorem dX11_best_37 : decode cX11_best 37 = .ok (.iconst 1, 1) := by decide +kernel
theorem dX11_best_38 : decode cX11_best 38 = .ok (.aload_n 0, 1) := by decide +kernel
theorem dX11_best_39 : decode cX11_best 39 = .ok (.getfield 68, 3) := by decide +kernel
theorem dX11_best_42 : decode cX11_best 42 = .ok (.ishl, 1) := by decide +kernel
theorem dX11_best_43 : decode cX11_best 43 = .ok (.if_icmp .ge 101, 3) := by decide +kernel
theorem dX11_best_46 : decode cX11_best 46 = .ok (.aload_n 0, 1) := by decide +kernel
theorem dX11_best_47 : decode cX11_best 47 = .ok (.iload_n 1, 1) := by decide +kernel
theorem dX11_best_48 : decode cX11_best 48 = .ok (.iload 5, 2) := by decide +kernel
theorem dX11_best_50 : decode cX11_best 50 = .ok (.invokevirtual 206, 3) := by decide +kernel
theorem dX11_best_53 : decode cX11_best 53 = .ok (.ifCond .eq 85, 3) := by decide +kernel
theorem dX11_best_56 : decode cX11_best 56 = .ok (.aload_n 0, 1) := by decide +kernel
theorem dX11_best_57 : decode cX11_best 57 = .ok (.iload_n 1, 1) := by decide +kernel
theorem dX11_best_58 : decode cX11_best 58 = .ok (.iload 5, 2) := by decide +kernel
theorem dX11_best_60 : decode cX11_best 60 = .ok (.invokevirtual 200, 3) := by decide +kernel
theorem dX11_best_63 : decode cX11_best 63 = .ok (.iload_n 2, 1) := by decide +kernel
theorem dX11_best_64 : decode cX11_best 64 = .ok (.if_icmp .gt 74, 3) := by decide +kernel
theorem dX11_best_67 : decode cX11_best 67 = .ok (.aload_n 0, 1) := by decide +kernel
theorem dX11_best_68 : decode cX11_best 68 = .ok (.iload_n 1, 1) := by decide +kernel
theorem dX11_best_69 : decode cX11_best 69 = .ok (.iload 5, 2) := by decide +kernel
theorem dX11_best_71 : decode cX11_best 71 = .ok (.invokevirtual 197, 3) := by decide +kernel
theorem dX11_best_74 : decode cX11_best 74 = .ok (.ifCond .eq 64, 3) := by decide +kernel
theorem dX11_best_77 : decode cX11_best 77 = .ok (.iload 5, 2) := by decide +kernel
theorem dX11_best_79 : decode cX11_best 79 = .ok (.invokestatic 175, 3) := by decide +kernel
theorem dX11_best_82 : decode cX11_best 82 = .ok (.iload 4, 2) := by decide +kernel
theorem dX11_best_84 : decode cX11_best 84 = .ok (.invokestatic 175, 3) := by decide +kernel
theorem dX11_best_87 : decode cX11_best 87 = .ok (.isub, 1) := by decide +kernel
theorem dX11_best_88 : decode cX11_best 88 = .ok (.istore 6, 2) := by decide +kernel
theorem dX11_best_90 : decode cX11_best 90 = .ok (.iload 6, 2) := by decide +kernel
theorem dX11_best_92 : decode cX11_best 92 = .ok (.ifCond .gt 25, 3) := by decide +kernel
theorem dX11_best_95 : decode cX11_best 95 = .ok (.iload 6, 2) := by decide +kernel
theorem dX11_best_97 : decode cX11_best 97 = .ok (.ifCond .ne 24, 3) := by decide +kernel
theorem dX11_best_100 : decode cX11_best 100 = .ok (.aload_n 0, 1) := by decide +kernel
theorem dX11_best_101 : decode cX11_best 101 = .ok (.iload_n 1, 1) := by decide +kernel
theorem dX11_best_102 : decode cX11_best 102 = .ok (.iload 5, 2) := by decide +kernel
theorem dX11_best_104 : decode cX11_best 104 = .ok (.invokevirtual 200, 3) := by decide +kernel
theorem dX11_best_107 : decode cX11_best 107 = .ok (.aload_n 0, 1) := by decide +kernel
theorem dX11_best_108 : decode cX11_best 108 = .ok (.iload_n 1, 1) := by decide +kernel
theorem dX11_best_109 : decode cX11_best 109 = .ok (.iload 4, 2) := by decide +kernel
theorem dX11_best_111 : decode cX11_best 111 = .ok (.invokevirtual 200, 3) := by decide +kernel
theorem dX11_best_114 : decode cX11_best 114 = .ok (.if_icmp .ge 7, 3) := by decide +kernel
theorem dX11_best_117 : decode cX11_best 117 = .ok (.iconst 1, 1) := by decide +kernel
theorem dX11_best_118 : decode cX11_best 118 = .ok (.goto 4, 3) := by decide +kernel
theorem dX11_best_121 : decode cX11_best 121 = .ok (.iconst 0, 1) := by decide +kernel
theorem dX11_best_122 : decode cX11_best 122 = .ok (.istore 7, 2) := by decide +kernel
theorem dX11_best_124 : decode cX11_best 124 = .ok (.iload 7, 2) := by decide +kernel
theorem dX11_best_126 : decode cX11_best 126 = .ok (.ifCond .eq 8, 3) := by decide +kernel
theorem dX11_best_129 : decode cX11_best 129 = .ok (.iload 5, 2) := by decide +kernel
theorem dX11_best_131 : decode cX11_best 131 = .ok (.goto 5, 3) := by decide +kernel
theorem dX11_best_134 : decode cX11_best 134 = .ok (.iload 4, 2) := by decide +kernel
theorem dX11_best_136 : decode cX11_best 136 = .ok (.istore 4, 2) := by decide +kernel
theorem dX11_best_138 : decode cX11_best 138 = .ok (.iinc 5 1, 3) := by decide +kernel
theorem dX11_best_141 : decode cX11_best 141 = .ok (.goto (-106), 3) := by decide +kernel
theorem dX11_best_144 : decode cX11_best 144 = .ok (.iload_n 3, 1) := by decide +kernel
theorem dX11_best_145 : decode cX11_best 145 = .ok (.ifCond .ne 8, 3) := by decide +kernel
theorem dX11_best_148 : decode cX11_best 148 = .ok (.iload 4, 2) := by decide +kernel
theorem dX11_best_150 : decode cX11_best 150 = .ok (.goto 10, 3) := by decide +kernel
theorem dX11_best_153 : decode cX11_best 153 = .ok (.aload_n 0, 1) := by decide +kernel
theorem dX11_best_154 : decode cX11_best 154 = .ok (.iload_n 1, 1) := by decide +kernel
theorem dX11_best_155 : decode cX11_best 155 = .ok (.iload 4, 2) := by decide +kernel
theorem dX11_best_157 : decode cX11_best 157 = .ok (.invokevirtual 200, 3) := by decide +kernel
theorem dX11_best_160 : decode cX11_best 160 = .ok (.ireturn, 1) := by decide +kernel
theorem dX11_between_0 : decode cX11_between 0 = .ok (.aload_n 0, 1) := by decide +kernel
theorem dX11_between_1 : decode cX11_between 1 = .ok (.getfield 28, 3) := by decide +kernel
theorem dX11_between_4 : decode cX11_between 4 = .ok (.bipush 55, 2) := by decide +kernel
theorem dX11_between_6 : decode cX11_between 6 = .ok (.iload_n 1, 1) := by decide +kernel
theorem dX11_between_7 : decode cX11_between 7 = .ok (.iadd, 1) := by decide +kernel
theorem dX11_between_8 : decode cX11_between 8 = .ok (.iaload, 1) := by decide +kernel
theorem dX11_between_9 : decode cX11_between 9 = .ok (.aload_n 0, 1) := by decide +kernel
theorem dX11_between_10 : decode cX11_between 10 = .ok (.getfield 28, 3) := by decide +kernel
theorem dX11_between_13 : decode cX11_between 13 = .ok (.bipush 55, 2) := by decide +kernel
theorem dX11_between_15 : decode cX11_between 15 = .ok (.iload_n 2, 1) := by decide +kernel
theorem dX11_between_16 : decode cX11_between 16 = .ok (.iadd, 1) := by decide +kernel
theorem dX11_between_17 : decode cX11_between 17 = .ok (.iaload, 1) := by decide +kernel
theorem dX11_between_18 : decode cX11_between 18 = .ok (.ixor, 1) := by decide +kernel
theorem dX11_between_19 : decode cX11_between 19 = .ok (.invokestatic 175, 3) := by decide +kernel
theorem dX11_between_22 : decode cX11_between 22 = .ok (.ireturn, 1) := by decide +kernel
theorem dX11_bits_0 : decode cX11_bits 0 = .ok (.iconst 0, 1) := by decide +kernel
theorem dX11_bits_1 : decode cX11_bits 1 = .ok (.istore_n 1, 1) := by decide +kernel
theorem dX11_bits_2 : decode cX11_bits 2 = .ok (.iconst 0, 1) := by decide +kernel
theorem dX11_bits_3 : decode cX11_bits 3 = .ok (.istore_n 2, 1) := by decide +kernel
theorem dX11_bits_4 : decode cX11_bits 4 = .ok (.iload_n 2, 1) := by decide +kernel
theorem dX11_bits_5 : decode cX11_bits 5 = .ok (.bipush 8, 2) := by decide +kernel
theorem dX11_bits_7 : decode cX11_bits 7 = .ok (.if_icmp .ge 17, 3) := by decide +kernel
theorem dX11_bits_10 : decode cX11_bits 10 = .ok (.iload_n 1, 1) := by decide +kernel
theorem dX11_bits_11 : decode cX11_bits 11 = .ok (.iload_n 0, 1) := by decide +kernel
theorem dX11_bits_12 : decode cX11_bits 12 = .ok (.iload_n 2, 1) := by decide +kernel
theorem dX11_bits_13 : decode cX11_bits 13 = .ok (.ishr, 1) := by decide +kernel
theorem dX11_bits_14 : decode cX11_bits 14 = .ok (.iconst 1, 1) := by decide +kernel
theorem dX11_bits_15 : decode cX11_bits 15 = .ok (.iand, 1) := by decide +kernel
theorem dX11_bits_16 : decode cX11_bits 16 = .ok (.iadd, 1) := by decide +kernel
theorem dX11_bits_17 : decode cX11_bits 17 = .ok (.istore_n 1, 1) := by decide +kernel
theorem dX11_bits_18 : decode cX11_bits 18 = .ok (.iinc 2 1, 3) := by decide +kernel
theorem dX11_bits_21 : decode cX11_bits 21 = .ok (.goto (-17), 3) := by decide +kernel
theorem dX11_bits_24 : decode cX11_bits 24 = .ok (.iload_n 1, 1) := by decide +kernel
theorem dX11_bits_25 : decode cX11_bits 25 = .ok (.ireturn, 1) := by decide +kernel
theorem dX11_can_0 : decode cX11_can 0 = .ok (.aload_n 0, 1) := by decide +kernel
theorem dX11_can_1 : decode cX11_can 1 = .ok (.getfield 28, 3) := by decide +kernel
theorem dX11_can_4 : decode cX11_can 4 = .ok (.bipush 49, 2) := by decide +kernel
theorem dX11_can_6 : decode cX11_can 6 = .ok (.iload_n 1, 1) := by decide +kernel
theorem dX11_can_7 : decode cX11_can 7 = .ok (.iadd, 1) := by decide +kernel
theorem dX11_can_8 : decode cX11_can 8 = .ok (.iaload, 1) := by decide +kernel
theorem dX11_can_9 : decode cX11_can 9 = .ok (.iload_n 2, 1) := by decide +kernel
theorem dX11_can_10 : decode cX11_can 10 = .ok (.invokestatic 140, 3) := by decide +kernel
theorem dX11_can_13 : decode cX11_can 13 = .ok (.ireturn, 1) := by decide +kernel
theorem dX11_cast_0 : decode cX11_cast 0 = .ok (.aload_n 0, 1) := by decide +kernel
theorem dX11_cast_1 : decode cX11_cast 1 = .ok (.iload_n 1, 1) := by decide +kernel
theorem dX11_cast_2 : decode cX11_cast 2 = .ok (.invokevirtual 162, 3) := by decide +kernel
theorem dX11_cast_5 : decode cX11_cast 5 = .ok (.ifCond .ne 5, 3) := by decide +kernel
theorem dX11_cast_8 : decode cX11_cast 8 = .ok (.iconst (-1), 1) := by decide +kernel
theorem dX11_cast_9 : decode cX11_cast 9 = .ok (.ireturn, 1) := by decide +kernel
theorem dX11_cast_10 : decode cX11_cast 10 = .ok (.iload_n 2, 1) := by decide +kernel
theorem dX11_cast_11 : decode cX11_cast 11 = .ok (.tableswitch 119 0 7 #[45, 52, 59, 69, 79, 93, 103, 109], 45) := by decide +kernel
theorem dX11_cast_56 : decode cX11_cast 56 = .ok (.aload_n 0, 1) := by decide +kernel
theorem dX11_cast_57 : decode cX11_cast 57 = .ok (.getfield 22, 3) := by decide +kernel
theorem dX11_cast_60 : decode cX11_cast 60 = .ok (.iload_n 1, 1) := by decide +kernel
theorem dX11_cast_61 : decode cX11_cast 61 = .ok (.iaload, 1) := by decide +kernel
theorem dX11_cast_62 : decode cX11_cast 62 = .ok (.ireturn, 1) := by decide +kernel
theorem dX11_cast_63 : decode cX11_cast 63 = .ok (.aload_n 0, 1) := by decide +kernel
theorem dX11_cast_64 : decode cX11_cast 64 = .ok (.getfield 25, 3) := by decide +kernel
theorem dX11_cast_67 : decode cX11_cast 67 = .ok (.iload_n 1, 1) := by decide +kernel
theorem dX11_cast_68 : decode cX11_cast 68 = .ok (.iaload, 1) := by decide +kernel
theorem dX11_cast_69 : decode cX11_cast 69 = .ok (.ireturn, 1) := by decide +kernel
theorem dX11_cast_70 : decode cX11_cast 70 = .ok (.aload_n 0, 1) := by decide +kernel
theorem dX11_cast_71 : decode cX11_cast 71 = .ok (.getfield 28, 3) := by decide +kernel
theorem dX11_cast_74 : decode cX11_cast 74 = .ok (.bipush 55, 2) := by decide +kernel
theorem dX11_cast_76 : decode cX11_cast 76 = .ok (.iload_n 1, 1) := by decide +kernel
theorem dX11_cast_77 : decode cX11_cast 77 = .ok (.iadd, 1) := by decide +kernel
theorem dX11_cast_78 : decode cX11_cast 78 = .ok (.iaload, 1) := by decide +kernel
theorem dX11_cast_79 : decode cX11_cast 79 = .ok (.ireturn, 1) := by decide +kernel
theorem dX11_cast_80 : decode cX11_cast 80 = .ok (.aload_n 0, 1) := by decide +kernel
theorem dX11_cast_81 : decode cX11_cast 81 = .ok (.getfield 28, 3) := by decide +kernel
theorem dX11_cast_84 : decode cX11_cast 84 = .ok (.bipush 61, 2) := by decide +kernel
theorem dX11_cast_86 : decode cX11_cast 86 = .ok (.iload_n 1, 1) := by decide +kernel
theorem dX11_cast_87 : decode cX11_cast 87 = .ok (.iadd, 1) := by decide +kernel
theorem dX11_cast_88 : decode cX11_cast 88 = .ok (.iaload, 1) := by decide +kernel
theorem dX11_cast_89 : decode cX11_cast 89 = .ok (.ireturn, 1) := by decide +kernel
theorem dX11_cast_90 : decode cX11_cast 90 = .ok (.aload_n 0, 1) := by decide +kernel
theorem dX11_cast_91 : decode cX11_cast 91 = .ok (.iload_n 1, 1) := by decide +kernel
theorem dX11_cast_92 : decode cX11_cast 92 = .ok (.invokevirtual 144, 3) := by decide +kernel
theorem dX11_cast_95 : decode cX11_cast 95 = .ok (.ifCond .eq 7, 3) := by decide +kernel
theorem dX11_cast_98 : decode cX11_cast 98 = .ok (.iconst 1, 1) := by decide +kernel
theorem dX11_cast_99 : decode cX11_cast 99 = .ok (.goto 4, 3) := by decide +kernel
theorem dX11_cast_102 : decode cX11_cast 102 = .ok (.iconst 0, 1) := by decide +kernel
theorem dX11_cast_103 : decode cX11_cast 103 = .ok (.ireturn, 1) := by decide +kernel
theorem dX11_cast_104 : decode cX11_cast 104 = .ok (.aload_n 0, 1) := by decide +kernel
theorem dX11_cast_105 : decode cX11_cast 105 = .ok (.getfield 28, 3) := by decide +kernel
theorem dX11_cast_108 : decode cX11_cast 108 = .ok (.bipush 49, 2) := by decide +kernel
theorem dX11_cast_110 : decode cX11_cast 110 = .ok (.iload_n 1, 1) := by decide +kernel
theorem dX11_cast_111 : decode cX11_cast 111 = .ok (.iadd, 1) := by decide +kernel
theorem dX11_cast_112 : decode cX11_cast 112 = .ok (.iaload, 1) := by decide +kernel
theorem dX11_cast_113 : decode cX11_cast 113 = .ok (.ireturn, 1) := by decide +kernel
theorem dX11_cast_114 : decode cX11_cast 114 = .ok (.aload_n 0, 1) := by decide +kernel
theorem dX11_cast_115 : decode cX11_cast 115 = .ok (.iload_n 1, 1) := by decide +kernel
theorem dX11_cast_116 : decode cX11_cast 116 = .ok (.invokevirtual 165, 3) := by decide +kernel
theorem dX11_cast_119 : decode cX11_cast 119 = .ok (.ireturn, 1) := by decide +kernel
theorem dX11_cast_120 : decode cX11_cast 120 = .ok (.aload_n 0, 1) := by decide +kernel
theorem dX11_cast_121 : decode cX11_cast 121 = .ok (.getfield 28, 3) := by decide +kernel
theorem dX11_cast_124 : decode cX11_cast 124 = .ok (.bipush 68, 2) := by decide +kernel
theorem dX11_cast_126 : decode cX11_cast 126 = .ok (.iload_n 1, 1) := by decide +kernel
theorem dX11_cast_127 : decode cX11_cast 127 = .ok (.iadd, 1) := by decide +kernel
theorem dX11_cast_128 : decode cX11_cast 128 = .ok (.iaload, 1) := by decide +kernel
theorem dX11_cast_129 : decode cX11_cast 129 = .ok (.ireturn, 1) := by decide +kernel
theorem dX11_cast_130 : decode cX11_cast 130 = .ok (.iconst (-1), 1) := by decide +kernel
theorem dX11_cast_131 : decode cX11_cast 131 = .ok (.ireturn, 1) := by decide +kernel
theorem dX11_clear_0 : decode cX11_clear 0 = .ok (.aload_n 0, 1) := by decide +kernel
theorem dX11_clear_1 : decode cX11_clear 1 = .ok (.getfield 79, 3) := by decide +kernel
theorem dX11_clear_4 : decode cX11_clear 4 = .ok (.istore_n 1, 1) := by decide +kernel
theorem dX11_clear_5 : decode cX11_clear 5 = .ok (.aload_n 0, 1) := by decide +kernel
theorem dX11_clear_6 : decode cX11_clear 6 = .ok (.iconst 0, 1) := by decide +kernel
theorem dX11_clear_7 : decode cX11_clear 7 = .ok (.putfield 79, 3) := by decide +kernel
theorem dX11_clear_10 : decode cX11_clear 10 = .ok (.iload_n 1, 1) := by decide +kernel
theorem dX11_clear_11 : decode cX11_clear 11 = .ok (.ireturn, 1) := by decide +kernel
theorem dX11_count_0 : decode cX11_count 0 = .ok (.iload_n 1, 1) := by decide +kernel
theorem dX11_count_1 : decode cX11_count 1 = .ok (.tableswitch 63 0 4 #[35, 40, 45, 50, 58], 35) := by decide +kernel
theorem dX11_count_36 : decode cX11_count 36 = .ok (.aload_n 0, 1) := by decide +kernel
theorem dX11_count_37 : decode cX11_count 37 = .ok (.getfield 68, 3) := by decide +kernel
theorem dX11_count_40 : decode cX11_count 40 = .ok (.ireturn, 1) := by decide +kernel
theorem dX11_count_41 : decode cX11_count 41 = .ok (.aload_n 0, 1) := by decide +kernel
theorem dX11_count_42 : decode cX11_count 42 = .ok (.getfield 76, 3) := by decide +kernel
theorem dX11_count_45 : decode cX11_count 45 = .ok (.ireturn, 1) := by decide +kernel
theorem dX11_count_46 : decode cX11_count 46 = .ok (.aload_n 0, 1) := by decide +kernel
theorem dX11_count_47 : decode cX11_count 47 = .ok (.getfield 137, 3) := by decide +kernel
theorem dX11_count_50 : decode cX11_count 50 = .ok (.ireturn, 1) := by decide +kernel
theorem dX11_count_51 : decode cX11_count 51 = .ok (.aload_n 0, 1) := by decide +kernel
theorem dX11_count_52 : decode cX11_count 52 = .ok (.getfield 28, 3) := by decide +kernel
theorem dX11_count_55 : decode cX11_count 55 = .ok (.bipush 74, 2) := by decide +kernel
theorem dX11_count_57 : decode cX11_count 57 = .ok (.iaload, 1) := by decide +kernel
theorem dX11_count_58 : decode cX11_count 58 = .ok (.ireturn, 1) := by decide +kernel
theorem dX11_count_59 : decode cX11_count 59 = .ok (.aload_n 0, 1) := by decide +kernel
theorem dX11_count_60 : decode cX11_count 60 = .ok (.getfield 79, 3) := by decide +kernel
theorem dX11_count_63 : decode cX11_count 63 = .ok (.ireturn, 1) := by decide +kernel
theorem dX11_count_64 : decode cX11_count 64 = .ok (.iconst (-1), 1) := by decide +kernel
theorem dX11_count_65 : decode cX11_count 65 = .ok (.ireturn, 1) := by decide +kernel
theorem dX11_cracksOf_0 : decode cX11_cracksOf 0 = .ok (.iconst 0, 1) := by decide +kernel
theorem dX11_cracksOf_1 : decode cX11_cracksOf 1 = .ok (.istore_n 3, 1) := by decide +kernel
theorem dX11_cracksOf_2 : decode cX11_cracksOf 2 = .ok (.iconst 0, 1) := by decide +kernel
theorem dX11_cracksOf_3 : decode cX11_cracksOf 3 = .ok (.istore 4, 2) := by decide +kernel
theorem dX11_cracksOf_5 : decode cX11_cracksOf 5 = .ok (.iload 4, 2) := by decide +kernel
theorem dX11_cracksOf_7 : decode cX11_cracksOf 7 = .ok (.aload_n 0, 1) := by decide +kernel
theorem dX11_cracksOf_8 : decode cX11_cracksOf 8 = .ok (.getfield 68, 3) := by decide +kernel
theorem dX11_cracksOf_11 : decode cX11_cracksOf 11 = .ok (.if_icmp .ge 40, 3) := by decide +kernel
theorem dX11_cracksOf_14 : decode cX11_cracksOf 14 = .ok (.iload_n 3, 1) := by decide +kernel
theorem dX11_cracksOf_15 : decode cX11_cracksOf 15 = .ok (.iload_n 2, 1) := by decide +kernel
theorem dX11_cracksOf_16 : decode cX11_cracksOf 16 = .ok (.iload 4, 2) := by decide +kernel
theorem dX11_cracksOf_18 : decode cX11_cracksOf 18 = .ok (.invokestatic 140, 3) := by decide +kernel
theorem dX11_cracksOf_21 : decode cX11_cracksOf 21 = .ok (.ifCond .eq 21, 3) := by decide +kernel
theorem dX11_cracksOf_24 : decode cX11_cracksOf 24 = .ok (.aload_n 0, 1) := by decide +kernel
theorem dX11_cracksOf_25 : decode cX11_cracksOf 25 = .ok (.getfield 7, 3) := by decide +kernel
theorem dX11_cracksOf_28 : decode cX11_cracksOf 28 = .ok (.iload 4, 2) := by decide +kernel
theorem dX11_cracksOf_30 : decode cX11_cracksOf 30 = .ok (.iaload, 1) := by decide +kernel
theorem dX11_cracksOf_31 : decode cX11_cracksOf 31 = .ok (.aload_n 0, 1) := by decide +kernel
theorem dX11_cracksOf_32 : decode cX11_cracksOf 32 = .ok (.iload_n 1, 1) := by decide +kernel
theorem dX11_cracksOf_33 : decode cX11_cracksOf 33 = .ok (.iload 4, 2) := by decide +kernel
theorem dX11_cracksOf_35 : decode cX11_cracksOf 35 = .ok (.invokevirtual 188, 3) := by decide +kernel
theorem dX11_cracksOf_38 : decode cX11_cracksOf 38 = .ok (.imul, 1) := by decide +kernel
theorem dX11_cracksOf_39 : decode cX11_cracksOf 39 = .ok (.goto 4, 3) := by decide +kernel
theorem dX11_cracksOf_42 : decode cX11_cracksOf 42 = .ok (.iconst 0, 1) := by decide +kernel
theorem dX11_cracksOf_43 : decode cX11_cracksOf 43 = .ok (.iadd, 1) := by decide +kernel
theorem dX11_cracksOf_44 : decode cX11_cracksOf 44 = .ok (.istore_n 3, 1) := by decide +kernel
theorem dX11_cracksOf_45 : decode cX11_cracksOf 45 = .ok (.iinc 4 1, 3) := by decide +kernel
theorem dX11_cracksOf_48 : decode cX11_cracksOf 48 = .ok (.goto (-43), 3) := by decide +kernel
theorem dX11_cracksOf_51 : decode cX11_cracksOf 51 = .ok (.iload_n 3, 1) := by decide +kernel
theorem dX11_cracksOf_52 : decode cX11_cracksOf 52 = .ok (.ireturn, 1) := by decide +kernel
theorem dX11_far_0 : decode cX11_far 0 = .ok (.aload_n 0, 1) := by decide +kernel
theorem dX11_far_1 : decode cX11_far 1 = .ok (.iload_n 1, 1) := by decide +kernel
theorem dX11_far_2 : decode cX11_far 2 = .ok (.invokevirtual 162, 3) := by decide +kernel
theorem dX11_far_5 : decode cX11_far 5 = .ok (.ifCond .eq 27, 3) := by decide +kernel
theorem dX11_far_8 : decode cX11_far 8 = .ok (.aload_n 0, 1) := by decide +kernel
theorem dX11_far_9 : decode cX11_far 9 = .ok (.iload_n 2, 1) := by decide +kernel
theorem dX11_far_10 : decode cX11_far 10 = .ok (.invokevirtual 156, 3) := by decide +kernel
theorem dX11_far_13 : decode cX11_far 13 = .ok (.ifCond .eq 19, 3) := by decide +kernel
theorem dX11_far_16 : decode cX11_far 16 = .ok (.aload_n 0, 1) := by decide +kernel
theorem dX11_far_17 : decode cX11_far 17 = .ok (.getfield 28, 3) := by decide +kernel
theorem dX11_far_20 : decode cX11_far 20 = .ok (.iconst 1, 1) := by decide +kernel
theorem dX11_far_21 : decode cX11_far 21 = .ok (.bipush 8, 2) := by decide +kernel
theorem dX11_far_23 : decode cX11_far 23 = .ok (.iload_n 1, 1) := by decide +kernel
theorem dX11_far_24 : decode cX11_far 24 = .ok (.imul, 1) := by decide +kernel
theorem dX11_far_25 : decode cX11_far 25 = .ok (.iadd, 1) := by decide +kernel
theorem dX11_far_26 : decode cX11_far 26 = .ok (.iload_n 2, 1) := by decide +kernel
theorem dX11_far_27 : decode cX11_far 27 = .ok (.iadd, 1) := by decide +kernel
theorem dX11_far_28 : decode cX11_far 28 = .ok (.iaload, 1) := by decide +kernel
theorem dX11_far_29 : decode cX11_far 29 = .ok (.goto 4, 3) := by decide +kernel
theorem dX11_far_32 : decode cX11_far 32 = .ok (.iconst (-1), 1) := by decide +kernel
theorem dX11_far_33 : decode cX11_far 33 = .ok (.ireturn, 1) := by decide +kernel
theorem dX11_forget_0 : decode cX11_forget 0 = .ok (.aload_n 0, 1) := by decide +kernel
theorem dX11_forget_1 : decode cX11_forget 1 = .ok (.getfield 137, 3) := by decide +kernel
theorem dX11_forget_4 : decode cX11_forget 4 = .ok (.istore_n 1, 1) := by decide +kernel
theorem dX11_forget_5 : decode cX11_forget 5 = .ok (.aload_n 0, 1) := by decide +kernel
theorem dX11_forget_6 : decode cX11_forget 6 = .ok (.iconst 0, 1) := by decide +kernel
theorem dX11_forget_7 : decode cX11_forget 7 = .ok (.putfield 137, 3) := by decide +kernel
theorem dX11_forget_10 : decode cX11_forget 10 = .ok (.iload_n 1, 1) := by decide +kernel
theorem dX11_forget_11 : decode cX11_forget 11 = .ok (.ireturn, 1) := by decide +kernel
theorem dX11_givenTo_0 : decode cX11_givenTo 0 = .ok (.iconst 0, 1) := by decide +kernel
theorem dX11_givenTo_1 : decode cX11_givenTo 1 = .ok (.istore_n 3, 1) := by decide +kernel
theorem dX11_givenTo_2 : decode cX11_givenTo 2 = .ok (.iload_n 3, 1) := by decide +kernel
theorem dX11_givenTo_3 : decode cX11_givenTo 3 = .ok (.aload_n 0, 1) := by decide +kernel
theorem dX11_givenTo_4 : decode cX11_givenTo 4 = .ok (.getfield 68, 3) := by decide +kernel
theorem dX11_givenTo_7 : decode cX11_givenTo 7 = .ok (.if_icmp .ge 75, 3) := by decide +kernel
theorem dX11_givenTo_10 : decode cX11_givenTo 10 = .ok (.aload_n 0, 1) := by decide +kernel
theorem dX11_givenTo_11 : decode cX11_givenTo 11 = .ok (.iload_n 1, 1) := by decide +kernel
theorem dX11_givenTo_12 : decode cX11_givenTo 12 = .ok (.iload_n 3, 1) := by decide +kernel
theorem dX11_givenTo_13 : decode cX11_givenTo 13 = .ok (.invokevirtual 153, 3) := by decide +kernel
theorem dX11_givenTo_16 : decode cX11_givenTo 16 = .ok (.ifCond .eq 15, 3) := by decide +kernel
theorem dX11_givenTo_19 : decode cX11_givenTo 19 = .ok (.iload_n 2, 1) := by decide +kernel
theorem dX11_givenTo_20 : decode cX11_givenTo 20 = .ok (.iload_n 3, 1) := by decide +kernel
theorem dX11_givenTo_21 : decode cX11_givenTo 21 = .ok (.invokestatic 140, 3) := by decide +kernel
theorem dX11_givenTo_24 : decode cX11_givenTo 24 = .ok (.ifCond .ne 7, 3) := by decide +kernel
theorem dX11_givenTo_27 : decode cX11_givenTo 27 = .ok (.iconst 1, 1) := by decide +kernel
theorem dX11_givenTo_28 : decode cX11_givenTo 28 = .ok (.goto 4, 3) := by decide +kernel
theorem dX11_givenTo_31 : decode cX11_givenTo 31 = .ok (.iconst 0, 1) := by decide +kernel
theorem dX11_givenTo_32 : decode cX11_givenTo 32 = .ok (.istore 4, 2) := by decide +kernel
theorem dX11_givenTo_34 : decode cX11_givenTo 34 = .ok (.iload 4, 2) := by decide +kernel
theorem dX11_givenTo_36 : decode cX11_givenTo 36 = .ok (.ifCond .eq 40, 3) := by decide +kernel
theorem dX11_givenTo_39 : decode cX11_givenTo 39 = .ok (.iconst 1, 1) := by decide +kernel
theorem dX11_givenTo_40 : decode cX11_givenTo 40 = .ok (.aload_n 0, 1) := by decide +kernel
theorem dX11_givenTo_41 : decode cX11_givenTo 41 = .ok (.getfield 65, 3) := by decide +kernel
theorem dX11_givenTo_44 : decode cX11_givenTo 44 = .ok (.sipush 256, 3) := by decide +kernel
theorem dX11_givenTo_47 : decode cX11_givenTo 47 = .ok (.iload_n 1, 1) := by decide +kernel
theorem dX11_givenTo_48 : decode cX11_givenTo 48 = .ok (.iconst 1, 1) := by decide +kernel
theorem dX11_givenTo_49 : decode cX11_givenTo 49 = .ok (.iadd, 1) := by decide +kernel
theorem dX11_givenTo_50 : decode cX11_givenTo 50 = .ok (.imul, 1) := by decide +kernel
theorem dX11_givenTo_51 : decode cX11_givenTo 51 = .ok (.iload_n 2, 1) := by decide +kernel
theorem dX11_givenTo_52 : decode cX11_givenTo 52 = .ok (.iconst 1, 1) := by decide +kernel
theorem dX11_givenTo_53 : decode cX11_givenTo 53 = .ok (.iload_n 3, 1) := by decide +kernel
theorem dX11_givenTo_54 : decode cX11_givenTo 54 = .ok (.ishl, 1) := by decide +kernel
theorem dX11_givenTo_55 : decode cX11_givenTo 55 = .ok (.ior, 1) := by decide +kernel
theorem dX11_givenTo_56 : decode cX11_givenTo 56 = .ok (.iadd, 1) := by decide +kernel
theorem dX11_givenTo_57 : decode cX11_givenTo 57 = .ok (.iaload, 1) := by decide +kernel
theorem dX11_givenTo_58 : decode cX11_givenTo 58 = .ok (.iadd, 1) := by decide +kernel
theorem dX11_givenTo_59 : decode cX11_givenTo 59 = .ok (.aload_n 0, 1) := by decide +kernel
theorem dX11_givenTo_60 : decode cX11_givenTo 60 = .ok (.getfield 65, 3) := by decide +kernel
theorem dX11_givenTo_63 : decode cX11_givenTo 63 = .ok (.sipush 256, 3) := by decide +kernel
theorem dX11_givenTo_66 : decode cX11_givenTo 66 = .ok (.iload_n 1, 1) := by decide +kernel
theorem dX11_givenTo_67 : decode cX11_givenTo 67 = .ok (.imul, 1) := by decide +kernel
theorem dX11_givenTo_68 : decode cX11_givenTo 68 = .ok (.iload_n 2, 1) := by decide +kernel
theorem dX11_givenTo_69 : decode cX11_givenTo 69 = .ok (.iadd, 1) := by decide +kernel
theorem dX11_givenTo_70 : decode cX11_givenTo 70 = .ok (.iaload, 1) := by decide +kernel
theorem dX11_givenTo_71 : decode cX11_givenTo 71 = .ok (.if_icmp .ne 5, 3) := by decide +kernel
theorem dX11_givenTo_74 : decode cX11_givenTo 74 = .ok (.iload_n 3, 1) := by decide +kernel
theorem dX11_givenTo_75 : decode cX11_givenTo 75 = .ok (.ireturn, 1) := by decide +kernel
theorem dX11_givenTo_76 : decode cX11_givenTo 76 = .ok (.iinc 3 1, 3) := by decide +kernel
theorem dX11_givenTo_79 : decode cX11_givenTo 79 = .ok (.goto (-77), 3) := by decide +kernel
theorem dX11_givenTo_82 : decode cX11_givenTo 82 = .ok (.bipush (-9), 2) := by decide +kernel
theorem dX11_givenTo_84 : decode cX11_givenTo 84 = .ok (.ireturn, 1) := by decide +kernel
theorem dX11_hall_0 : decode cX11_hall 0 = .ok (.aload_n 0, 1) := by decide +kernel
theorem dX11_hall_1 : decode cX11_hall 1 = .ok (.iconst 0, 1) := by decide +kernel
theorem dX11_hall_2 : decode cX11_hall 2 = .ok (.putfield 82, 3) := by decide +kernel
theorem dX11_hall_5 : decode cX11_hall 5 = .ok (.aload_n 0, 1) := by decide +kernel
theorem dX11_hall_6 : decode cX11_hall 6 = .ok (.iconst 0, 1) := by decide +kernel
theorem dX11_hall_7 : decode cX11_hall 7 = .ok (.putfield 105, 3) := by decide +kernel
theorem dX11_hall_10 : decode cX11_hall 10 = .ok (.aload_n 0, 1) := by decide +kernel
theorem dX11_hall_11 : decode cX11_hall 11 = .ok (.iconst 0, 1) := by decide +kernel
theorem dX11_hall_12 : decode cX11_hall 12 = .ok (.putfield 128, 3) := by decide +kernel
theorem dX11_hall_15 : decode cX11_hall 15 = .ok (.aload_n 0, 1) := by decide +kernel
theorem dX11_hall_16 : decode cX11_hall 16 = .ok (.iconst 0, 1) := by decide +kernel
theorem dX11_hall_17 : decode cX11_hall 17 = .ok (.putfield 112, 3) := by decide +kernel
theorem dX11_hall_20 : decode cX11_hall 20 = .ok (.aload_n 0, 1) := by decide +kernel
theorem dX11_hall_21 : decode cX11_hall 21 = .ok (.iconst 0, 1) := by decide +kernel
theorem dX11_hall_22 : decode cX11_hall 22 = .ok (.putfield 119, 3) := by decide +kernel
theorem dX11_hall_25 : decode cX11_hall 25 = .ok (.aload_n 0, 1) := by decide +kernel
theorem dX11_hall_26 : decode cX11_hall 26 = .ok (.invokevirtual 109, 3) := by decide +kernel
theorem dX11_hall_29 : decode cX11_hall 29 = .ok (.aload_n 0, 1) := by decide +kernel
theorem dX11_hall_30 : decode cX11_hall 30 = .ok (.getfield 95, 3) := by decide +kernel
theorem dX11_hall_33 : decode cX11_hall 33 = .ok (.ifCond .eq 27, 3) := by decide +kernel
theorem dX11_hall_36 : decode cX11_hall 36 = .ok (.aload_n 0, 1) := by decide +kernel
theorem dX11_hall_37 : decode cX11_hall 37 = .ok (.getfield 105, 3) := by decide +kernel
theorem dX11_hall_40 : decode cX11_hall 40 = .ok (.ifCond .ne 20, 3) := by decide +kernel
theorem dX11_hall_43 : decode cX11_hall 43 = .ok (.aload_n 0, 1) := by decide +kernel
theorem dX11_hall_44 : decode cX11_hall 44 = .ok (.invokevirtual 131, 3) := by decide +kernel
theorem dX11_hall_47 : decode cX11_hall 47 = .ok (.aload_n 0, 1) := by decide +kernel
theorem dX11_hall_48 : decode cX11_hall 48 = .ok (.dup, 1) := by decide +kernel
theorem dX11_hall_49 : decode cX11_hall 49 = .ok (.getfield 128, 3) := by decide +kernel
theorem dX11_hall_52 : decode cX11_hall 52 = .ok (.iconst 1, 1) := by decide +kernel
theorem dX11_hall_53 : decode cX11_hall 53 = .ok (.iadd, 1) := by decide +kernel
theorem dX11_hall_54 : decode cX11_hall 54 = .ok (.putfield 128, 3) := by decide +kernel
theorem dX11_hall_57 : decode cX11_hall 57 = .ok (.goto (-28), 3) := by decide +kernel
theorem dX11_hall_60 : decode cX11_hall 60 = .ok (.aload_n 0, 1) := by decide +kernel
theorem dX11_hall_61 : decode cX11_hall 61 = .ok (.getfield 105, 3) := by decide +kernel
theorem dX11_hall_64 : decode cX11_hall 64 = .ok (.ifCond .eq 11, 3) := by decide +kernel
theorem dX11_hall_67 : decode cX11_hall 67 = .ok (.bipush (-10), 2) := by decide +kernel
theorem dX11_hall_69 : decode cX11_hall 69 = .ok (.aload_n 0, 1) := by decide +kernel
theorem dX11_hall_70 : decode cX11_hall 70 = .ok (.getfield 89, 3) := by decide +kernel
theorem dX11_hall_73 : decode cX11_hall 73 = .ok (.isub, 1) := by decide +kernel
theorem dX11_hall_74 : decode cX11_hall 74 = .ok (.ireturn, 1) := by decide +kernel
theorem dX11_hall_75 : decode cX11_hall 75 = .ok (.aload_n 0, 1) := by decide +kernel
theorem dX11_hall_76 : decode cX11_hall 76 = .ok (.invokevirtual 134, 3) := by decide +kernel
theorem dX11_hall_79 : decode cX11_hall 79 = .ok (.aload_n 0, 1) := by decide +kernel
theorem dX11_hall_80 : decode cX11_hall 80 = .ok (.getfield 128, 3) := by decide +kernel
theorem dX11_hall_83 : decode cX11_hall 83 = .ok (.ireturn, 1) := by decide +kernel
theorem dX11_has_0 : decode cX11_has 0 = .ok (.iload_n 0, 1) := by decide +kernel
theorem dX11_has_1 : decode cX11_has 1 = .ok (.iload_n 1, 1) := by decide +kernel
theorem dX11_has_2 : decode cX11_has 2 = .ok (.ishr, 1) := by decide +kernel
theorem dX11_has_3 : decode cX11_has 3 = .ok (.iconst 1, 1) := by decide +kernel
theorem dX11_has_4 : decode cX11_has 4 = .ok (.iand, 1) := by decide +kernel
theorem dX11_has_5 : decode cX11_has 5 = .ok (.iconst 1, 1) := by decide +kernel
theorem dX11_has_6 : decode cX11_has 6 = .ok (.if_icmp .ne 7, 3) := by decide +kernel
theorem dX11_has_9 : decode cX11_has 9 = .ok (.iconst 1, 1) := by decide +kernel
theorem dX11_has_10 : decode cX11_has 10 = .ok (.goto 4, 3) := by decide +kernel
theorem dX11_has_13 : decode cX11_has 13 = .ok (.iconst 0, 1) := by decide +kernel
theorem dX11_has_14 : decode cX11_has 14 = .ok (.ireturn, 1) := by decide +kernel
theorem dX11_hasPart_0 : decode cX11_hasPart 0 = .ok (.aload_n 0, 1) := by decide +kernel
theorem dX11_hasPart_1 : decode cX11_hasPart 1 = .ok (.getfield 16, 3) := by decide +kernel
theorem dX11_hasPart_4 : decode cX11_hasPart 4 = .ok (.iload_n 2, 1) := by decide +kernel
theorem dX11_hasPart_5 : decode cX11_hasPart 5 = .ok (.iaload, 1) := by decide +kernel
theorem dX11_hasPart_6 : decode cX11_hasPart 6 = .ok (.bipush 6, 2) := by decide +kernel
theorem dX11_hasPart_8 : decode cX11_hasPart 8 = .ok (.if_icmp .eq 24, 3) := by decide +kernel
theorem dX11_hasPart_11 : decode cX11_hasPart 11 = .ok (.aload_n 0, 1) := by decide +kernel
theorem dX11_hasPart_12 : decode cX11_hasPart 12 = .ok (.getfield 28, 3) := by decide +kernel
theorem dX11_hasPart_15 : decode cX11_hasPart 15 = .ok (.bipush 55, 2) := by decide +kernel
theorem dX11_hasPart_17 : decode cX11_hasPart 17 = .ok (.iload_n 1, 1) := by decide +kernel
theorem dX11_hasPart_18 : decode cX11_hasPart 18 = .ok (.iadd, 1) := by decide +kernel
theorem dX11_hasPart_19 : decode cX11_hasPart 19 = .ok (.iaload, 1) := by decide +kernel
theorem dX11_hasPart_20 : decode cX11_hasPart 20 = .ok (.aload_n 0, 1) := by decide +kernel
theorem dX11_hasPart_21 : decode cX11_hasPart 21 = .ok (.getfield 16, 3) := by decide +kernel
theorem dX11_hasPart_24 : decode cX11_hasPart 24 = .ok (.iload_n 2, 1) := by decide +kernel
theorem dX11_hasPart_25 : decode cX11_hasPart 25 = .ok (.iaload, 1) := by decide +kernel
theorem dX11_hasPart_26 : decode cX11_hasPart 26 = .ok (.invokestatic 140, 3) := by decide +kernel
theorem dX11_hasPart_29 : decode cX11_hasPart 29 = .ok (.ifCond .ne 7, 3) := by decide +kernel
theorem dX11_hasPart_32 : decode cX11_hasPart 32 = .ok (.iconst 1, 1) := by decide +kernel
theorem dX11_hasPart_33 : decode cX11_hasPart 33 = .ok (.goto 4, 3) := by decide +kernel
theorem dX11_hasPart_36 : decode cX11_hasPart 36 = .ok (.iconst 0, 1) := by decide +kernel
theorem dX11_hasPart_37 : decode cX11_hasPart 37 = .ok (.ireturn, 1) := by decide +kernel
theorem dX11_hears_0 : decode cX11_hears 0 = .ok (.aload_n 0, 1) := by decide +kernel
theorem dX11_hears_1 : decode cX11_hears 1 = .ok (.iload_n 1, 1) := by decide +kernel
theorem dX11_hears_2 : decode cX11_hears 2 = .ok (.invokevirtual 156, 3) := by decide +kernel
theorem dX11_hears_5 : decode cX11_hears 5 = .ok (.ifCond .eq 12, 3) := by decide +kernel
theorem dX11_hears_8 : decode cX11_hears 8 = .ok (.iload_n 2, 1) := by decide +kernel
theorem dX11_hears_9 : decode cX11_hears 9 = .ok (.iconst 0, 1) := by decide +kernel
theorem dX11_hears_10 : decode cX11_hears 10 = .ok (.iconst 1, 1) := by decide +kernel
theorem dX11_hears_11 : decode cX11_hears 11 = .ok (.invokestatic 72, 3) := by decide +kernel
theorem dX11_hears_14 : decode cX11_hears 14 = .ok (.ifCond .ne 5, 3) := by decide +kernel
theorem dX11_hears_17 : decode cX11_hears 17 = .ok (.iconst (-1), 1) := by decide +kernel
theorem dX11_hears_18 : decode cX11_hears 18 = .ok (.ireturn, 1) := by decide +kernel
theorem dX11_hears_19 : decode cX11_hears 19 = .ok (.aload_n 0, 1) := by decide +kernel
theorem dX11_hears_20 : decode cX11_hears 20 = .ok (.getfield 137, 3) := by decide +kernel
theorem dX11_hears_23 : decode cX11_hears 23 = .ok (.bipush 6, 2) := by decide +kernel
theorem dX11_hears_25 : decode cX11_hears 25 = .ok (.if_icmp .ne 6, 3) := by decide +kernel
theorem dX11_hears_28 : decode cX11_hears 28 = .ok (.bipush (-3), 2) := by decide +kernel
theorem dX11_hears_30 : decode cX11_hears 30 = .ok (.ireturn, 1) := by decide +kernel
theorem dX11_hears_31 : decode cX11_hears 31 = .ok (.aload_n 0, 1) := by decide +kernel
theorem dX11_hears_32 : decode cX11_hears 32 = .ok (.getfield 38, 3) := by decide +kernel
theorem dX11_hears_35 : decode cX11_hears 35 = .ok (.iconst 2, 1) := by decide +kernel
theorem dX11_hears_36 : decode cX11_hears 36 = .ok (.aload_n 0, 1) := by decide +kernel
theorem dX11_hears_37 : decode cX11_hears 37 = .ok (.getfield 137, 3) := by decide +kernel
theorem dX11_hears_40 : decode cX11_hears 40 = .ok (.imul, 1) := by decide +kernel
theorem dX11_hears_41 : decode cX11_hears 41 = .ok (.iload_n 1, 1) := by decide +kernel
theorem dX11_hears_42 : decode cX11_hears 42 = .ok (.iastore, 1) := by decide +kernel
theorem dX11_hears_43 : decode cX11_hears 43 = .ok (.aload_n 0, 1) := by decide +kernel
theorem dX11_hears_44 : decode cX11_hears 44 = .ok (.getfield 38, 3) := by decide +kernel
theorem dX11_hears_47 : decode cX11_hears 47 = .ok (.iconst 2, 1) := by decide +kernel
theorem dX11_hears_48 : decode cX11_hears 48 = .ok (.aload_n 0, 1) := by decide +kernel
theorem dX11_hears_49 : decode cX11_hears 49 = .ok (.getfield 137, 3) := by decide +kernel
theorem dX11_hears_52 : decode cX11_hears 52 = .ok (.imul, 1) := by decide +kernel
theorem dX11_hears_53 : decode cX11_hears 53 = .ok (.iconst 1, 1) := by decide +kernel
theorem dX11_hears_54 : decode cX11_hears 54 = .ok (.iadd, 1) := by decide +kernel
theorem dX11_hears_55 : decode cX11_hears 55 = .ok (.iload_n 2, 1) := by decide +kernel
theorem dX11_hears_56 : decode cX11_hears 56 = .ok (.iastore, 1) := by decide +kernel
theorem dX11_hears_57 : decode cX11_hears 57 = .ok (.aload_n 0, 1) := by decide +kernel
theorem dX11_hears_58 : decode cX11_hears 58 = .ok (.dup, 1) := by decide +kernel
theorem dX11_hears_59 : decode cX11_hears 59 = .ok (.getfield 137, 3) := by decide +kernel
theorem dX11_hears_62 : decode cX11_hears 62 = .ok (.iconst 1, 1) := by decide +kernel
theorem dX11_hears_63 : decode cX11_hears 63 = .ok (.iadd, 1) := by decide +kernel
theorem dX11_hears_64 : decode cX11_hears 64 = .ok (.putfield 137, 3) := by decide +kernel
theorem dX11_hears_67 : decode cX11_hears 67 = .ok (.aload_n 0, 1) := by decide +kernel
theorem dX11_hears_68 : decode cX11_hears 68 = .ok (.getfield 137, 3) := by decide +kernel
theorem dX11_hears_71 : decode cX11_hears 71 = .ok (.ireturn, 1) := by decide +kernel
theorem dX11_in_0 : decode cX11_in 0 = .ok (.iload_n 0, 1) := by decide +kernel
theorem dX11_in_1 : decode cX11_in 1 = .ok (.iload_n 1, 1) := by decide +kernel
theorem dX11_in_2 : decode cX11_in 2 = .ok (.if_icmp .lt 12, 3) := by decide +kernel
theorem dX11_in_5 : decode cX11_in 5 = .ok (.iload_n 0, 1) := by decide +kernel
theorem dX11_in_6 : decode cX11_in 6 = .ok (.iload_n 2, 1) := by decide +kernel
theorem dX11_in_7 : decode cX11_in 7 = .ok (.if_icmp .gt 7, 3) := by decide +kernel
theorem dX11_in_10 : decode cX11_in 10 = .ok (.iconst 1, 1) := by decide +kernel
theorem dX11_in_11 : decode cX11_in 11 = .ok (.goto 4, 3) := by decide +kernel
theorem dX11_in_14 : decode cX11_in 14 = .ok (.iconst 0, 1) := by decide +kernel
theorem dX11_in_15 : decode cX11_in 15 = .ok (.ireturn, 1) := by decide +kernel
theorem dX11_inClass_0 : decode cX11_inClass 0 = .ok (.iconst 0, 1) := by decide +kernel
theorem dX11_inClass_1 : decode cX11_inClass 1 = .ok (.istore_n 1, 1) := by decide +kernel
theorem dX11_inClass_2 : decode cX11_inClass 2 = .ok (.iconst 0, 1) := by decide +kernel
theorem dX11_inClass_3 : decode cX11_inClass 3 = .ok (.istore_n 2, 1) := by decide +kernel
theorem dX11_inClass_4 : decode cX11_inClass 4 = .ok (.iload_n 2, 1) := by decide +kernel
theorem dX11_inClass_5 : decode cX11_inClass 5 = .ok (.aload_n 0, 1) := by decide +kernel
theorem dX11_inClass_6 : decode cX11_inClass 6 = .ok (.getfield 76, 3) := by decide +kernel
theorem dX11_inClass_9 : decode cX11_inClass 9 = .ok (.if_icmp .ge 33, 3) := by decide +kernel
theorem dX11_inClass_12 : decode cX11_inClass 12 = .ok (.iload_n 1, 1) := by decide +kernel
theorem dX11_inClass_13 : decode cX11_inClass 13 = .ok (.aload_n 0, 1) := by decide +kernel
theorem dX11_inClass_14 : decode cX11_inClass 14 = .ok (.getfield 28, 3) := by decide +kernel
theorem dX11_inClass_17 : decode cX11_inClass 17 = .ok (.bipush 68, 2) := by decide +kernel
theorem dX11_inClass_19 : decode cX11_inClass 19 = .ok (.iload_n 2, 1) := by decide +kernel
theorem dX11_inClass_20 : decode cX11_inClass 20 = .ok (.iadd, 1) := by decide +kernel
theorem dX11_inClass_21 : decode cX11_inClass 21 = .ok (.iaload, 1) := by decide +kernel
theorem dX11_inClass_22 : decode cX11_inClass 22 = .ok (.bipush (-9), 2) := by decide +kernel
theorem dX11_inClass_24 : decode cX11_inClass 24 = .ok (.if_icmp .eq 9, 3) := by decide +kernel
theorem dX11_inClass_27 : decode cX11_inClass 27 = .ok (.iconst 1, 1) := by decide +kernel
theorem dX11_inClass_28 : decode cX11_inClass 28 = .ok (.iload_n 2, 1) := by decide +kernel
theorem dX11_inClass_29 : decode cX11_inClass 29 = .ok (.ishl, 1) := by decide +kernel
theorem dX11_inClass_30 : decode cX11_inClass 30 = .ok (.goto 4, 3) := by decide +kernel
theorem dX11_inClass_33 : decode cX11_inClass 33 = .ok (.iconst 0, 1) := by decide +kernel
theorem dX11_inClass_34 : decode cX11_inClass 34 = .ok (.ior, 1) := by decide +kernel
theorem dX11_inClass_35 : decode cX11_inClass 35 = .ok (.istore_n 1, 1) := by decide +kernel
theorem dX11_inClass_36 : decode cX11_inClass 36 = .ok (.iinc 2 1, 3) := by decide +kernel
theorem dX11_inClass_39 : decode cX11_inClass 39 = .ok (.goto (-35), 3) := by decide +kernel
theorem dX11_inClass_42 : decode cX11_inClass 42 = .ok (.iload_n 1, 1) := by decide +kernel
theorem dX11_inClass_43 : decode cX11_inClass 43 = .ok (.ireturn, 1) := by decide +kernel
theorem dX11_init_0 : decode cX11_init 0 = .ok (.aload_n 0, 1) := by decide +kernel
theorem dX11_init_1 : decode cX11_init 1 = .ok (.invokespecial 1, 3) := by decide +kernel
theorem dX11_init_4 : decode cX11_init 4 = .ok (.aload_n 0, 1) := by decide +kernel
theorem dX11_init_5 : decode cX11_init 5 = .ok (.bipush 8, 2) := by decide +kernel
theorem dX11_init_7 : decode cX11_init 7 = .ok (.newarray .int, 2) := by decide +kernel
theorem dX11_init_9 : decode cX11_init 9 = .ok (.putfield 7, 3) := by decide +kernel
theorem dX11_init_12 : decode cX11_init 12 = .ok (.aload_n 0, 1) := by decide +kernel
theorem dX11_init_13 : decode cX11_init 13 = .ok (.bipush 8, 2) := by decide +kernel
theorem dX11_init_15 : decode cX11_init 15 = .ok (.newarray .int, 2) := by decide +kernel
theorem dX11_init_17 : decode cX11_init 17 = .ok (.putfield 13, 3) := by decide +kernel
theorem dX11_init_20 : decode cX11_init 20 = .ok (.aload_n 0, 1) := by decide +kernel
theorem dX11_init_21 : decode cX11_init 21 = .ok (.bipush 8, 2) := by decide +kernel
theorem dX11_init_23 : decode cX11_init 23 = .ok (.newarray .int, 2) := by decide +kernel
theorem dX11_init_25 : decode cX11_init 25 = .ok (.putfield 16, 3) := by decide +kernel
theorem dX11_init_28 : decode cX11_init 28 = .ok (.aload_n 0, 1) := by decide +kernel
theorem dX11_init_29 : decode cX11_init 29 = .ok (.bipush 8, 2) := by decide +kernel
theorem dX11_init_31 : decode cX11_init 31 = .ok (.newarray .int, 2) := by decide +kernel
theorem dX11_init_33 : decode cX11_init 33 = .ok (.putfield 19, 3) := by decide +kernel
theorem dX11_init_36 : decode cX11_init 36 = .ok (.aload_n 0, 1) := by decide +kernel
theorem dX11_init_37 : decode cX11_init 37 = .ok (.bipush 6, 2) := by decide +kernel
theorem dX11_init_39 : decode cX11_init 39 = .ok (.newarray .int, 2) := by decide +kernel
theorem dX11_init_41 : decode cX11_init 41 = .ok (.putfield 22, 3) := by decide +kernel
theorem dX11_init_44 : decode cX11_init 44 = .ok (.aload_n 0, 1) := by decide +kernel
theorem dX11_init_45 : decode cX11_init 45 = .ok (.bipush 6, 2) := by decide +kernel
theorem dX11_init_47 : decode cX11_init 47 = .ok (.newarray .int, 2) := by decide +kernel
theorem dX11_init_49 : decode cX11_init 49 = .ok (.putfield 25, 3) := by decide +kernel
theorem dX11_init_52 : decode cX11_init 52 = .ok (.aload_n 0, 1) := by decide +kernel
theorem dX11_init_53 : decode cX11_init 53 = .ok (.sipush 815, 3) := by decide +kernel
theorem dX11_init_56 : decode cX11_init 56 = .ok (.newarray .int, 2) := by decide +kernel
theorem dX11_init_58 : decode cX11_init 58 = .ok (.putfield 28, 3) := by decide +kernel
theorem dX11_init_61 : decode cX11_init 61 = .ok (.aload_n 0, 1) := by decide +kernel
theorem dX11_init_62 : decode cX11_init 62 = .ok (.sipush 1630, 3) := by decide +kernel
theorem dX11_init_65 : decode cX11_init 65 = .ok (.newarray .int, 2) := by decide +kernel
theorem dX11_init_67 : decode cX11_init 67 = .ok (.putfield 31, 3) := by decide +kernel
theorem dX11_init_70 : decode cX11_init 70 = .ok (.aload_n 0, 1) := by decide +kernel
theorem dX11_init_71 : decode cX11_init 71 = .ok (.iconst 2, 1) := by decide +kernel
theorem dX11_init_72 : decode cX11_init 72 = .ok (.newarray .boolean, 2) := by decide +kernel
theorem dX11_init_74 : decode cX11_init 74 = .ok (.putfield 34, 3) := by decide +kernel
theorem dX11_init_77 : decode cX11_init 77 = .ok (.aload_n 0, 1) := by decide +kernel
theorem dX11_init_78 : decode cX11_init 78 = .ok (.bipush 12, 2) := by decide +kernel
theorem dX11_init_80 : decode cX11_init 80 = .ok (.newarray .int, 2) := by decide +kernel
theorem dX11_init_82 : decode cX11_init 82 = .ok (.putfield 38, 3) := by decide +kernel
theorem dX11_init_85 : decode cX11_init 85 = .ok (.aload_n 0, 1) := by decide +kernel
theorem dX11_init_86 : decode cX11_init 86 = .ok (.sipush 150, 3) := by decide +kernel
theorem dX11_init_89 : decode cX11_init 89 = .ok (.newarray .int, 2) := by decide +kernel
theorem dX11_init_91 : decode cX11_init 91 = .ok (.putfield 41, 3) := by decide +kernel
theorem dX11_init_94 : decode cX11_init 94 = .ok (.aload_n 0, 1) := by decide +kernel
theorem dX11_init_95 : decode cX11_init 95 = .ok (.bipush 8, 2) := by decide +kernel
theorem dX11_init_97 : decode cX11_init 97 = .ok (.newarray .int, 2) := by decide +kernel
theorem dX11_init_99 : decode cX11_init 99 = .ok (.putfield 44, 3) := by decide +kernel
theorem dX11_init_102 : decode cX11_init 102 = .ok (.aload_n 0, 1) := by decide +kernel
theorem dX11_init_103 : decode cX11_init 103 = .ok (.bipush 8, 2) := by decide +kernel
theorem dX11_init_105 : decode cX11_init 105 = .ok (.newarray .int, 2) := by decide +kernel
theorem dX11_init_107 : decode cX11_init 107 = .ok (.putfield 47, 3) := by decide +kernel
theorem dX11_init_110 : decode cX11_init 110 = .ok (.aload_n 0, 1) := by decide +kernel
theorem dX11_init_111 : decode cX11_init 111 = .ok (.bipush 8, 2) := by decide +kernel
theorem dX11_init_113 : decode cX11_init 113 = .ok (.newarray .int, 2) := by decide +kernel
theorem dX11_init_115 : decode cX11_init 115 = .ok (.putfield 50, 3) := by decide +kernel
theorem dX11_init_118 : decode cX11_init 118 = .ok (.aload_n 0, 1) := by decide +kernel
theorem dX11_init_119 : decode cX11_init 119 = .ok (.bipush 8, 2) := by decide +kernel
theorem dX11_init_121 : decode cX11_init 121 = .ok (.newarray .int, 2) := by decide +kernel
theorem dX11_init_123 : decode cX11_init 123 = .ok (.putfield 53, 3) := by decide +kernel
theorem dX11_init_126 : decode cX11_init 126 = .ok (.aload_n 0, 1) := by decide +kernel
theorem dX11_init_127 : decode cX11_init 127 = .ok (.bipush 6, 2) := by decide +kernel
theorem dX11_init_129 : decode cX11_init 129 = .ok (.newarray .int, 2) := by decide +kernel
theorem dX11_init_131 : decode cX11_init 131 = .ok (.putfield 56, 3) := by decide +kernel
theorem dX11_init_134 : decode cX11_init 134 = .ok (.aload_n 0, 1) := by decide +kernel
theorem dX11_init_135 : decode cX11_init 135 = .ok (.bipush 6, 2) := by decide +kernel
theorem dX11_init_137 : decode cX11_init 137 = .ok (.newarray .int, 2) := by decide +kernel
theorem dX11_init_139 : decode cX11_init 139 = .ok (.putfield 59, 3) := by decide +kernel
theorem dX11_init_142 : decode cX11_init 142 = .ok (.aload_n 0, 1) := by decide +kernel
theorem dX11_init_143 : decode cX11_init 143 = .ok (.bipush 6, 2) := by decide +kernel
theorem dX11_init_145 : decode cX11_init 145 = .ok (.newarray .int, 2) := by decide +kernel
theorem dX11_init_147 : decode cX11_init 147 = .ok (.putfield 62, 3) := by decide +kernel
theorem dX11_init_150 : decode cX11_init 150 = .ok (.aload_n 0, 1) := by decide +kernel
theorem dX11_init_151 : decode cX11_init 151 = .ok (.sipush 1792, 3) := by decide +kernel
theorem dX11_init_154 : decode cX11_init 154 = .ok (.newarray .int, 2) := by decide +kernel
theorem dX11_init_156 : decode cX11_init 156 = .ok (.putfield 65, 3) := by decide +kernel
theorem dX11_init_159 : decode cX11_init 159 = .ok (.return_, 1) := by decide +kernel
theorem dX11_isBroken_0 : decode cX11_isBroken 0 = .ok (.aload_n 0, 1) := by decide +kernel
theorem dX11_isBroken_1 : decode cX11_isBroken 1 = .ok (.getfield 28, 3) := by decide +kernel
theorem dX11_isBroken_4 : decode cX11_isBroken 4 = .ok (.bipush 67, 2) := by decide +kernel
theorem dX11_isBroken_6 : decode cX11_isBroken 6 = .ok (.iaload, 1) := by decide +kernel
theorem dX11_isBroken_7 : decode cX11_isBroken 7 = .ok (.iload_n 1, 1) := by decide +kernel
theorem dX11_isBroken_8 : decode cX11_isBroken 8 = .ok (.invokestatic 140, 3) := by decide +kernel
theorem dX11_isBroken_11 : decode cX11_isBroken 11 = .ok (.ireturn, 1) := by decide +kernel
theorem dX11_isCast_0 : decode cX11_isCast 0 = .ok (.iload_n 1, 1) := by decide +kernel
theorem dX11_isCast_1 : decode cX11_isCast 1 = .ok (.iconst 0, 1) := by decide +kernel
theorem dX11_isCast_2 : decode cX11_isCast 2 = .ok (.aload_n 0, 1) := by decide +kernel
theorem dX11_isCast_3 : decode cX11_isCast 3 = .ok (.getfield 76, 3) := by decide +kernel
theorem dX11_isCast_6 : decode cX11_isCast 6 = .ok (.iconst 1, 1) := by decide +kernel
theorem dX11_isCast_7 : decode cX11_isCast 7 = .ok (.isub, 1) := by decide +kernel
theorem dX11_isCast_8 : decode cX11_isCast 8 = .ok (.invokestatic 72, 3) := by decide +kernel
theorem dX11_isCast_11 : decode cX11_isCast 11 = .ok (.ireturn, 1) := by decide +kernel
theorem dX11_isFigure_0 : decode cX11_isFigure 0 = .ok (.iload_n 0, 1) := by decide +kernel
theorem dX11_isFigure_1 : decode cX11_isFigure 1 = .ok (.bipush 48, 2) := by decide +kernel
theorem dX11_isFigure_3 : decode cX11_isFigure 3 = .ok (.bipush 57, 2) := by decide +kernel
theorem dX11_isFigure_5 : decode cX11_isFigure 5 = .ok (.invokestatic 72, 3) := by decide +kernel
theorem dX11_isFigure_8 : decode cX11_isFigure 8 = .ok (.ireturn, 1) := by decide +kernel
theorem dX11_isLetter_0 : decode cX11_isLetter 0 = .ok (.iload_n 0, 1) := by decide +kernel
theorem dX11_isLetter_1 : decode cX11_isLetter 1 = .ok (.bipush 97, 2) := by decide +kernel
theorem dX11_isLetter_3 : decode cX11_isLetter 3 = .ok (.bipush 122, 2) := by decide +kernel
theorem dX11_isLetter_5 : decode cX11_isLetter 5 = .ok (.invokestatic 72, 3) := by decide +kernel
theorem dX11_isLetter_8 : decode cX11_isLetter 8 = .ok (.ireturn, 1) := by decide +kernel
theorem dX11_isThing_0 : decode cX11_isThing 0 = .ok (.iload_n 1, 1) := by decide +kernel
theorem dX11_isThing_1 : decode cX11_isThing 1 = .ok (.iconst 0, 1) := by decide +kernel
theorem dX11_isThing_2 : decode cX11_isThing 2 = .ok (.aload_n 0, 1) := by decide +kernel
theorem dX11_isThing_3 : decode cX11_isThing 3 = .ok (.getfield 68, 3) := by decide +kernel
theorem dX11_isThing_6 : decode cX11_isThing 6 = .ok (.iconst 1, 1) := by decide +kernel
theorem dX11_isThing_7 : decode cX11_isThing 7 = .ok (.isub, 1) := by decide +kernel
theorem dX11_isThing_8 : decode cX11_isThing 8 = .ok (.invokestatic 72, 3) := by decide +kernel
theorem dX11_isThing_11 : decode cX11_isThing 11 = .ok (.ireturn, 1) := by decide +kernel
theorem dX11_isWhole_0 : decode cX11_isWhole 0 = .ok (.iload_n 2, 1) := by decide +kernel
theorem dX11_isWhole_1 : decode cX11_isWhole 1 = .ok (.aload_n 0, 1) := by decide +kernel
theorem dX11_isWhole_2 : decode cX11_isWhole 2 = .ok (.getfield 28, 3) := by decide +kernel
theorem dX11_isWhole_5 : decode cX11_isWhole 5 = .ok (.bipush 49, 2) := by decide +kernel
theorem dX11_isWhole_7 : decode cX11_isWhole 7 = .ok (.iload_n 1, 1) := by decide +kernel
theorem dX11_isWhole_8 : decode cX11_isWhole 8 = .ok (.iadd, 1) := by decide +kernel
theorem dX11_isWhole_9 : decode cX11_isWhole 9 = .ok (.iaload, 1) := by decide +kernel
theorem dX11_isWhole_10 : decode cX11_isWhole 10 = .ok (.iand, 1) := by decide +kernel
theorem dX11_isWhole_11 : decode cX11_isWhole 11 = .ok (.ifCond .ne 7, 3) := by decide +kernel
theorem dX11_isWhole_14 : decode cX11_isWhole 14 = .ok (.iconst 1, 1) := by decide +kernel
theorem dX11_isWhole_15 : decode cX11_isWhole 15 = .ok (.goto 4, 3) := by decide +kernel
theorem dX11_isWhole_18 : decode cX11_isWhole 18 = .ok (.iconst 0, 1) := by decide +kernel
theorem dX11_isWhole_19 : decode cX11_isWhole 19 = .ok (.istore_n 3, 1) := by decide +kernel
theorem dX11_isWhole_20 : decode cX11_isWhole 20 = .ok (.iconst 0, 1) := by decide +kernel
theorem dX11_isWhole_21 : decode cX11_isWhole 21 = .ok (.istore 4, 2) := by decide +kernel
theorem dX11_isWhole_23 : decode cX11_isWhole 23 = .ok (.iload 4, 2) := by decide +kernel
theorem dX11_isWhole_25 : decode cX11_isWhole 25 = .ok (.aload_n 0, 1) := by decide +kernel
theorem dX11_isWhole_26 : decode cX11_isWhole 26 = .ok (.getfield 68, 3) := by decide +kernel
theorem dX11_isWhole_29 : decode cX11_isWhole 29 = .ok (.if_icmp .ge 54, 3) := by decide +kernel
theorem dX11_isWhole_32 : decode cX11_isWhole 32 = .ok (.iload_n 3, 1) := by decide +kernel
theorem dX11_isWhole_33 : decode cX11_isWhole 33 = .ok (.ifCond .eq 42, 3) := by decide +kernel
theorem dX11_isWhole_36 : decode cX11_isWhole 36 = .ok (.iload_n 2, 1) := by decide +kernel
theorem dX11_isWhole_37 : decode cX11_isWhole 37 = .ok (.iload 4, 2) := by decide +kernel
theorem dX11_isWhole_39 : decode cX11_isWhole 39 = .ok (.invokestatic 140, 3) := by decide +kernel
theorem dX11_isWhole_42 : decode cX11_isWhole 42 = .ok (.ifCond .eq 29, 3) := by decide +kernel
theorem dX11_isWhole_45 : decode cX11_isWhole 45 = .ok (.aload_n 0, 1) := by decide +kernel
theorem dX11_isWhole_46 : decode cX11_isWhole 46 = .ok (.getfield 19, 3) := by decide +kernel
theorem dX11_isWhole_49 : decode cX11_isWhole 49 = .ok (.iload 4, 2) := by decide +kernel
theorem dX11_isWhole_51 : decode cX11_isWhole 51 = .ok (.iaload, 1) := by decide +kernel
theorem dX11_isWhole_52 : decode cX11_isWhole 52 = .ok (.aload_n 0, 1) := by decide +kernel
theorem dX11_isWhole_53 : decode cX11_isWhole 53 = .ok (.getfield 28, 3) := by decide +kernel
theorem dX11_isWhole_56 : decode cX11_isWhole 56 = .ok (.bipush 49, 2) := by decide +kernel
theorem dX11_isWhole_58 : decode cX11_isWhole 58 = .ok (.iload_n 1, 1) := by decide +kernel
theorem dX11_isWhole_59 : decode cX11_isWhole 59 = .ok (.iadd, 1) := by decide +kernel
theorem dX11_isWhole_60 : decode cX11_isWhole 60 = .ok (.iaload, 1) := by decide +kernel
theorem dX11_isWhole_61 : decode cX11_isWhole 61 = .ok (.iconst (-1), 1) := by decide +kernel
theorem dX11_isWhole_62 : decode cX11_isWhole 62 = .ok (.ixor, 1) := by decide +kernel
theorem dX11_isWhole_63 : decode cX11_isWhole 63 = .ok (.iand, 1) := by decide +kernel
theorem dX11_isWhole_64 : decode cX11_isWhole 64 = .ok (.iload_n 2, 1) := by decide +kernel
theorem dX11_isWhole_65 : decode cX11_isWhole 65 = .ok (.iconst (-1), 1) := by decide +kernel
theorem dX11_isWhole_66 : decode cX11_isWhole 66 = .ok (.ixor, 1) := by decide +kernel
theorem dX11_isWhole_67 : decode cX11_isWhole 67 = .ok (.iand, 1) := by decide +kernel
theorem dX11_isWhole_68 : decode cX11_isWhole 68 = .ok (.ifCond .ne 7, 3) := by decide +kernel
theorem dX11_isWhole_71 : decode cX11_isWhole 71 = .ok (.iconst 1, 1) := by decide +kernel
theorem dX11_isWhole_72 : decode cX11_isWhole 72 = .ok (.goto 4, 3) := by decide +kernel
theorem dX11_isWhole_75 : decode cX11_isWhole 75 = .ok (.iconst 0, 1) := by decide +kernel
theorem dX11_isWhole_76 : decode cX11_isWhole 76 = .ok (.istore_n 3, 1) := by decide +kernel
theorem dX11_isWhole_77 : decode cX11_isWhole 77 = .ok (.iinc 4 1, 3) := by decide +kernel
theorem dX11_isWhole_80 : decode cX11_isWhole 80 = .ok (.goto (-57), 3) := by decide +kernel
theorem dX11_isWhole_83 : decode cX11_isWhole 83 = .ok (.iload_n 3, 1) := by decide +kernel
theorem dX11_isWhole_84 : decode cX11_isWhole 84 = .ok (.ireturn, 1) := by decide +kernel
theorem dX11_joins_0 : decode cX11_joins 0 = .ok (.aload_n 0, 1) := by decide +kernel
theorem dX11_joins_1 : decode cX11_joins 1 = .ok (.iload_n 1, 1) := by decide +kernel
theorem dX11_joins_2 : decode cX11_joins 2 = .ok (.invokevirtual 162, 3) := by decide +kernel
theorem dX11_joins_5 : decode cX11_joins 5 = .ok (.ifCond .eq 25, 3) := by decide +kernel
theorem dX11_joins_8 : decode cX11_joins 8 = .ok (.aload_n 0, 1) := by decide +kernel
theorem dX11_joins_9 : decode cX11_joins 9 = .ok (.iload_n 2, 1) := by decide +kernel
theorem dX11_joins_10 : decode cX11_joins 10 = .ok (.invokevirtual 162, 3) := by decide +kernel
theorem dX11_joins_13 : decode cX11_joins 13 = .ok (.ifCond .eq 17, 3) := by decide +kernel
theorem dX11_joins_16 : decode cX11_joins 16 = .ok (.iload_n 1, 1) := by decide +kernel
theorem dX11_joins_17 : decode cX11_joins 17 = .ok (.iload_n 2, 1) := by decide +kernel
theorem dX11_joins_18 : decode cX11_joins 18 = .ok (.if_icmp .eq 12, 3) := by decide +kernel
theorem dX11_joins_21 : decode cX11_joins 21 = .ok (.iload_n 3, 1) := by decide +kernel
theorem dX11_joins_22 : decode cX11_joins 22 = .ok (.iconst 0, 1) := by decide +kernel
theorem dX11_joins_23 : decode cX11_joins 23 = .ok (.iconst 5, 1) := by decide +kernel
theorem dX11_joins_24 : decode cX11_joins 24 = .ok (.invokestatic 72, 3) := by decide +kernel
theorem dX11_joins_27 : decode cX11_joins 27 = .ok (.ifCond .ne 5, 3) := by decide +kernel
theorem dX11_joins_30 : decode cX11_joins 30 = .ok (.iconst (-1), 1) := by decide +kernel
theorem dX11_joins_31 : decode cX11_joins 31 = .ok (.ireturn, 1) := by decide +kernel
theorem dX11_joins_32 : decode cX11_joins 32 = .ok (.aload_n 0, 1) := by decide +kernel
theorem dX11_joins_33 : decode cX11_joins 33 = .ok (.getfield 28, 3) := by decide +kernel
theorem dX11_joins_36 : decode cX11_joins 36 = .ok (.bipush 55, 2) := by decide +kernel
theorem dX11_joins_38 : decode cX11_joins 38 = .ok (.iload_n 1, 1) := by decide +kernel
theorem dX11_joins_39 : decode cX11_joins 39 = .ok (.iadd, 1) := by decide +kernel
theorem dX11_joins_40 : decode cX11_joins 40 = .ok (.iaload, 1) := by decide +kernel
theorem dX11_joins_41 : decode cX11_joins 41 = .ok (.iload_n 3, 1) := by decide +kernel
theorem dX11_joins_42 : decode cX11_joins 42 = .ok (.invokestatic 140, 3) := by decide +kernel
theorem dX11_joins_45 : decode cX11_joins 45 = .ok (.ifCond .ne 19, 3) := by decide +kernel
theorem dX11_joins_48 : decode cX11_joins 48 = .ok (.aload_n 0, 1) := by decide +kernel
theorem dX11_joins_49 : decode cX11_joins 49 = .ok (.getfield 28, 3) := by decide +kernel
theorem dX11_joins_52 : decode cX11_joins 52 = .ok (.bipush 55, 2) := by decide +kernel
theorem dX11_joins_54 : decode cX11_joins 54 = .ok (.iload_n 2, 1) := by decide +kernel
theorem dX11_joins_55 : decode cX11_joins 55 = .ok (.iadd, 1) := by decide +kernel
theorem dX11_joins_56 : decode cX11_joins 56 = .ok (.iaload, 1) := by decide +kernel
theorem dX11_joins_57 : decode cX11_joins 57 = .ok (.iload_n 3, 1) := by decide +kernel
theorem dX11_joins_58 : decode cX11_joins 58 = .ok (.invokestatic 140, 3) := by decide +kernel
theorem dX11_joins_61 : decode cX11_joins 61 = .ok (.ifCond .ne 6, 3) := by decide +kernel
theorem dX11_joins_64 : decode cX11_joins 64 = .ok (.bipush (-2), 2) := by decide +kernel
theorem dX11_joins_66 : decode cX11_joins 66 = .ok (.ireturn, 1) := by decide +kernel
theorem dX11_joins_67 : decode cX11_joins 67 = .ok (.aload_n 0, 1) := by decide +kernel
theorem dX11_joins_68 : decode cX11_joins 68 = .ok (.invokevirtual 168, 3) := by decide +kernel
theorem dX11_joins_71 : decode cX11_joins 71 = .ok (.aload_n 0, 1) := by decide +kernel
theorem dX11_joins_72 : decode cX11_joins 72 = .ok (.getfield 28, 3) := by decide +kernel
theorem dX11_joins_75 : decode cX11_joins 75 = .ok (.bipush 55, 2) := by decide +kernel
theorem dX11_joins_77 : decode cX11_joins 77 = .ok (.iload_n 1, 1) := by decide +kernel
theorem dX11_joins_78 : decode cX11_joins 78 = .ok (.iadd, 1) := by decide +kernel
theorem dX11_joins_79 : decode cX11_joins 79 = .ok (.dup2, 1) := by decide +kernel
theorem dX11_joins_80 : decode cX11_joins 80 = .ok (.iaload, 1) := by decide +kernel
theorem dX11_joins_81 : decode cX11_joins 81 = .ok (.iconst 1, 1) := by decide +kernel
theorem dX11_joins_82 : decode cX11_joins 82 = .ok (.iload_n 3, 1) := by decide +kernel
theorem dX11_joins_83 : decode cX11_joins 83 = .ok (.ishl, 1) := by decide +kernel
theorem dX11_joins_84 : decode cX11_joins 84 = .ok (.ior, 1) := by decide +kernel
theorem dX11_joins_85 : decode cX11_joins 85 = .ok (.iastore, 1) := by decide +kernel
theorem dX11_joins_86 : decode cX11_joins 86 = .ok (.aload_n 0, 1) := by decide +kernel
theorem dX11_joins_87 : decode cX11_joins 87 = .ok (.getfield 28, 3) := by decide +kernel
theorem dX11_joins_90 : decode cX11_joins 90 = .ok (.bipush 55, 2) := by decide +kernel
theorem dX11_joins_92 : decode cX11_joins 92 = .ok (.iload_n 2, 1) := by decide +kernel
theorem dX11_joins_93 : decode cX11_joins 93 = .ok (.iadd, 1) := by decide +kernel
theorem dX11_joins_94 : decode cX11_joins 94 = .ok (.dup2, 1) := by decide +kernel
theorem dX11_joins_95 : decode cX11_joins 95 = .ok (.iaload, 1) := by decide +kernel
theorem dX11_joins_96 : decode cX11_joins 96 = .ok (.iconst 1, 1) := by decide +kernel
theorem dX11_joins_97 : decode cX11_joins 97 = .ok (.iload_n 3, 1) := by decide +kernel
theorem dX11_joins_98 : decode cX11_joins 98 = .ok (.ishl, 1) := by decide +kernel
theorem dX11_joins_99 : decode cX11_joins 99 = .ok (.iconst (-1), 1) := by decide +kernel
theorem dX11_joins_100 : decode cX11_joins 100 = .ok (.ixor, 1) := by decide +kernel
theorem dX11_joins_101 : decode cX11_joins 101 = .ok (.iand, 1) := by decide +kernel
theorem dX11_joins_102 : decode cX11_joins 102 = .ok (.iastore, 1) := by decide +kernel
theorem dX11_joins_103 : decode cX11_joins 103 = .ok (.aload_n 0, 1) := by decide +kernel
theorem dX11_joins_104 : decode cX11_joins 104 = .ok (.getfield 28, 3) := by decide +kernel
theorem dX11_joins_107 : decode cX11_joins 107 = .ok (.bipush 68, 2) := by decide +kernel
theorem dX11_joins_109 : decode cX11_joins 109 = .ok (.iload_n 1, 1) := by decide +kernel
theorem dX11_joins_110 : decode cX11_joins 110 = .ok (.iadd, 1) := by decide +kernel
theorem dX11_joins_111 : decode cX11_joins 111 = .ok (.iaload, 1) := by decide +kernel
theorem dX11_joins_112 : decode cX11_joins 112 = .ok (.istore 4, 2) := by decide +kernel
theorem dX11_joins_114 : decode cX11_joins 114 = .ok (.aload_n 0, 1) := by decide +kernel
theorem dX11_joins_115 : decode cX11_joins 115 = .ok (.getfield 28, 3) := by decide +kernel
theorem dX11_joins_118 : decode cX11_joins 118 = .ok (.bipush 68, 2) := by decide +kernel
theorem dX11_joins_120 : decode cX11_joins 120 = .ok (.iload_n 1, 1) := by decide +kernel
theorem dX11_joins_121 : decode cX11_joins 121 = .ok (.iadd, 1) := by decide +kernel
theorem dX11_joins_122 : decode cX11_joins 122 = .ok (.iload 4, 2) := by decide +kernel
theorem dX11_joins_124 : decode cX11_joins 124 = .ok (.bipush (-9), 2) := by decide +kernel
theorem dX11_joins_126 : decode cX11_joins 126 = .ok (.if_icmp .eq 19, 3) := by decide +kernel
theorem dX11_joins_129 : decode cX11_joins 129 = .ok (.aload_n 0, 1) := by decide +kernel
theorem dX11_joins_130 : decode cX11_joins 130 = .ok (.getfield 16, 3) := by decide +kernel
theorem dX11_joins_133 : decode cX11_joins 133 = .ok (.iload 4, 2) := by decide +kernel
theorem dX11_joins_135 : decode cX11_joins 135 = .ok (.iaload, 1) := by decide +kernel
theorem dX11_joins_136 : decode cX11_joins 136 = .ok (.iload_n 3, 1) := by decide +kernel
theorem dX11_joins_137 : decode cX11_joins 137 = .ok (.if_icmp .ne 8, 3) := by decide +kernel
theorem dX11_joins_140 : decode cX11_joins 140 = .ok (.bipush (-9), 2) := by decide +kernel
theorem dX11_joins_142 : decode cX11_joins 142 = .ok (.goto 5, 3) := by decide +kernel
theorem dX11_joins_145 : decode cX11_joins 145 = .ok (.iload 4, 2) := by decide +kernel
theorem dX11_joins_147 : decode cX11_joins 147 = .ok (.iastore, 1) := by decide +kernel
theorem dX11_joins_148 : decode cX11_joins 148 = .ok (.aload_n 0, 1) := by decide +kernel
theorem dX11_joins_149 : decode cX11_joins 149 = .ok (.getfield 28, 3) := by decide +kernel
theorem dX11_joins_152 : decode cX11_joins 152 = .ok (.bipush 55, 2) := by decide +kernel
theorem dX11_joins_154 : decode cX11_joins 154 = .ok (.iload_n 2, 1) := by decide +kernel
theorem dX11_joins_155 : decode cX11_joins 155 = .ok (.iadd, 1) := by decide +kernel
theorem dX11_joins_156 : decode cX11_joins 156 = .ok (.iaload, 1) := by decide +kernel
theorem dX11_joins_157 : decode cX11_joins 157 = .ok (.ireturn, 1) := by decide +kernel
theorem dX11_keep_0 : decode cX11_keep 0 = .ok (.iload_n 1, 1) := by decide +kernel
theorem dX11_keep_1 : decode cX11_keep 1 = .ok (.iconst 0, 1) := by decide +kernel
theorem dX11_keep_2 : decode cX11_keep 2 = .ok (.iconst 1, 1) := by decide +kernel
theorem dX11_keep_3 : decode cX11_keep 3 = .ok (.invokestatic 72, 3) := by decide +kernel
theorem dX11_keep_6 : decode cX11_keep 6 = .ok (.ifCond .ne 5, 3) := by decide +kernel
theorem dX11_keep_9 : decode cX11_keep 9 = .ok (.iconst (-1), 1) := by decide +kernel
theorem dX11_keep_10 : decode cX11_keep 10 = .ok (.ireturn, 1) := by decide +kernel
theorem dX11_keep_11 : decode cX11_keep 11 = .ok (.iconst 0, 1) := by decide +kernel
theorem dX11_keep_12 : decode cX11_keep 12 = .ok (.istore_n 2, 1) := by decide +kernel
theorem dX11_keep_13 : decode cX11_keep 13 = .ok (.iload_n 2, 1) := by decide +kernel
theorem dX11_keep_14 : decode cX11_keep 14 = .ok (.sipush 815, 3) := by decide +kernel
theorem dX11_keep_17 : decode cX11_keep 17 = .ok (.if_icmp .ge 27, 3) := by decide +kernel
theorem dX11_keep_20 : decode cX11_keep 20 = .ok (.aload_n 0, 1) := by decide +kernel
theorem dX11_keep_21 : decode cX11_keep 21 = .ok (.getfield 31, 3) := by decide +kernel
theorem dX11_keep_24 : decode cX11_keep 24 = .ok (.sipush 815, 3) := by decide +kernel
theorem dX11_keep_27 : decode cX11_keep 27 = .ok (.iload_n 1, 1) := by decide +kernel
theorem dX11_keep_28 : decode cX11_keep 28 = .ok (.imul, 1) := by decide +kernel
theorem dX11_keep_29 : decode cX11_keep 29 = .ok (.iload_n 2, 1) := by decide +kernel
theorem dX11_keep_30 : decode cX11_keep 30 = .ok (.iadd, 1) := by decide +kernel
theorem dX11_keep_31 : decode cX11_keep 31 = .ok (.aload_n 0, 1) := by decide +kernel
theorem dX11_keep_32 : decode cX11_keep 32 = .ok (.getfield 28, 3) := by decide +kernel
theorem dX11_keep_35 : decode cX11_keep 35 = .ok (.iload_n 2, 1) := by decide +kernel
theorem dX11_keep_36 : decode cX11_keep 36 = .ok (.iaload, 1) := by decide +kernel
theorem dX11_keep_37 : decode cX11_keep 37 = .ok (.iastore, 1) := by decide +kernel
theorem dX11_keep_38 : decode cX11_keep 38 = .ok (.iinc 2 1, 3) := by decide +kernel
theorem dX11_keep_41 : decode cX11_keep 41 = .ok (.goto (-28), 3) := by decide +kernel
theorem dX11_keep_44 : decode cX11_keep 44 = .ok (.aload_n 0, 1) := by decide +kernel
theorem dX11_keep_45 : decode cX11_keep 45 = .ok (.getfield 34, 3) := by decide +kernel
theorem dX11_keep_48 : decode cX11_keep 48 = .ok (.iload_n 1, 1) := by decide +kernel
theorem dX11_keep_49 : decode cX11_keep 49 = .ok (.iconst 1, 1) := by decide +kernel
theorem dX11_keep_50 : decode cX11_keep 50 = .ok (.bastore, 1) := by decide +kernel
theorem dX11_keep_51 : decode cX11_keep 51 = .ok (.aload_n 0, 1) := by decide +kernel
theorem dX11_keep_52 : decode cX11_keep 52 = .ok (.getfield 28, 3) := by decide +kernel
theorem dX11_keep_55 : decode cX11_keep 55 = .ok (.iconst 0, 1) := by decide +kernel
theorem dX11_keep_56 : decode cX11_keep 56 = .ok (.iaload, 1) := by decide +kernel
theorem dX11_keep_57 : decode cX11_keep 57 = .ok (.ireturn, 1) := by decide +kernel
theorem dX11_kth_0 : decode cX11_kth 0 = .ok (.iload_n 1, 1) := by decide +kernel
theorem dX11_kth_1 : decode cX11_kth 1 = .ok (.istore_n 2, 1) := by decide +kernel
theorem dX11_kth_2 : decode cX11_kth 2 = .ok (.iconst 0, 1) := by decide +kernel
theorem dX11_kth_3 : decode cX11_kth 3 = .ok (.istore_n 3, 1) := by decide +kernel
theorem dX11_kth_4 : decode cX11_kth 4 = .ok (.iload_n 3, 1) := by decide +kernel
theorem dX11_kth_5 : decode cX11_kth 5 = .ok (.bipush 8, 2) := by decide +kernel
theorem dX11_kth_7 : decode cX11_kth 7 = .ok (.if_icmp .ge 26, 3) := by decide +kernel
theorem dX11_kth_10 : decode cX11_kth 10 = .ok (.iload_n 0, 1) := by decide +kernel
theorem dX11_kth_11 : decode cX11_kth 11 = .ok (.iload_n 3, 1) := by decide +kernel
theorem dX11_kth_12 : decode cX11_kth 12 = .ok (.invokestatic 140, 3) := by decide +kernel
theorem dX11_kth_15 : decode cX11_kth 15 = .ok (.ifCond .eq 12, 3) := by decide +kernel
theorem dX11_kth_18 : decode cX11_kth 18 = .ok (.iload_n 2, 1) := by decide +kernel
theorem dX11_kth_19 : decode cX11_kth 19 = .ok (.ifCond .ne 5, 3) := by decide +kernel
theorem dX11_kth_22 : decode cX11_kth 22 = .ok (.iload_n 3, 1) := by decide +kernel
theorem dX11_kth_23 : decode cX11_kth 23 = .ok (.ireturn, 1) := by decide +kernel
theorem dX11_kth_24 : decode cX11_kth 24 = .ok (.iinc 2 (-1), 3) := by decide +kernel
theorem dX11_kth_27 : decode cX11_kth 27 = .ok (.iinc 3 1, 3) := by decide +kernel
theorem dX11_kth_30 : decode cX11_kth 30 = .ok (.goto (-26), 3) := by decide +kernel
theorem dX11_kth_33 : decode cX11_kth 33 = .ok (.bipush (-9), 2) := by decide +kernel
theorem dX11_kth_35 : decode cX11_kth 35 = .ok (.ireturn, 1) := by decide +kernel
theorem dX11_layMost_0 : decode cX11_layMost 0 = .ok (.iconst 0, 1) := by decide +kernel
theorem dX11_layMost_1 : decode cX11_layMost 1 = .ok (.istore_n 1, 1) := by decide +kernel
theorem dX11_layMost_2 : decode cX11_layMost 2 = .ok (.iload_n 1, 1) := by decide +kernel
theorem dX11_layMost_3 : decode cX11_layMost 3 = .ok (.sipush 256, 3) := by decide +kernel
theorem dX11_layMost_6 : decode cX11_layMost 6 = .ok (.if_icmp .ge 25, 3) := by decide +kernel
theorem dX11_layMost_9 : decode cX11_layMost 9 = .ok (.aload_n 0, 1) := by decide +kernel
theorem dX11_layMost_10 : decode cX11_layMost 10 = .ok (.getfield 65, 3) := by decide +kernel
theorem dX11_layMost_13 : decode cX11_layMost 13 = .ok (.sipush 256, 3) := by decide +kernel
theorem dX11_layMost_16 : decode cX11_layMost 16 = .ok (.aload_n 0, 1) := by decide +kernel
theorem dX11_layMost_17 : decode cX11_layMost 17 = .ok (.getfield 76, 3) := by decide +kernel
theorem dX11_layMost_20 : decode cX11_layMost 20 = .ok (.imul, 1) := by decide +kernel
theorem dX11_layMost_21 : decode cX11_layMost 21 = .ok (.iload_n 1, 1) := by decide +kernel
theorem dX11_layMost_22 : decode cX11_layMost 22 = .ok (.iadd, 1) := by decide +kernel
theorem dX11_layMost_23 : decode cX11_layMost 23 = .ok (.iconst 0, 1) := by decide +kernel
theorem dX11_layMost_24 : decode cX11_layMost 24 = .ok (.iastore, 1) := by decide +kernel
theorem dX11_layMost_25 : decode cX11_layMost 25 = .ok (.iinc 1 1, 3) := by decide +kernel
theorem dX11_layMost_28 : decode cX11_layMost 28 = .ok (.goto (-26), 3) := by decide +kernel
theorem dX11_layMost_31 : decode cX11_layMost 31 = .ok (.aload_n 0, 1) := by decide +kernel
theorem dX11_layMost_32 : decode cX11_layMost 32 = .ok (.getfield 76, 3) := by decide +kernel
theorem dX11_layMost_35 : decode cX11_layMost 35 = .ok (.iconst 1, 1) := by decide +kernel
theorem dX11_layMost_36 : decode cX11_layMost 36 = .ok (.isub, 1) := by decide +kernel
theorem dX11_layMost_37 : decode cX11_layMost 37 = .ok (.istore_n 1, 1) := by decide +kernel
theorem dX11_layMost_38 : decode cX11_layMost 38 = .ok (.iload_n 1, 1) := by decide +kernel
theorem dX11_layMost_39 : decode cX11_layMost 39 = .ok (.ifCond .lt 129, 3) := by decide +kernel
theorem dX11_layMost_42 : decode cX11_layMost 42 = .ok (.iconst 0, 1) := by decide +kernel
theorem dX11_layMost_43 : decode cX11_layMost 43 = .ok (.istore_n 2, 1) := by decide +kernel
theorem dX11_layMost_44 : decode cX11_layMost 44 = .ok (.iload_n 2, 1) := by decide +kernel
theorem dX11_layMost_45 : decode cX11_layMost 45 = .ok (.sipush 256, 3) := by decide +kernel
theorem dX11_layMost_48 : decode cX11_layMost 48 = .ok (.if_icmp .ge 114, 3) := by decide +kernel
theorem dX11_layMost_51 : decode cX11_layMost 51 = .ok (.aload_n 0, 1) := by decide +kernel
theorem dX11_layMost_52 : decode cX11_layMost 52 = .ok (.getfield 65, 3) := by decide +kernel
theorem dX11_layMost_55 : decode cX11_layMost 55 = .ok (.sipush 256, 3) := by decide +kernel
theorem dX11_layMost_58 : decode cX11_layMost 58 = .ok (.iload_n 1, 1) := by decide +kernel
theorem dX11_layMost_59 : decode cX11_layMost 59 = .ok (.iconst 1, 1) := by decide +kernel
theorem dX11_layMost_60 : decode cX11_layMost 60 = .ok (.iadd, 1) := by decide +kernel
theorem dX11_layMost_61 : decode cX11_layMost 61 = .ok (.imul, 1) := by decide +kernel
theorem dX11_layMost_62 : decode cX11_layMost 62 = .ok (.iload_n 2, 1) := by decide +kernel
theorem dX11_layMost_63 : decode cX11_layMost 63 = .ok (.iadd, 1) := by decide +kernel
theorem dX11_layMost_64 : decode cX11_layMost 64 = .ok (.iaload, 1) := by decide +kernel
theorem dX11_layMost_65 : decode cX11_layMost 65 = .ok (.istore_n 3, 1) := by decide +kernel
theorem dX11_layMost_66 : decode cX11_layMost 66 = .ok (.iconst 0, 1) := by decide +kernel
theorem dX11_layMost_67 : decode cX11_layMost 67 = .ok (.istore 4, 2) := by decide +kernel
theorem dX11_layMost_69 : decode cX11_layMost 69 = .ok (.iload 4, 2) := by decide +kernel
theorem dX11_layMost_71 : decode cX11_layMost 71 = .ok (.aload_n 0, 1) := by decide +kernel
theorem dX11_layMost_72 : decode cX11_layMost 72 = .ok (.getfield 68, 3) := by decide +kernel
theorem dX11_layMost_75 : decode cX11_layMost 75 = .ok (.if_icmp .ge 68, 3) := by decide +kernel
theorem dX11_layMost_78 : decode cX11_layMost 78 = .ok (.aload_n 0, 1) := by decide +kernel
theorem dX11_layMost_79 : decode cX11_layMost 79 = .ok (.iload_n 1, 1) := by decide +kernel
theorem dX11_layMost_80 : decode cX11_layMost 80 = .ok (.iload 4, 2) := by decide +kernel
theorem dX11_layMost_82 : decode cX11_layMost 82 = .ok (.invokevirtual 153, 3) := by decide +kernel
theorem dX11_layMost_85 : decode cX11_layMost 85 = .ok (.ifCond .eq 36, 3) := by decide +kernel
theorem dX11_layMost_88 : decode cX11_layMost 88 = .ok (.iload_n 2, 1) := by decide +kernel
theorem dX11_layMost_89 : decode cX11_layMost 89 = .ok (.iload 4, 2) := by decide +kernel
theorem dX11_layMost_91 : decode cX11_layMost 91 = .ok (.invokestatic 140, 3) := by decide +kernel
theorem dX11_layMost_94 : decode cX11_layMost 94 = .ok (.ifCond .ne 27, 3) := by decide +kernel
theorem dX11_layMost_97 : decode cX11_layMost 97 = .ok (.iconst 1, 1) := by decide +kernel
theorem dX11_layMost_98 : decode cX11_layMost 98 = .ok (.aload_n 0, 1) := by decide +kernel
theorem dX11_layMost_99 : decode cX11_layMost 99 = .ok (.getfield 65, 3) := by decide +kernel
theorem dX11_layMost_102 : decode cX11_layMost 102 = .ok (.sipush 256, 3) := by decide +kernel
theorem dX11_layMost_105 : decode cX11_layMost 105 = .ok (.iload_n 1, 1) := by decide +kernel
theorem dX11_layMost_106 : decode cX11_layMost 106 = .ok (.iconst 1, 1) := by decide +kernel
theorem dX11_layMost_107 : decode cX11_layMost 107 = .ok (.iadd, 1) := by decide +kernel
theorem dX11_layMost_108 : decode cX11_layMost 108 = .ok (.imul, 1) := by decide +kernel
theorem dX11_layMost_109 : decode cX11_layMost 109 = .ok (.iload_n 2, 1) := by decide +kernel
theorem dX11_layMost_110 : decode cX11_layMost 110 = .ok (.iconst 1, 1) := by decide +kernel
theorem dX11_layMost_111 : decode cX11_layMost 111 = .ok (.iload 4, 2) := by decide +kernel
theorem dX11_layMost_113 : decode cX11_layMost 113 = .ok (.ishl, 1) := by decide +kernel
theorem dX11_layMost_114 : decode cX11_layMost 114 = .ok (.ior, 1) := by decide +kernel
theorem dX11_layMost_115 : decode cX11_layMost 115 = .ok (.iadd, 1) := by decide +kernel
theorem dX11_layMost_116 : decode cX11_layMost 116 = .ok (.iaload, 1) := by decide +kernel
theorem dX11_layMost_117 : decode cX11_layMost 117 = .ok (.iadd, 1) := by decide +kernel
theorem dX11_layMost_118 : decode cX11_layMost 118 = .ok (.goto 4, 3) := by decide +kernel
theorem dX11_layMost_121 : decode cX11_layMost 121 = .ok (.iconst 0, 1) := by decide +kernel
theorem dX11_layMost_122 : decode cX11_layMost 122 = .ok (.istore 5, 2) := by decide +kernel
theorem dX11_layMost_124 : decode cX11_layMost 124 = .ok (.iload 5, 2) := by decide +kernel
theorem dX11_layMost_126 : decode cX11_layMost 126 = .ok (.iload_n 3, 1) := by decide +kernel
theorem dX11_layMost_127 : decode cX11_layMost 127 = .ok (.if_icmp .le 8, 3) := by decide +kernel
theorem dX11_layMost_130 : decode cX11_layMost 130 = .ok (.iload 5, 2) := by decide +kernel
theorem dX11_layMost_132 : decode cX11_layMost 132 = .ok (.goto 4, 3) := by decide +kernel
theorem dX11_layMost_135 : decode cX11_layMost 135 = .ok (.iload_n 3, 1) := by decide +kernel
theorem dX11_layMost_136 : decode cX11_layMost 136 = .ok (.istore_n 3, 1) := by decide +kernel
theorem dX11_layMost_137 : decode cX11_layMost 137 = .ok (.iinc 4 1, 3) := by decide +kernel
theorem dX11_layMost_140 : decode cX11_layMost 140 = .ok (.goto (-71), 3) := by decide +kernel
theorem dX11_layMost_143 : decode cX11_layMost 143 = .ok (.aload_n 0, 1) := by decide +kernel
theorem dX11_layMost_144 : decode cX11_layMost 144 = .ok (.getfield 65, 3) := by decide +kernel
theorem dX11_layMost_147 : decode cX11_layMost 147 = .ok (.sipush 256, 3) := by decide +kernel
theorem dX11_layMost_150 : decode cX11_layMost 150 = .ok (.iload_n 1, 1) := by decide +kernel
theorem dX11_layMost_151 : decode cX11_layMost 151 = .ok (.imul, 1) := by decide +kernel
theorem dX11_layMost_152 : decode cX11_layMost 152 = .ok (.iload_n 2, 1) := by decide +kernel
theorem dX11_layMost_153 : decode cX11_layMost 153 = .ok (.iadd, 1) := by decide +kernel
theorem dX11_layMost_154 : decode cX11_layMost 154 = .ok (.iload_n 3, 1) := by decide +kernel
theorem dX11_layMost_155 : decode cX11_layMost 155 = .ok (.iastore, 1) := by decide +kernel
theorem dX11_layMost_156 : decode cX11_layMost 156 = .ok (.iinc 2 1, 3) := by decide +kernel
theorem dX11_layMost_159 : decode cX11_layMost 159 = .ok (.goto (-115), 3) := by decide +kernel
theorem dX11_layMost_162 : decode cX11_layMost 162 = .ok (.iinc 1 (-1), 3) := by decide +kernel
theorem dX11_layMost_165 : decode cX11_layMost 165 = .ok (.goto (-127), 3) := by decide +kernel
theorem dX11_layMost_168 : decode cX11_layMost 168 = .ok (.return_, 1) := by decide +kernel
