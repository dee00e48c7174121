theorem dX11_who_0 : decode cX11_who 0 = .ok (.iconst 0, 1) := by decide +kernel
theorem dX11_who_1 : decode cX11_who 1 = .ok (.istore_n 1, 1) := by decide +kernel
theorem dX11_who_2 : decode cX11_who 2 = .ok (.iconst 0, 1) := by decide +kernel
theorem dX11_who_3 : decode cX11_who 3 = .ok (.istore_n 2, 1) := by decide +kernel
theorem dX11_who_4 : decode cX11_who 4 = .ok (.iload_n 2, 1) := by decide +kernel
theorem dX11_who_5 : decode cX11_who 5 = .ok (.aload_n 0, 1) := by decide +kernel
theorem dX11_who_6 : decode cX11_who 6 = .ok (.getfield 76, 3) := by decide +kernel
theorem dX11_who_9 : decode cX11_who 9 = .ok (.if_icmp .ge 90, 3) := by decide +kernel
theorem dX11_who_12 : decode cX11_who 12 = .ok (.iconst 1, 1) := by decide +kernel
theorem dX11_who_13 : decode cX11_who 13 = .ok (.istore_n 3, 1) := by decide +kernel
theorem dX11_who_14 : decode cX11_who 14 = .ok (.iconst 0, 1) := by decide +kernel
theorem dX11_who_15 : decode cX11_who 15 = .ok (.istore 4, 2) := by decide +kernel
theorem dX11_who_17 : decode cX11_who 17 = .ok (.iload 4, 2) := by decide +kernel
theorem dX11_who_19 : decode cX11_who 19 = .ok (.aload_n 0, 1) := by decide +kernel
theorem dX11_who_20 : decode cX11_who 20 = .ok (.getfield 137, 3) := by decide +kernel
theorem dX11_who_23 : decode cX11_who 23 = .ok (.if_icmp .ge 56, 3) := by decide +kernel
theorem dX11_who_26 : decode cX11_who 26 = .ok (.iload_n 3, 1) := by decide +kernel
theorem dX11_who_27 : decode cX11_who 27 = .ok (.ifCond .eq 44, 3) := by decide +kernel
theorem dX11_who_30 : decode cX11_who 30 = .ok (.aload_n 0, 1) := by decide +kernel
theorem dX11_who_31 : decode cX11_who 31 = .ok (.iload_n 2, 1) := by decide +kernel
theorem dX11_who_32 : decode cX11_who 32 = .ok (.aload_n 0, 1) := by decide +kernel
theorem dX11_who_33 : decode cX11_who 33 = .ok (.getfield 38, 3) := by decide +kernel
theorem dX11_who_36 : decode cX11_who 36 = .ok (.iconst 2, 1) := by decide +kernel
theorem dX11_who_37 : decode cX11_who 37 = .ok (.iload 4, 2) := by decide +kernel
theorem dX11_who_39 : decode cX11_who 39 = .ok (.imul, 1) := by decide +kernel
theorem dX11_who_40 : decode cX11_who 40 = .ok (.iaload, 1) := by decide +kernel
theorem dX11_who_41 : decode cX11_who 41 = .ok (.invokevirtual 147, 3) := by decide +kernel
theorem dX11_who_44 : decode cX11_who 44 = .ok (.aload_n 0, 1) := by decide +kernel
theorem dX11_who_45 : decode cX11_who 45 = .ok (.getfield 38, 3) := by decide +kernel
theorem dX11_who_48 : decode cX11_who 48 = .ok (.iconst 2, 1) := by decide +kernel
theorem dX11_who_49 : decode cX11_who 49 = .ok (.iload 4, 2) := by decide +kernel
theorem dX11_who_51 : decode cX11_who 51 = .ok (.imul, 1) := by decide +kernel
theorem dX11_who_52 : decode cX11_who 52 = .ok (.iconst 1, 1) := by decide +kernel
theorem dX11_who_53 : decode cX11_who 53 = .ok (.iadd, 1) := by decide +kernel
theorem dX11_who_54 : decode cX11_who 54 = .ok (.iaload, 1) := by decide +kernel
theorem dX11_who_55 : decode cX11_who 55 = .ok (.iconst 1, 1) := by decide +kernel
theorem dX11_who_56 : decode cX11_who 56 = .ok (.if_icmp .ne 7, 3) := by decide +kernel
theorem dX11_who_59 : decode cX11_who 59 = .ok (.iconst 1, 1) := by decide +kernel
theorem dX11_who_60 : decode cX11_who 60 = .ok (.goto 4, 3) := by decide +kernel
theorem dX11_who_63 : decode cX11_who 63 = .ok (.iconst 0, 1) := by decide +kernel
theorem dX11_who_64 : decode cX11_who 64 = .ok (.if_icmp .ne 7, 3) := by decide +kernel
theorem dX11_who_67 : decode cX11_who 67 = .ok (.iconst 1, 1) := by decide +kernel
theorem dX11_who_68 : decode cX11_who 68 = .ok (.goto 4, 3) := by decide +kernel
theorem dX11_who_71 : decode cX11_who 71 = .ok (.iconst 0, 1) := by decide +kernel
theorem dX11_who_72 : decode cX11_who 72 = .ok (.istore_n 3, 1) := by decide +kernel
theorem dX11_who_73 : decode cX11_who 73 = .ok (.iinc 4 1, 3) := by decide +kernel
theorem dX11_who_76 : decode cX11_who 76 = .ok (.goto (-59), 3) := by decide +kernel
theorem dX11_who_79 : decode cX11_who 79 = .ok (.iload_n 1, 1) := by decide +kernel
theorem dX11_who_80 : decode cX11_who 80 = .ok (.iload_n 3, 1) := by decide +kernel
theorem dX11_who_81 : decode cX11_who 81 = .ok (.ifCond .eq 9, 3) := by decide +kernel
theorem dX11_who_84 : decode cX11_who 84 = .ok (.iconst 1, 1) := by decide +kernel
theorem dX11_who_85 : decode cX11_who 85 = .ok (.iload_n 2, 1) := by decide +kernel
theorem dX11_who_86 : decode cX11_who 86 = .ok (.ishl, 1) := by decide +kernel
theorem dX11_who_87 : decode cX11_who 87 = .ok (.goto 4, 3) := by decide +kernel
theorem dX11_who_90 : decode cX11_who 90 = .ok (.iconst 0, 1) := by decide +kernel
theorem dX11_who_91 : decode cX11_who 91 = .ok (.ior, 1) := by decide +kernel
theorem dX11_who_92 : decode cX11_who 92 = .ok (.istore_n 1, 1) := by decide +kernel
theorem dX11_who_93 : decode cX11_who 93 = .ok (.iinc 2 1, 3) := by decide +kernel
theorem dX11_who_96 : decode cX11_who 96 = .ok (.goto (-92), 3) := by decide +kernel
theorem dX11_who_99 : decode cX11_who 99 = .ok (.iload_n 1, 1) := by decide +kernel
theorem dX11_who_100 : decode cX11_who 100 = .ok (.ireturn, 1) := by decide +kernel
theorem dX11_whoCan_0 : decode cX11_whoCan 0 = .ok (.iconst 0, 1) := by decide +kernel
theorem dX11_whoCan_1 : decode cX11_whoCan 1 = .ok (.istore_n 2, 1) := by decide +kernel
theorem dX11_whoCan_2 : decode cX11_whoCan 2 = .ok (.iconst 0, 1) := by decide +kernel
theorem dX11_whoCan_3 : decode cX11_whoCan 3 = .ok (.istore_n 3, 1) := by decide +kernel
theorem dX11_whoCan_4 : decode cX11_whoCan 4 = .ok (.iload_n 3, 1) := by decide +kernel
theorem dX11_whoCan_5 : decode cX11_whoCan 5 = .ok (.aload_n 0, 1) := by decide +kernel
theorem dX11_whoCan_6 : decode cX11_whoCan 6 = .ok (.getfield 76, 3) := by decide +kernel
theorem dX11_whoCan_9 : decode cX11_whoCan 9 = .ok (.if_icmp .ge 28, 3) := by decide +kernel
theorem dX11_whoCan_12 : decode cX11_whoCan 12 = .ok (.iload_n 2, 1) := by decide +kernel
theorem dX11_whoCan_13 : decode cX11_whoCan 13 = .ok (.aload_n 0, 1) := by decide +kernel
theorem dX11_whoCan_14 : decode cX11_whoCan 14 = .ok (.iload_n 3, 1) := by decide +kernel
theorem dX11_whoCan_15 : decode cX11_whoCan 15 = .ok (.iload_n 1, 1) := by decide +kernel
theorem dX11_whoCan_16 : decode cX11_whoCan 16 = .ok (.invokevirtual 147, 3) := by decide +kernel
theorem dX11_whoCan_19 : decode cX11_whoCan 19 = .ok (.ifCond .eq 9, 3) := by decide +kernel
theorem dX11_whoCan_22 : decode cX11_whoCan 22 = .ok (.iconst 1, 1) := by decide +kernel
theorem dX11_whoCan_23 : decode cX11_whoCan 23 = .ok (.iload_n 3, 1) := by decide +kernel
theorem dX11_whoCan_24 : decode cX11_whoCan 24 = .ok (.ishl, 1) := by decide +kernel
theorem dX11_whoCan_25 : decode cX11_whoCan 25 = .ok (.goto 4, 3) := by decide +kernel
theorem dX11_whoCan_28 : decode cX11_whoCan 28 = .ok (.iconst 0, 1) := by decide +kernel
theorem dX11_whoCan_29 : decode cX11_whoCan 29 = .ok (.ior, 1) := by decide +kernel
theorem dX11_whoCan_30 : decode cX11_whoCan 30 = .ok (.istore_n 2, 1) := by decide +kernel
theorem dX11_whoCan_31 : decode cX11_whoCan 31 = .ok (.iinc 3 1, 3) := by decide +kernel
theorem dX11_whoCan_34 : decode cX11_whoCan 34 = .ok (.goto (-30), 3) := by decide +kernel
theorem dX11_whoCan_37 : decode cX11_whoCan 37 = .ok (.iload_n 2, 1) := by decide +kernel
theorem dX11_whoCan_38 : decode cX11_whoCan 38 = .ok (.ireturn, 1) := by decide +kernel
theorem dX1_add_0 : decode cX1_add 0 = .ok (.aload_n 0, 1) := by decide +kernel
theorem dX1_add_1 : decode cX1_add 1 = .ok (.getfield 11, 3) := by decide +kernel
theorem dX1_add_4 : decode cX1_add 4 = .ok (.aload_n 0, 1) := by decide +kernel
theorem dX1_add_5 : decode cX1_add 5 = .ok (.getfield 22, 3) := by decide +kernel
theorem dX1_add_8 : decode cX1_add 8 = .ok (.iload_n 1, 1) := by decide +kernel
theorem dX1_add_9 : decode cX1_add 9 = .ok (.iastore, 1) := by decide +kernel
theorem dX1_add_10 : decode cX1_add 10 = .ok (.aload_n 0, 1) := by decide +kernel
theorem dX1_add_11 : decode cX1_add 11 = .ok (.getfield 15, 3) := by decide +kernel
theorem dX1_add_14 : decode cX1_add 14 = .ok (.aload_n 0, 1) := by decide +kernel
theorem dX1_add_15 : decode cX1_add 15 = .ok (.getfield 22, 3) := by decide +kernel
theorem dX1_add_18 : decode cX1_add 18 = .ok (.iload_n 2, 1) := by decide +kernel
theorem dX1_add_19 : decode cX1_add 19 = .ok (.iastore, 1) := by decide +kernel
theorem dX1_add_20 : decode cX1_add 20 = .ok (.aload_n 0, 1) := by decide +kernel
theorem dX1_add_21 : decode cX1_add 21 = .ok (.dup, 1) := by decide +kernel
theorem dX1_add_22 : decode cX1_add 22 = .ok (.getfield 22, 3) := by decide +kernel
theorem dX1_add_25 : decode cX1_add 25 = .ok (.iconst 1, 1) := by decide +kernel
theorem dX1_add_26 : decode cX1_add 26 = .ok (.iadd, 1) := by decide +kernel
theorem dX1_add_27 : decode cX1_add 27 = .ok (.putfield 22, 3) := by decide +kernel
theorem dX1_add_30 : decode cX1_add 30 = .ok (.return_, 1) := by decide +kernel
theorem dX1_bestQuestion_0 : decode cX1_bestQuestion 0 = .ok (.aload_n 0, 1) := by decide +kernel
theorem dX1_bestQuestion_1 : decode cX1_bestQuestion 1 = .ok (.invokevirtual 41, 3) := by decide +kernel
theorem dX1_bestQuestion_4 : decode cX1_bestQuestion 4 = .ok (.istore_n 1, 1) := by decide +kernel
theorem dX1_bestQuestion_5 : decode cX1_bestQuestion 5 = .ok (.iload_n 1, 1) := by decide +kernel
theorem dX1_bestQuestion_6 : decode cX1_bestQuestion 6 = .ok (.invokestatic 45, 3) := by decide +kernel
theorem dX1_bestQuestion_9 : decode cX1_bestQuestion 9 = .ok (.istore_n 2, 1) := by decide +kernel
theorem dX1_bestQuestion_10 : decode cX1_bestQuestion 10 = .ok (.bipush (-9), 2) := by decide +kernel
theorem dX1_bestQuestion_12 : decode cX1_bestQuestion 12 = .ok (.istore_n 3, 1) := by decide +kernel
theorem dX1_bestQuestion_13 : decode cX1_bestQuestion 13 = .ok (.iload_n 2, 1) := by decide +kernel
theorem dX1_bestQuestion_14 : decode cX1_bestQuestion 14 = .ok (.istore 4, 2) := by decide +kernel
theorem dX1_bestQuestion_16 : decode cX1_bestQuestion 16 = .ok (.iconst 0, 1) := by decide +kernel
theorem dX1_bestQuestion_17 : decode cX1_bestQuestion 17 = .ok (.istore 5, 2) := by decide +kernel
theorem dX1_bestQuestion_19 : decode cX1_bestQuestion 19 = .ok (.iload 5, 2) := by decide +kernel
theorem dX1_bestQuestion_21 : decode cX1_bestQuestion 21 = .ok (.aload_n 0, 1) := by decide +kernel
theorem dX1_bestQuestion_22 : decode cX1_bestQuestion 22 = .ok (.getfield 18, 3) := by decide +kernel
theorem dX1_bestQuestion_25 : decode cX1_bestQuestion 25 = .ok (.getfield 26, 3) := by decide +kernel
theorem dX1_bestQuestion_28 : decode cX1_bestQuestion 28 = .ok (.getfield 50, 3) := by decide +kernel
theorem dX1_bestQuestion_31 : decode cX1_bestQuestion 31 = .ok (.if_icmp .ge 50, 3) := by decide +kernel
theorem dX1_bestQuestion_34 : decode cX1_bestQuestion 34 = .ok (.iload_n 1, 1) := by decide +kernel
theorem dX1_bestQuestion_35 : decode cX1_bestQuestion 35 = .ok (.aload_n 0, 1) := by decide +kernel
theorem dX1_bestQuestion_36 : decode cX1_bestQuestion 36 = .ok (.getfield 18, 3) := by decide +kernel
theorem dX1_bestQuestion_39 : decode cX1_bestQuestion 39 = .ok (.iload 5, 2) := by decide +kernel
theorem dX1_bestQuestion_41 : decode cX1_bestQuestion 41 = .ok (.invokevirtual 37, 3) := by decide +kernel
theorem dX1_bestQuestion_44 : decode cX1_bestQuestion 44 = .ok (.iand, 1) := by decide +kernel
theorem dX1_bestQuestion_45 : decode cX1_bestQuestion 45 = .ok (.invokestatic 45, 3) := by decide +kernel
theorem dX1_bestQuestion_48 : decode cX1_bestQuestion 48 = .ok (.istore 6, 2) := by decide +kernel
theorem dX1_bestQuestion_50 : decode cX1_bestQuestion 50 = .ok (.iload 6, 2) := by decide +kernel
theorem dX1_bestQuestion_52 : decode cX1_bestQuestion 52 = .ok (.iload_n 2, 1) := by decide +kernel
theorem dX1_bestQuestion_53 : decode cX1_bestQuestion 53 = .ok (.iload 6, 2) := by decide +kernel
theorem dX1_bestQuestion_55 : decode cX1_bestQuestion 55 = .ok (.isub, 1) := by decide +kernel
theorem dX1_bestQuestion_56 : decode cX1_bestQuestion 56 = .ok (.invokestatic 52, 3) := by decide +kernel
theorem dX1_bestQuestion_59 : decode cX1_bestQuestion 59 = .ok (.istore 7, 2) := by decide +kernel
theorem dX1_bestQuestion_61 : decode cX1_bestQuestion 61 = .ok (.iload 7, 2) := by decide +kernel
theorem dX1_bestQuestion_63 : decode cX1_bestQuestion 63 = .ok (.iload 4, 2) := by decide +kernel
theorem dX1_bestQuestion_65 : decode cX1_bestQuestion 65 = .ok (.if_icmp .ge 10, 3) := by decide +kernel
theorem dX1_bestQuestion_68 : decode cX1_bestQuestion 68 = .ok (.iload 5, 2) := by decide +kernel
theorem dX1_bestQuestion_70 : decode cX1_bestQuestion 70 = .ok (.istore_n 3, 1) := by decide +kernel
theorem dX1_bestQuestion_71 : decode cX1_bestQuestion 71 = .ok (.iload 7, 2) := by decide +kernel
theorem dX1_bestQuestion_73 : decode cX1_bestQuestion 73 = .ok (.istore 4, 2) := by decide +kernel
theorem dX1_bestQuestion_75 : decode cX1_bestQuestion 75 = .ok (.iinc 5 1, 3) := by decide +kernel
theorem dX1_bestQuestion_78 : decode cX1_bestQuestion 78 = .ok (.goto (-59), 3) := by decide +kernel
theorem dX1_bestQuestion_81 : decode cX1_bestQuestion 81 = .ok (.iload_n 3, 1) := by decide +kernel
theorem dX1_bestQuestion_82 : decode cX1_bestQuestion 82 = .ok (.ireturn, 1) := by decide +kernel
theorem dX1_init_0 : decode cX1_init 0 = .ok (.aload_n 0, 1) := by decide +kernel
theorem dX1_init_1 : decode cX1_init 1 = .ok (.invokespecial 3, 3) := by decide +kernel
theorem dX1_init_4 : decode cX1_init 4 = .ok (.aload_n 0, 1) := by decide +kernel
theorem dX1_init_5 : decode cX1_init 5 = .ok (.bipush 6, 2) := by decide +kernel
theorem dX1_init_7 : decode cX1_init 7 = .ok (.newarray .int, 2) := by decide +kernel
theorem dX1_init_9 : decode cX1_init 9 = .ok (.putfield 11, 3) := by decide +kernel
theorem dX1_init_12 : decode cX1_init 12 = .ok (.aload_n 0, 1) := by decide +kernel
theorem dX1_init_13 : decode cX1_init 13 = .ok (.bipush 6, 2) := by decide +kernel
theorem dX1_init_15 : decode cX1_init 15 = .ok (.newarray .int, 2) := by decide +kernel
theorem dX1_init_17 : decode cX1_init 17 = .ok (.putfield 15, 3) := by decide +kernel
theorem dX1_init_20 : decode cX1_init 20 = .ok (.aload_n 0, 1) := by decide +kernel
theorem dX1_init_21 : decode cX1_init 21 = .ok (.aload_n 1, 1) := by decide +kernel
theorem dX1_init_22 : decode cX1_init 22 = .ok (.putfield 18, 3) := by decide +kernel
theorem dX1_init_25 : decode cX1_init 25 = .ok (.return_, 1) := by decide +kernel
theorem dX1_suspects_0 : decode cX1_suspects 0 = .ok (.iconst 1, 1) := by decide +kernel
theorem dX1_suspects_1 : decode cX1_suspects 1 = .ok (.aload_n 0, 1) := by decide +kernel
theorem dX1_suspects_2 : decode cX1_suspects 2 = .ok (.getfield 18, 3) := by decide +kernel
theorem dX1_suspects_5 : decode cX1_suspects 5 = .ok (.getfield 26, 3) := by decide +kernel
theorem dX1_suspects_8 : decode cX1_suspects 8 = .ok (.getfield 32, 3) := by decide +kernel
theorem dX1_suspects_11 : decode cX1_suspects 11 = .ok (.ishl, 1) := by decide +kernel
theorem dX1_suspects_12 : decode cX1_suspects 12 = .ok (.iconst 1, 1) := by decide +kernel
theorem dX1_suspects_13 : decode cX1_suspects 13 = .ok (.isub, 1) := by decide +kernel
theorem dX1_suspects_14 : decode cX1_suspects 14 = .ok (.istore_n 1, 1) := by decide +kernel
theorem dX1_suspects_15 : decode cX1_suspects 15 = .ok (.iconst 0, 1) := by decide +kernel
theorem dX1_suspects_16 : decode cX1_suspects 16 = .ok (.istore_n 2, 1) := by decide +kernel
theorem dX1_suspects_17 : decode cX1_suspects 17 = .ok (.iload_n 2, 1) := by decide +kernel
theorem dX1_suspects_18 : decode cX1_suspects 18 = .ok (.aload_n 0, 1) := by decide +kernel
theorem dX1_suspects_19 : decode cX1_suspects 19 = .ok (.getfield 22, 3) := by decide +kernel
theorem dX1_suspects_22 : decode cX1_suspects 22 = .ok (.if_icmp .ge 43, 3) := by decide +kernel
theorem dX1_suspects_25 : decode cX1_suspects 25 = .ok (.aload_n 0, 1) := by decide +kernel
theorem dX1_suspects_26 : decode cX1_suspects 26 = .ok (.getfield 18, 3) := by decide +kernel
theorem dX1_suspects_29 : decode cX1_suspects 29 = .ok (.aload_n 0, 1) := by decide +kernel
theorem dX1_suspects_30 : decode cX1_suspects 30 = .ok (.getfield 11, 3) := by decide +kernel
theorem dX1_suspects_33 : decode cX1_suspects 33 = .ok (.iload_n 2, 1) := by decide +kernel
theorem dX1_suspects_34 : decode cX1_suspects 34 = .ok (.iaload, 1) := by decide +kernel
theorem dX1_suspects_35 : decode cX1_suspects 35 = .ok (.invokevirtual 37, 3) := by decide +kernel
theorem dX1_suspects_38 : decode cX1_suspects 38 = .ok (.istore_n 3, 1) := by decide +kernel
theorem dX1_suspects_39 : decode cX1_suspects 39 = .ok (.iload_n 1, 1) := by decide +kernel
theorem dX1_suspects_40 : decode cX1_suspects 40 = .ok (.aload_n 0, 1) := by decide +kernel
theorem dX1_suspects_41 : decode cX1_suspects 41 = .ok (.getfield 15, 3) := by decide +kernel
theorem dX1_suspects_44 : decode cX1_suspects 44 = .ok (.iload_n 2, 1) := by decide +kernel
theorem dX1_suspects_45 : decode cX1_suspects 45 = .ok (.iaload, 1) := by decide +kernel
theorem dX1_suspects_46 : decode cX1_suspects 46 = .ok (.iconst 1, 1) := by decide +kernel
theorem dX1_suspects_47 : decode cX1_suspects 47 = .ok (.if_icmp .ne 7, 3) := by decide +kernel
theorem dX1_suspects_50 : decode cX1_suspects 50 = .ok (.iload_n 3, 1) := by decide +kernel
theorem dX1_suspects_51 : decode cX1_suspects 51 = .ok (.goto 6, 3) := by decide +kernel
theorem dX1_suspects_54 : decode cX1_suspects 54 = .ok (.iload_n 3, 1) := by decide +kernel
theorem dX1_suspects_55 : decode cX1_suspects 55 = .ok (.iconst (-1), 1) := by decide +kernel
theorem dX1_suspects_56 : decode cX1_suspects 56 = .ok (.ixor, 1) := by decide +kernel
theorem dX1_suspects_57 : decode cX1_suspects 57 = .ok (.iand, 1) := by decide +kernel
theorem dX1_suspects_58 : decode cX1_suspects 58 = .ok (.istore_n 1, 1) := by decide +kernel
theorem dX1_suspects_59 : decode cX1_suspects 59 = .ok (.iinc 2 1, 3) := by decide +kernel
theorem dX1_suspects_62 : decode cX1_suspects 62 = .ok (.goto (-45), 3) := by decide +kernel
theorem dX1_suspects_65 : decode cX1_suspects 65 = .ok (.iload_n 1, 1) := by decide +kernel
theorem dX1_suspects_66 : decode cX1_suspects 66 = .ok (.ireturn, 1) := by decide +kernel
theorem dX2_give_0 : decode cX2_give 0 = .ok (.aload_n 1, 1) := by decide +kernel
theorem dX2_give_1 : decode cX2_give 1 = .ok (.aload_n 0, 1) := by decide +kernel
theorem dX2_give_2 : decode cX2_give 2 = .ok (.getfield 9, 3) := by decide +kernel
theorem dX2_give_5 : decode cX2_give 5 = .ok (.iconst 0, 1) := by decide +kernel
theorem dX2_give_6 : decode cX2_give 6 = .ok (.invokevirtual 34, 3) := by decide +kernel
theorem dX2_give_9 : decode cX2_give 9 = .ok (.aload_n 2, 1) := by decide +kernel
theorem dX2_give_10 : decode cX2_give 10 = .ok (.aload_n 0, 1) := by decide +kernel
theorem dX2_give_11 : decode cX2_give 11 = .ok (.getfield 18, 3) := by decide +kernel
theorem dX2_give_14 : decode cX2_give 14 = .ok (.invokevirtual 26, 3) := by decide +kernel
theorem dX2_give_17 : decode cX2_give 17 = .ok (.return_, 1) := by decide +kernel
theorem dX2_init_0 : decode cX2_init 0 = .ok (.aload_n 0, 1) := by decide +kernel
theorem dX2_init_1 : decode cX2_init 1 = .ok (.invokespecial 1, 3) := by decide +kernel
theorem dX2_init_4 : decode cX2_init 4 = .ok (.aload_n 0, 1) := by decide +kernel
theorem dX2_init_5 : decode cX2_init 5 = .ok (.bipush 74, 2) := by decide +kernel
theorem dX2_init_7 : decode cX2_init 7 = .ok (.newarray .int, 2) := by decide +kernel
theorem dX2_init_9 : decode cX2_init 9 = .ok (.putfield 9, 3) := by decide +kernel
theorem dX2_init_12 : decode cX2_init 12 = .ok (.aload_n 0, 1) := by decide +kernel
theorem dX2_init_13 : decode cX2_init 13 = .ok (.new 15, 3) := by decide +kernel
theorem dX2_init_16 : decode cX2_init 16 = .ok (.dup, 1) := by decide +kernel
theorem dX2_init_17 : decode cX2_init 17 = .ok (.invokespecial 17, 3) := by decide +kernel
theorem dX2_init_20 : decode cX2_init 20 = .ok (.putfield 18, 3) := by decide +kernel
theorem dX2_init_23 : decode cX2_init 23 = .ok (.return_, 1) := by decide +kernel
theorem dX2_take_0 : decode cX2_take 0 = .ok (.aload_n 1, 1) := by decide +kernel
theorem dX2_take_1 : decode cX2_take 1 = .ok (.aload_n 0, 1) := by decide +kernel
theorem dX2_take_2 : decode cX2_take 2 = .ok (.getfield 9, 3) := by decide +kernel
theorem dX2_take_5 : decode cX2_take 5 = .ok (.iconst 0, 1) := by decide +kernel
theorem dX2_take_6 : decode cX2_take 6 = .ok (.invokevirtual 22, 3) := by decide +kernel
theorem dX2_take_9 : decode cX2_take 9 = .ok (.aload_n 0, 1) := by decide +kernel
theorem dX2_take_10 : decode cX2_take 10 = .ok (.getfield 18, 3) := by decide +kernel
theorem dX2_take_13 : decode cX2_take 13 = .ok (.aload_n 2, 1) := by decide +kernel
theorem dX2_take_14 : decode cX2_take 14 = .ok (.invokevirtual 26, 3) := by decide +kernel
theorem dX2_take_17 : decode cX2_take 17 = .ok (.aload_n 0, 1) := by decide +kernel
theorem dX2_take_18 : decode cX2_take 18 = .ok (.iconst 1, 1) := by decide +kernel
theorem dX2_take_19 : decode cX2_take 19 = .ok (.putfield 30, 3) := by decide +kernel
theorem dX2_take_22 : decode cX2_take 22 = .ok (.return_, 1) := by decide +kernel
theorem dX3_asApollo_0 : decode cX3_asApollo 0 = .ok (.aload_n 0, 1) := by decide +kernel
theorem dX3_asApollo_1 : decode cX3_asApollo 1 = .ok (.dup, 1) := by decide +kernel
theorem dX3_asApollo_2 : decode cX3_asApollo 2 = .ok (.getfield 32, 3) := by decide +kernel
theorem dX3_asApollo_5 : decode cX3_asApollo 5 = .ok (.ldc2_w 48, 3) := by decide +kernel
theorem dX3_asApollo_8 : decode cX3_asApollo 8 = .ok (.ladd, 1) := by decide +kernel
theorem dX3_asApollo_9 : decode cX3_asApollo 9 = .ok (.putfield 32, 3) := by decide +kernel
theorem dX3_asApollo_12 : decode cX3_asApollo 12 = .ok (.aload_n 0, 1) := by decide +kernel
theorem dX3_asApollo_13 : decode cX3_asApollo 13 = .ok (.iload_n 1, 1) := by decide +kernel
theorem dX3_asApollo_14 : decode cX3_asApollo 14 = .ok (.invokevirtual 29, 3) := by decide +kernel
theorem dX3_asApollo_17 : decode cX3_asApollo 17 = .ok (.aload_n 0, 1) := by decide +kernel
theorem dX3_asApollo_18 : decode cX3_asApollo 18 = .ok (.getfield 7, 3) := by decide +kernel
theorem dX3_asApollo_21 : decode cX3_asApollo 21 = .ok (.getfield 36, 3) := by decide +kernel
theorem dX3_asApollo_24 : decode cX3_asApollo 24 = .ok (.getfield 50, 3) := by decide +kernel
theorem dX3_asApollo_27 : decode cX3_asApollo 27 = .ok (.iload_n 1, 1) := by decide +kernel
theorem dX3_asApollo_28 : decode cX3_asApollo 28 = .ok (.iaload, 1) := by decide +kernel
theorem dX3_asApollo_29 : decode cX3_asApollo 29 = .ok (.invokestatic 53, 3) := by decide +kernel
theorem dX3_asApollo_32 : decode cX3_asApollo 32 = .ok (.iadd, 1) := by decide +kernel
theorem dX3_asApollo_33 : decode cX3_asApollo 33 = .ok (.ireturn, 1) := by decide +kernel
theorem dX3_asCast_0 : decode cX3_asCast 0 = .ok (.aload_n 0, 1) := by decide +kernel
theorem dX3_asCast_1 : decode cX3_asCast 1 = .ok (.dup, 1) := by decide +kernel
theorem dX3_asCast_2 : decode cX3_asCast 2 = .ok (.getfield 32, 3) := by decide +kernel
theorem dX3_asCast_5 : decode cX3_asCast 5 = .ok (.lconst 1, 1) := by decide +kernel
theorem dX3_asCast_6 : decode cX3_asCast 6 = .ok (.ladd, 1) := by decide +kernel
theorem dX3_asCast_7 : decode cX3_asCast 7 = .ok (.putfield 32, 3) := by decide +kernel
theorem dX3_asCast_10 : decode cX3_asCast 10 = .ok (.aload_n 0, 1) := by decide +kernel
theorem dX3_asCast_11 : decode cX3_asCast 11 = .ok (.getfield 7, 3) := by decide +kernel
theorem dX3_asCast_14 : decode cX3_asCast 14 = .ok (.getfield 36, 3) := by decide +kernel
theorem dX3_asCast_17 : decode cX3_asCast 17 = .ok (.getfield 42, 3) := by decide +kernel
theorem dX3_asCast_20 : decode cX3_asCast 20 = .ok (.iload_n 1, 1) := by decide +kernel
theorem dX3_asCast_21 : decode cX3_asCast 21 = .ok (.iaload, 1) := by decide +kernel
theorem dX3_asCast_22 : decode cX3_asCast 22 = .ok (.ireturn, 1) := by decide +kernel
theorem dX3_asKind_0 : decode cX3_asKind 0 = .ok (.iload_n 1, 1) := by decide +kernel
theorem dX3_asKind_1 : decode cX3_asKind 1 = .ok (.tableswitch 65 1 5 #[35, 41, 47, 53, 59], 35) := by decide +kernel
theorem dX3_asKind_36 : decode cX3_asKind 36 = .ok (.aload_n 0, 1) := by decide +kernel
theorem dX3_asKind_37 : decode cX3_asKind 37 = .ok (.iload_n 2, 1) := by decide +kernel
theorem dX3_asKind_38 : decode cX3_asKind 38 = .ok (.invokevirtual 13, 3) := by decide +kernel
theorem dX3_asKind_41 : decode cX3_asKind 41 = .ok (.ireturn, 1) := by decide +kernel
theorem dX3_asKind_42 : decode cX3_asKind 42 = .ok (.aload_n 0, 1) := by decide +kernel
theorem dX3_asKind_43 : decode cX3_asKind 43 = .ok (.iload_n 2, 1) := by decide +kernel
theorem dX3_asKind_44 : decode cX3_asKind 44 = .ok (.invokevirtual 17, 3) := by decide +kernel
theorem dX3_asKind_47 : decode cX3_asKind 47 = .ok (.ireturn, 1) := by decide +kernel
theorem dX3_asKind_48 : decode cX3_asKind 48 = .ok (.aload_n 0, 1) := by decide +kernel
theorem dX3_asKind_49 : decode cX3_asKind 49 = .ok (.iload_n 2, 1) := by decide +kernel
theorem dX3_asKind_50 : decode cX3_asKind 50 = .ok (.invokevirtual 20, 3) := by decide +kernel
theorem dX3_asKind_53 : decode cX3_asKind 53 = .ok (.ireturn, 1) := by decide +kernel
theorem dX3_asKind_54 : decode cX3_asKind 54 = .ok (.aload_n 0, 1) := by decide +kernel
theorem dX3_asKind_55 : decode cX3_asKind 55 = .ok (.iload_n 2, 1) := by decide +kernel
theorem dX3_asKind_56 : decode cX3_asKind 56 = .ok (.invokevirtual 23, 3) := by decide +kernel
theorem dX3_asKind_59 : decode cX3_asKind 59 = .ok (.ireturn, 1) := by decide +kernel
theorem dX3_asKind_60 : decode cX3_asKind 60 = .ok (.aload_n 0, 1) := by decide +kernel
theorem dX3_asKind_61 : decode cX3_asKind 61 = .ok (.iload_n 2, 1) := by decide +kernel
theorem dX3_asKind_62 : decode cX3_asKind 62 = .ok (.invokevirtual 26, 3) := by decide +kernel
theorem dX3_asKind_65 : decode cX3_asKind 65 = .ok (.ireturn, 1) := by decide +kernel
theorem dX3_asKind_66 : decode cX3_asKind 66 = .ok (.aload_n 0, 1) := by decide +kernel
theorem dX3_asKind_67 : decode cX3_asKind 67 = .ok (.iload_n 2, 1) := by decide +kernel
theorem dX3_asKind_68 : decode cX3_asKind 68 = .ok (.invokevirtual 29, 3) := by decide +kernel
theorem dX3_asKind_71 : decode cX3_asKind 71 = .ok (.ireturn, 1) := by decide +kernel
theorem dX3_asLoan_0 : decode cX3_asLoan 0 = .ok (.aload_n 0, 1) := by decide +kernel
theorem dX3_asLoan_1 : decode cX3_asLoan 1 = .ok (.dup, 1) := by decide +kernel
theorem dX3_asLoan_2 : decode cX3_asLoan 2 = .ok (.getfield 32, 3) := by decide +kernel
theorem dX3_asLoan_5 : decode cX3_asLoan 5 = .ok (.ldc2_w 67, 3) := by decide +kernel
theorem dX3_asLoan_8 : decode cX3_asLoan 8 = .ok (.ladd, 1) := by decide +kernel
theorem dX3_asLoan_9 : decode cX3_asLoan 9 = .ok (.putfield 32, 3) := by decide +kernel
theorem dX3_asLoan_12 : decode cX3_asLoan 12 = .ok (.aload_n 0, 1) := by decide +kernel
theorem dX3_asLoan_13 : decode cX3_asLoan 13 = .ok (.iload_n 1, 1) := by decide +kernel
theorem dX3_asLoan_14 : decode cX3_asLoan 14 = .ok (.invokevirtual 29, 3) := by decide +kernel
theorem dX3_asLoan_17 : decode cX3_asLoan 17 = .ok (.aload_n 0, 1) := by decide +kernel
theorem dX3_asLoan_18 : decode cX3_asLoan 18 = .ok (.getfield 7, 3) := by decide +kernel
theorem dX3_asLoan_21 : decode cX3_asLoan 21 = .ok (.getfield 36, 3) := by decide +kernel
theorem dX3_asLoan_24 : decode cX3_asLoan 24 = .ok (.getfield 69, 3) := by decide +kernel
theorem dX3_asLoan_27 : decode cX3_asLoan 27 = .ok (.iadd, 1) := by decide +kernel
theorem dX3_asLoan_28 : decode cX3_asLoan 28 = .ok (.ireturn, 1) := by decide +kernel
theorem dX3_asMuse_0 : decode cX3_asMuse 0 = .ok (.aload_n 0, 1) := by decide +kernel
theorem dX3_asMuse_1 : decode cX3_asMuse 1 = .ok (.dup, 1) := by decide +kernel
theorem dX3_asMuse_2 : decode cX3_asMuse 2 = .ok (.getfield 32, 3) := by decide +kernel
theorem dX3_asMuse_5 : decode cX3_asMuse 5 = .ok (.ldc2_w 65, 3) := by decide +kernel
theorem dX3_asMuse_8 : decode cX3_asMuse 8 = .ok (.ladd, 1) := by decide +kernel
theorem dX3_asMuse_9 : decode cX3_asMuse 9 = .ok (.putfield 32, 3) := by decide +kernel
theorem dX3_asMuse_12 : decode cX3_asMuse 12 = .ok (.aload_n 0, 1) := by decide +kernel
theorem dX3_asMuse_13 : decode cX3_asMuse 13 = .ok (.iload_n 1, 1) := by decide +kernel
theorem dX3_asMuse_14 : decode cX3_asMuse 14 = .ok (.invokevirtual 17, 3) := by decide +kernel
theorem dX3_asMuse_17 : decode cX3_asMuse 17 = .ok (.iload_n 1, 1) := by decide +kernel
theorem dX3_asMuse_18 : decode cX3_asMuse 18 = .ok (.iadd, 1) := by decide +kernel
theorem dX3_asMuse_19 : decode cX3_asMuse 19 = .ok (.ireturn, 1) := by decide +kernel
theorem dX3_asThrower_0 : decode cX3_asThrower 0 = .ok (.aload_n 0, 1) := by decide +kernel
theorem dX3_asThrower_1 : decode cX3_asThrower 1 = .ok (.dup, 1) := by decide +kernel
theorem dX3_asThrower_2 : decode cX3_asThrower 2 = .ok (.getfield 32, 3) := by decide +kernel
theorem dX3_asThrower_5 : decode cX3_asThrower 5 = .ok (.ldc2_w 63, 3) := by decide +kernel
theorem dX3_asThrower_8 : decode cX3_asThrower 8 = .ok (.ladd, 1) := by decide +kernel
theorem dX3_asThrower_9 : decode cX3_asThrower 9 = .ok (.putfield 32, 3) := by decide +kernel
theorem dX3_asThrower_12 : decode cX3_asThrower 12 = .ok (.aload_n 0, 1) := by decide +kernel
theorem dX3_asThrower_13 : decode cX3_asThrower 13 = .ok (.iload_n 1, 1) := by decide +kernel
theorem dX3_asThrower_14 : decode cX3_asThrower 14 = .ok (.invokevirtual 13, 3) := by decide +kernel
theorem dX3_asThrower_17 : decode cX3_asThrower 17 = .ok (.iconst 2, 1) := by decide +kernel
theorem dX3_asThrower_18 : decode cX3_asThrower 18 = .ok (.imul, 1) := by decide +kernel
theorem dX3_asThrower_19 : decode cX3_asThrower 19 = .ok (.ireturn, 1) := by decide +kernel
theorem dX3_asVenus_0 : decode cX3_asVenus 0 = .ok (.aload_n 0, 1) := by decide +kernel
theorem dX3_asVenus_1 : decode cX3_asVenus 1 = .ok (.dup, 1) := by decide +kernel
theorem dX3_asVenus_2 : decode cX3_asVenus 2 = .ok (.getfield 32, 3) := by decide +kernel
theorem dX3_asVenus_5 : decode cX3_asVenus 5 = .ok (.ldc2_w 58, 3) := by decide +kernel
theorem dX3_asVenus_8 : decode cX3_asVenus 8 = .ok (.ladd, 1) := by decide +kernel
theorem dX3_asVenus_9 : decode cX3_asVenus 9 = .ok (.putfield 32, 3) := by decide +kernel
theorem dX3_asVenus_12 : decode cX3_asVenus 12 = .ok (.aload_n 0, 1) := by decide +kernel
theorem dX3_asVenus_13 : decode cX3_asVenus 13 = .ok (.iload_n 1, 1) := by decide +kernel
theorem dX3_asVenus_14 : decode cX3_asVenus 14 = .ok (.invokevirtual 29, 3) := by decide +kernel
theorem dX3_asVenus_17 : decode cX3_asVenus 17 = .ok (.aload_n 0, 1) := by decide +kernel
theorem dX3_asVenus_18 : decode cX3_asVenus 18 = .ok (.getfield 7, 3) := by decide +kernel
theorem dX3_asVenus_21 : decode cX3_asVenus 21 = .ok (.getfield 36, 3) := by decide +kernel
theorem dX3_asVenus_24 : decode cX3_asVenus 24 = .ok (.getfield 60, 3) := by decide +kernel
theorem dX3_asVenus_27 : decode cX3_asVenus 27 = .ok (.iload_n 1, 1) := by decide +kernel
theorem dX3_asVenus_28 : decode cX3_asVenus 28 = .ok (.iaload, 1) := by decide +kernel
theorem dX3_asVenus_29 : decode cX3_asVenus 29 = .ok (.invokestatic 53, 3) := by decide +kernel
theorem dX3_asVenus_32 : decode cX3_asVenus 32 = .ok (.isub, 1) := by decide +kernel
theorem dX3_asVenus_33 : decode cX3_asVenus 33 = .ok (.ireturn, 1) := by decide +kernel
theorem dX3_init_0 : decode cX3_init 0 = .ok (.aload_n 0, 1) := by decide +kernel
theorem dX3_init_1 : decode cX3_init 1 = .ok (.invokespecial 1, 3) := by decide +kernel
theorem dX3_init_4 : decode cX3_init 4 = .ok (.aload_n 0, 1) := by decide +kernel
theorem dX3_init_5 : decode cX3_init 5 = .ok (.aload_n 1, 1) := by decide +kernel
theorem dX3_init_6 : decode cX3_init 6 = .ok (.putfield 7, 3) := by decide +kernel
theorem dX3_init_9 : decode cX3_init 9 = .ok (.return_, 1) := by decide +kernel
theorem dX4_begin_0 : decode cX4_begin 0 = .ok (.aload_n 0, 1) := by decide +kernel
theorem dX4_begin_1 : decode cX4_begin 1 = .ok (.iconst 0, 1) := by decide +kernel
theorem dX4_begin_2 : decode cX4_begin 2 = .ok (.putfield 33, 3) := by decide +kernel
theorem dX4_begin_5 : decode cX4_begin 5 = .ok (.aload_n 0, 1) := by decide +kernel
theorem dX4_begin_6 : decode cX4_begin 6 = .ok (.iconst 0, 1) := by decide +kernel
theorem dX4_begin_7 : decode cX4_begin 7 = .ok (.putfield 37, 3) := by decide +kernel
theorem dX4_begin_10 : decode cX4_begin 10 = .ok (.aload_n 0, 1) := by decide +kernel
theorem dX4_begin_11 : decode cX4_begin 11 = .ok (.getfield 9, 3) := by decide +kernel
theorem dX4_begin_14 : decode cX4_begin 14 = .ok (.iconst 0, 1) := by decide +kernel
theorem dX4_begin_15 : decode cX4_begin 15 = .ok (.invokestatic 27, 3) := by decide +kernel
theorem dX4_begin_18 : decode cX4_begin 18 = .ok (.aload_n 0, 1) := by decide +kernel
theorem dX4_begin_19 : decode cX4_begin 19 = .ok (.getfield 15, 3) := by decide +kernel
theorem dX4_begin_22 : decode cX4_begin 22 = .ok (.iconst 0, 1) := by decide +kernel
theorem dX4_begin_23 : decode cX4_begin 23 = .ok (.invokestatic 27, 3) := by decide +kernel
theorem dX4_begin_26 : decode cX4_begin 26 = .ok (.aload_n 1, 1) := by decide +kernel
theorem dX4_begin_27 : decode cX4_begin 27 = .ok (.iconst 0, 1) := by decide +kernel
theorem dX4_begin_28 : decode cX4_begin 28 = .ok (.aload_n 0, 1) := by decide +kernel
theorem dX4_begin_29 : decode cX4_begin 29 = .ok (.getfield 18, 3) := by decide +kernel
theorem dX4_begin_32 : decode cX4_begin 32 = .ok (.iconst 0, 1) := by decide +kernel
theorem dX4_begin_33 : decode cX4_begin 33 = .ok (.bipush 6, 2) := by decide +kernel
theorem dX4_begin_35 : decode cX4_begin 35 = .ok (.invokestatic 40, 3) := by decide +kernel
theorem dX4_begin_38 : decode cX4_begin 38 = .ok (.aload_n 0, 1) := by decide +kernel
theorem dX4_begin_39 : decode cX4_begin 39 = .ok (.getfield 21, 3) := by decide +kernel
theorem dX4_begin_42 : decode cX4_begin 42 = .ok (.iconst 0, 1) := by decide +kernel
theorem dX4_begin_43 : decode cX4_begin 43 = .ok (.invokestatic 27, 3) := by decide +kernel
theorem dX4_begin_46 : decode cX4_begin 46 = .ok (.aload_n 0, 1) := by decide +kernel
theorem dX4_begin_47 : decode cX4_begin 47 = .ok (.getfield 24, 3) := by decide +kernel
theorem dX4_begin_50 : decode cX4_begin 50 = .ok (.iconst (-1), 1) := by decide +kernel
theorem dX4_begin_51 : decode cX4_begin 51 = .ok (.invokestatic 27, 3) := by decide +kernel
theorem dX4_begin_54 : decode cX4_begin 54 = .ok (.return_, 1) := by decide +kernel
theorem dX4_init_0 : decode cX4_init 0 = .ok (.aload_n 0, 1) := by decide +kernel
theorem dX4_init_1 : decode cX4_init 1 = .ok (.invokespecial 3, 3) := by decide +kernel
theorem dX4_init_4 : decode cX4_init 4 = .ok (.aload_n 0, 1) := by decide +kernel
theorem dX4_init_5 : decode cX4_init 5 = .ok (.bipush 48, 2) := by decide +kernel
theorem dX4_init_7 : decode cX4_init 7 = .ok (.newarray .int, 2) := by decide +kernel
theorem dX4_init_9 : decode cX4_init 9 = .ok (.putfield 9, 3) := by decide +kernel
theorem dX4_init_12 : decode cX4_init 12 = .ok (.aload_n 0, 1) := by decide +kernel
theorem dX4_init_13 : decode cX4_init 13 = .ok (.bipush 6, 2) := by decide +kernel
theorem dX4_init_15 : decode cX4_init 15 = .ok (.newarray .int, 2) := by decide +kernel
theorem dX4_init_17 : decode cX4_init 17 = .ok (.putfield 15, 3) := by decide +kernel
theorem dX4_init_20 : decode cX4_init 20 = .ok (.aload_n 0, 1) := by decide +kernel
theorem dX4_init_21 : decode cX4_init 21 = .ok (.bipush 6, 2) := by decide +kernel
theorem dX4_init_23 : decode cX4_init 23 = .ok (.newarray .int, 2) := by decide +kernel
theorem dX4_init_25 : decode cX4_init 25 = .ok (.putfield 18, 3) := by decide +kernel
theorem dX4_init_28 : decode cX4_init 28 = .ok (.aload_n 0, 1) := by decide +kernel
theorem dX4_init_29 : decode cX4_init 29 = .ok (.bipush 6, 2) := by decide +kernel
theorem dX4_init_31 : decode cX4_init 31 = .ok (.newarray .int, 2) := by decide +kernel
theorem dX4_init_33 : decode cX4_init 33 = .ok (.putfield 21, 3) := by decide +kernel
theorem dX4_init_36 : decode cX4_init 36 = .ok (.aload_n 0, 1) := by decide +kernel
theorem dX4_init_37 : decode cX4_init 37 = .ok (.bipush 6, 2) := by decide +kernel
theorem dX4_init_39 : decode cX4_init 39 = .ok (.newarray .int, 2) := by decide +kernel
theorem dX4_init_41 : decode cX4_init 41 = .ok (.putfield 24, 3) := by decide +kernel
theorem dX4_init_44 : decode cX4_init 44 = .ok (.aload_n 0, 1) := by decide +kernel
theorem dX4_init_45 : decode cX4_init 45 = .ok (.getfield 24, 3) := by decide +kernel
theorem dX4_init_48 : decode cX4_init 48 = .ok (.iconst (-1), 1) := by decide +kernel
theorem dX4_init_49 : decode cX4_init 49 = .ok (.invokestatic 27, 3) := by decide +kernel
theorem dX4_init_52 : decode cX4_init 52 = .ok (.return_, 1) := by decide +kernel
theorem dX4_readFrom_0 : decode cX4_readFrom 0 = .ok (.iload_n 2, 1) := by decide +kernel
theorem dX4_readFrom_1 : decode cX4_readFrom 1 = .ok (.istore_n 3, 1) := by decide +kernel
theorem dX4_readFrom_2 : decode cX4_readFrom 2 = .ok (.aload_n 1, 1) := by decide +kernel
theorem dX4_readFrom_3 : decode cX4_readFrom 3 = .ok (.iload_n 3, 1) := by decide +kernel
theorem dX4_readFrom_4 : decode cX4_readFrom 4 = .ok (.aload_n 0, 1) := by decide +kernel
theorem dX4_readFrom_5 : decode cX4_readFrom 5 = .ok (.getfield 9, 3) := by decide +kernel
theorem dX4_readFrom_8 : decode cX4_readFrom 8 = .ok (.iconst 0, 1) := by decide +kernel
theorem dX4_readFrom_9 : decode cX4_readFrom 9 = .ok (.bipush 48, 2) := by decide +kernel
theorem dX4_readFrom_11 : decode cX4_readFrom 11 = .ok (.invokestatic 40, 3) := by decide +kernel
theorem dX4_readFrom_14 : decode cX4_readFrom 14 = .ok (.iinc 3 48, 3) := by decide +kernel
theorem dX4_readFrom_17 : decode cX4_readFrom 17 = .ok (.aload_n 1, 1) := by decide +kernel
theorem dX4_readFrom_18 : decode cX4_readFrom 18 = .ok (.iload_n 3, 1) := by decide +kernel
theorem dX4_readFrom_19 : decode cX4_readFrom 19 = .ok (.aload_n 0, 1) := by decide +kernel
theorem dX4_readFrom_20 : decode cX4_readFrom 20 = .ok (.getfield 15, 3) := by decide +kernel
theorem dX4_readFrom_23 : decode cX4_readFrom 23 = .ok (.iconst 0, 1) := by decide +kernel
theorem dX4_readFrom_24 : decode cX4_readFrom 24 = .ok (.bipush 6, 2) := by decide +kernel
theorem dX4_readFrom_26 : decode cX4_readFrom 26 = .ok (.invokestatic 40, 3) := by decide +kernel
theorem dX4_readFrom_29 : decode cX4_readFrom 29 = .ok (.iinc 3 6, 3) := by decide +kernel
theorem dX4_readFrom_32 : decode cX4_readFrom 32 = .ok (.aload_n 1, 1) := by decide +kernel
theorem dX4_readFrom_33 : decode cX4_readFrom 33 = .ok (.iload_n 3, 1) := by decide +kernel
theorem dX4_readFrom_34 : decode cX4_readFrom 34 = .ok (.aload_n 0, 1) := by decide +kernel
theorem dX4_readFrom_35 : decode cX4_readFrom 35 = .ok (.getfield 18, 3) := by decide +kernel
theorem dX4_readFrom_38 : decode cX4_readFrom 38 = .ok (.iconst 0, 1) := by decide +kernel
theorem dX4_readFrom_39 : decode cX4_readFrom 39 = .ok (.bipush 6, 2) := by decide +kernel
theorem dX4_readFrom_41 : decode cX4_readFrom 41 = .ok (.invokestatic 40, 3) := by decide +kernel
theorem dX4_readFrom_44 : decode cX4_readFrom 44 = .ok (.iinc 3 6, 3) := by decide +kernel
theorem dX4_readFrom_47 : decode cX4_readFrom 47 = .ok (.aload_n 1, 1) := by decide +kernel
theorem dX4_readFrom_48 : decode cX4_readFrom 48 = .ok (.iload_n 3, 1) := by decide +kernel
theorem dX4_readFrom_49 : decode cX4_readFrom 49 = .ok (.aload_n 0, 1) := by decide +kernel
theorem dX4_readFrom_50 : decode cX4_readFrom 50 = .ok (.getfield 21, 3) := by decide +kernel
theorem dX4_readFrom_53 : decode cX4_readFrom 53 = .ok (.iconst 0, 1) := by decide +kernel
theorem dX4_readFrom_54 : decode cX4_readFrom 54 = .ok (.bipush 6, 2) := by decide +kernel
theorem dX4_readFrom_56 : decode cX4_readFrom 56 = .ok (.invokestatic 40, 3) := by decide +kernel
theorem dX4_readFrom_59 : decode cX4_readFrom 59 = .ok (.iinc 3 6, 3) := by decide +kernel
theorem dX4_readFrom_62 : decode cX4_readFrom 62 = .ok (.aload_n 1, 1) := by decide +kernel
theorem dX4_readFrom_63 : decode cX4_readFrom 63 = .ok (.iload_n 3, 1) := by decide +kernel
theorem dX4_readFrom_64 : decode cX4_readFrom 64 = .ok (.aload_n 0, 1) := by decide +kernel
theorem dX4_readFrom_65 : decode cX4_readFrom 65 = .ok (.getfield 24, 3) := by decide +kernel
theorem dX4_readFrom_68 : decode cX4_readFrom 68 = .ok (.iconst 0, 1) := by decide +kernel
theorem dX4_readFrom_69 : decode cX4_readFrom 69 = .ok (.bipush 6, 2) := by decide +kernel
theorem dX4_readFrom_71 : decode cX4_readFrom 71 = .ok (.invokestatic 40, 3) := by decide +kernel
theorem dX4_readFrom_74 : decode cX4_readFrom 74 = .ok (.iinc 3 6, 3) := by decide +kernel
theorem dX4_readFrom_77 : decode cX4_readFrom 77 = .ok (.aload_n 0, 1) := by decide +kernel
theorem dX4_readFrom_78 : decode cX4_readFrom 78 = .ok (.aload_n 1, 1) := by decide +kernel
theorem dX4_readFrom_79 : decode cX4_readFrom 79 = .ok (.iload_n 3, 1) := by decide +kernel
theorem dX4_readFrom_80 : decode cX4_readFrom 80 = .ok (.iaload, 1) := by decide +kernel
theorem dX4_readFrom_81 : decode cX4_readFrom 81 = .ok (.putfield 33, 3) := by decide +kernel
theorem dX4_readFrom_84 : decode cX4_readFrom 84 = .ok (.aload_n 0, 1) := by decide +kernel
theorem dX4_readFrom_85 : decode cX4_readFrom 85 = .ok (.aload_n 1, 1) := by decide +kernel
theorem dX4_readFrom_86 : decode cX4_readFrom 86 = .ok (.iload_n 3, 1) := by decide +kernel
theorem dX4_readFrom_87 : decode cX4_readFrom 87 = .ok (.iconst 1, 1) := by decide +kernel
theorem dX4_readFrom_88 : decode cX4_readFrom 88 = .ok (.iadd, 1) := by decide +kernel
theorem dX4_readFrom_89 : decode cX4_readFrom 89 = .ok (.iaload, 1) := by decide +kernel
theorem dX4_readFrom_90 : decode cX4_readFrom 90 = .ok (.putfield 37, 3) := by decide +kernel
theorem dX4_readFrom_93 : decode cX4_readFrom 93 = .ok (.return_, 1) := by decide +kernel
theorem dX4_writeTo_0 : decode cX4_writeTo 0 = .ok (.iload_n 2, 1) := by decide +kernel
theorem dX4_writeTo_1 : decode cX4_writeTo 1 = .ok (.istore_n 3, 1) := by decide +kernel
theorem dX4_writeTo_2 : decode cX4_writeTo 2 = .ok (.aload_n 0, 1) := by decide +kernel
theorem dX4_writeTo_3 : decode cX4_writeTo 3 = .ok (.getfield 9, 3) := by decide +kernel
theorem dX4_writeTo_6 : decode cX4_writeTo 6 = .ok (.iconst 0, 1) := by decide +kernel
theorem dX4_writeTo_7 : decode cX4_writeTo 7 = .ok (.aload_n 1, 1) := by decide +kernel
theorem dX4_writeTo_8 : decode cX4_writeTo 8 = .ok (.iload_n 3, 1) := by decide +kernel
theorem dX4_writeTo_9 : decode cX4_writeTo 9 = .ok (.bipush 48, 2) := by decide +kernel
theorem dX4_writeTo_11 : decode cX4_writeTo 11 = .ok (.invokestatic 40, 3) := by decide +kernel
theorem dX4_writeTo_14 : decode cX4_writeTo 14 = .ok (.iinc 3 48, 3) := by decide +kernel
theorem dX4_writeTo_17 : decode cX4_writeTo 17 = .ok (.aload_n 0, 1) := by decide +kernel
theorem dX4_writeTo_18 : decode cX4_writeTo 18 = .ok (.getfield 15, 3) := by decide +kernel
theorem dX4_writeTo_21 : decode cX4_writeTo 21 = .ok (.iconst 0, 1) := by decide +kernel
theorem dX4_writeTo_22 : decode cX4_writeTo 22 = .ok (.aload_n 1, 1) := by decide +kernel
theorem dX4_writeTo_23 : decode cX4_writeTo 23 = .ok (.iload_n 3, 1) := by decide +kernel
theorem dX4_writeTo_24 : decode cX4_writeTo 24 = .ok (.bipush 6, 2) := by decide +kernel
theorem dX4_writeTo_26 : decode cX4_writeTo 26 = .ok (.invokestatic 40, 3) := by decide +kernel
theorem dX4_writeTo_29 : decode cX4_writeTo 29 = .ok (.iinc 3 6, 3) := by decide +kernel
theorem dX4_writeTo_32 : decode cX4_writeTo 32 = .ok (.aload_n 0, 1) := by decide +kernel
theorem dX4_writeTo_33 : decode cX4_writeTo 33 = .ok (.getfield 18, 3) := by decide +kernel
theorem dX4_writeTo_36 : decode cX4_writeTo 36 = .ok (.iconst 0, 1) := by decide +kernel
theorem dX4_writeTo_37 : decode cX4_writeTo 37 = .ok (.aload_n 1, 1) := by decide +kernel
theorem dX4_writeTo_38 : decode cX4_writeTo 38 = .ok (.iload_n 3, 1) := by decide +kernel
theorem dX4_writeTo_39 : decode cX4_writeTo 39 = .ok (.bipush 6, 2) := by decide +kernel
theorem dX4_writeTo_41 : decode cX4_writeTo 41 = .ok (.invokestatic 40, 3) := by decide +kernel
theorem dX4_writeTo_44 : decode cX4_writeTo 44 = .ok (.iinc 3 6, 3) := by decide +kernel
theorem dX4_writeTo_47 : decode cX4_writeTo 47 = .ok (.aload_n 0, 1) := by decide +kernel
theorem dX4_writeTo_48 : decode cX4_writeTo 48 = .ok (.getfield 21, 3) := by decide +kernel
theorem dX4_writeTo_51 : decode cX4_writeTo 51 = .ok (.iconst 0, 1) := by decide +kernel
theorem dX4_writeTo_52 : decode cX4_writeTo 52 = .ok (.aload_n 1, 1) := by decide +kernel
theorem dX4_writeTo_53 : decode cX4_writeTo 53 = .ok (.iload_n 3, 1) := by decide +kernel
theorem dX4_writeTo_54 : decode cX4_writeTo 54 = .ok (.bipush 6, 2) := by decide +kernel
theorem dX4_writeTo_56 : decode cX4_writeTo 56 = .ok (.invokestatic 40, 3) := by decide +kernel
theorem dX4_writeTo_59 : decode cX4_writeTo 59 = .ok (.iinc 3 6, 3) := by decide +kernel
theorem dX4_writeTo_62 : decode cX4_writeTo 62 = .ok (.aload_n 0, 1) := by decide +kernel
theorem dX4_writeTo_63 : decode cX4_writeTo 63 = .ok (.getfield 24, 3) := by decide +kernel
theorem dX4_writeTo_66 : decode cX4_writeTo 66 = .ok (.iconst 0, 1) := by decide +kernel
theorem dX4_writeTo_67 : decode cX4_writeTo 67 = .ok (.aload_n 1, 1) := by decide +kernel
theorem dX4_writeTo_68 : decode cX4_writeTo 68 = .ok (.iload_n 3, 1) := by decide +kernel
theorem dX4_writeTo_69 : decode cX4_writeTo 69 = .ok (.bipush 6, 2) := by decide +kernel
theorem dX4_writeTo_71 : decode cX4_writeTo 71 = .ok (.invokestatic 40, 3) := by decide +kernel
theorem dX4_writeTo_74 : decode cX4_writeTo 74 = .ok (.iinc 3 6, 3) := by decide +kernel
theorem dX4_writeTo_77 : decode cX4_writeTo 77 = .ok (.aload_n 1, 1) := by decide +kernel
theorem dX4_writeTo_78 : decode cX4_writeTo 78 = .ok (.iload_n 3, 1) := by decide +kernel
theorem dX4_writeTo_79 : decode cX4_writeTo 79 = .ok (.aload_n 0, 1) := by decide +kernel
theorem dX4_writeTo_80 : decode cX4_writeTo 80 = .ok (.getfield 33, 3) := by decide +kernel
theorem dX4_writeTo_83 : decode cX4_writeTo 83 = .ok (.iastore, 1) := by decide +kernel
theorem dX4_writeTo_84 : decode cX4_writeTo 84 = .ok (.aload_n 1, 1) := by decide +kernel
theorem dX4_writeTo_85 : decode cX4_writeTo 85 = .ok (.iload_n 3, 1) := by decide +kernel
theorem dX4_writeTo_86 : decode cX4_writeTo 86 = .ok (.iconst 1, 1) := by decide +kernel
theorem dX4_writeTo_87 : decode cX4_writeTo 87 = .ok (.iadd, 1) := by decide +kernel
theorem dX4_writeTo_88 : decode cX4_writeTo 88 = .ok (.aload_n 0, 1) := by decide +kernel
theorem dX4_writeTo_89 : decode cX4_writeTo 89 = .ok (.getfield 37, 3) := by decide +kernel
theorem dX4_writeTo_92 : decode cX4_writeTo 92 = .ok (.iastore, 1) := by decide +kernel
theorem dX4_writeTo_93 : decode cX4_writeTo 93 = .ok (.return_, 1) := by decide +kernel
theorem dX5_firstOf_0 : decode cX5_firstOf 0 = .ok (.aload_n 0, 1) := by decide +kernel
theorem dX5_firstOf_1 : decode cX5_firstOf 1 = .ok (.getfield 15, 3) := by decide +kernel
theorem dX5_firstOf_4 : decode cX5_firstOf 4 = .ok (.iload_n 1, 1) := by decide +kernel
theorem dX5_firstOf_5 : decode cX5_firstOf 5 = .ok (.iaload, 1) := by decide +kernel
theorem dX5_firstOf_6 : decode cX5_firstOf 6 = .ok (.iload_n 2, 1) := by decide +kernel
theorem dX5_firstOf_7 : decode cX5_firstOf 7 = .ok (.iconst (-1), 1) := by decide +kernel
theorem dX5_firstOf_8 : decode cX5_firstOf 8 = .ok (.ixor, 1) := by decide +kernel
theorem dX5_firstOf_9 : decode cX5_firstOf 9 = .ok (.iand, 1) := by decide +kernel
theorem dX5_firstOf_10 : decode cX5_firstOf 10 = .ok (.istore_n 3, 1) := by decide +kernel
theorem dX5_firstOf_11 : decode cX5_firstOf 11 = .ok (.aload_n 0, 1) := by decide +kernel
theorem dX5_firstOf_12 : decode cX5_firstOf 12 = .ok (.getfield 11, 3) := by decide +kernel
theorem dX5_firstOf_15 : decode cX5_firstOf 15 = .ok (.iload_n 1, 1) := by decide +kernel
theorem dX5_firstOf_16 : decode cX5_firstOf 16 = .ok (.sipush 256, 3) := by decide +kernel
theorem dX5_firstOf_19 : decode cX5_firstOf 19 = .ok (.imul, 1) := by decide +kernel
theorem dX5_firstOf_20 : decode cX5_firstOf 20 = .ok (.iload_n 2, 1) := by decide +kernel
theorem dX5_firstOf_21 : decode cX5_firstOf 21 = .ok (.iadd, 1) := by decide +kernel
theorem dX5_firstOf_22 : decode cX5_firstOf 22 = .ok (.iaload, 1) := by decide +kernel
theorem dX5_firstOf_23 : decode cX5_firstOf 23 = .ok (.istore 4, 2) := by decide +kernel
theorem dX5_firstOf_25 : decode cX5_firstOf 25 = .ok (.iconst 0, 1) := by decide +kernel
theorem dX5_firstOf_26 : decode cX5_firstOf 26 = .ok (.istore 5, 2) := by decide +kernel
theorem dX5_firstOf_28 : decode cX5_firstOf 28 = .ok (.iload 5, 2) := by decide +kernel
theorem dX5_firstOf_30 : decode cX5_firstOf 30 = .ok (.aload_n 0, 1) := by decide +kernel
theorem dX5_firstOf_31 : decode cX5_firstOf 31 = .ok (.getfield 18, 3) := by decide +kernel
theorem dX5_firstOf_34 : decode cX5_firstOf 34 = .ok (.getfield 22, 3) := by decide +kernel
theorem dX5_firstOf_37 : decode cX5_firstOf 37 = .ok (.getfield 34, 3) := by decide +kernel
theorem dX5_firstOf_40 : decode cX5_firstOf 40 = .ok (.if_icmp .ge 47, 3) := by decide +kernel
theorem dX5_firstOf_43 : decode cX5_firstOf 43 = .ok (.iload_n 3, 1) := by decide +kernel
theorem dX5_firstOf_44 : decode cX5_firstOf 44 = .ok (.iload 5, 2) := by decide +kernel
theorem dX5_firstOf_46 : decode cX5_firstOf 46 = .ok (.invokestatic 45, 3) := by decide +kernel
theorem dX5_firstOf_49 : decode cX5_firstOf 49 = .ok (.ifCond .eq 32, 3) := by decide +kernel
theorem dX5_firstOf_52 : decode cX5_firstOf 52 = .ok (.iconst 1, 1) := by decide +kernel
theorem dX5_firstOf_53 : decode cX5_firstOf 53 = .ok (.aload_n 0, 1) := by decide +kernel
theorem dX5_firstOf_54 : decode cX5_firstOf 54 = .ok (.getfield 11, 3) := by decide +kernel
theorem dX5_firstOf_57 : decode cX5_firstOf 57 = .ok (.iload_n 1, 1) := by decide +kernel
theorem dX5_firstOf_58 : decode cX5_firstOf 58 = .ok (.iconst 1, 1) := by decide +kernel
theorem dX5_firstOf_59 : decode cX5_firstOf 59 = .ok (.iadd, 1) := by decide +kernel
theorem dX5_firstOf_60 : decode cX5_firstOf 60 = .ok (.sipush 256, 3) := by decide +kernel
theorem dX5_firstOf_63 : decode cX5_firstOf 63 = .ok (.imul, 1) := by decide +kernel
theorem dX5_firstOf_64 : decode cX5_firstOf 64 = .ok (.iload_n 2, 1) := by decide +kernel
theorem dX5_firstOf_65 : decode cX5_firstOf 65 = .ok (.iconst 1, 1) := by decide +kernel
theorem dX5_firstOf_66 : decode cX5_firstOf 66 = .ok (.iload 5, 2) := by decide +kernel
theorem dX5_firstOf_68 : decode cX5_firstOf 68 = .ok (.ishl, 1) := by decide +kernel
theorem dX5_firstOf_69 : decode cX5_firstOf 69 = .ok (.ior, 1) := by decide +kernel
theorem dX5_firstOf_70 : decode cX5_firstOf 70 = .ok (.iadd, 1) := by decide +kernel
theorem dX5_firstOf_71 : decode cX5_firstOf 71 = .ok (.iaload, 1) := by decide +kernel
theorem dX5_firstOf_72 : decode cX5_firstOf 72 = .ok (.iadd, 1) := by decide +kernel
theorem dX5_firstOf_73 : decode cX5_firstOf 73 = .ok (.iload 4, 2) := by decide +kernel
theorem dX5_firstOf_75 : decode cX5_firstOf 75 = .ok (.if_icmp .ne 6, 3) := by decide +kernel
theorem dX5_firstOf_78 : decode cX5_firstOf 78 = .ok (.iload 5, 2) := by decide +kernel
theorem dX5_firstOf_80 : decode cX5_firstOf 80 = .ok (.ireturn, 1) := by decide +kernel
theorem dX5_firstOf_81 : decode cX5_firstOf 81 = .ok (.iinc 5 1, 3) := by decide +kernel
theorem dX5_firstOf_84 : decode cX5_firstOf 84 = .ok (.goto (-56), 3) := by decide +kernel
theorem dX5_firstOf_87 : decode cX5_firstOf 87 = .ok (.bipush (-9), 2) := by decide +kernel
theorem dX5_firstOf_89 : decode cX5_firstOf 89 = .ok (.ireturn, 1) := by decide +kernel
theorem dX5_init_0 : decode cX5_init 0 = .ok (.aload_n 0, 1) := by decide +kernel
theorem dX5_init_1 : decode cX5_init 1 = .ok (.invokespecial 3, 3) := by decide +kernel
theorem dX5_init_4 : decode cX5_init 4 = .ok (.aload_n 0, 1) := by decide +kernel
theorem dX5_init_5 : decode cX5_init 5 = .ok (.sipush 1792, 3) := by decide +kernel
theorem dX5_init_8 : decode cX5_init 8 = .ok (.newarray .int, 2) := by decide +kernel
theorem dX5_init_10 : decode cX5_init 10 = .ok (.putfield 11, 3) := by decide +kernel
theorem dX5_init_13 : decode cX5_init 13 = .ok (.aload_n 0, 1) := by decide +kernel
theorem dX5_init_14 : decode cX5_init 14 = .ok (.bipush 6, 2) := by decide +kernel
theorem dX5_init_16 : decode cX5_init 16 = .ok (.newarray .int, 2) := by decide +kernel
theorem dX5_init_18 : decode cX5_init 18 = .ok (.putfield 15, 3) := by decide +kernel
theorem dX5_init_21 : decode cX5_init 21 = .ok (.aload_n 0, 1) := by decide +kernel
theorem dX5_init_22 : decode cX5_init 22 = .ok (.aload_n 1, 1) := by decide +kernel
theorem dX5_init_23 : decode cX5_init 23 = .ok (.putfield 18, 3) := by decide +kernel
theorem dX5_init_26 : decode cX5_init 26 = .ok (.return_, 1) := by decide +kernel
theorem dX5_mostFrom_0 : decode cX5_mostFrom 0 = .ok (.iload_n 1, 1) := by decide +kernel
theorem dX5_mostFrom_1 : decode cX5_mostFrom 1 = .ok (.iconst 1, 1) := by decide +kernel
theorem dX5_mostFrom_2 : decode cX5_mostFrom 2 = .ok (.iadd, 1) := by decide +kernel
theorem dX5_mostFrom_3 : decode cX5_mostFrom 3 = .ok (.sipush 256, 3) := by decide +kernel
theorem dX5_mostFrom_6 : decode cX5_mostFrom 6 = .ok (.imul, 1) := by decide +kernel
theorem dX5_mostFrom_7 : decode cX5_mostFrom 7 = .ok (.istore_n 3, 1) := by decide +kernel
theorem dX5_mostFrom_8 : decode cX5_mostFrom 8 = .ok (.aload_n 0, 1) := by decide +kernel
theorem dX5_mostFrom_9 : decode cX5_mostFrom 9 = .ok (.getfield 11, 3) := by decide +kernel
theorem dX5_mostFrom_12 : decode cX5_mostFrom 12 = .ok (.iload_n 3, 1) := by decide +kernel
theorem dX5_mostFrom_13 : decode cX5_mostFrom 13 = .ok (.iload_n 2, 1) := by decide +kernel
theorem dX5_mostFrom_14 : decode cX5_mostFrom 14 = .ok (.iadd, 1) := by decide +kernel
theorem dX5_mostFrom_15 : decode cX5_mostFrom 15 = .ok (.iaload, 1) := by decide +kernel
theorem dX5_mostFrom_16 : decode cX5_mostFrom 16 = .ok (.istore 4, 2) := by decide +kernel
theorem dX5_mostFrom_18 : decode cX5_mostFrom 18 = .ok (.aload_n 0, 1) := by decide +kernel
theorem dX5_mostFrom_19 : decode cX5_mostFrom 19 = .ok (.getfield 15, 3) := by decide +kernel
theorem dX5_mostFrom_22 : decode cX5_mostFrom 22 = .ok (.iload_n 1, 1) := by decide +kernel
theorem dX5_mostFrom_23 : decode cX5_mostFrom 23 = .ok (.iaload, 1) := by decide +kernel
theorem dX5_mostFrom_24 : decode cX5_mostFrom 24 = .ok (.iload_n 2, 1) := by decide +kernel
theorem dX5_mostFrom_25 : decode cX5_mostFrom 25 = .ok (.iconst (-1), 1) := by decide +kernel
theorem dX5_mostFrom_26 : decode cX5_mostFrom 26 = .ok (.ixor, 1) := by decide +kernel
theorem dX5_mostFrom_27 : decode cX5_mostFrom 27 = .ok (.iand, 1) := by decide +kernel
theorem dX5_mostFrom_28 : decode cX5_mostFrom 28 = .ok (.istore 5, 2) := by decide +kernel
theorem dX5_mostFrom_30 : decode cX5_mostFrom 30 = .ok (.iconst 0, 1) := by decide +kernel
theorem dX5_mostFrom_31 : decode cX5_mostFrom 31 = .ok (.istore 6, 2) := by decide +kernel
theorem dX5_mostFrom_33 : decode cX5_mostFrom 33 = .ok (.iload 6, 2) := by decide +kernel
theorem dX5_mostFrom_35 : decode cX5_mostFrom 35 = .ok (.aload_n 0, 1) := by decide +kernel
theorem dX5_mostFrom_36 : decode cX5_mostFrom 36 = .ok (.getfield 18, 3) := by decide +kernel
theorem dX5_mostFrom_39 : decode cX5_mostFrom 39 = .ok (.getfield 22, 3) := by decide +kernel
theorem dX5_mostFrom_42 : decode cX5_mostFrom 42 = .ok (.getfield 34, 3) := by decide +kernel
theorem dX5_mostFrom_45 : decode cX5_mostFrom 45 = .ok (.if_icmp .ge 41, 3) := by decide +kernel
theorem dX5_mostFrom_48 : decode cX5_mostFrom 48 = .ok (.iload 5, 2) := by decide +kernel
theorem dX5_mostFrom_50 : decode cX5_mostFrom 50 = .ok (.iload 6, 2) := by decide +kernel
theorem dX5_mostFrom_52 : decode cX5_mostFrom 52 = .ok (.invokestatic 45, 3) := by decide +kernel
theorem dX5_mostFrom_55 : decode cX5_mostFrom 55 = .ok (.ifCond .eq 25, 3) := by decide +kernel
theorem dX5_mostFrom_58 : decode cX5_mostFrom 58 = .ok (.iload 4, 2) := by decide +kernel
theorem dX5_mostFrom_60 : decode cX5_mostFrom 60 = .ok (.iconst 1, 1) := by decide +kernel
theorem dX5_mostFrom_61 : decode cX5_mostFrom 61 = .ok (.aload_n 0, 1) := by decide +kernel
theorem dX5_mostFrom_62 : decode cX5_mostFrom 62 = .ok (.getfield 11, 3) := by decide +kernel
theorem dX5_mostFrom_65 : decode cX5_mostFrom 65 = .ok (.iload_n 3, 1) := by decide +kernel
theorem dX5_mostFrom_66 : decode cX5_mostFrom 66 = .ok (.iload_n 2, 1) := by decide +kernel
theorem dX5_mostFrom_67 : decode cX5_mostFrom 67 = .ok (.iconst 1, 1) := by decide +kernel
theorem dX5_mostFrom_68 : decode cX5_mostFrom 68 = .ok (.iload 6, 2) := by decide +kernel
theorem dX5_mostFrom_70 : decode cX5_mostFrom 70 = .ok (.ishl, 1) := by decide +kernel
theorem dX5_mostFrom_71 : decode cX5_mostFrom 71 = .ok (.ior, 1) := by decide +kernel
theorem dX5_mostFrom_72 : decode cX5_mostFrom 72 = .ok (.iadd, 1) := by decide +kernel
theorem dX5_mostFrom_73 : decode cX5_mostFrom 73 = .ok (.iaload, 1) := by decide +kernel
theorem dX5_mostFrom_74 : decode cX5_mostFrom 74 = .ok (.iadd, 1) := by decide +kernel
theorem dX5_mostFrom_75 : decode cX5_mostFrom 75 = .ok (.invokestatic 49, 3) := by decide +kernel
theorem dX5_mostFrom_78 : decode cX5_mostFrom 78 = .ok (.istore 4, 2) := by decide +kernel
theorem dX5_mostFrom_80 : decode cX5_mostFrom 80 = .ok (.iinc 6 1, 3) := by decide +kernel
theorem dX5_mostFrom_83 : decode cX5_mostFrom 83 = .ok (.goto (-50), 3) := by decide +kernel
theorem dX5_mostFrom_86 : decode cX5_mostFrom 86 = .ok (.iload 4, 2) := by decide +kernel
theorem dX5_mostFrom_88 : decode cX5_mostFrom 88 = .ok (.ireturn, 1) := by decide +kernel
theorem dX5_mostSet_0 : decode cX5_mostSet 0 = .ok (.aload_n 0, 1) := by decide +kernel
theorem dX5_mostSet_1 : decode cX5_mostSet 1 = .ok (.getfield 11, 3) := by decide +kernel
theorem dX5_mostSet_4 : decode cX5_mostSet 4 = .ok (.iconst 0, 1) := by decide +kernel
theorem dX5_mostSet_5 : decode cX5_mostSet 5 = .ok (.iaload, 1) := by decide +kernel
theorem dX5_mostSet_6 : decode cX5_mostSet 6 = .ok (.ireturn, 1) := by decide +kernel
theorem dX5_thingOf_0 : decode cX5_thingOf 0 = .ok (.iconst 0, 1) := by decide +kernel
theorem dX5_thingOf_1 : decode cX5_thingOf 1 = .ok (.istore_n 2, 1) := by decide +kernel
theorem dX5_thingOf_2 : decode cX5_thingOf 2 = .ok (.bipush (-9), 2) := by decide +kernel
theorem dX5_thingOf_4 : decode cX5_thingOf 4 = .ok (.istore_n 3, 1) := by decide +kernel
theorem dX5_thingOf_5 : decode cX5_thingOf 5 = .ok (.iconst 0, 1) := by decide +kernel
theorem dX5_thingOf_6 : decode cX5_thingOf 6 = .ok (.istore 4, 2) := by decide +kernel
theorem dX5_thingOf_8 : decode cX5_thingOf 8 = .ok (.iload 4, 2) := by decide +kernel
theorem dX5_thingOf_10 : decode cX5_thingOf 10 = .ok (.iload_n 1, 1) := by decide +kernel
theorem dX5_thingOf_11 : decode cX5_thingOf 11 = .ok (.if_icmp .gt 29, 3) := by decide +kernel
theorem dX5_thingOf_14 : decode cX5_thingOf 14 = .ok (.aload_n 0, 1) := by decide +kernel
theorem dX5_thingOf_15 : decode cX5_thingOf 15 = .ok (.iload 4, 2) := by decide +kernel
theorem dX5_thingOf_17 : decode cX5_thingOf 17 = .ok (.iload_n 2, 1) := by decide +kernel
theorem dX5_thingOf_18 : decode cX5_thingOf 18 = .ok (.invokevirtual 54, 3) := by decide +kernel
theorem dX5_thingOf_21 : decode cX5_thingOf 21 = .ok (.istore_n 3, 1) := by decide +kernel
theorem dX5_thingOf_22 : decode cX5_thingOf 22 = .ok (.iload_n 3, 1) := by decide +kernel
theorem dX5_thingOf_23 : decode cX5_thingOf 23 = .ok (.bipush (-9), 2) := by decide +kernel
theorem dX5_thingOf_25 : decode cX5_thingOf 25 = .ok (.if_icmp .eq 9, 3) := by decide +kernel
theorem dX5_thingOf_28 : decode cX5_thingOf 28 = .ok (.iload_n 2, 1) := by decide +kernel
theorem dX5_thingOf_29 : decode cX5_thingOf 29 = .ok (.iconst 1, 1) := by decide +kernel
theorem dX5_thingOf_30 : decode cX5_thingOf 30 = .ok (.iload_n 3, 1) := by decide +kernel
theorem dX5_thingOf_31 : decode cX5_thingOf 31 = .ok (.ishl, 1) := by decide +kernel
theorem dX5_thingOf_32 : decode cX5_thingOf 32 = .ok (.ior, 1) := by decide +kernel
theorem dX5_thingOf_33 : decode cX5_thingOf 33 = .ok (.istore_n 2, 1) := by decide +kernel
theorem dX5_thingOf_34 : decode cX5_thingOf 34 = .ok (.iinc 4 1, 3) := by decide +kernel
theorem dX5_thingOf_37 : decode cX5_thingOf 37 = .ok (.goto (-29), 3) := by decide +kernel
theorem dX5_thingOf_40 : decode cX5_thingOf 40 = .ok (.iload_n 3, 1) := by decide +kernel
theorem dX5_thingOf_41 : decode cX5_thingOf 41 = .ok (.ireturn, 1) := by decide +kernel
theorem dX5_weigh_0 : decode cX5_weigh 0 = .ok (.aload_n 0, 1) := by decide +kernel
theorem dX5_weigh_1 : decode cX5_weigh 1 = .ok (.getfield 18, 3) := by decide +kernel
theorem dX5_weigh_4 : decode cX5_weigh 4 = .ok (.getfield 22, 3) := by decide +kernel
theorem dX5_weigh_7 : decode cX5_weigh 7 = .ok (.getfield 28, 3) := by decide +kernel
theorem dX5_weigh_10 : decode cX5_weigh 10 = .ok (.istore_n 1, 1) := by decide +kernel
theorem dX5_weigh_11 : decode cX5_weigh 11 = .ok (.iconst 1, 1) := by decide +kernel
theorem dX5_weigh_12 : decode cX5_weigh 12 = .ok (.aload_n 0, 1) := by decide +kernel
theorem dX5_weigh_13 : decode cX5_weigh 13 = .ok (.getfield 18, 3) := by decide +kernel
theorem dX5_weigh_16 : decode cX5_weigh 16 = .ok (.getfield 22, 3) := by decide +kernel
theorem dX5_weigh_19 : decode cX5_weigh 19 = .ok (.getfield 34, 3) := by decide +kernel
theorem dX5_weigh_22 : decode cX5_weigh 22 = .ok (.ishl, 1) := by decide +kernel
theorem dX5_weigh_23 : decode cX5_weigh 23 = .ok (.istore_n 2, 1) := by decide +kernel
theorem dX5_weigh_24 : decode cX5_weigh 24 = .ok (.iconst 0, 1) := by decide +kernel
theorem dX5_weigh_25 : decode cX5_weigh 25 = .ok (.istore_n 3, 1) := by decide +kernel
theorem dX5_weigh_26 : decode cX5_weigh 26 = .ok (.iload_n 3, 1) := by decide +kernel
theorem dX5_weigh_27 : decode cX5_weigh 27 = .ok (.iload_n 2, 1) := by decide +kernel
theorem dX5_weigh_28 : decode cX5_weigh 28 = .ok (.if_icmp .ge 22, 3) := by decide +kernel
theorem dX5_weigh_31 : decode cX5_weigh 31 = .ok (.aload_n 0, 1) := by decide +kernel
theorem dX5_weigh_32 : decode cX5_weigh 32 = .ok (.getfield 11, 3) := by decide +kernel
theorem dX5_weigh_35 : decode cX5_weigh 35 = .ok (.iload_n 1, 1) := by decide +kernel
theorem dX5_weigh_36 : decode cX5_weigh 36 = .ok (.sipush 256, 3) := by decide +kernel
theorem dX5_weigh_39 : decode cX5_weigh 39 = .ok (.imul, 1) := by decide +kernel
theorem dX5_weigh_40 : decode cX5_weigh 40 = .ok (.iload_n 3, 1) := by decide +kernel
theorem dX5_weigh_41 : decode cX5_weigh 41 = .ok (.iadd, 1) := by decide +kernel
theorem dX5_weigh_42 : decode cX5_weigh 42 = .ok (.iconst 0, 1) := by decide +kernel
theorem dX5_weigh_43 : decode cX5_weigh 43 = .ok (.iastore, 1) := by decide +kernel
theorem dX5_weigh_44 : decode cX5_weigh 44 = .ok (.iinc 3 1, 3) := by decide +kernel
theorem dX5_weigh_47 : decode cX5_weigh 47 = .ok (.goto (-21), 3) := by decide +kernel
theorem dX5_weigh_50 : decode cX5_weigh 50 = .ok (.iload_n 1, 1) := by decide +kernel
theorem dX5_weigh_51 : decode cX5_weigh 51 = .ok (.iconst 1, 1) := by decide +kernel
theorem dX5_weigh_52 : decode cX5_weigh 52 = .ok (.isub, 1) := by decide +kernel
theorem dX5_weigh_53 : decode cX5_weigh 53 = .ok (.istore_n 3, 1) := by decide +kernel
theorem dX5_weigh_54 : decode cX5_weigh 54 = .ok (.iload_n 3, 1) := by decide +kernel
theorem dX5_weigh_55 : decode cX5_weigh 55 = .ok (.ifCond .lt 58, 3) := by decide +kernel
theorem dX5_weigh_58 : decode cX5_weigh 58 = .ok (.aload_n 0, 1) := by decide +kernel
theorem dX5_weigh_59 : decode cX5_weigh 59 = .ok (.getfield 15, 3) := by decide +kernel
theorem dX5_weigh_62 : decode cX5_weigh 62 = .ok (.iload_n 3, 1) := by decide +kernel
theorem dX5_weigh_63 : decode cX5_weigh 63 = .ok (.aload_n 0, 1) := by decide +kernel
theorem dX5_weigh_64 : decode cX5_weigh 64 = .ok (.getfield 18, 3) := by decide +kernel
theorem dX5_weigh_67 : decode cX5_weigh 67 = .ok (.iload_n 3, 1) := by decide +kernel
theorem dX5_weigh_68 : decode cX5_weigh 68 = .ok (.invokevirtual 37, 3) := by decide +kernel
theorem dX5_weigh_71 : decode cX5_weigh 71 = .ok (.iastore, 1) := by decide +kernel
theorem dX5_weigh_72 : decode cX5_weigh 72 = .ok (.iconst 0, 1) := by decide +kernel
theorem dX5_weigh_73 : decode cX5_weigh 73 = .ok (.istore 4, 2) := by decide +kernel
theorem dX5_weigh_75 : decode cX5_weigh 75 = .ok (.iload 4, 2) := by decide +kernel
theorem dX5_weigh_77 : decode cX5_weigh 77 = .ok (.iload_n 2, 1) := by decide +kernel
theorem dX5_weigh_78 : decode cX5_weigh 78 = .ok (.if_icmp .ge 29, 3) := by decide +kernel
theorem dX5_weigh_81 : decode cX5_weigh 81 = .ok (.aload_n 0, 1) := by decide +kernel
theorem dX5_weigh_82 : decode cX5_weigh 82 = .ok (.getfield 11, 3) := by decide +kernel
theorem dX5_weigh_85 : decode cX5_weigh 85 = .ok (.iload_n 3, 1) := by decide +kernel
theorem dX5_weigh_86 : decode cX5_weigh 86 = .ok (.sipush 256, 3) := by decide +kernel
theorem dX5_weigh_89 : decode cX5_weigh 89 = .ok (.imul, 1) := by decide +kernel
theorem dX5_weigh_90 : decode cX5_weigh 90 = .ok (.iload 4, 2) := by decide +kernel
theorem dX5_weigh_92 : decode cX5_weigh 92 = .ok (.iadd, 1) := by decide +kernel
theorem dX5_weigh_93 : decode cX5_weigh 93 = .ok (.aload_n 0, 1) := by decide +kernel
theorem dX5_weigh_94 : decode cX5_weigh 94 = .ok (.iload_n 3, 1) := by decide +kernel
theorem dX5_weigh_95 : decode cX5_weigh 95 = .ok (.iload 4, 2) := by decide +kernel
theorem dX5_weigh_97 : decode cX5_weigh 97 = .ok (.invokevirtual 41, 3) := by decide +kernel
theorem dX5_weigh_100 : decode cX5_weigh 100 = .ok (.iastore, 1) := by decide +kernel
theorem dX5_weigh_101 : decode cX5_weigh 101 = .ok (.iinc 4 1, 3) := by decide +kernel
theorem dX5_weigh_104 : decode cX5_weigh 104 = .ok (.goto (-29), 3) := by decide +kernel
theorem dX5_weigh_107 : decode cX5_weigh 107 = .ok (.iinc 3 (-1), 3) := by decide +kernel
theorem dX5_weigh_110 : decode cX5_weigh 110 = .ok (.goto (-56), 3) := by decide +kernel
theorem dX5_weigh_113 : decode cX5_weigh 113 = .ok (.return_, 1) := by decide +kernel
theorem dX6_become_0 : decode cX6_become 0 = .ok (.aload_n 1, 1) := by decide +kernel
theorem dX6_become_1 : decode cX6_become 1 = .ok (.getfield 11, 3) := by decide +kernel
theorem dX6_become_4 : decode cX6_become 4 = .ok (.iconst 0, 1) := by decide +kernel
theorem dX6_become_5 : decode cX6_become 5 = .ok (.aload_n 0, 1) := by decide +kernel
theorem dX6_become_6 : decode cX6_become 6 = .ok (.getfield 11, 3) := by decide +kernel
theorem dX6_become_9 : decode cX6_become 9 = .ok (.iconst 0, 1) := by decide +kernel
theorem dX6_become_10 : decode cX6_become 10 = .ok (.sipush 740, 3) := by decide +kernel
theorem dX6_become_13 : decode cX6_become 13 = .ok (.invokestatic 35, 3) := by decide +kernel
theorem dX6_become_16 : decode cX6_become 16 = .ok (.aload_n 0, 1) := by decide +kernel
theorem dX6_become_17 : decode cX6_become 17 = .ok (.aload_n 1, 1) := by decide +kernel
theorem dX6_become_18 : decode cX6_become 18 = .ok (.getfield 15, 3) := by decide +kernel
theorem dX6_become_21 : decode cX6_become 21 = .ok (.putfield 15, 3) := by decide +kernel
theorem dX6_become_24 : decode cX6_become 24 = .ok (.aload_n 0, 1) := by decide +kernel
theorem dX6_become_25 : decode cX6_become 25 = .ok (.aload_n 1, 1) := by decide +kernel
theorem dX6_become_26 : decode cX6_become 26 = .ok (.getfield 23, 3) := by decide +kernel
theorem dX6_become_29 : decode cX6_become 29 = .ok (.putfield 23, 3) := by decide +kernel
theorem dX6_become_32 : decode cX6_become 32 = .ok (.return_, 1) := by decide +kernel
theorem dX6_init_0 : decode cX6_init 0 = .ok (.aload_n 0, 1) := by decide +kernel
theorem dX6_init_1 : decode cX6_init 1 = .ok (.invokespecial 1, 3) := by decide +kernel
theorem dX6_init_4 : decode cX6_init 4 = .ok (.aload_n 0, 1) := by decide +kernel
theorem dX6_init_5 : decode cX6_init 5 = .ok (.sipush 740, 3) := by decide +kernel
theorem dX6_init_8 : decode cX6_init 8 = .ok (.newarray .int, 2) := by decide +kernel
theorem dX6_init_10 : decode cX6_init 10 = .ok (.putfield 11, 3) := by decide +kernel
theorem dX6_init_13 : decode cX6_init 13 = .ok (.return_, 1) := by decide +kernel
theorem dX6_recall_0 : decode cX6_recall 0 = .ok (.aload_n 0, 1) := by decide +kernel
theorem dX6_recall_1 : decode cX6_recall 1 = .ok (.aload_n 0, 1) := by decide +kernel
theorem dX6_recall_2 : decode cX6_recall 2 = .ok (.getfield 15, 3) := by decide +kernel
theorem dX6_recall_5 : decode cX6_recall 5 = .ok (.bipush 10, 2) := by decide +kernel
theorem dX6_recall_7 : decode cX6_recall 7 = .ok (.iadd, 1) := by decide +kernel
theorem dX6_recall_8 : decode cX6_recall 8 = .ok (.iconst 1, 1) := by decide +kernel
theorem dX6_recall_9 : decode cX6_recall 9 = .ok (.isub, 1) := by decide +kernel
theorem dX6_recall_10 : decode cX6_recall 10 = .ok (.bipush 10, 2) := by decide +kernel
theorem dX6_recall_12 : decode cX6_recall 12 = .ok (.irem, 1) := by decide +kernel
theorem dX6_recall_13 : decode cX6_recall 13 = .ok (.putfield 15, 3) := by decide +kernel
theorem dX6_recall_16 : decode cX6_recall 16 = .ok (.aload_n 0, 1) := by decide +kernel
theorem dX6_recall_17 : decode cX6_recall 17 = .ok (.dup, 1) := by decide +kernel
theorem dX6_recall_18 : decode cX6_recall 18 = .ok (.getfield 23, 3) := by decide +kernel
theorem dX6_recall_21 : decode cX6_recall 21 = .ok (.iconst 1, 1) := by decide +kernel
theorem dX6_recall_22 : decode cX6_recall 22 = .ok (.isub, 1) := by decide +kernel
theorem dX6_recall_23 : decode cX6_recall 23 = .ok (.putfield 23, 3) := by decide +kernel
theorem dX6_recall_26 : decode cX6_recall 26 = .ok (.aload_n 1, 1) := by decide +kernel
theorem dX6_recall_27 : decode cX6_recall 27 = .ok (.aload_n 0, 1) := by decide +kernel
theorem dX6_recall_28 : decode cX6_recall 28 = .ok (.getfield 11, 3) := by decide +kernel
theorem dX6_recall_31 : decode cX6_recall 31 = .ok (.aload_n 0, 1) := by decide +kernel
theorem dX6_recall_32 : decode cX6_recall 32 = .ok (.getfield 15, 3) := by decide +kernel
theorem dX6_recall_35 : decode cX6_recall 35 = .ok (.bipush 74, 2) := by decide +kernel
theorem dX6_recall_37 : decode cX6_recall 37 = .ok (.imul, 1) := by decide +kernel
theorem dX6_recall_38 : decode cX6_recall 38 = .ok (.invokevirtual 32, 3) := by decide +kernel
theorem dX6_recall_41 : decode cX6_recall 41 = .ok (.return_, 1) := by decide +kernel
theorem dX6_remember_0 : decode cX6_remember 0 = .ok (.aload_n 1, 1) := by decide +kernel
theorem dX6_remember_1 : decode cX6_remember 1 = .ok (.aload_n 0, 1) := by decide +kernel
theorem dX6_remember_2 : decode cX6_remember 2 = .ok (.getfield 11, 3) := by decide +kernel
theorem dX6_remember_5 : decode cX6_remember 5 = .ok (.aload_n 0, 1) := by decide +kernel
theorem dX6_remember_6 : decode cX6_remember 6 = .ok (.getfield 15, 3) := by decide +kernel
theorem dX6_remember_9 : decode cX6_remember 9 = .ok (.bipush 74, 2) := by decide +kernel
theorem dX6_remember_11 : decode cX6_remember 11 = .ok (.imul, 1) := by decide +kernel
theorem dX6_remember_12 : decode cX6_remember 12 = .ok (.invokevirtual 19, 3) := by decide +kernel
theorem dX6_remember_15 : decode cX6_remember 15 = .ok (.aload_n 0, 1) := by decide +kernel
theorem dX6_remember_16 : decode cX6_remember 16 = .ok (.aload_n 0, 1) := by decide +kernel
theorem dX6_remember_17 : decode cX6_remember 17 = .ok (.getfield 15, 3) := by decide +kernel
theorem dX6_remember_20 : decode cX6_remember 20 = .ok (.iconst 1, 1) := by decide +kernel
theorem dX6_remember_21 : decode cX6_remember 21 = .ok (.iadd, 1) := by decide +kernel
theorem dX6_remember_22 : decode cX6_remember 22 = .ok (.bipush 10, 2) := by decide +kernel
theorem dX6_remember_24 : decode cX6_remember 24 = .ok (.irem, 1) := by decide +kernel
theorem dX6_remember_25 : decode cX6_remember 25 = .ok (.putfield 15, 3) := by decide +kernel
theorem dX6_remember_28 : decode cX6_remember 28 = .ok (.aload_n 0, 1) := by decide +kernel
theorem dX6_remember_29 : decode cX6_remember 29 = .ok (.aload_n 0, 1) := by decide +kernel
theorem dX6_remember_30 : decode cX6_remember 30 = .ok (.getfield 23, 3) := by decide +kernel
theorem dX6_remember_33 : decode cX6_remember 33 = .ok (.iconst 1, 1) := by decide +kernel
theorem dX6_remember_34 : decode cX6_remember 34 = .ok (.iadd, 1) := by decide +kernel
theorem dX6_remember_35 : decode cX6_remember 35 = .ok (.bipush 10, 2) := by decide +kernel
theorem dX6_remember_37 : decode cX6_remember 37 = .ok (.invokestatic 26, 3) := by decide +kernel
theorem dX6_remember_40 : decode cX6_remember 40 = .ok (.putfield 23, 3) := by decide +kernel
theorem dX6_remember_43 : decode cX6_remember 43 = .ok (.return_, 1) := by decide +kernel
theorem dX7_bears_0 : decode cX7_bears 0 = .ok (.aload_n 0, 1) := by decide +kernel
theorem dX7_bears_1 : decode cX7_bears 1 = .ok (.getfield 18, 3) := by decide +kernel
theorem dX7_bears_4 : decode cX7_bears 4 = .ok (.iload_n 1, 1) := by decide +kernel
theorem dX7_bears_5 : decode cX7_bears 5 = .ok (.invokevirtual 72, 3) := by decide +kernel
theorem dX7_bears_8 : decode cX7_bears 8 = .ok (.ifCond .ne 52, 3) := by decide +kernel
theorem dX7_bears_11 : decode cX7_bears 11 = .ok (.iload_n 2, 1) := by decide +kernel
theorem dX7_bears_12 : decode cX7_bears 12 = .ok (.aload_n 0, 1) := by decide +kernel
theorem dX7_bears_13 : decode cX7_bears 13 = .ok (.iload_n 1, 1) := by decide +kernel
theorem dX7_bears_14 : decode cX7_bears 14 = .ok (.invokevirtual 76, 3) := by decide +kernel
theorem dX7_bears_17 : decode cX7_bears 17 = .ok (.iconst (-1), 1) := by decide +kernel
theorem dX7_bears_18 : decode cX7_bears 18 = .ok (.ixor, 1) := by decide +kernel
theorem dX7_bears_19 : decode cX7_bears 19 = .ok (.iand, 1) := by decide +kernel
theorem dX7_bears_20 : decode cX7_bears 20 = .ok (.ifCond .ne 40, 3) := by decide +kernel
theorem dX7_bears_23 : decode cX7_bears 23 = .ok (.aload_n 0, 1) := by decide +kernel
theorem dX7_bears_24 : decode cX7_bears 24 = .ok (.getfield 18, 3) := by decide +kernel
theorem dX7_bears_27 : decode cX7_bears 27 = .ok (.getfield 46, 3) := by decide +kernel
theorem dX7_bears_30 : decode cX7_bears 30 = .ok (.getfield 80, 3) := by decide +kernel
theorem dX7_bears_33 : decode cX7_bears 33 = .ok (.iload_n 1, 1) := by decide +kernel
theorem dX7_bears_34 : decode cX7_bears 34 = .ok (.iaload, 1) := by decide +kernel
theorem dX7_bears_35 : decode cX7_bears 35 = .ok (.aload_n 0, 1) := by decide +kernel
theorem dX7_bears_36 : decode cX7_bears 36 = .ok (.iload_n 2, 1) := by decide +kernel
theorem dX7_bears_37 : decode cX7_bears 37 = .ok (.invokevirtual 83, 3) := by decide +kernel
theorem dX7_bears_40 : decode cX7_bears 40 = .ok (.iadd, 1) := by decide +kernel
theorem dX7_bears_41 : decode cX7_bears 41 = .ok (.aload_n 0, 1) := by decide +kernel
theorem dX7_bears_42 : decode cX7_bears 42 = .ok (.getfield 18, 3) := by decide +kernel
theorem dX7_bears_45 : decode cX7_bears 45 = .ok (.getfield 22, 3) := by decide +kernel
theorem dX7_bears_48 : decode cX7_bears 48 = .ok (.getfield 86, 3) := by decide +kernel
theorem dX7_bears_51 : decode cX7_bears 51 = .ok (.iload_n 1, 1) := by decide +kernel
theorem dX7_bears_52 : decode cX7_bears 52 = .ok (.iaload, 1) := by decide +kernel
theorem dX7_bears_53 : decode cX7_bears 53 = .ok (.if_icmp .gt 7, 3) := by decide +kernel
theorem dX7_bears_56 : decode cX7_bears 56 = .ok (.iconst 1, 1) := by decide +kernel
theorem dX7_bears_57 : decode cX7_bears 57 = .ok (.goto 4, 3) := by decide +kernel
theorem dX7_bears_60 : decode cX7_bears 60 = .ok (.iconst 0, 1) := by decide +kernel
theorem dX7_bears_61 : decode cX7_bears 61 = .ok (.ireturn, 1) := by decide +kernel
theorem dX7_cracksOf_0 : decode cX7_cracksOf 0 = .ok (.aload_n 0, 1) := by decide +kernel
theorem dX7_cracksOf_1 : decode cX7_cracksOf 1 = .ok (.aload_n 0, 1) := by decide +kernel
theorem dX7_cracksOf_2 : decode cX7_cracksOf 2 = .ok (.getfield 15, 3) := by decide +kernel
theorem dX7_cracksOf_5 : decode cX7_cracksOf 5 = .ok (.iload_n 1, 1) := by decide +kernel
theorem dX7_cracksOf_6 : decode cX7_cracksOf 6 = .ok (.invokevirtual 58, 3) := by decide +kernel
theorem dX7_cracksOf_9 : decode cX7_cracksOf 9 = .ok (.ireturn, 1) := by decide +kernel
theorem dX7_init_0 : decode cX7_init 0 = .ok (.aload_n 0, 1) := by decide +kernel
theorem dX7_init_1 : decode cX7_init 1 = .ok (.invokespecial 3, 3) := by decide +kernel
theorem dX7_init_4 : decode cX7_init 4 = .ok (.aload_n 0, 1) := by decide +kernel
theorem dX7_init_5 : decode cX7_init 5 = .ok (.bipush 8, 2) := by decide +kernel
theorem dX7_init_7 : decode cX7_init 7 = .ok (.newarray .int, 2) := by decide +kernel
theorem dX7_init_9 : decode cX7_init 9 = .ok (.putfield 9, 3) := by decide +kernel
theorem dX7_init_12 : decode cX7_init 12 = .ok (.aload_n 0, 1) := by decide +kernel
theorem dX7_init_13 : decode cX7_init 13 = .ok (.bipush 8, 2) := by decide +kernel
theorem dX7_init_15 : decode cX7_init 15 = .ok (.newarray .int, 2) := by decide +kernel
theorem dX7_init_17 : decode cX7_init 17 = .ok (.putfield 15, 3) := by decide +kernel
theorem dX7_init_20 : decode cX7_init 20 = .ok (.aload_n 0, 1) := by decide +kernel
theorem dX7_init_21 : decode cX7_init 21 = .ok (.aload_n 1, 1) := by decide +kernel
theorem dX7_init_22 : decode cX7_init 22 = .ok (.putfield 18, 3) := by decide +kernel
theorem dX7_init_25 : decode cX7_init 25 = .ok (.return_, 1) := by decide +kernel
theorem dX7_isWhole_0 : decode cX7_isWhole 0 = .ok (.iload_n 2, 1) := by decide +kernel
theorem dX7_isWhole_1 : decode cX7_isWhole 1 = .ok (.aload_n 0, 1) := by decide +kernel
theorem dX7_isWhole_2 : decode cX7_isWhole 2 = .ok (.getfield 18, 3) := by decide +kernel
theorem dX7_isWhole_5 : decode cX7_isWhole 5 = .ok (.getfield 46, 3) := by decide +kernel
theorem dX7_isWhole_8 : decode cX7_isWhole 8 = .ok (.getfield 69, 3) := by decide +kernel
theorem dX7_isWhole_11 : decode cX7_isWhole 11 = .ok (.iload_n 1, 1) := by decide +kernel
theorem dX7_isWhole_12 : decode cX7_isWhole 12 = .ok (.iaload, 1) := by decide +kernel
theorem dX7_isWhole_13 : decode cX7_isWhole 13 = .ok (.ior, 1) := by decide +kernel
theorem dX7_isWhole_14 : decode cX7_isWhole 14 = .ok (.istore_n 3, 1) := by decide +kernel
theorem dX7_isWhole_15 : decode cX7_isWhole 15 = .ok (.iconst 0, 1) := by decide +kernel
theorem dX7_isWhole_16 : decode cX7_isWhole 16 = .ok (.istore 4, 2) := by decide +kernel
theorem dX7_isWhole_18 : decode cX7_isWhole 18 = .ok (.iload 4, 2) := by decide +kernel
theorem dX7_isWhole_20 : decode cX7_isWhole 20 = .ok (.aload_n 0, 1) := by decide +kernel
theorem dX7_isWhole_21 : decode cX7_isWhole 21 = .ok (.getfield 18, 3) := by decide +kernel
theorem dX7_isWhole_24 : decode cX7_isWhole 24 = .ok (.getfield 22, 3) := by decide +kernel
theorem dX7_isWhole_27 : decode cX7_isWhole 27 = .ok (.getfield 39, 3) := by decide +kernel
theorem dX7_isWhole_30 : decode cX7_isWhole 30 = .ok (.if_icmp .ge 40, 3) := by decide +kernel
theorem dX7_isWhole_33 : decode cX7_isWhole 33 = .ok (.iload_n 2, 1) := by decide +kernel
theorem dX7_isWhole_34 : decode cX7_isWhole 34 = .ok (.iload 4, 2) := by decide +kernel
theorem dX7_isWhole_36 : decode cX7_isWhole 36 = .ok (.invokestatic 62, 3) := by decide +kernel
theorem dX7_isWhole_39 : decode cX7_isWhole 39 = .ok (.ifCond .eq 25, 3) := by decide +kernel
theorem dX7_isWhole_42 : decode cX7_isWhole 42 = .ok (.aload_n 0, 1) := by decide +kernel
theorem dX7_isWhole_43 : decode cX7_isWhole 43 = .ok (.getfield 18, 3) := by decide +kernel
theorem dX7_isWhole_46 : decode cX7_isWhole 46 = .ok (.getfield 22, 3) := by decide +kernel
theorem dX7_isWhole_49 : decode cX7_isWhole 49 = .ok (.getfield 66, 3) := by decide +kernel
theorem dX7_isWhole_52 : decode cX7_isWhole 52 = .ok (.iload 4, 2) := by decide +kernel
theorem dX7_isWhole_54 : decode cX7_isWhole 54 = .ok (.iaload, 1) := by decide +kernel
theorem dX7_isWhole_55 : decode cX7_isWhole 55 = .ok (.iload_n 3, 1) := by decide +kernel
theorem dX7_isWhole_56 : decode cX7_isWhole 56 = .ok (.iconst (-1), 1) := by decide +kernel
theorem dX7_isWhole_57 : decode cX7_isWhole 57 = .ok (.ixor, 1) := by decide +kernel
theorem dX7_isWhole_58 : decode cX7_isWhole 58 = .ok (.iand, 1) := by decide +kernel
theorem dX7_isWhole_59 : decode cX7_isWhole 59 = .ok (.ifCond .eq 5, 3) := by decide +kernel
theorem dX7_isWhole_62 : decode cX7_isWhole 62 = .ok (.iconst 0, 1) := by decide +kernel
theorem dX7_isWhole_63 : decode cX7_isWhole 63 = .ok (.ireturn, 1) := by decide +kernel
theorem dX7_isWhole_64 : decode cX7_isWhole 64 = .ok (.iinc 4 1, 3) := by decide +kernel
theorem dX7_isWhole_67 : decode cX7_isWhole 67 = .ok (.goto (-49), 3) := by decide +kernel
theorem dX7_isWhole_70 : decode cX7_isWhole 70 = .ok (.iconst 1, 1) := by decide +kernel
theorem dX7_isWhole_71 : decode cX7_isWhole 71 = .ok (.ireturn, 1) := by decide +kernel
theorem dX7_learnable_0 : decode cX7_learnable 0 = .ok (.iconst 0, 1) := by decide +kernel
theorem dX7_learnable_1 : decode cX7_learnable 1 = .ok (.istore_n 2, 1) := by decide +kernel
theorem dX7_learnable_2 : decode cX7_learnable 2 = .ok (.iconst 0, 1) := by decide +kernel
theorem dX7_learnable_3 : decode cX7_learnable 3 = .ok (.istore_n 3, 1) := by decide +kernel
theorem dX7_learnable_4 : decode cX7_learnable 4 = .ok (.iload_n 3, 1) := by decide +kernel
theorem dX7_learnable_5 : decode cX7_learnable 5 = .ok (.aload_n 0, 1) := by decide +kernel
theorem dX7_learnable_6 : decode cX7_learnable 6 = .ok (.getfield 18, 3) := by decide +kernel
theorem dX7_learnable_9 : decode cX7_learnable 9 = .ok (.getfield 22, 3) := by decide +kernel
theorem dX7_learnable_12 : decode cX7_learnable 12 = .ok (.getfield 39, 3) := by decide +kernel
theorem dX7_learnable_15 : decode cX7_learnable 15 = .ok (.if_icmp .ge 46, 3) := by decide +kernel
theorem dX7_learnable_18 : decode cX7_learnable 18 = .ok (.aload_n 0, 1) := by decide +kernel
theorem dX7_learnable_19 : decode cX7_learnable 19 = .ok (.getfield 18, 3) := by decide +kernel
theorem dX7_learnable_22 : decode cX7_learnable 22 = .ok (.getfield 46, 3) := by decide +kernel
theorem dX7_learnable_25 : decode cX7_learnable 25 = .ok (.getfield 69, 3) := by decide +kernel
theorem dX7_learnable_28 : decode cX7_learnable 28 = .ok (.iload_n 1, 1) := by decide +kernel
theorem dX7_learnable_29 : decode cX7_learnable 29 = .ok (.iaload, 1) := by decide +kernel
theorem dX7_learnable_30 : decode cX7_learnable 30 = .ok (.iload_n 3, 1) := by decide +kernel
theorem dX7_learnable_31 : decode cX7_learnable 31 = .ok (.invokestatic 62, 3) := by decide +kernel
theorem dX7_learnable_34 : decode cX7_learnable 34 = .ok (.ifCond .ne 21, 3) := by decide +kernel
theorem dX7_learnable_37 : decode cX7_learnable 37 = .ok (.aload_n 0, 1) := by decide +kernel
theorem dX7_learnable_38 : decode cX7_learnable 38 = .ok (.getfield 18, 3) := by decide +kernel
theorem dX7_learnable_41 : decode cX7_learnable 41 = .ok (.iload_n 1, 1) := by decide +kernel
theorem dX7_learnable_42 : decode cX7_learnable 42 = .ok (.iload_n 3, 1) := by decide +kernel
theorem dX7_learnable_43 : decode cX7_learnable 43 = .ok (.invokevirtual 89, 3) := by decide +kernel
theorem dX7_learnable_46 : decode cX7_learnable 46 = .ok (.ifCond .ne 9, 3) := by decide +kernel
theorem dX7_learnable_49 : decode cX7_learnable 49 = .ok (.iload_n 2, 1) := by decide +kernel
theorem dX7_learnable_50 : decode cX7_learnable 50 = .ok (.iconst 1, 1) := by decide +kernel
theorem dX7_learnable_51 : decode cX7_learnable 51 = .ok (.iload_n 3, 1) := by decide +kernel
theorem dX7_learnable_52 : decode cX7_learnable 52 = .ok (.ishl, 1) := by decide +kernel
theorem dX7_learnable_53 : decode cX7_learnable 53 = .ok (.ior, 1) := by decide +kernel
theorem dX7_learnable_54 : decode cX7_learnable 54 = .ok (.istore_n 2, 1) := by decide +kernel
theorem dX7_learnable_55 : decode cX7_learnable 55 = .ok (.iinc 3 1, 3) := by decide +kernel
theorem dX7_learnable_58 : decode cX7_learnable 58 = .ok (.goto (-54), 3) := by decide +kernel
theorem dX7_learnable_61 : decode cX7_learnable 61 = .ok (.iload_n 2, 1) := by decide +kernel
theorem dX7_learnable_62 : decode cX7_learnable 62 = .ok (.ireturn, 1) := by decide +kernel
theorem dX7_learntAt_0 : decode cX7_learntAt 0 = .ok (.iconst 0, 1) := by decide +kernel
theorem dX7_learntAt_1 : decode cX7_learntAt 1 = .ok (.istore_n 3, 1) := by decide +kernel
theorem dX7_learntAt_2 : decode cX7_learntAt 2 = .ok (.iconst 0, 1) := by decide +kernel
theorem dX7_learntAt_3 : decode cX7_learntAt 3 = .ok (.istore 4, 2) := by decide +kernel
theorem dX7_learntAt_5 : decode cX7_learntAt 5 = .ok (.iload 4, 2) := by decide +kernel
theorem dX7_learntAt_7 : decode cX7_learntAt 7 = .ok (.aload_n 0, 1) := by decide +kernel
theorem dX7_learntAt_8 : decode cX7_learntAt 8 = .ok (.getfield 18, 3) := by decide +kernel
theorem dX7_learntAt_11 : decode cX7_learntAt 11 = .ok (.getfield 22, 3) := by decide +kernel
theorem dX7_learntAt_14 : decode cX7_learntAt 14 = .ok (.getfield 39, 3) := by decide +kernel
theorem dX7_learntAt_17 : decode cX7_learntAt 17 = .ok (.if_icmp .ge 29, 3) := by decide +kernel
theorem dX7_learntAt_20 : decode cX7_learntAt 20 = .ok (.iload_n 1, 1) := by decide +kernel
theorem dX7_learntAt_21 : decode cX7_learntAt 21 = .ok (.iload 4, 2) := by decide +kernel
theorem dX7_learntAt_23 : decode cX7_learntAt 23 = .ok (.invokestatic 62, 3) := by decide +kernel
theorem dX7_learntAt_26 : decode cX7_learntAt 26 = .ok (.ifCond .eq 14, 3) := by decide +kernel
theorem dX7_learntAt_29 : decode cX7_learntAt 29 = .ok (.iload_n 3, 1) := by decide +kernel
theorem dX7_learntAt_30 : decode cX7_learntAt 30 = .ok (.iload_n 2, 1) := by decide +kernel
theorem dX7_learntAt_31 : decode cX7_learntAt 31 = .ok (.if_icmp .ne 6, 3) := by decide +kernel
theorem dX7_learntAt_34 : decode cX7_learntAt 34 = .ok (.iload 4, 2) := by decide +kernel
theorem dX7_learntAt_36 : decode cX7_learntAt 36 = .ok (.ireturn, 1) := by decide +kernel
theorem dX7_learntAt_37 : decode cX7_learntAt 37 = .ok (.iinc 3 1, 3) := by decide +kernel
theorem dX7_learntAt_40 : decode cX7_learntAt 40 = .ok (.iinc 4 1, 3) := by decide +kernel
theorem dX7_learntAt_43 : decode cX7_learntAt 43 = .ok (.goto (-38), 3) := by decide +kernel
theorem dX7_learntAt_46 : decode cX7_learntAt 46 = .ok (.bipush (-9), 2) := by decide +kernel
theorem dX7_learntAt_48 : decode cX7_learntAt 48 = .ok (.ireturn, 1) := by decide +kernel
theorem dX7_mostIn_0 : decode cX7_mostIn 0 = .ok (.aload_n 0, 1) := by decide +kernel
theorem dX7_mostIn_1 : decode cX7_mostIn 1 = .ok (.iload_n 1, 1) := by decide +kernel
theorem dX7_mostIn_2 : decode cX7_mostIn 2 = .ok (.invokevirtual 92, 3) := by decide +kernel
theorem dX7_mostIn_5 : decode cX7_mostIn 5 = .ok (.iconst 0, 1) := by decide +kernel
theorem dX7_mostIn_6 : decode cX7_mostIn 6 = .ok (.istore_n 3, 1) := by decide +kernel
theorem dX7_mostIn_7 : decode cX7_mostIn 7 = .ok (.iconst 0, 1) := by decide +kernel
theorem dX7_mostIn_8 : decode cX7_mostIn 8 = .ok (.istore 4, 2) := by decide +kernel
theorem dX7_mostIn_10 : decode cX7_mostIn 10 = .ok (.iconst 0, 1) := by decide +kernel
theorem dX7_mostIn_11 : decode cX7_mostIn 11 = .ok (.istore 5, 2) := by decide +kernel
theorem dX7_mostIn_13 : decode cX7_mostIn 13 = .ok (.aload_n 0, 1) := by decide +kernel
theorem dX7_mostIn_14 : decode cX7_mostIn 14 = .ok (.getfield 18, 3) := by decide +kernel
theorem dX7_mostIn_17 : decode cX7_mostIn 17 = .ok (.iload_n 1, 1) := by decide +kernel
theorem dX7_mostIn_18 : decode cX7_mostIn 18 = .ok (.invokevirtual 72, 3) := by decide +kernel
theorem dX7_mostIn_21 : decode cX7_mostIn 21 = .ok (.ifCond .eq 7, 3) := by decide +kernel
theorem dX7_mostIn_24 : decode cX7_mostIn 24 = .ok (.iconst 0, 1) := by decide +kernel
theorem dX7_mostIn_25 : decode cX7_mostIn 25 = .ok (.goto 8, 3) := by decide +kernel
theorem dX7_mostIn_28 : decode cX7_mostIn 28 = .ok (.aload_n 0, 1) := by decide +kernel
theorem dX7_mostIn_29 : decode cX7_mostIn 29 = .ok (.iload_n 1, 1) := by decide +kernel
theorem dX7_mostIn_30 : decode cX7_mostIn 30 = .ok (.invokevirtual 76, 3) := by decide +kernel
theorem dX7_mostIn_33 : decode cX7_mostIn 33 = .ok (.istore 6, 2) := by decide +kernel
theorem dX7_mostIn_35 : decode cX7_mostIn 35 = .ok (.aload_n 0, 1) := by decide +kernel
theorem dX7_mostIn_36 : decode cX7_mostIn 36 = .ok (.getfield 18, 3) := by decide +kernel
theorem dX7_mostIn_39 : decode cX7_mostIn 39 = .ok (.getfield 22, 3) := by decide +kernel
theorem dX7_mostIn_42 : decode cX7_mostIn 42 = .ok (.getfield 86, 3) := by decide +kernel
theorem dX7_mostIn_45 : decode cX7_mostIn 45 = .ok (.iload_n 1, 1) := by decide +kernel
theorem dX7_mostIn_46 : decode cX7_mostIn 46 = .ok (.iaload, 1) := by decide +kernel
theorem dX7_mostIn_47 : decode cX7_mostIn 47 = .ok (.aload_n 0, 1) := by decide +kernel
theorem dX7_mostIn_48 : decode cX7_mostIn 48 = .ok (.getfield 18, 3) := by decide +kernel
theorem dX7_mostIn_51 : decode cX7_mostIn 51 = .ok (.getfield 46, 3) := by decide +kernel
theorem dX7_mostIn_54 : decode cX7_mostIn 54 = .ok (.getfield 80, 3) := by decide +kernel
theorem dX7_mostIn_57 : decode cX7_mostIn 57 = .ok (.iload_n 1, 1) := by decide +kernel
theorem dX7_mostIn_58 : decode cX7_mostIn 58 = .ok (.iaload, 1) := by decide +kernel
theorem dX7_mostIn_59 : decode cX7_mostIn 59 = .ok (.isub, 1) := by decide +kernel
theorem dX7_mostIn_60 : decode cX7_mostIn 60 = .ok (.istore 7, 2) := by decide +kernel
theorem dX7_mostIn_62 : decode cX7_mostIn 62 = .ok (.iconst 1, 1) := by decide +kernel
theorem dX7_mostIn_63 : decode cX7_mostIn 63 = .ok (.istore 8, 2) := by decide +kernel
theorem dX7_mostIn_65 : decode cX7_mostIn 65 = .ok (.iload 8, 2) := by decide +kernel
theorem dX7_mostIn_67 : decode cX7_mostIn 67 = .ok (.iload 6, 2) := by decide +kernel
theorem dX7_mostIn_69 : decode cX7_mostIn 69 = .ok (.if_icmp .gt 96, 3) := by decide +kernel
theorem dX7_mostIn_72 : decode cX7_mostIn 72 = .ok (.iload 8, 2) := by decide +kernel
theorem dX7_mostIn_74 : decode cX7_mostIn 74 = .ok (.invokestatic 96, 3) := by decide +kernel
theorem dX7_mostIn_77 : decode cX7_mostIn 77 = .ok (.istore 9, 2) := by decide +kernel
theorem dX7_mostIn_79 : decode cX7_mostIn 79 = .ok (.iload 8, 2) := by decide +kernel
theorem dX7_mostIn_81 : decode cX7_mostIn 81 = .ok (.iload 6, 2) := by decide +kernel
theorem dX7_mostIn_83 : decode cX7_mostIn 83 = .ok (.iconst (-1), 1) := by decide +kernel
theorem dX7_mostIn_84 : decode cX7_mostIn 84 = .ok (.ixor, 1) := by decide +kernel
theorem dX7_mostIn_85 : decode cX7_mostIn 85 = .ok (.iand, 1) := by decide +kernel
theorem dX7_mostIn_86 : decode cX7_mostIn 86 = .ok (.ifCond .ne 73, 3) := by decide +kernel
theorem dX7_mostIn_89 : decode cX7_mostIn 89 = .ok (.iload 9, 2) := by decide +kernel
theorem dX7_mostIn_91 : decode cX7_mostIn 91 = .ok (.iload 4, 2) := by decide +kernel
theorem dX7_mostIn_93 : decode cX7_mostIn 93 = .ok (.if_icmp .lt 66, 3) := by decide +kernel
theorem dX7_mostIn_96 : decode cX7_mostIn 96 = .ok (.aload_n 0, 1) := by decide +kernel
theorem dX7_mostIn_97 : decode cX7_mostIn 97 = .ok (.iload_n 1, 1) := by decide +kernel
theorem dX7_mostIn_98 : decode cX7_mostIn 98 = .ok (.iload 8, 2) := by decide +kernel
theorem dX7_mostIn_100 : decode cX7_mostIn 100 = .ok (.invokevirtual 101, 3) := by decide +kernel
theorem dX7_mostIn_103 : decode cX7_mostIn 103 = .ok (.ifCond .eq 56, 3) := by decide +kernel
theorem dX7_mostIn_106 : decode cX7_mostIn 106 = .ok (.aload_n 0, 1) := by decide +kernel
theorem dX7_mostIn_107 : decode cX7_mostIn 107 = .ok (.iload 8, 2) := by decide +kernel
theorem dX7_mostIn_109 : decode cX7_mostIn 109 = .ok (.invokevirtual 83, 3) := by decide +kernel
theorem dX7_mostIn_112 : decode cX7_mostIn 112 = .ok (.iload 7, 2) := by decide +kernel
theorem dX7_mostIn_114 : decode cX7_mostIn 114 = .ok (.if_icmp .le 6, 3) := by decide +kernel
theorem dX7_mostIn_117 : decode cX7_mostIn 117 = .ok (.goto 42, 3) := by decide +kernel
theorem dX7_mostIn_120 : decode cX7_mostIn 120 = .ok (.aload_n 0, 1) := by decide +kernel
theorem dX7_mostIn_121 : decode cX7_mostIn 121 = .ok (.iload 8, 2) := by decide +kernel
theorem dX7_mostIn_123 : decode cX7_mostIn 123 = .ok (.invokevirtual 104, 3) := by decide +kernel
theorem dX7_mostIn_126 : decode cX7_mostIn 126 = .ok (.istore 10, 2) := by decide +kernel
theorem dX7_mostIn_128 : decode cX7_mostIn 128 = .ok (.iload 10, 2) := by decide +kernel
theorem dX7_mostIn_130 : decode cX7_mostIn 130 = .ok (.iload_n 2, 1) := by decide +kernel
theorem dX7_mostIn_131 : decode cX7_mostIn 131 = .ok (.if_icmp .gt 28, 3) := by decide +kernel
theorem dX7_mostIn_134 : decode cX7_mostIn 134 = .ok (.iload 9, 2) := by decide +kernel
theorem dX7_mostIn_136 : decode cX7_mostIn 136 = .ok (.iload 4, 2) := by decide +kernel
theorem dX7_mostIn_138 : decode cX7_mostIn 138 = .ok (.if_icmp .gt 10, 3) := by decide +kernel
theorem dX7_mostIn_141 : decode cX7_mostIn 141 = .ok (.iload 10, 2) := by decide +kernel
theorem dX7_mostIn_143 : decode cX7_mostIn 143 = .ok (.iload 5, 2) := by decide +kernel
theorem dX7_mostIn_145 : decode cX7_mostIn 145 = .ok (.if_icmp .ge 14, 3) := by decide +kernel
theorem dX7_mostIn_148 : decode cX7_mostIn 148 = .ok (.iload 8, 2) := by decide +kernel
theorem dX7_mostIn_150 : decode cX7_mostIn 150 = .ok (.istore_n 3, 1) := by decide +kernel
theorem dX7_mostIn_151 : decode cX7_mostIn 151 = .ok (.iload 9, 2) := by decide +kernel
theorem dX7_mostIn_153 : decode cX7_mostIn 153 = .ok (.istore 4, 2) := by decide +kernel
theorem dX7_mostIn_155 : decode cX7_mostIn 155 = .ok (.iload 10, 2) := by decide +kernel
theorem dX7_mostIn_157 : decode cX7_mostIn 157 = .ok (.istore 5, 2) := by decide +kernel
theorem dX7_mostIn_159 : decode cX7_mostIn 159 = .ok (.iinc 8 1, 3) := by decide +kernel
theorem dX7_mostIn_162 : decode cX7_mostIn 162 = .ok (.goto (-97), 3) := by decide +kernel
theorem dX7_mostIn_165 : decode cX7_mostIn 165 = .ok (.iload_n 3, 1) := by decide +kernel
theorem dX7_mostIn_166 : decode cX7_mostIn 166 = .ok (.ireturn, 1) := by decide +kernel
theorem dX7_nightsOf_0 : decode cX7_nightsOf 0 = .ok (.aload_n 0, 1) := by decide +kernel
theorem dX7_nightsOf_1 : decode cX7_nightsOf 1 = .ok (.aload_n 0, 1) := by decide +kernel
theorem dX7_nightsOf_2 : decode cX7_nightsOf 2 = .ok (.getfield 9, 3) := by decide +kernel
theorem dX7_nightsOf_5 : decode cX7_nightsOf 5 = .ok (.iload_n 1, 1) := by decide +kernel
theorem dX7_nightsOf_6 : decode cX7_nightsOf 6 = .ok (.invokevirtual 58, 3) := by decide +kernel
theorem dX7_nightsOf_9 : decode cX7_nightsOf 9 = .ok (.ireturn, 1) := by decide +kernel
theorem dX7_reckon_0 : decode cX7_reckon 0 = .ok (.aload_n 0, 1) := by decide +kernel
theorem dX7_reckon_1 : decode cX7_reckon 1 = .ok (.getfield 18, 3) := by decide +kernel
theorem dX7_reckon_4 : decode cX7_reckon 4 = .ok (.getfield 22, 3) := by decide +kernel
theorem dX7_reckon_7 : decode cX7_reckon 7 = .ok (.getfield 28, 3) := by decide +kernel
theorem dX7_reckon_10 : decode cX7_reckon 10 = .ok (.iload_n 1, 1) := by decide +kernel
theorem dX7_reckon_11 : decode cX7_reckon 11 = .ok (.iaload, 1) := by decide +kernel
theorem dX7_reckon_12 : decode cX7_reckon 12 = .ok (.iconst 1, 1) := by decide +kernel
theorem dX7_reckon_13 : decode cX7_reckon 13 = .ok (.invokestatic 33, 3) := by decide +kernel
theorem dX7_reckon_16 : decode cX7_reckon 16 = .ok (.istore_n 2, 1) := by decide +kernel
theorem dX7_reckon_17 : decode cX7_reckon 17 = .ok (.iconst 0, 1) := by decide +kernel
theorem dX7_reckon_18 : decode cX7_reckon 18 = .ok (.istore_n 3, 1) := by decide +kernel
theorem dX7_reckon_19 : decode cX7_reckon 19 = .ok (.iload_n 3, 1) := by decide +kernel
theorem dX7_reckon_20 : decode cX7_reckon 20 = .ok (.aload_n 0, 1) := by decide +kernel
theorem dX7_reckon_21 : decode cX7_reckon 21 = .ok (.getfield 18, 3) := by decide +kernel
theorem dX7_reckon_24 : decode cX7_reckon 24 = .ok (.getfield 22, 3) := by decide +kernel
theorem dX7_reckon_27 : decode cX7_reckon 27 = .ok (.getfield 39, 3) := by decide +kernel
theorem dX7_reckon_30 : decode cX7_reckon 30 = .ok (.if_icmp .ge 90, 3) := by decide +kernel
theorem dX7_reckon_33 : decode cX7_reckon 33 = .ok (.aload_n 0, 1) := by decide +kernel
theorem dX7_reckon_34 : decode cX7_reckon 34 = .ok (.getfield 18, 3) := by decide +kernel
theorem dX7_reckon_37 : decode cX7_reckon 37 = .ok (.getfield 22, 3) := by decide +kernel
theorem dX7_reckon_40 : decode cX7_reckon 40 = .ok (.getfield 43, 3) := by decide +kernel
theorem dX7_reckon_43 : decode cX7_reckon 43 = .ok (.iload_n 3, 1) := by decide +kernel
theorem dX7_reckon_44 : decode cX7_reckon 44 = .ok (.iaload, 1) := by decide +kernel
theorem dX7_reckon_45 : decode cX7_reckon 45 = .ok (.aload_n 0, 1) := by decide +kernel
theorem dX7_reckon_46 : decode cX7_reckon 46 = .ok (.getfield 18, 3) := by decide +kernel
theorem dX7_reckon_49 : decode cX7_reckon 49 = .ok (.getfield 46, 3) := by decide +kernel
theorem dX7_reckon_52 : decode cX7_reckon 52 = .ok (.getfield 50, 3) := by decide +kernel
theorem dX7_reckon_55 : decode cX7_reckon 55 = .ok (.iload_n 1, 1) := by decide +kernel
theorem dX7_reckon_56 : decode cX7_reckon 56 = .ok (.bipush 8, 2) := by decide +kernel
theorem dX7_reckon_58 : decode cX7_reckon 58 = .ok (.imul, 1) := by decide +kernel
theorem dX7_reckon_59 : decode cX7_reckon 59 = .ok (.iload_n 3, 1) := by decide +kernel
theorem dX7_reckon_60 : decode cX7_reckon 60 = .ok (.iadd, 1) := by decide +kernel
theorem dX7_reckon_61 : decode cX7_reckon 61 = .ok (.iaload, 1) := by decide +kernel
theorem dX7_reckon_62 : decode cX7_reckon 62 = .ok (.isub, 1) := by decide +kernel
theorem dX7_reckon_63 : decode cX7_reckon 63 = .ok (.istore 4, 2) := by decide +kernel
theorem dX7_reckon_65 : decode cX7_reckon 65 = .ok (.aload_n 0, 1) := by decide +kernel
theorem dX7_reckon_66 : decode cX7_reckon 66 = .ok (.getfield 9, 3) := by decide +kernel
theorem dX7_reckon_69 : decode cX7_reckon 69 = .ok (.iload_n 3, 1) := by decide +kernel
theorem dX7_reckon_70 : decode cX7_reckon 70 = .ok (.iload 4, 2) := by decide +kernel
theorem dX7_reckon_72 : decode cX7_reckon 72 = .ok (.iload_n 2, 1) := by decide +kernel
theorem dX7_reckon_73 : decode cX7_reckon 73 = .ok (.if_icmp .gt 7, 3) := by decide +kernel
theorem dX7_reckon_76 : decode cX7_reckon 76 = .ok (.iconst 1, 1) := by decide +kernel
theorem dX7_reckon_77 : decode cX7_reckon 77 = .ok (.goto 11, 3) := by decide +kernel
theorem dX7_reckon_80 : decode cX7_reckon 80 = .ok (.iload 4, 2) := by decide +kernel
theorem dX7_reckon_82 : decode cX7_reckon 82 = .ok (.iload_n 2, 1) := by decide +kernel
theorem dX7_reckon_83 : decode cX7_reckon 83 = .ok (.iadd, 1) := by decide +kernel
theorem dX7_reckon_84 : decode cX7_reckon 84 = .ok (.iconst 1, 1) := by decide +kernel
theorem dX7_reckon_85 : decode cX7_reckon 85 = .ok (.isub, 1) := by decide +kernel
theorem dX7_reckon_86 : decode cX7_reckon 86 = .ok (.iload_n 2, 1) := by decide +kernel
theorem dX7_reckon_87 : decode cX7_reckon 87 = .ok (.idiv, 1) := by decide +kernel
theorem dX7_reckon_88 : decode cX7_reckon 88 = .ok (.iastore, 1) := by decide +kernel
theorem dX7_reckon_89 : decode cX7_reckon 89 = .ok (.aload_n 0, 1) := by decide +kernel
theorem dX7_reckon_90 : decode cX7_reckon 90 = .ok (.getfield 15, 3) := by decide +kernel
theorem dX7_reckon_93 : decode cX7_reckon 93 = .ok (.iload_n 3, 1) := by decide +kernel
theorem dX7_reckon_94 : decode cX7_reckon 94 = .ok (.aload_n 0, 1) := by decide +kernel
theorem dX7_reckon_95 : decode cX7_reckon 95 = .ok (.getfield 18, 3) := by decide +kernel
theorem dX7_reckon_98 : decode cX7_reckon 98 = .ok (.getfield 22, 3) := by decide +kernel
theorem dX7_reckon_101 : decode cX7_reckon 101 = .ok (.getfield 55, 3) := by decide +kernel
theorem dX7_reckon_104 : decode cX7_reckon 104 = .ok (.iload_n 3, 1) := by decide +kernel
theorem dX7_reckon_105 : decode cX7_reckon 105 = .ok (.iaload, 1) := by decide +kernel
theorem dX7_reckon_106 : decode cX7_reckon 106 = .ok (.aload_n 0, 1) := by decide +kernel
theorem dX7_reckon_107 : decode cX7_reckon 107 = .ok (.getfield 9, 3) := by decide +kernel
theorem dX7_reckon_110 : decode cX7_reckon 110 = .ok (.iload_n 3, 1) := by decide +kernel
theorem dX7_reckon_111 : decode cX7_reckon 111 = .ok (.iaload, 1) := by decide +kernel
theorem dX7_reckon_112 : decode cX7_reckon 112 = .ok (.imul, 1) := by decide +kernel
theorem dX7_reckon_113 : decode cX7_reckon 113 = .ok (.iastore, 1) := by decide +kernel
theorem dX7_reckon_114 : decode cX7_reckon 114 = .ok (.iinc 3 1, 3) := by decide +kernel
theorem dX7_reckon_117 : decode cX7_reckon 117 = .ok (.goto (-98), 3) := by decide +kernel
theorem dX7_reckon_120 : decode cX7_reckon 120 = .ok (.return_, 1) := by decide +kernel
theorem dX7_sumOver_0 : decode cX7_sumOver 0 = .ok (.iconst 0, 1) := by decide +kernel
theorem dX7_sumOver_1 : decode cX7_sumOver 1 = .ok (.istore_n 3, 1) := by decide +kernel
theorem dX7_sumOver_2 : decode cX7_sumOver 2 = .ok (.iconst 0, 1) := by decide +kernel
theorem dX7_sumOver_3 : decode cX7_sumOver 3 = .ok (.istore 4, 2) := by decide +kernel
theorem dX7_sumOver_5 : decode cX7_sumOver 5 = .ok (.iload 4, 2) := by decide +kernel
theorem dX7_sumOver_7 : decode cX7_sumOver 7 = .ok (.aload_n 0, 1) := by decide +kernel
theorem dX7_sumOver_8 : decode cX7_sumOver 8 = .ok (.getfield 18, 3) := by decide +kernel
theorem dX7_sumOver_11 : decode cX7_sumOver 11 = .ok (.getfield 22, 3) := by decide +kernel
theorem dX7_sumOver_14 : decode cX7_sumOver 14 = .ok (.getfield 39, 3) := by decide +kernel
theorem dX7_sumOver_17 : decode cX7_sumOver 17 = .ok (.if_icmp .ge 25, 3) := by decide +kernel
theorem dX7_sumOver_20 : decode cX7_sumOver 20 = .ok (.iload_n 2, 1) := by decide +kernel
theorem dX7_sumOver_21 : decode cX7_sumOver 21 = .ok (.iload 4, 2) := by decide +kernel
theorem dX7_sumOver_23 : decode cX7_sumOver 23 = .ok (.invokestatic 62, 3) := by decide +kernel
theorem dX7_sumOver_26 : decode cX7_sumOver 26 = .ok (.ifCond .eq 10, 3) := by decide +kernel
theorem dX7_sumOver_29 : decode cX7_sumOver 29 = .ok (.iload_n 3, 1) := by decide +kernel
theorem dX7_sumOver_30 : decode cX7_sumOver 30 = .ok (.aload_n 1, 1) := by decide +kernel
theorem dX7_sumOver_31 : decode cX7_sumOver 31 = .ok (.iload 4, 2) := by decide +kernel
theorem dX7_sumOver_33 : decode cX7_sumOver 33 = .ok (.iaload, 1) := by decide +kernel
theorem dX7_sumOver_34 : decode cX7_sumOver 34 = .ok (.iadd, 1) := by decide +kernel
theorem dX7_sumOver_35 : decode cX7_sumOver 35 = .ok (.istore_n 3, 1) := by decide +kernel
theorem dX7_sumOver_36 : decode cX7_sumOver 36 = .ok (.iinc 4 1, 3) := by decide +kernel
theorem dX7_sumOver_39 : decode cX7_sumOver 39 = .ok (.goto (-34), 3) := by decide +kernel
theorem dX7_sumOver_42 : decode cX7_sumOver 42 = .ok (.iload_n 3, 1) := by decide +kernel
theorem dX7_sumOver_43 : decode cX7_sumOver 43 = .ok (.ireturn, 1) := by decide +kernel
theorem dX7_toLearnFor_0 : decode cX7_toLearnFor 0 = .ok (.iconst 1, 1) := by decide +kernel
theorem dX7_toLearnFor_1 : decode cX7_toLearnFor 1 = .ok (.iload_n 2, 1) := by decide +kernel
theorem dX7_toLearnFor_2 : decode cX7_toLearnFor 2 = .ok (.ishl, 1) := by decide +kernel
theorem dX7_toLearnFor_3 : decode cX7_toLearnFor 3 = .ok (.istore_n 3, 1) := by decide +kernel
theorem dX7_toLearnFor_4 : decode cX7_toLearnFor 4 = .ok (.iload_n 2, 1) := by decide +kernel
theorem dX7_toLearnFor_5 : decode cX7_toLearnFor 5 = .ok (.istore 4, 2) := by decide +kernel
theorem dX7_toLearnFor_7 : decode cX7_toLearnFor 7 = .ok (.iload 4, 2) := by decide +kernel
theorem dX7_toLearnFor_9 : decode cX7_toLearnFor 9 = .ok (.ifCond .lt 34, 3) := by decide +kernel
theorem dX7_toLearnFor_12 : decode cX7_toLearnFor 12 = .ok (.iload_n 3, 1) := by decide +kernel
theorem dX7_toLearnFor_13 : decode cX7_toLearnFor 13 = .ok (.iload 4, 2) := by decide +kernel
theorem dX7_toLearnFor_15 : decode cX7_toLearnFor 15 = .ok (.invokestatic 62, 3) := by decide +kernel
theorem dX7_toLearnFor_18 : decode cX7_toLearnFor 18 = .ok (.ifCond .eq 19, 3) := by decide +kernel
theorem dX7_toLearnFor_21 : decode cX7_toLearnFor 21 = .ok (.iload_n 3, 1) := by decide +kernel
theorem dX7_toLearnFor_22 : decode cX7_toLearnFor 22 = .ok (.aload_n 0, 1) := by decide +kernel
theorem dX7_toLearnFor_23 : decode cX7_toLearnFor 23 = .ok (.getfield 18, 3) := by decide +kernel
theorem dX7_toLearnFor_26 : decode cX7_toLearnFor 26 = .ok (.getfield 22, 3) := by decide +kernel
theorem dX7_toLearnFor_29 : decode cX7_toLearnFor 29 = .ok (.getfield 66, 3) := by decide +kernel
theorem dX7_toLearnFor_32 : decode cX7_toLearnFor 32 = .ok (.iload 4, 2) := by decide +kernel
theorem dX7_toLearnFor_34 : decode cX7_toLearnFor 34 = .ok (.iaload, 1) := by decide +kernel
theorem dX7_toLearnFor_35 : decode cX7_toLearnFor 35 = .ok (.ior, 1) := by decide +kernel
theorem dX7_toLearnFor_36 : decode cX7_toLearnFor 36 = .ok (.istore_n 3, 1) := by decide +kernel
theorem dX7_toLearnFor_37 : decode cX7_toLearnFor 37 = .ok (.iinc 4 (-1), 3) := by decide +kernel
theorem dX7_toLearnFor_40 : decode cX7_toLearnFor 40 = .ok (.goto (-33), 3) := by decide +kernel
theorem dX7_toLearnFor_43 : decode cX7_toLearnFor 43 = .ok (.iload_n 3, 1) := by decide +kernel
theorem dX7_toLearnFor_44 : decode cX7_toLearnFor 44 = .ok (.aload_n 0, 1) := by decide +kernel
theorem dX7_toLearnFor_45 : decode cX7_toLearnFor 45 = .ok (.getfield 18, 3) := by decide +kernel
theorem dX7_toLearnFor_48 : decode cX7_toLearnFor 48 = .ok (.getfield 46, 3) := by decide +kernel
theorem dX7_toLearnFor_51 : decode cX7_toLearnFor 51 = .ok (.getfield 69, 3) := by decide +kernel
theorem dX7_toLearnFor_54 : decode cX7_toLearnFor 54 = .ok (.iload_n 1, 1) := by decide +kernel
theorem dX7_toLearnFor_55 : decode cX7_toLearnFor 55 = .ok (.iaload, 1) := by decide +kernel
theorem dX7_toLearnFor_56 : decode cX7_toLearnFor 56 = .ok (.iconst (-1), 1) := by decide +kernel
theorem dX7_toLearnFor_57 : decode cX7_toLearnFor 57 = .ok (.ixor, 1) := by decide +kernel
theorem dX7_toLearnFor_58 : decode cX7_toLearnFor 58 = .ok (.iand, 1) := by decide +kernel
theorem dX7_toLearnFor_59 : decode cX7_toLearnFor 59 = .ok (.ireturn, 1) := by decide +kernel
theorem dX8_fitsCast_0 : decode cX8_fitsCast 0 = .ok (.aload_n 0, 1) := by decide +kernel
theorem dX8_fitsCast_1 : decode cX8_fitsCast 1 = .ok (.getfield 38, 3) := by decide +kernel
theorem dX8_fitsCast_4 : decode cX8_fitsCast 4 = .ok (.iconst 2, 1) := by decide +kernel
theorem dX8_fitsCast_5 : decode cX8_fitsCast 5 = .ok (.if_icmp .ne 31, 3) := by decide +kernel
theorem dX8_fitsCast_8 : decode cX8_fitsCast 8 = .ok (.aload_n 0, 1) := by decide +kernel
theorem dX8_fitsCast_9 : decode cX8_fitsCast 9 = .ok (.getfield 45, 3) := by decide +kernel
theorem dX8_fitsCast_12 : decode cX8_fitsCast 12 = .ok (.getstatic 68, 3) := by decide +kernel
theorem dX8_fitsCast_15 : decode cX8_fitsCast 15 = .ok (.iload_n 1, 1) := by decide +kernel
theorem dX8_fitsCast_16 : decode cX8_fitsCast 16 = .ok (.iaload, 1) := by decide +kernel
theorem dX8_fitsCast_17 : decode cX8_fitsCast 17 = .ok (.if_icmp .lt 19, 3) := by decide +kernel
theorem dX8_fitsCast_20 : decode cX8_fitsCast 20 = .ok (.aload_n 0, 1) := by decide +kernel
theorem dX8_fitsCast_21 : decode cX8_fitsCast 21 = .ok (.getfield 45, 3) := by decide +kernel
theorem dX8_fitsCast_24 : decode cX8_fitsCast 24 = .ok (.getstatic 71, 3) := by decide +kernel
theorem dX8_fitsCast_27 : decode cX8_fitsCast 27 = .ok (.iload_n 1, 1) := by decide +kernel
theorem dX8_fitsCast_28 : decode cX8_fitsCast 28 = .ok (.iaload, 1) := by decide +kernel
theorem dX8_fitsCast_29 : decode cX8_fitsCast 29 = .ok (.if_icmp .gt 7, 3) := by decide +kernel
theorem dX8_fitsCast_32 : decode cX8_fitsCast 32 = .ok (.iconst 1, 1) := by decide +kernel
theorem dX8_fitsCast_33 : decode cX8_fitsCast 33 = .ok (.goto 4, 3) := by decide +kernel
theorem dX8_fitsCast_36 : decode cX8_fitsCast 36 = .ok (.iconst 0, 1) := by decide +kernel
theorem dX8_fitsCast_37 : decode cX8_fitsCast 37 = .ok (.ireturn, 1) := by decide +kernel
theorem dX8_fitsThing_0 : decode cX8_fitsThing 0 = .ok (.aload_n 0, 1) := by decide +kernel
theorem dX8_fitsThing_1 : decode cX8_fitsThing 1 = .ok (.getfield 38, 3) := by decide +kernel
theorem dX8_fitsThing_4 : decode cX8_fitsThing 4 = .ok (.iconst 2, 1) := by decide +kernel
theorem dX8_fitsThing_5 : decode cX8_fitsThing 5 = .ok (.if_icmp .eq 5, 3) := by decide +kernel
theorem dX8_fitsThing_8 : decode cX8_fitsThing 8 = .ok (.iconst 0, 1) := by decide +kernel
theorem dX8_fitsThing_9 : decode cX8_fitsThing 9 = .ok (.ireturn, 1) := by decide +kernel
theorem dX8_fitsThing_10 : decode cX8_fitsThing 10 = .ok (.iload_n 1, 1) := by decide +kernel
theorem dX8_fitsThing_11 : decode cX8_fitsThing 11 = .ok (.iconst 3, 1) := by decide +kernel
theorem dX8_fitsThing_12 : decode cX8_fitsThing 12 = .ok (.if_icmp .ge 35, 3) := by decide +kernel
theorem dX8_fitsThing_15 : decode cX8_fitsThing 15 = .ok (.aload_n 0, 1) := by decide +kernel
theorem dX8_fitsThing_16 : decode cX8_fitsThing 16 = .ok (.getfield 45, 3) := by decide +kernel
theorem dX8_fitsThing_19 : decode cX8_fitsThing 19 = .ok (.getstatic 62, 3) := by decide +kernel
theorem dX8_fitsThing_22 : decode cX8_fitsThing 22 = .ok (.iload_n 1, 1) := by decide +kernel
theorem dX8_fitsThing_23 : decode cX8_fitsThing 23 = .ok (.iaload, 1) := by decide +kernel
theorem dX8_fitsThing_24 : decode cX8_fitsThing 24 = .ok (.if_icmp .lt 19, 3) := by decide +kernel
theorem dX8_fitsThing_27 : decode cX8_fitsThing 27 = .ok (.aload_n 0, 1) := by decide +kernel
theorem dX8_fitsThing_28 : decode cX8_fitsThing 28 = .ok (.getfield 45, 3) := by decide +kernel
theorem dX8_fitsThing_31 : decode cX8_fitsThing 31 = .ok (.getstatic 65, 3) := by decide +kernel
theorem dX8_fitsThing_34 : decode cX8_fitsThing 34 = .ok (.iload_n 1, 1) := by decide +kernel
theorem dX8_fitsThing_35 : decode cX8_fitsThing 35 = .ok (.iaload, 1) := by decide +kernel
theorem dX8_fitsThing_36 : decode cX8_fitsThing 36 = .ok (.if_icmp .gt 7, 3) := by decide +kernel
theorem dX8_fitsThing_39 : decode cX8_fitsThing 39 = .ok (.iconst 1, 1) := by decide +kernel
theorem dX8_fitsThing_40 : decode cX8_fitsThing 40 = .ok (.goto 26, 3) := by decide +kernel
theorem dX8_fitsThing_43 : decode cX8_fitsThing 43 = .ok (.iconst 0, 1) := by decide +kernel
theorem dX8_fitsThing_44 : decode cX8_fitsThing 44 = .ok (.goto 22, 3) := by decide +kernel
theorem dX8_fitsThing_47 : decode cX8_fitsThing 47 = .ok (.aload_n 0, 1) := by decide +kernel
theorem dX8_fitsThing_48 : decode cX8_fitsThing 48 = .ok (.getfield 45, 3) := by decide +kernel
theorem dX8_fitsThing_51 : decode cX8_fitsThing 51 = .ok (.aload_n 0, 1) := by decide +kernel
theorem dX8_fitsThing_52 : decode cX8_fitsThing 52 = .ok (.getfield 18, 3) := by decide +kernel
theorem dX8_fitsThing_55 : decode cX8_fitsThing 55 = .ok (.getfield 25, 3) := by decide +kernel
theorem dX8_fitsThing_58 : decode cX8_fitsThing 58 = .ok (.if_icmp .gt 7, 3) := by decide +kernel
theorem dX8_fitsThing_61 : decode cX8_fitsThing 61 = .ok (.iconst 1, 1) := by decide +kernel
theorem dX8_fitsThing_62 : decode cX8_fitsThing 62 = .ok (.goto 4, 3) := by decide +kernel
theorem dX8_fitsThing_65 : decode cX8_fitsThing 65 = .ok (.iconst 0, 1) := by decide +kernel
theorem dX8_fitsThing_66 : decode cX8_fitsThing 66 = .ok (.ireturn, 1) := by decide +kernel
theorem dX8_init_0 : decode cX8_init 0 = .ok (.aload_n 0, 1) := by decide +kernel
theorem dX8_init_1 : decode cX8_init 1 = .ok (.invokespecial 3, 3) := by decide +kernel
theorem dX8_init_4 : decode cX8_init 4 = .ok (.aload_n 0, 1) := by decide +kernel
theorem dX8_init_5 : decode cX8_init 5 = .ok (.sipush 150, 3) := by decide +kernel
theorem dX8_init_8 : decode cX8_init 8 = .ok (.newarray .int, 2) := by decide +kernel
theorem dX8_init_10 : decode cX8_init 10 = .ok (.putfield 9, 3) := by decide +kernel
theorem dX8_init_13 : decode cX8_init 13 = .ok (.aload_n 0, 1) := by decide +kernel
theorem dX8_init_14 : decode cX8_init 14 = .ok (.new 15, 3) := by decide +kernel
theorem dX8_init_17 : decode cX8_init 17 = .ok (.dup, 1) := by decide +kernel
theorem dX8_init_18 : decode cX8_init 18 = .ok (.invokespecial 17, 3) := by decide +kernel
theorem dX8_init_21 : decode cX8_init 21 = .ok (.putfield 18, 3) := by decide +kernel
theorem dX8_init_24 : decode cX8_init 24 = .ok (.aload_n 0, 1) := by decide +kernel
theorem dX8_init_25 : decode cX8_init 25 = .ok (.iconst 5, 1) := by decide +kernel
theorem dX8_init_26 : decode cX8_init 26 = .ok (.newarray .int, 2) := by decide +kernel
theorem dX8_init_28 : decode cX8_init 28 = .ok (.putfield 22, 3) := by decide +kernel
theorem dX8_init_31 : decode cX8_init 31 = .ok (.return_, 1) := by decide +kernel
theorem dX8_isDigit_0 : decode cX8_isDigit 0 = .ok (.iload_n 0, 1) := by decide +kernel
theorem dX8_isDigit_1 : decode cX8_isDigit 1 = .ok (.bipush 48, 2) := by decide +kernel
theorem dX8_isDigit_3 : decode cX8_isDigit 3 = .ok (.if_icmp .lt 13, 3) := by decide +kernel
theorem dX8_isDigit_6 : decode cX8_isDigit 6 = .ok (.iload_n 0, 1) := by decide +kernel
theorem dX8_isDigit_7 : decode cX8_isDigit 7 = .ok (.bipush 57, 2) := by decide +kernel
theorem dX8_isDigit_9 : decode cX8_isDigit 9 = .ok (.if_icmp .gt 7, 3) := by decide +kernel
theorem dX8_isDigit_12 : decode cX8_isDigit 12 = .ok (.iconst 1, 1) := by decide +kernel
theorem dX8_isDigit_13 : decode cX8_isDigit 13 = .ok (.goto 4, 3) := by decide +kernel
theorem dX8_isDigit_16 : decode cX8_isDigit 16 = .ok (.iconst 0, 1) := by decide +kernel
theorem dX8_isDigit_17 : decode cX8_isDigit 17 = .ok (.ireturn, 1) := by decide +kernel
theorem dX8_isLetter_0 : decode cX8_isLetter 0 = .ok (.iload_n 0, 1) := by decide +kernel
theorem dX8_isLetter_1 : decode cX8_isLetter 1 = .ok (.bipush 97, 2) := by decide +kernel
theorem dX8_isLetter_3 : decode cX8_isLetter 3 = .ok (.if_icmp .lt 13, 3) := by decide +kernel
theorem dX8_isLetter_6 : decode cX8_isLetter 6 = .ok (.iload_n 0, 1) := by decide +kernel
theorem dX8_isLetter_7 : decode cX8_isLetter 7 = .ok (.bipush 122, 2) := by decide +kernel
theorem dX8_isLetter_9 : decode cX8_isLetter 9 = .ok (.if_icmp .gt 7, 3) := by decide +kernel
theorem dX8_isLetter_12 : decode cX8_isLetter 12 = .ok (.iconst 1, 1) := by decide +kernel
theorem dX8_isLetter_13 : decode cX8_isLetter 13 = .ok (.goto 4, 3) := by decide +kernel
theorem dX8_isLetter_16 : decode cX8_isLetter 16 = .ok (.iconst 0, 1) := by decide +kernel
theorem dX8_isLetter_17 : decode cX8_isLetter 17 = .ok (.ireturn, 1) := by decide +kernel
theorem dX8_look_0 : decode cX8_look 0 = .ok (.aload_n 0, 1) := by decide +kernel
theorem dX8_look_1 : decode cX8_look 1 = .ok (.getfield 32, 3) := by decide +kernel
theorem dX8_look_4 : decode cX8_look 4 = .ok (.aload_n 0, 1) := by decide +kernel
theorem dX8_look_5 : decode cX8_look 5 = .ok (.getfield 74, 3) := by decide +kernel
theorem dX8_look_8 : decode cX8_look 8 = .ok (.if_icmp .ge 30, 3) := by decide +kernel
theorem dX8_look_11 : decode cX8_look 11 = .ok (.aload_n 0, 1) := by decide +kernel
theorem dX8_look_12 : decode cX8_look 12 = .ok (.getfield 9, 3) := by decide +kernel
theorem dX8_look_15 : decode cX8_look 15 = .ok (.aload_n 0, 1) := by decide +kernel
theorem dX8_look_16 : decode cX8_look 16 = .ok (.getfield 32, 3) := by decide +kernel
theorem dX8_look_19 : decode cX8_look 19 = .ok (.iaload, 1) := by decide +kernel
theorem dX8_look_20 : decode cX8_look 20 = .ok (.bipush 32, 2) := by decide +kernel
theorem dX8_look_22 : decode cX8_look 22 = .ok (.if_icmp .ne 16, 3) := by decide +kernel
theorem dX8_look_25 : decode cX8_look 25 = .ok (.aload_n 0, 1) := by decide +kernel
theorem dX8_look_26 : decode cX8_look 26 = .ok (.dup, 1) := by decide +kernel
theorem dX8_look_27 : decode cX8_look 27 = .ok (.getfield 32, 3) := by decide +kernel
theorem dX8_look_30 : decode cX8_look 30 = .ok (.iconst 1, 1) := by decide +kernel
theorem dX8_look_31 : decode cX8_look 31 = .ok (.iadd, 1) := by decide +kernel
theorem dX8_look_32 : decode cX8_look 32 = .ok (.putfield 32, 3) := by decide +kernel
theorem dX8_look_35 : decode cX8_look 35 = .ok (.goto (-35), 3) := by decide +kernel
theorem dX8_look_38 : decode cX8_look 38 = .ok (.aload_n 0, 1) := by decide +kernel
theorem dX8_look_39 : decode cX8_look 39 = .ok (.aload_n 0, 1) := by decide +kernel
theorem dX8_look_40 : decode cX8_look 40 = .ok (.getfield 32, 3) := by decide +kernel
theorem dX8_look_43 : decode cX8_look 43 = .ok (.putfield 77, 3) := by decide +kernel
theorem dX8_look_46 : decode cX8_look 46 = .ok (.aload_n 0, 1) := by decide +kernel
theorem dX8_look_47 : decode cX8_look 47 = .ok (.getfield 32, 3) := by decide +kernel
theorem dX8_look_50 : decode cX8_look 50 = .ok (.aload_n 0, 1) := by decide +kernel
theorem dX8_look_51 : decode cX8_look 51 = .ok (.getfield 74, 3) := by decide +kernel
theorem dX8_look_54 : decode cX8_look 54 = .ok (.if_icmp .lt 11, 3) := by decide +kernel
theorem dX8_look_57 : decode cX8_look 57 = .ok (.aload_n 0, 1) := by decide +kernel
theorem dX8_look_58 : decode cX8_look 58 = .ok (.iconst 0, 1) := by decide +kernel
theorem dX8_look_59 : decode cX8_look 59 = .ok (.putfield 38, 3) := by decide +kernel
theorem dX8_look_62 : decode cX8_look 62 = .ok (.goto 80, 3) := by decide +kernel
theorem dX8_look_65 : decode cX8_look 65 = .ok (.aload_n 0, 1) := by decide +kernel
theorem dX8_look_66 : decode cX8_look 66 = .ok (.getfield 9, 3) := by decide +kernel
theorem dX8_look_69 : decode cX8_look 69 = .ok (.aload_n 0, 1) := by decide +kernel
theorem dX8_look_70 : decode cX8_look 70 = .ok (.getfield 32, 3) := by decide +kernel
theorem dX8_look_73 : decode cX8_look 73 = .ok (.iaload, 1) := by decide +kernel
theorem dX8_look_74 : decode cX8_look 74 = .ok (.invokestatic 80, 3) := by decide +kernel
theorem dX8_look_77 : decode cX8_look 77 = .ok (.ifCond .eq 10, 3) := by decide +kernel
theorem dX8_look_80 : decode cX8_look 80 = .ok (.aload_n 0, 1) := by decide +kernel
theorem dX8_look_81 : decode cX8_look 81 = .ok (.invokevirtual 83, 3) := by decide +kernel
theorem dX8_look_84 : decode cX8_look 84 = .ok (.goto 58, 3) := by decide +kernel
theorem dX8_look_87 : decode cX8_look 87 = .ok (.aload_n 0, 1) := by decide +kernel
theorem dX8_look_88 : decode cX8_look 88 = .ok (.getfield 9, 3) := by decide +kernel
theorem dX8_look_91 : decode cX8_look 91 = .ok (.aload_n 0, 1) := by decide +kernel
theorem dX8_look_92 : decode cX8_look 92 = .ok (.getfield 32, 3) := by decide +kernel
theorem dX8_look_95 : decode cX8_look 95 = .ok (.iaload, 1) := by decide +kernel
theorem dX8_look_96 : decode cX8_look 96 = .ok (.invokestatic 86, 3) := by decide +kernel
theorem dX8_look_99 : decode cX8_look 99 = .ok (.ifCond .eq 10, 3) := by decide +kernel
theorem dX8_look_102 : decode cX8_look 102 = .ok (.aload_n 0, 1) := by decide +kernel
theorem dX8_look_103 : decode cX8_look 103 = .ok (.invokevirtual 89, 3) := by decide +kernel
theorem dX8_look_106 : decode cX8_look 106 = .ok (.goto 36, 3) := by decide +kernel
theorem dX8_look_109 : decode cX8_look 109 = .ok (.aload_n 0, 1) := by decide +kernel
theorem dX8_look_110 : decode cX8_look 110 = .ok (.aload_n 0, 1) := by decide +kernel
theorem dX8_look_111 : decode cX8_look 111 = .ok (.getfield 9, 3) := by decide +kernel
theorem dX8_look_114 : decode cX8_look 114 = .ok (.aload_n 0, 1) := by decide +kernel
theorem dX8_look_115 : decode cX8_look 115 = .ok (.getfield 32, 3) := by decide +kernel
theorem dX8_look_118 : decode cX8_look 118 = .ok (.iaload, 1) := by decide +kernel
theorem dX8_look_119 : decode cX8_look 119 = .ok (.bipush 59, 2) := by decide +kernel
theorem dX8_look_121 : decode cX8_look 121 = .ok (.if_icmp .ne 7, 3) := by decide +kernel
theorem dX8_look_124 : decode cX8_look 124 = .ok (.iconst 3, 1) := by decide +kernel
theorem dX8_look_125 : decode cX8_look 125 = .ok (.goto 4, 3) := by decide +kernel
theorem dX8_look_128 : decode cX8_look 128 = .ok (.iconst 4, 1) := by decide +kernel
theorem dX8_look_129 : decode cX8_look 129 = .ok (.putfield 38, 3) := by decide +kernel
theorem dX8_look_132 : decode cX8_look 132 = .ok (.aload_n 0, 1) := by decide +kernel
theorem dX8_look_133 : decode cX8_look 133 = .ok (.dup, 1) := by decide +kernel
theorem dX8_look_134 : decode cX8_look 134 = .ok (.getfield 32, 3) := by decide +kernel
theorem dX8_look_137 : decode cX8_look 137 = .ok (.iconst 1, 1) := by decide +kernel
theorem dX8_look_138 : decode cX8_look 138 = .ok (.iadd, 1) := by decide +kernel
theorem dX8_look_139 : decode cX8_look 139 = .ok (.putfield 32, 3) := by decide +kernel
theorem dX8_look_142 : decode cX8_look 142 = .ok (.return_, 1) := by decide +kernel
theorem dX8_lookAtLetters_0 : decode cX8_lookAtLetters 0 = .ok (.aload_n 0, 1) := by decide +kernel
theorem dX8_lookAtLetters_1 : decode cX8_lookAtLetters 1 = .ok (.getfield 9, 3) := by decide +kernel
theorem dX8_lookAtLetters_4 : decode cX8_lookAtLetters 4 = .ok (.aload_n 0, 1) := by decide +kernel
theorem dX8_lookAtLetters_5 : decode cX8_lookAtLetters 5 = .ok (.getfield 32, 3) := by decide +kernel
theorem dX8_lookAtLetters_8 : decode cX8_lookAtLetters 8 = .ok (.iaload, 1) := by decide +kernel
theorem dX8_lookAtLetters_9 : decode cX8_lookAtLetters 9 = .ok (.istore_n 1, 1) := by decide +kernel
theorem dX8_lookAtLetters_10 : decode cX8_lookAtLetters 10 = .ok (.iconst 0, 1) := by decide +kernel
theorem dX8_lookAtLetters_11 : decode cX8_lookAtLetters 11 = .ok (.istore_n 2, 1) := by decide +kernel
theorem dX8_lookAtLetters_12 : decode cX8_lookAtLetters 12 = .ok (.aload_n 0, 1) := by decide +kernel
theorem dX8_lookAtLetters_13 : decode cX8_lookAtLetters 13 = .ok (.getfield 32, 3) := by decide +kernel
theorem dX8_lookAtLetters_16 : decode cX8_lookAtLetters 16 = .ok (.aload_n 0, 1) := by decide +kernel
theorem dX8_lookAtLetters_17 : decode cX8_lookAtLetters 17 = .ok (.getfield 74, 3) := by decide +kernel
theorem dX8_lookAtLetters_20 : decode cX8_lookAtLetters 20 = .ok (.if_icmp .ge 34, 3) := by decide +kernel
theorem dX8_lookAtLetters_23 : decode cX8_lookAtLetters 23 = .ok (.aload_n 0, 1) := by decide +kernel
theorem dX8_lookAtLetters_24 : decode cX8_lookAtLetters 24 = .ok (.getfield 9, 3) := by decide +kernel
theorem dX8_lookAtLetters_27 : decode cX8_lookAtLetters 27 = .ok (.aload_n 0, 1) := by decide +kernel
theorem dX8_lookAtLetters_28 : decode cX8_lookAtLetters 28 = .ok (.getfield 32, 3) := by decide +kernel
theorem dX8_lookAtLetters_31 : decode cX8_lookAtLetters 31 = .ok (.iaload, 1) := by decide +kernel
theorem dX8_lookAtLetters_32 : decode cX8_lookAtLetters 32 = .ok (.invokestatic 80, 3) := by decide +kernel
theorem dX8_lookAtLetters_35 : decode cX8_lookAtLetters 35 = .ok (.ifCond .eq 19, 3) := by decide +kernel
theorem dX8_lookAtLetters_38 : decode cX8_lookAtLetters 38 = .ok (.iinc 2 1, 3) := by decide +kernel
theorem dX8_lookAtLetters_41 : decode cX8_lookAtLetters 41 = .ok (.aload_n 0, 1) := by decide +kernel
theorem dX8_lookAtLetters_42 : decode cX8_lookAtLetters 42 = .ok (.dup, 1) := by decide +kernel
theorem dX8_lookAtLetters_43 : decode cX8_lookAtLetters 43 = .ok (.getfield 32, 3) := by decide +kernel
theorem dX8_lookAtLetters_46 : decode cX8_lookAtLetters 46 = .ok (.iconst 1, 1) := by decide +kernel
theorem dX8_lookAtLetters_47 : decode cX8_lookAtLetters 47 = .ok (.iadd, 1) := by decide +kernel
theorem dX8_lookAtLetters_48 : decode cX8_lookAtLetters 48 = .ok (.putfield 32, 3) := by decide +kernel
theorem dX8_lookAtLetters_51 : decode cX8_lookAtLetters 51 = .ok (.goto (-39), 3) := by decide +kernel
theorem dX8_lookAtLetters_54 : decode cX8_lookAtLetters 54 = .ok (.aload_n 0, 1) := by decide +kernel
theorem dX8_lookAtLetters_55 : decode cX8_lookAtLetters 55 = .ok (.iconst 1, 1) := by decide +kernel
theorem dX8_lookAtLetters_56 : decode cX8_lookAtLetters 56 = .ok (.putfield 38, 3) := by decide +kernel
theorem dX8_lookAtLetters_59 : decode cX8_lookAtLetters 59 = .ok (.aload_n 0, 1) := by decide +kernel
theorem dX8_lookAtLetters_60 : decode cX8_lookAtLetters 60 = .ok (.iload_n 2, 1) := by decide +kernel
theorem dX8_lookAtLetters_61 : decode cX8_lookAtLetters 61 = .ok (.iconst 1, 1) := by decide +kernel
theorem dX8_lookAtLetters_62 : decode cX8_lookAtLetters 62 = .ok (.if_icmp .ne 7, 3) := by decide +kernel
theorem dX8_lookAtLetters_65 : decode cX8_lookAtLetters 65 = .ok (.iload_n 1, 1) := by decide +kernel
theorem dX8_lookAtLetters_66 : decode cX8_lookAtLetters 66 = .ok (.goto 4, 3) := by decide +kernel
theorem dX8_lookAtLetters_69 : decode cX8_lookAtLetters 69 = .ok (.iconst 0, 1) := by decide +kernel
theorem dX8_lookAtLetters_70 : decode cX8_lookAtLetters 70 = .ok (.putfield 45, 3) := by decide +kernel
theorem dX8_lookAtLetters_73 : decode cX8_lookAtLetters 73 = .ok (.return_, 1) := by decide +kernel
theorem dX8_lookAtNumber_0 : decode cX8_lookAtNumber 0 = .ok (.aload_n 0, 1) := by decide +kernel
theorem dX8_lookAtNumber_1 : decode cX8_lookAtNumber 1 = .ok (.getfield 9, 3) := by decide +kernel
theorem dX8_lookAtNumber_4 : decode cX8_lookAtNumber 4 = .ok (.aload_n 0, 1) := by decide +kernel
theorem dX8_lookAtNumber_5 : decode cX8_lookAtNumber 5 = .ok (.getfield 32, 3) := by decide +kernel
theorem dX8_lookAtNumber_8 : decode cX8_lookAtNumber 8 = .ok (.iaload, 1) := by decide +kernel
theorem dX8_lookAtNumber_9 : decode cX8_lookAtNumber 9 = .ok (.istore_n 1, 1) := by decide +kernel
theorem dX8_lookAtNumber_10 : decode cX8_lookAtNumber 10 = .ok (.iconst 0, 1) := by decide +kernel
theorem dX8_lookAtNumber_11 : decode cX8_lookAtNumber 11 = .ok (.istore_n 2, 1) := by decide +kernel
theorem dX8_lookAtNumber_12 : decode cX8_lookAtNumber 12 = .ok (.aload_n 0, 1) := by decide +kernel
theorem dX8_lookAtNumber_13 : decode cX8_lookAtNumber 13 = .ok (.iconst 0, 1) := by decide +kernel
theorem dX8_lookAtNumber_14 : decode cX8_lookAtNumber 14 = .ok (.putfield 45, 3) := by decide +kernel
theorem dX8_lookAtNumber_17 : decode cX8_lookAtNumber 17 = .ok (.aload_n 0, 1) := by decide +kernel
theorem dX8_lookAtNumber_18 : decode cX8_lookAtNumber 18 = .ok (.getfield 32, 3) := by decide +kernel
theorem dX8_lookAtNumber_21 : decode cX8_lookAtNumber 21 = .ok (.aload_n 0, 1) := by decide +kernel
theorem dX8_lookAtNumber_22 : decode cX8_lookAtNumber 22 = .ok (.getfield 74, 3) := by decide +kernel
theorem dX8_lookAtNumber_25 : decode cX8_lookAtNumber 25 = .ok (.if_icmp .ge 63, 3) := by decide +kernel
theorem dX8_lookAtNumber_28 : decode cX8_lookAtNumber 28 = .ok (.aload_n 0, 1) := by decide +kernel
theorem dX8_lookAtNumber_29 : decode cX8_lookAtNumber 29 = .ok (.getfield 9, 3) := by decide +kernel
theorem dX8_lookAtNumber_32 : decode cX8_lookAtNumber 32 = .ok (.aload_n 0, 1) := by decide +kernel
theorem dX8_lookAtNumber_33 : decode cX8_lookAtNumber 33 = .ok (.getfield 32, 3) := by decide +kernel
theorem dX8_lookAtNumber_36 : decode cX8_lookAtNumber 36 = .ok (.iaload, 1) := by decide +kernel
theorem dX8_lookAtNumber_37 : decode cX8_lookAtNumber 37 = .ok (.invokestatic 86, 3) := by decide +kernel
theorem dX8_lookAtNumber_40 : decode cX8_lookAtNumber 40 = .ok (.ifCond .eq 48, 3) := by decide +kernel
theorem dX8_lookAtNumber_43 : decode cX8_lookAtNumber 43 = .ok (.aload_n 0, 1) := by decide +kernel
theorem dX8_lookAtNumber_44 : decode cX8_lookAtNumber 44 = .ok (.aload_n 0, 1) := by decide +kernel
theorem dX8_lookAtNumber_45 : decode cX8_lookAtNumber 45 = .ok (.getfield 45, 3) := by decide +kernel
theorem dX8_lookAtNumber_48 : decode cX8_lookAtNumber 48 = .ok (.bipush 10, 2) := by decide +kernel
theorem dX8_lookAtNumber_50 : decode cX8_lookAtNumber 50 = .ok (.imul, 1) := by decide +kernel
theorem dX8_lookAtNumber_51 : decode cX8_lookAtNumber 51 = .ok (.aload_n 0, 1) := by decide +kernel
theorem dX8_lookAtNumber_52 : decode cX8_lookAtNumber 52 = .ok (.getfield 9, 3) := by decide +kernel
theorem dX8_lookAtNumber_55 : decode cX8_lookAtNumber 55 = .ok (.aload_n 0, 1) := by decide +kernel
theorem dX8_lookAtNumber_56 : decode cX8_lookAtNumber 56 = .ok (.getfield 32, 3) := by decide +kernel
theorem dX8_lookAtNumber_59 : decode cX8_lookAtNumber 59 = .ok (.iaload, 1) := by decide +kernel
theorem dX8_lookAtNumber_60 : decode cX8_lookAtNumber 60 = .ok (.iadd, 1) := by decide +kernel
theorem dX8_lookAtNumber_61 : decode cX8_lookAtNumber 61 = .ok (.bipush 48, 2) := by decide +kernel
theorem dX8_lookAtNumber_63 : decode cX8_lookAtNumber 63 = .ok (.isub, 1) := by decide +kernel
theorem dX8_lookAtNumber_64 : decode cX8_lookAtNumber 64 = .ok (.bipush 100, 2) := by decide +kernel
theorem dX8_lookAtNumber_66 : decode cX8_lookAtNumber 66 = .ok (.invokestatic 92, 3) := by decide +kernel
theorem dX8_lookAtNumber_69 : decode cX8_lookAtNumber 69 = .ok (.putfield 45, 3) := by decide +kernel
theorem dX8_lookAtNumber_72 : decode cX8_lookAtNumber 72 = .ok (.iinc 2 1, 3) := by decide +kernel
theorem dX8_lookAtNumber_75 : decode cX8_lookAtNumber 75 = .ok (.aload_n 0, 1) := by decide +kernel
theorem dX8_lookAtNumber_76 : decode cX8_lookAtNumber 76 = .ok (.dup, 1) := by decide +kernel
theorem dX8_lookAtNumber_77 : decode cX8_lookAtNumber 77 = .ok (.getfield 32, 3) := by decide +kernel
theorem dX8_lookAtNumber_80 : decode cX8_lookAtNumber 80 = .ok (.iconst 1, 1) := by decide +kernel
theorem dX8_lookAtNumber_81 : decode cX8_lookAtNumber 81 = .ok (.iadd, 1) := by decide +kernel
theorem dX8_lookAtNumber_82 : decode cX8_lookAtNumber 82 = .ok (.putfield 32, 3) := by decide +kernel
theorem dX8_lookAtNumber_85 : decode cX8_lookAtNumber 85 = .ok (.goto (-68), 3) := by decide +kernel
theorem dX8_lookAtNumber_88 : decode cX8_lookAtNumber 88 = .ok (.iload_n 1, 1) := by decide +kernel
theorem dX8_lookAtNumber_89 : decode cX8_lookAtNumber 89 = .ok (.bipush 48, 2) := by decide +kernel
theorem dX8_lookAtNumber_91 : decode cX8_lookAtNumber 91 = .ok (.if_icmp .ne 12, 3) := by decide +kernel
theorem dX8_lookAtNumber_94 : decode cX8_lookAtNumber 94 = .ok (.iload_n 2, 1) := by decide +kernel
theorem dX8_lookAtNumber_95 : decode cX8_lookAtNumber 95 = .ok (.iconst 1, 1) := by decide +kernel
theorem dX8_lookAtNumber_96 : decode cX8_lookAtNumber 96 = .ok (.if_icmp .le 7, 3) := by decide +kernel
theorem dX8_lookAtNumber_99 : decode cX8_lookAtNumber 99 = .ok (.iconst 1, 1) := by decide +kernel
theorem dX8_lookAtNumber_100 : decode cX8_lookAtNumber 100 = .ok (.goto 4, 3) := by decide +kernel
theorem dX8_lookAtNumber_103 : decode cX8_lookAtNumber 103 = .ok (.iconst 0, 1) := by decide +kernel
theorem dX8_lookAtNumber_104 : decode cX8_lookAtNumber 104 = .ok (.istore_n 3, 1) := by decide +kernel
theorem dX8_lookAtNumber_105 : decode cX8_lookAtNumber 105 = .ok (.aload_n 0, 1) := by decide +kernel
theorem dX8_lookAtNumber_106 : decode cX8_lookAtNumber 106 = .ok (.iload_n 3, 1) := by decide +kernel
theorem dX8_lookAtNumber_107 : decode cX8_lookAtNumber 107 = .ok (.ifCond .ne 12, 3) := by decide +kernel
theorem dX8_lookAtNumber_110 : decode cX8_lookAtNumber 110 = .ok (.aload_n 0, 1) := by decide +kernel
theorem dX8_lookAtNumber_111 : decode cX8_lookAtNumber 111 = .ok (.getfield 45, 3) := by decide +kernel
theorem dX8_lookAtNumber_114 : decode cX8_lookAtNumber 114 = .ok (.bipush 99, 2) := by decide +kernel
theorem dX8_lookAtNumber_116 : decode cX8_lookAtNumber 116 = .ok (.if_icmp .le 7, 3) := by decide +kernel
theorem dX8_lookAtNumber_119 : decode cX8_lookAtNumber 119 = .ok (.iconst 4, 1) := by decide +kernel
theorem dX8_lookAtNumber_120 : decode cX8_lookAtNumber 120 = .ok (.goto 4, 3) := by decide +kernel
theorem dX8_lookAtNumber_123 : decode cX8_lookAtNumber 123 = .ok (.iconst 2, 1) := by decide +kernel
theorem dX8_lookAtNumber_124 : decode cX8_lookAtNumber 124 = .ok (.putfield 38, 3) := by decide +kernel
theorem dX8_lookAtNumber_127 : decode cX8_lookAtNumber 127 = .ok (.return_, 1) := by decide +kernel
theorem dX8_readsAll_0 : decode cX8_readsAll 0 = .ok (.aload_n 0, 1) := by decide +kernel
theorem dX8_readsAll_1 : decode cX8_readsAll 1 = .ok (.getfield 18, 3) := by decide +kernel
theorem dX8_readsAll_4 : decode cX8_readsAll 4 = .ok (.iconst 0, 1) := by decide +kernel
theorem dX8_readsAll_5 : decode cX8_readsAll 5 = .ok (.putfield 25, 3) := by decide +kernel
theorem dX8_readsAll_8 : decode cX8_readsAll 8 = .ok (.aload_n 0, 1) := by decide +kernel
theorem dX8_readsAll_9 : decode cX8_readsAll 9 = .ok (.getfield 18, 3) := by decide +kernel
theorem dX8_readsAll_12 : decode cX8_readsAll 12 = .ok (.iconst 0, 1) := by decide +kernel
theorem dX8_readsAll_13 : decode cX8_readsAll 13 = .ok (.putfield 29, 3) := by decide +kernel
theorem dX8_readsAll_16 : decode cX8_readsAll 16 = .ok (.aload_n 0, 1) := by decide +kernel
theorem dX8_readsAll_17 : decode cX8_readsAll 17 = .ok (.iconst 0, 1) := by decide +kernel
theorem dX8_readsAll_18 : decode cX8_readsAll 18 = .ok (.putfield 32, 3) := by decide +kernel
theorem dX8_readsAll_21 : decode cX8_readsAll 21 = .ok (.aload_n 0, 1) := by decide +kernel
theorem dX8_readsAll_22 : decode cX8_readsAll 22 = .ok (.invokevirtual 35, 3) := by decide +kernel
theorem dX8_readsAll_25 : decode cX8_readsAll 25 = .ok (.iconst 0, 1) := by decide +kernel
theorem dX8_readsAll_26 : decode cX8_readsAll 26 = .ok (.istore_n 1, 1) := by decide +kernel
theorem dX8_readsAll_27 : decode cX8_readsAll 27 = .ok (.iload_n 1, 1) := by decide +kernel
theorem dX8_readsAll_28 : decode cX8_readsAll 28 = .ok (.sipush 150, 3) := by decide +kernel
theorem dX8_readsAll_31 : decode cX8_readsAll 31 = .ok (.if_icmp .ge 25, 3) := by decide +kernel
theorem dX8_readsAll_34 : decode cX8_readsAll 34 = .ok (.aload_n 0, 1) := by decide +kernel
theorem dX8_readsAll_35 : decode cX8_readsAll 35 = .ok (.getfield 38, 3) := by decide +kernel
theorem dX8_readsAll_38 : decode cX8_readsAll 38 = .ok (.ifCond .eq 18, 3) := by decide +kernel
theorem dX8_readsAll_41 : decode cX8_readsAll 41 = .ok (.aload_n 0, 1) := by decide +kernel
theorem dX8_readsAll_42 : decode cX8_readsAll 42 = .ok (.invokevirtual 41, 3) := by decide +kernel
theorem dX8_readsAll_45 : decode cX8_readsAll 45 = .ok (.ifCond .ne 5, 3) := by decide +kernel
theorem dX8_readsAll_48 : decode cX8_readsAll 48 = .ok (.iconst 0, 1) := by decide +kernel
theorem dX8_readsAll_49 : decode cX8_readsAll 49 = .ok (.ireturn, 1) := by decide +kernel
theorem dX8_readsAll_50 : decode cX8_readsAll 50 = .ok (.iinc 1 1, 3) := by decide +kernel
theorem dX8_readsAll_53 : decode cX8_readsAll 53 = .ok (.goto (-26), 3) := by decide +kernel
theorem dX8_readsAll_56 : decode cX8_readsAll 56 = .ok (.aload_n 0, 1) := by decide +kernel
theorem dX8_readsAll_57 : decode cX8_readsAll 57 = .ok (.getfield 38, 3) := by decide +kernel
theorem dX8_readsAll_60 : decode cX8_readsAll 60 = .ok (.ifCond .ne 7, 3) := by decide +kernel
theorem dX8_readsAll_63 : decode cX8_readsAll 63 = .ok (.iconst 1, 1) := by decide +kernel
theorem dX8_readsAll_64 : decode cX8_readsAll 64 = .ok (.goto 4, 3) := by decide +kernel
theorem dX8_readsAll_67 : decode cX8_readsAll 67 = .ok (.iconst 0, 1) := by decide +kernel
theorem dX8_readsAll_68 : decode cX8_readsAll 68 = .ok (.ireturn, 1) := by decide +kernel
theorem dX8_readsItem_0 : decode cX8_readsItem 0 = .ok (.aload_n 0, 1) := by decide +kernel
theorem dX8_readsItem_1 : decode cX8_readsItem 1 = .ok (.getfield 38, 3) := by decide +kernel
theorem dX8_readsItem_4 : decode cX8_readsItem 4 = .ok (.iconst 1, 1) := by decide +kernel
theorem dX8_readsItem_5 : decode cX8_readsItem 5 = .ok (.if_icmp .ne 28, 3) := by decide +kernel
theorem dX8_readsItem_8 : decode cX8_readsItem 8 = .ok (.aload_n 0, 1) := by decide +kernel
theorem dX8_readsItem_9 : decode cX8_readsItem 9 = .ok (.getfield 45, 3) := by decide +kernel
theorem dX8_readsItem_12 : decode cX8_readsItem 12 = .ok (.bipush 116, 2) := by decide +kernel
theorem dX8_readsItem_14 : decode cX8_readsItem 14 = .ok (.if_icmp .ne 19, 3) := by decide +kernel
theorem dX8_readsItem_17 : decode cX8_readsItem 17 = .ok (.aload_n 0, 1) := by decide +kernel
theorem dX8_readsItem_18 : decode cX8_readsItem 18 = .ok (.getfield 18, 3) := by decide +kernel
theorem dX8_readsItem_21 : decode cX8_readsItem 21 = .ok (.getfield 25, 3) := by decide +kernel
theorem dX8_readsItem_24 : decode cX8_readsItem 24 = .ok (.bipush 8, 2) := by decide +kernel
theorem dX8_readsItem_26 : decode cX8_readsItem 26 = .ok (.if_icmp .ge 7, 3) := by decide +kernel
theorem dX8_readsItem_29 : decode cX8_readsItem 29 = .ok (.iconst 1, 1) := by decide +kernel
theorem dX8_readsItem_30 : decode cX8_readsItem 30 = .ok (.goto 4, 3) := by decide +kernel
theorem dX8_readsItem_33 : decode cX8_readsItem 33 = .ok (.iconst 0, 1) := by decide +kernel
theorem dX8_readsItem_34 : decode cX8_readsItem 34 = .ok (.istore_n 1, 1) := by decide +kernel
theorem dX8_readsItem_35 : decode cX8_readsItem 35 = .ok (.aload_n 0, 1) := by decide +kernel
theorem dX8_readsItem_36 : decode cX8_readsItem 36 = .ok (.getfield 38, 3) := by decide +kernel
theorem dX8_readsItem_39 : decode cX8_readsItem 39 = .ok (.iconst 1, 1) := by decide +kernel
theorem dX8_readsItem_40 : decode cX8_readsItem 40 = .ok (.if_icmp .ne 28, 3) := by decide +kernel
theorem dX8_readsItem_43 : decode cX8_readsItem 43 = .ok (.aload_n 0, 1) := by decide +kernel
theorem dX8_readsItem_44 : decode cX8_readsItem 44 = .ok (.getfield 45, 3) := by decide +kernel
theorem dX8_readsItem_47 : decode cX8_readsItem 47 = .ok (.bipush 99, 2) := by decide +kernel
theorem dX8_readsItem_49 : decode cX8_readsItem 49 = .ok (.if_icmp .ne 19, 3) := by decide +kernel
theorem dX8_readsItem_52 : decode cX8_readsItem 52 = .ok (.aload_n 0, 1) := by decide +kernel
theorem dX8_readsItem_53 : decode cX8_readsItem 53 = .ok (.getfield 18, 3) := by decide +kernel
theorem dX8_readsItem_56 : decode cX8_readsItem 56 = .ok (.getfield 29, 3) := by decide +kernel
theorem dX8_readsItem_59 : decode cX8_readsItem 59 = .ok (.bipush 6, 2) := by decide +kernel
theorem dX8_readsItem_61 : decode cX8_readsItem 61 = .ok (.if_icmp .ge 7, 3) := by decide +kernel
theorem dX8_readsItem_64 : decode cX8_readsItem 64 = .ok (.iconst 1, 1) := by decide +kernel
theorem dX8_readsItem_65 : decode cX8_readsItem 65 = .ok (.goto 4, 3) := by decide +kernel
theorem dX8_readsItem_68 : decode cX8_readsItem 68 = .ok (.iconst 0, 1) := by decide +kernel
theorem dX8_readsItem_69 : decode cX8_readsItem 69 = .ok (.istore_n 2, 1) := by decide +kernel
theorem dX8_readsItem_70 : decode cX8_readsItem 70 = .ok (.iload_n 1, 1) := by decide +kernel
theorem dX8_readsItem_71 : decode cX8_readsItem 71 = .ok (.ifCond .ne 9, 3) := by decide +kernel
theorem dX8_readsItem_74 : decode cX8_readsItem 74 = .ok (.iload_n 2, 1) := by decide +kernel
theorem dX8_readsItem_75 : decode cX8_readsItem 75 = .ok (.ifCond .ne 5, 3) := by decide +kernel
theorem dX8_readsItem_78 : decode cX8_readsItem 78 = .ok (.iconst 0, 1) := by decide +kernel
theorem dX8_readsItem_79 : decode cX8_readsItem 79 = .ok (.ireturn, 1) := by decide +kernel
theorem dX8_readsItem_80 : decode cX8_readsItem 80 = .ok (.aload_n 0, 1) := by decide +kernel
theorem dX8_readsItem_81 : decode cX8_readsItem 81 = .ok (.invokevirtual 35, 3) := by decide +kernel
theorem dX8_readsItem_84 : decode cX8_readsItem 84 = .ok (.iload_n 1, 1) := by decide +kernel
theorem dX8_readsItem_85 : decode cX8_readsItem 85 = .ok (.ifCond .eq 7, 3) := by decide +kernel
theorem dX8_readsItem_88 : decode cX8_readsItem 88 = .ok (.iconst 5, 1) := by decide +kernel
theorem dX8_readsItem_89 : decode cX8_readsItem 89 = .ok (.goto 4, 3) := by decide +kernel
theorem dX8_readsItem_92 : decode cX8_readsItem 92 = .ok (.iconst 3, 1) := by decide +kernel
theorem dX8_readsItem_93 : decode cX8_readsItem 93 = .ok (.istore_n 3, 1) := by decide +kernel
theorem dX8_readsItem_94 : decode cX8_readsItem 94 = .ok (.iconst 0, 1) := by decide +kernel
theorem dX8_readsItem_95 : decode cX8_readsItem 95 = .ok (.istore 4, 2) := by decide +kernel
theorem dX8_readsItem_97 : decode cX8_readsItem 97 = .ok (.iload 4, 2) := by decide +kernel
theorem dX8_readsItem_99 : decode cX8_readsItem 99 = .ok (.iload_n 3, 1) := by decide +kernel
theorem dX8_readsItem_100 : decode cX8_readsItem 100 = .ok (.if_icmp .ge 51, 3) := by decide +kernel
theorem dX8_readsItem_103 : decode cX8_readsItem 103 = .ok (.iload_n 1, 1) := by decide +kernel
theorem dX8_readsItem_104 : decode cX8_readsItem 104 = .ok (.ifCond .eq 15, 3) := by decide +kernel
theorem dX8_readsItem_107 : decode cX8_readsItem 107 = .ok (.aload_n 0, 1) := by decide +kernel
theorem dX8_readsItem_108 : decode cX8_readsItem 108 = .ok (.iload 4, 2) := by decide +kernel
theorem dX8_readsItem_110 : decode cX8_readsItem 110 = .ok (.invokevirtual 48, 3) := by decide +kernel
theorem dX8_readsItem_113 : decode cX8_readsItem 113 = .ok (.ifCond .ne 17, 3) := by decide +kernel
theorem dX8_readsItem_116 : decode cX8_readsItem 116 = .ok (.goto 12, 3) := by decide +kernel
theorem dX8_readsItem_119 : decode cX8_readsItem 119 = .ok (.aload_n 0, 1) := by decide +kernel
theorem dX8_readsItem_120 : decode cX8_readsItem 120 = .ok (.iload 4, 2) := by decide +kernel
theorem dX8_readsItem_122 : decode cX8_readsItem 122 = .ok (.invokevirtual 52, 3) := by decide +kernel
theorem dX8_readsItem_125 : decode cX8_readsItem 125 = .ok (.ifCond .ne 5, 3) := by decide +kernel
theorem dX8_readsItem_128 : decode cX8_readsItem 128 = .ok (.iconst 0, 1) := by decide +kernel
theorem dX8_readsItem_129 : decode cX8_readsItem 129 = .ok (.ireturn, 1) := by decide +kernel
theorem dX8_readsItem_130 : decode cX8_readsItem 130 = .ok (.aload_n 0, 1) := by decide +kernel
theorem dX8_readsItem_131 : decode cX8_readsItem 131 = .ok (.getfield 22, 3) := by decide +kernel
theorem dX8_readsItem_134 : decode cX8_readsItem 134 = .ok (.iload 4, 2) := by decide +kernel
theorem dX8_readsItem_136 : decode cX8_readsItem 136 = .ok (.aload_n 0, 1) := by decide +kernel
theorem dX8_readsItem_137 : decode cX8_readsItem 137 = .ok (.getfield 45, 3) := by decide +kernel
theorem dX8_readsItem_140 : decode cX8_readsItem 140 = .ok (.iastore, 1) := by decide +kernel
theorem dX8_readsItem_141 : decode cX8_readsItem 141 = .ok (.aload_n 0, 1) := by decide +kernel
theorem dX8_readsItem_142 : decode cX8_readsItem 142 = .ok (.invokevirtual 35, 3) := by decide +kernel
theorem dX8_readsItem_145 : decode cX8_readsItem 145 = .ok (.iinc 4 1, 3) := by decide +kernel
theorem dX8_readsItem_148 : decode cX8_readsItem 148 = .ok (.goto (-51), 3) := by decide +kernel
theorem dX8_readsItem_151 : decode cX8_readsItem 151 = .ok (.aload_n 0, 1) := by decide +kernel
theorem dX8_readsItem_152 : decode cX8_readsItem 152 = .ok (.getfield 38, 3) := by decide +kernel
theorem dX8_readsItem_155 : decode cX8_readsItem 155 = .ok (.iconst 3, 1) := by decide +kernel
theorem dX8_readsItem_156 : decode cX8_readsItem 156 = .ok (.if_icmp .eq 5, 3) := by decide +kernel
theorem dX8_readsItem_159 : decode cX8_readsItem 159 = .ok (.iconst 0, 1) := by decide +kernel
theorem dX8_readsItem_160 : decode cX8_readsItem 160 = .ok (.ireturn, 1) := by decide +kernel
theorem dX8_readsItem_161 : decode cX8_readsItem 161 = .ok (.aload_n 0, 1) := by decide +kernel
theorem dX8_readsItem_162 : decode cX8_readsItem 162 = .ok (.invokevirtual 35, 3) := by decide +kernel
theorem dX8_readsItem_165 : decode cX8_readsItem 165 = .ok (.iload_n 1, 1) := by decide +kernel
theorem dX8_readsItem_166 : decode cX8_readsItem 166 = .ok (.ifCond .eq 17, 3) := by decide +kernel
theorem dX8_readsItem_169 : decode cX8_readsItem 169 = .ok (.aload_n 0, 1) := by decide +kernel
theorem dX8_readsItem_170 : decode cX8_readsItem 170 = .ok (.getfield 18, 3) := by decide +kernel
theorem dX8_readsItem_173 : decode cX8_readsItem 173 = .ok (.aload_n 0, 1) := by decide +kernel
theorem dX8_readsItem_174 : decode cX8_readsItem 174 = .ok (.getfield 22, 3) := by decide +kernel
theorem dX8_readsItem_177 : decode cX8_readsItem 177 = .ok (.invokevirtual 55, 3) := by decide +kernel
theorem dX8_readsItem_180 : decode cX8_readsItem 180 = .ok (.goto 14, 3) := by decide +kernel
theorem dX8_readsItem_183 : decode cX8_readsItem 183 = .ok (.aload_n 0, 1) := by decide +kernel
theorem dX8_readsItem_184 : decode cX8_readsItem 184 = .ok (.getfield 18, 3) := by decide +kernel
theorem dX8_readsItem_187 : decode cX8_readsItem 187 = .ok (.aload_n 0, 1) := by decide +kernel
theorem dX8_readsItem_188 : decode cX8_readsItem 188 = .ok (.getfield 22, 3) := by decide +kernel
theorem dX8_readsItem_191 : decode cX8_readsItem 191 = .ok (.invokevirtual 59, 3) := by decide +kernel
theorem dX8_readsItem_194 : decode cX8_readsItem 194 = .ok (.iconst 1, 1) := by decide +kernel
theorem dX8_readsItem_195 : decode cX8_readsItem 195 = .ok (.ireturn, 1) := by decide +kernel
