theorem dX11_learns_0 : decode cX11_learns 0 = .ok (.iconst 1, 1) := by decide +kernel
theorem dX11_learns_1 : decode cX11_learns 1 = .ok (.bipush 8, 2) := by decide +kernel
theorem dX11_learns_3 : decode cX11_learns 3 = .ok (.iload_n 1, 1) := by decide +kernel
theorem dX11_learns_4 : decode cX11_learns 4 = .ok (.imul, 1) := by decide +kernel
theorem dX11_learns_5 : decode cX11_learns 5 = .ok (.iadd, 1) := by decide +kernel
theorem dX11_learns_6 : decode cX11_learns 6 = .ok (.iload_n 2, 1) := by decide +kernel
theorem dX11_learns_7 : decode cX11_learns 7 = .ok (.iadd, 1) := by decide +kernel
theorem dX11_learns_8 : decode cX11_learns 8 = .ok (.istore_n 3, 1) := by decide +kernel
theorem dX11_learns_9 : decode cX11_learns 9 = .ok (.aload_n 0, 1) := by decide +kernel
theorem dX11_learns_10 : decode cX11_learns 10 = .ok (.getfield 28, 3) := by decide +kernel
theorem dX11_learns_13 : decode cX11_learns 13 = .ok (.iload_n 3, 1) := by decide +kernel
theorem dX11_learns_14 : decode cX11_learns 14 = .ok (.dup2, 1) := by decide +kernel
theorem dX11_learns_15 : decode cX11_learns 15 = .ok (.iaload, 1) := by decide +kernel
theorem dX11_learns_16 : decode cX11_learns 16 = .ok (.aload_n 0, 1) := by decide +kernel
theorem dX11_learns_17 : decode cX11_learns 17 = .ok (.getfield 25, 3) := by decide +kernel
theorem dX11_learns_20 : decode cX11_learns 20 = .ok (.iload_n 1, 1) := by decide +kernel
theorem dX11_learns_21 : decode cX11_learns 21 = .ok (.iaload, 1) := by decide +kernel
theorem dX11_learns_22 : decode cX11_learns 22 = .ok (.iadd, 1) := by decide +kernel
theorem dX11_learns_23 : decode cX11_learns 23 = .ok (.iastore, 1) := by decide +kernel
theorem dX11_learns_24 : decode cX11_learns 24 = .ok (.aload_n 0, 1) := by decide +kernel
theorem dX11_learns_25 : decode cX11_learns 25 = .ok (.getfield 28, 3) := by decide +kernel
theorem dX11_learns_28 : decode cX11_learns 28 = .ok (.bipush 61, 2) := by decide +kernel
theorem dX11_learns_30 : decode cX11_learns 30 = .ok (.iload_n 1, 1) := by decide +kernel
theorem dX11_learns_31 : decode cX11_learns 31 = .ok (.iadd, 1) := by decide +kernel
theorem dX11_learns_32 : decode cX11_learns 32 = .ok (.dup2, 1) := by decide +kernel
theorem dX11_learns_33 : decode cX11_learns 33 = .ok (.iaload, 1) := by decide +kernel
theorem dX11_learns_34 : decode cX11_learns 34 = .ok (.aload_n 0, 1) := by decide +kernel
theorem dX11_learns_35 : decode cX11_learns 35 = .ok (.getfield 7, 3) := by decide +kernel
theorem dX11_learns_38 : decode cX11_learns 38 = .ok (.iload_n 2, 1) := by decide +kernel
theorem dX11_learns_39 : decode cX11_learns 39 = .ok (.iaload, 1) := by decide +kernel
theorem dX11_learns_40 : decode cX11_learns 40 = .ok (.iadd, 1) := by decide +kernel
theorem dX11_learns_41 : decode cX11_learns 41 = .ok (.iastore, 1) := by decide +kernel
theorem dX11_learns_42 : decode cX11_learns 42 = .ok (.aload_n 0, 1) := by decide +kernel
theorem dX11_learns_43 : decode cX11_learns 43 = .ok (.getfield 28, 3) := by decide +kernel
theorem dX11_learns_46 : decode cX11_learns 46 = .ok (.bipush 61, 2) := by decide +kernel
theorem dX11_learns_48 : decode cX11_learns 48 = .ok (.iload_n 1, 1) := by decide +kernel
theorem dX11_learns_49 : decode cX11_learns 49 = .ok (.iadd, 1) := by decide +kernel
theorem dX11_learns_50 : decode cX11_learns 50 = .ok (.iaload, 1) := by decide +kernel
theorem dX11_learns_51 : decode cX11_learns 51 = .ok (.aload_n 0, 1) := by decide +kernel
theorem dX11_learns_52 : decode cX11_learns 52 = .ok (.getfield 22, 3) := by decide +kernel
theorem dX11_learns_55 : decode cX11_learns 55 = .ok (.iload_n 1, 1) := by decide +kernel
theorem dX11_learns_56 : decode cX11_learns 56 = .ok (.iaload, 1) := by decide +kernel
theorem dX11_learns_57 : decode cX11_learns 57 = .ok (.if_icmp .le 7, 3) := by decide +kernel
theorem dX11_learns_60 : decode cX11_learns 60 = .ok (.iconst 1, 1) := by decide +kernel
theorem dX11_learns_61 : decode cX11_learns 61 = .ok (.goto 4, 3) := by decide +kernel
theorem dX11_learns_64 : decode cX11_learns 64 = .ok (.iconst 0, 1) := by decide +kernel
theorem dX11_learns_65 : decode cX11_learns 65 = .ok (.istore 4, 2) := by decide +kernel
theorem dX11_learns_67 : decode cX11_learns 67 = .ok (.iload 4, 2) := by decide +kernel
theorem dX11_learns_69 : decode cX11_learns 69 = .ok (.ifCond .ne 22, 3) := by decide +kernel
theorem dX11_learns_72 : decode cX11_learns 72 = .ok (.aload_n 0, 1) := by decide +kernel
theorem dX11_learns_73 : decode cX11_learns 73 = .ok (.getfield 28, 3) := by decide +kernel
theorem dX11_learns_76 : decode cX11_learns 76 = .ok (.iload_n 3, 1) := by decide +kernel
theorem dX11_learns_77 : decode cX11_learns 77 = .ok (.iaload, 1) := by decide +kernel
theorem dX11_learns_78 : decode cX11_learns 78 = .ok (.aload_n 0, 1) := by decide +kernel
theorem dX11_learns_79 : decode cX11_learns 79 = .ok (.getfield 13, 3) := by decide +kernel
theorem dX11_learns_82 : decode cX11_learns 82 = .ok (.iload_n 2, 1) := by decide +kernel
theorem dX11_learns_83 : decode cX11_learns 83 = .ok (.iaload, 1) := by decide +kernel
theorem dX11_learns_84 : decode cX11_learns 84 = .ok (.if_icmp .lt 7, 3) := by decide +kernel
theorem dX11_learns_87 : decode cX11_learns 87 = .ok (.iconst 1, 1) := by decide +kernel
theorem dX11_learns_88 : decode cX11_learns 88 = .ok (.goto 4, 3) := by decide +kernel
theorem dX11_learns_91 : decode cX11_learns 91 = .ok (.iconst 0, 1) := by decide +kernel
theorem dX11_learns_92 : decode cX11_learns 92 = .ok (.istore 5, 2) := by decide +kernel
theorem dX11_learns_94 : decode cX11_learns 94 = .ok (.aload_n 0, 1) := by decide +kernel
theorem dX11_learns_95 : decode cX11_learns 95 = .ok (.getfield 28, 3) := by decide +kernel
theorem dX11_learns_98 : decode cX11_learns 98 = .ok (.bipush 67, 2) := by decide +kernel
theorem dX11_learns_100 : decode cX11_learns 100 = .ok (.dup2, 1) := by decide +kernel
theorem dX11_learns_101 : decode cX11_learns 101 = .ok (.iaload, 1) := by decide +kernel
theorem dX11_learns_102 : decode cX11_learns 102 = .ok (.iload 4, 2) := by decide +kernel
theorem dX11_learns_104 : decode cX11_learns 104 = .ok (.ifCond .eq 9, 3) := by decide +kernel
theorem dX11_learns_107 : decode cX11_learns 107 = .ok (.iconst 1, 1) := by decide +kernel
theorem dX11_learns_108 : decode cX11_learns 108 = .ok (.iload_n 1, 1) := by decide +kernel
theorem dX11_learns_109 : decode cX11_learns 109 = .ok (.ishl, 1) := by decide +kernel
theorem dX11_learns_110 : decode cX11_learns 110 = .ok (.goto 4, 3) := by decide +kernel
theorem dX11_learns_113 : decode cX11_learns 113 = .ok (.iconst 0, 1) := by decide +kernel
theorem dX11_learns_114 : decode cX11_learns 114 = .ok (.ior, 1) := by decide +kernel
theorem dX11_learns_115 : decode cX11_learns 115 = .ok (.iastore, 1) := by decide +kernel
theorem dX11_learns_116 : decode cX11_learns 116 = .ok (.aload_n 0, 1) := by decide +kernel
theorem dX11_learns_117 : decode cX11_learns 117 = .ok (.getfield 28, 3) := by decide +kernel
theorem dX11_learns_120 : decode cX11_learns 120 = .ok (.bipush 49, 2) := by decide +kernel
theorem dX11_learns_122 : decode cX11_learns 122 = .ok (.iload_n 1, 1) := by decide +kernel
theorem dX11_learns_123 : decode cX11_learns 123 = .ok (.iadd, 1) := by decide +kernel
theorem dX11_learns_124 : decode cX11_learns 124 = .ok (.dup2, 1) := by decide +kernel
theorem dX11_learns_125 : decode cX11_learns 125 = .ok (.iaload, 1) := by decide +kernel
theorem dX11_learns_126 : decode cX11_learns 126 = .ok (.iload 5, 2) := by decide +kernel
theorem dX11_learns_128 : decode cX11_learns 128 = .ok (.ifCond .eq 9, 3) := by decide +kernel
theorem dX11_learns_131 : decode cX11_learns 131 = .ok (.iconst 1, 1) := by decide +kernel
theorem dX11_learns_132 : decode cX11_learns 132 = .ok (.iload_n 2, 1) := by decide +kernel
theorem dX11_learns_133 : decode cX11_learns 133 = .ok (.ishl, 1) := by decide +kernel
theorem dX11_learns_134 : decode cX11_learns 134 = .ok (.goto 4, 3) := by decide +kernel
theorem dX11_learns_137 : decode cX11_learns 137 = .ok (.iconst 0, 1) := by decide +kernel
theorem dX11_learns_138 : decode cX11_learns 138 = .ok (.ior, 1) := by decide +kernel
theorem dX11_learns_139 : decode cX11_learns 139 = .ok (.iastore, 1) := by decide +kernel
theorem dX11_learns_140 : decode cX11_learns 140 = .ok (.aload_n 0, 1) := by decide +kernel
theorem dX11_learns_141 : decode cX11_learns 141 = .ok (.getfield 28, 3) := by decide +kernel
theorem dX11_learns_144 : decode cX11_learns 144 = .ok (.bipush 68, 2) := by decide +kernel
theorem dX11_learns_146 : decode cX11_learns 146 = .ok (.iload_n 1, 1) := by decide +kernel
theorem dX11_learns_147 : decode cX11_learns 147 = .ok (.iadd, 1) := by decide +kernel
theorem dX11_learns_148 : decode cX11_learns 148 = .ok (.iload 4, 2) := by decide +kernel
theorem dX11_learns_150 : decode cX11_learns 150 = .ok (.ifCond .ne 8, 3) := by decide +kernel
theorem dX11_learns_153 : decode cX11_learns 153 = .ok (.iload 5, 2) := by decide +kernel
theorem dX11_learns_155 : decode cX11_learns 155 = .ok (.ifCond .eq 8, 3) := by decide +kernel
theorem dX11_learns_158 : decode cX11_learns 158 = .ok (.bipush (-9), 2) := by decide +kernel
theorem dX11_learns_160 : decode cX11_learns 160 = .ok (.goto 4, 3) := by decide +kernel
theorem dX11_learns_163 : decode cX11_learns 163 = .ok (.iload_n 2, 1) := by decide +kernel
theorem dX11_learns_164 : decode cX11_learns 164 = .ok (.iastore, 1) := by decide +kernel
theorem dX11_learns_165 : decode cX11_learns 165 = .ok (.return_, 1) := by decide +kernel
theorem dX11_learntAll_0 : decode cX11_learntAll 0 = .ok (.iconst 0, 1) := by decide +kernel
theorem dX11_learntAll_1 : decode cX11_learntAll 1 = .ok (.istore_n 1, 1) := by decide +kernel
theorem dX11_learntAll_2 : decode cX11_learntAll 2 = .ok (.iconst 0, 1) := by decide +kernel
theorem dX11_learntAll_3 : decode cX11_learntAll 3 = .ok (.istore_n 2, 1) := by decide +kernel
theorem dX11_learntAll_4 : decode cX11_learntAll 4 = .ok (.iload_n 2, 1) := by decide +kernel
theorem dX11_learntAll_5 : decode cX11_learntAll 5 = .ok (.aload_n 0, 1) := by decide +kernel
theorem dX11_learntAll_6 : decode cX11_learntAll 6 = .ok (.getfield 76, 3) := by decide +kernel
theorem dX11_learntAll_9 : decode cX11_learntAll 9 = .ok (.if_icmp .ge 24, 3) := by decide +kernel
theorem dX11_learntAll_12 : decode cX11_learntAll 12 = .ok (.iload_n 1, 1) := by decide +kernel
theorem dX11_learntAll_13 : decode cX11_learntAll 13 = .ok (.aload_n 0, 1) := by decide +kernel
theorem dX11_learntAll_14 : decode cX11_learntAll 14 = .ok (.getfield 28, 3) := by decide +kernel
theorem dX11_learntAll_17 : decode cX11_learntAll 17 = .ok (.bipush 49, 2) := by decide +kernel
theorem dX11_learntAll_19 : decode cX11_learntAll 19 = .ok (.iload_n 2, 1) := by decide +kernel
theorem dX11_learntAll_20 : decode cX11_learntAll 20 = .ok (.iadd, 1) := by decide +kernel
theorem dX11_learntAll_21 : decode cX11_learntAll 21 = .ok (.iaload, 1) := by decide +kernel
theorem dX11_learntAll_22 : decode cX11_learntAll 22 = .ok (.invokestatic 175, 3) := by decide +kernel
theorem dX11_learntAll_25 : decode cX11_learntAll 25 = .ok (.iadd, 1) := by decide +kernel
theorem dX11_learntAll_26 : decode cX11_learntAll 26 = .ok (.istore_n 1, 1) := by decide +kernel
theorem dX11_learntAll_27 : decode cX11_learntAll 27 = .ok (.iinc 2 1, 3) := by decide +kernel
theorem dX11_learntAll_30 : decode cX11_learntAll 30 = .ok (.goto (-26), 3) := by decide +kernel
theorem dX11_learntAll_33 : decode cX11_learntAll 33 = .ok (.iload_n 1, 1) := by decide +kernel
theorem dX11_learntAll_34 : decode cX11_learntAll 34 = .ok (.ireturn, 1) := by decide +kernel
theorem dX11_letterAt_0 : decode cX11_letterAt 0 = .ok (.iload_n 1, 1) := by decide +kernel
theorem dX11_letterAt_1 : decode cX11_letterAt 1 = .ok (.aload_n 0, 1) := by decide +kernel
theorem dX11_letterAt_2 : decode cX11_letterAt 2 = .ok (.getfield 79, 3) := by decide +kernel
theorem dX11_letterAt_5 : decode cX11_letterAt 5 = .ok (.if_icmp .ge 12, 3) := by decide +kernel
theorem dX11_letterAt_8 : decode cX11_letterAt 8 = .ok (.aload_n 0, 1) := by decide +kernel
theorem dX11_letterAt_9 : decode cX11_letterAt 9 = .ok (.getfield 41, 3) := by decide +kernel
theorem dX11_letterAt_12 : decode cX11_letterAt 12 = .ok (.iload_n 1, 1) := by decide +kernel
theorem dX11_letterAt_13 : decode cX11_letterAt 13 = .ok (.iaload, 1) := by decide +kernel
theorem dX11_letterAt_14 : decode cX11_letterAt 14 = .ok (.goto 4, 3) := by decide +kernel
theorem dX11_letterAt_17 : decode cX11_letterAt 17 = .ok (.iconst (-1), 1) := by decide +kernel
theorem dX11_letterAt_18 : decode cX11_letterAt 18 = .ok (.ireturn, 1) := by decide +kernel
theorem dX11_lowest_0 : decode cX11_lowest 0 = .ok (.iload_n 0, 1) := by decide +kernel
theorem dX11_lowest_1 : decode cX11_lowest 1 = .ok (.istore_n 3, 1) := by decide +kernel
theorem dX11_lowest_2 : decode cX11_lowest 2 = .ok (.iload_n 1, 1) := by decide +kernel
theorem dX11_lowest_3 : decode cX11_lowest 3 = .ok (.istore 4, 2) := by decide +kernel
theorem dX11_lowest_5 : decode cX11_lowest 5 = .ok (.iload 4, 2) := by decide +kernel
theorem dX11_lowest_7 : decode cX11_lowest 7 = .ok (.ifCond .le 19, 3) := by decide +kernel
theorem dX11_lowest_10 : decode cX11_lowest 10 = .ok (.iload_n 3, 1) := by decide +kernel
theorem dX11_lowest_11 : decode cX11_lowest 11 = .ok (.iload 4, 2) := by decide +kernel
theorem dX11_lowest_13 : decode cX11_lowest 13 = .ok (.irem, 1) := by decide +kernel
theorem dX11_lowest_14 : decode cX11_lowest 14 = .ok (.istore 5, 2) := by decide +kernel
theorem dX11_lowest_16 : decode cX11_lowest 16 = .ok (.iload 4, 2) := by decide +kernel
theorem dX11_lowest_18 : decode cX11_lowest 18 = .ok (.istore_n 3, 1) := by decide +kernel
theorem dX11_lowest_19 : decode cX11_lowest 19 = .ok (.iload 5, 2) := by decide +kernel
theorem dX11_lowest_21 : decode cX11_lowest 21 = .ok (.istore 4, 2) := by decide +kernel
theorem dX11_lowest_23 : decode cX11_lowest 23 = .ok (.goto (-18), 3) := by decide +kernel
theorem dX11_lowest_26 : decode cX11_lowest 26 = .ok (.iload_n 2, 1) := by decide +kernel
theorem dX11_lowest_27 : decode cX11_lowest 27 = .ok (.ifCond .ne 7, 3) := by decide +kernel
theorem dX11_lowest_30 : decode cX11_lowest 30 = .ok (.iload_n 0, 1) := by decide +kernel
theorem dX11_lowest_31 : decode cX11_lowest 31 = .ok (.goto 4, 3) := by decide +kernel
theorem dX11_lowest_34 : decode cX11_lowest 34 = .ok (.iload_n 1, 1) := by decide +kernel
theorem dX11_lowest_35 : decode cX11_lowest 35 = .ok (.iload_n 3, 1) := by decide +kernel
theorem dX11_lowest_36 : decode cX11_lowest 36 = .ok (.idiv, 1) := by decide +kernel
theorem dX11_lowest_37 : decode cX11_lowest 37 = .ok (.ireturn, 1) := by decide +kernel
theorem dX11_mark_0 : decode cX11_mark 0 = .ok (.iload_n 1, 1) := by decide +kernel
theorem dX11_mark_1 : decode cX11_mark 1 = .ok (.iconst 0, 1) := by decide +kernel
theorem dX11_mark_2 : decode cX11_mark 2 = .ok (.iconst 5, 1) := by decide +kernel
theorem dX11_mark_3 : decode cX11_mark 3 = .ok (.invokestatic 72, 3) := by decide +kernel
theorem dX11_mark_6 : decode cX11_mark 6 = .ok (.ifCond .eq 11, 3) := by decide +kernel
theorem dX11_mark_9 : decode cX11_mark 9 = .ok (.aload_n 0, 1) := by decide +kernel
theorem dX11_mark_10 : decode cX11_mark 10 = .ok (.iload_n 2, 1) := by decide +kernel
theorem dX11_mark_11 : decode cX11_mark 11 = .ok (.invokevirtual 162, 3) := by decide +kernel
theorem dX11_mark_14 : decode cX11_mark 14 = .ok (.ifCond .ne 6, 3) := by decide +kernel
theorem dX11_mark_17 : decode cX11_mark 17 = .ok (.ldc 225, 2) := by decide +kernel
theorem dX11_mark_19 : decode cX11_mark 19 = .ok (.ireturn, 1) := by decide +kernel
theorem dX11_mark_20 : decode cX11_mark 20 = .ok (.aload_n 0, 1) := by decide +kernel
theorem dX11_mark_21 : decode cX11_mark 21 = .ok (.getfield 28, 3) := by decide +kernel
theorem dX11_mark_24 : decode cX11_mark 24 = .ok (.bipush 61, 2) := by decide +kernel
theorem dX11_mark_26 : decode cX11_mark 26 = .ok (.iload_n 2, 1) := by decide +kernel
theorem dX11_mark_27 : decode cX11_mark 27 = .ok (.iadd, 1) := by decide +kernel
theorem dX11_mark_28 : decode cX11_mark 28 = .ok (.iaload, 1) := by decide +kernel
theorem dX11_mark_29 : decode cX11_mark 29 = .ok (.istore_n 3, 1) := by decide +kernel
theorem dX11_mark_30 : decode cX11_mark 30 = .ok (.iload_n 3, 1) := by decide +kernel
theorem dX11_mark_31 : decode cX11_mark 31 = .ok (.aload_n 0, 1) := by decide +kernel
theorem dX11_mark_32 : decode cX11_mark 32 = .ok (.getfield 28, 3) := by decide +kernel
theorem dX11_mark_35 : decode cX11_mark 35 = .ok (.bipush 49, 2) := by decide +kernel
theorem dX11_mark_37 : decode cX11_mark 37 = .ok (.iload_n 2, 1) := by decide +kernel
theorem dX11_mark_38 : decode cX11_mark 38 = .ok (.iadd, 1) := by decide +kernel
theorem dX11_mark_39 : decode cX11_mark 39 = .ok (.iaload, 1) := by decide +kernel
theorem dX11_mark_40 : decode cX11_mark 40 = .ok (.invokestatic 175, 3) := by decide +kernel
theorem dX11_mark_43 : decode cX11_mark 43 = .ok (.iadd, 1) := by decide +kernel
theorem dX11_mark_44 : decode cX11_mark 44 = .ok (.istore 4, 2) := by decide +kernel
theorem dX11_mark_46 : decode cX11_mark 46 = .ok (.iload_n 3, 1) := by decide +kernel
theorem dX11_mark_47 : decode cX11_mark 47 = .ok (.aload_n 0, 1) := by decide +kernel
theorem dX11_mark_48 : decode cX11_mark 48 = .ok (.getfield 28, 3) := by decide +kernel
theorem dX11_mark_51 : decode cX11_mark 51 = .ok (.bipush 55, 2) := by decide +kernel
theorem dX11_mark_53 : decode cX11_mark 53 = .ok (.iload_n 2, 1) := by decide +kernel
theorem dX11_mark_54 : decode cX11_mark 54 = .ok (.iadd, 1) := by decide +kernel
theorem dX11_mark_55 : decode cX11_mark 55 = .ok (.iaload, 1) := by decide +kernel
theorem dX11_mark_56 : decode cX11_mark 56 = .ok (.invokestatic 175, 3) := by decide +kernel
theorem dX11_mark_59 : decode cX11_mark 59 = .ok (.isub, 1) := by decide +kernel
theorem dX11_mark_60 : decode cX11_mark 60 = .ok (.istore 5, 2) := by decide +kernel
theorem dX11_mark_62 : decode cX11_mark 62 = .ok (.iload_n 1, 1) := by decide +kernel
theorem dX11_mark_63 : decode cX11_mark 63 = .ok (.tableswitch 118 1 5 #[33, 48, 63, 80, 97], 33) := by decide +kernel
theorem dX11_mark_96 : decode cX11_mark 96 = .ok (.aload_n 0, 1) := by decide +kernel
theorem dX11_mark_97 : decode cX11_mark 97 = .ok (.dup, 1) := by decide +kernel
theorem dX11_mark_98 : decode cX11_mark 98 = .ok (.getfield 226, 3) := by decide +kernel
theorem dX11_mark_101 : decode cX11_mark 101 = .ok (.ldc2_w 230, 3) := by decide +kernel
theorem dX11_mark_104 : decode cX11_mark 104 = .ok (.ladd, 1) := by decide +kernel
theorem dX11_mark_105 : decode cX11_mark 105 = .ok (.putfield 226, 3) := by decide +kernel
theorem dX11_mark_108 : decode cX11_mark 108 = .ok (.iload 4, 2) := by decide +kernel
theorem dX11_mark_110 : decode cX11_mark 110 = .ok (.ireturn, 1) := by decide +kernel
theorem dX11_mark_111 : decode cX11_mark 111 = .ok (.aload_n 0, 1) := by decide +kernel
theorem dX11_mark_112 : decode cX11_mark 112 = .ok (.dup, 1) := by decide +kernel
theorem dX11_mark_113 : decode cX11_mark 113 = .ok (.getfield 226, 3) := by decide +kernel
theorem dX11_mark_116 : decode cX11_mark 116 = .ok (.ldc2_w 232, 3) := by decide +kernel
theorem dX11_mark_119 : decode cX11_mark 119 = .ok (.ladd, 1) := by decide +kernel
theorem dX11_mark_120 : decode cX11_mark 120 = .ok (.putfield 226, 3) := by decide +kernel
theorem dX11_mark_123 : decode cX11_mark 123 = .ok (.iload 5, 2) := by decide +kernel
theorem dX11_mark_125 : decode cX11_mark 125 = .ok (.ireturn, 1) := by decide +kernel
theorem dX11_mark_126 : decode cX11_mark 126 = .ok (.aload_n 0, 1) := by decide +kernel
theorem dX11_mark_127 : decode cX11_mark 127 = .ok (.dup, 1) := by decide +kernel
theorem dX11_mark_128 : decode cX11_mark 128 = .ok (.getfield 226, 3) := by decide +kernel
theorem dX11_mark_131 : decode cX11_mark 131 = .ok (.ldc2_w 234, 3) := by decide +kernel
theorem dX11_mark_134 : decode cX11_mark 134 = .ok (.ladd, 1) := by decide +kernel
theorem dX11_mark_135 : decode cX11_mark 135 = .ok (.putfield 226, 3) := by decide +kernel
theorem dX11_mark_138 : decode cX11_mark 138 = .ok (.iconst 2, 1) := by decide +kernel
theorem dX11_mark_139 : decode cX11_mark 139 = .ok (.iload 4, 2) := by decide +kernel
theorem dX11_mark_141 : decode cX11_mark 141 = .ok (.imul, 1) := by decide +kernel
theorem dX11_mark_142 : decode cX11_mark 142 = .ok (.ireturn, 1) := by decide +kernel
theorem dX11_mark_143 : decode cX11_mark 143 = .ok (.aload_n 0, 1) := by decide +kernel
theorem dX11_mark_144 : decode cX11_mark 144 = .ok (.dup, 1) := by decide +kernel
theorem dX11_mark_145 : decode cX11_mark 145 = .ok (.getfield 226, 3) := by decide +kernel
theorem dX11_mark_148 : decode cX11_mark 148 = .ok (.ldc2_w 236, 3) := by decide +kernel
theorem dX11_mark_151 : decode cX11_mark 151 = .ok (.ladd, 1) := by decide +kernel
theorem dX11_mark_152 : decode cX11_mark 152 = .ok (.putfield 226, 3) := by decide +kernel
theorem dX11_mark_155 : decode cX11_mark 155 = .ok (.iload 5, 2) := by decide +kernel
theorem dX11_mark_157 : decode cX11_mark 157 = .ok (.iload_n 2, 1) := by decide +kernel
theorem dX11_mark_158 : decode cX11_mark 158 = .ok (.iadd, 1) := by decide +kernel
theorem dX11_mark_159 : decode cX11_mark 159 = .ok (.ireturn, 1) := by decide +kernel
theorem dX11_mark_160 : decode cX11_mark 160 = .ok (.aload_n 0, 1) := by decide +kernel
theorem dX11_mark_161 : decode cX11_mark 161 = .ok (.dup, 1) := by decide +kernel
theorem dX11_mark_162 : decode cX11_mark 162 = .ok (.getfield 226, 3) := by decide +kernel
theorem dX11_mark_165 : decode cX11_mark 165 = .ok (.ldc2_w 238, 3) := by decide +kernel
theorem dX11_mark_168 : decode cX11_mark 168 = .ok (.ladd, 1) := by decide +kernel
theorem dX11_mark_169 : decode cX11_mark 169 = .ok (.putfield 226, 3) := by decide +kernel
theorem dX11_mark_172 : decode cX11_mark 172 = .ok (.iload_n 3, 1) := by decide +kernel
theorem dX11_mark_173 : decode cX11_mark 173 = .ok (.aload_n 0, 1) := by decide +kernel
theorem dX11_mark_174 : decode cX11_mark 174 = .ok (.getfield 28, 3) := by decide +kernel
theorem dX11_mark_177 : decode cX11_mark 177 = .ok (.iconst 0, 1) := by decide +kernel
theorem dX11_mark_178 : decode cX11_mark 178 = .ok (.iaload, 1) := by decide +kernel
theorem dX11_mark_179 : decode cX11_mark 179 = .ok (.iadd, 1) := by decide +kernel
theorem dX11_mark_180 : decode cX11_mark 180 = .ok (.ireturn, 1) := by decide +kernel
theorem dX11_mark_181 : decode cX11_mark 181 = .ok (.aload_n 0, 1) := by decide +kernel
theorem dX11_mark_182 : decode cX11_mark 182 = .ok (.dup, 1) := by decide +kernel
theorem dX11_mark_183 : decode cX11_mark 183 = .ok (.getfield 226, 3) := by decide +kernel
theorem dX11_mark_186 : decode cX11_mark 186 = .ok (.lconst 1, 1) := by decide +kernel
theorem dX11_mark_187 : decode cX11_mark 187 = .ok (.ladd, 1) := by decide +kernel
theorem dX11_mark_188 : decode cX11_mark 188 = .ok (.putfield 226, 3) := by decide +kernel
theorem dX11_mark_191 : decode cX11_mark 191 = .ok (.iload_n 3, 1) := by decide +kernel
theorem dX11_mark_192 : decode cX11_mark 192 = .ok (.ireturn, 1) := by decide +kernel
theorem dX11_may_0 : decode cX11_may 0 = .ok (.aload_n 0, 1) := by decide +kernel
theorem dX11_may_1 : decode cX11_may 1 = .ok (.iload_n 1, 1) := by decide +kernel
theorem dX11_may_2 : decode cX11_may 2 = .ok (.invokevirtual 144, 3) := by decide +kernel
theorem dX11_may_5 : decode cX11_may 5 = .ok (.ifCond .ne 46, 3) := by decide +kernel
theorem dX11_may_8 : decode cX11_may 8 = .ok (.aload_n 0, 1) := by decide +kernel
theorem dX11_may_9 : decode cX11_may 9 = .ok (.iload_n 1, 1) := by decide +kernel
theorem dX11_may_10 : decode cX11_may 10 = .ok (.iload_n 2, 1) := by decide +kernel
theorem dX11_may_11 : decode cX11_may 11 = .ok (.invokevirtual 147, 3) := by decide +kernel
theorem dX11_may_14 : decode cX11_may 14 = .ok (.ifCond .ne 37, 3) := by decide +kernel
theorem dX11_may_17 : decode cX11_may 17 = .ok (.aload_n 0, 1) := by decide +kernel
theorem dX11_may_18 : decode cX11_may 18 = .ok (.getfield 19, 3) := by decide +kernel
theorem dX11_may_21 : decode cX11_may 21 = .ok (.iload_n 2, 1) := by decide +kernel
theorem dX11_may_22 : decode cX11_may 22 = .ok (.iaload, 1) := by decide +kernel
theorem dX11_may_23 : decode cX11_may 23 = .ok (.aload_n 0, 1) := by decide +kernel
theorem dX11_may_24 : decode cX11_may 24 = .ok (.getfield 28, 3) := by decide +kernel
theorem dX11_may_27 : decode cX11_may 27 = .ok (.bipush 49, 2) := by decide +kernel
theorem dX11_may_29 : decode cX11_may 29 = .ok (.iload_n 1, 1) := by decide +kernel
theorem dX11_may_30 : decode cX11_may 30 = .ok (.iadd, 1) := by decide +kernel
theorem dX11_may_31 : decode cX11_may 31 = .ok (.iaload, 1) := by decide +kernel
theorem dX11_may_32 : decode cX11_may 32 = .ok (.iconst (-1), 1) := by decide +kernel
theorem dX11_may_33 : decode cX11_may 33 = .ok (.ixor, 1) := by decide +kernel
theorem dX11_may_34 : decode cX11_may 34 = .ok (.iand, 1) := by decide +kernel
theorem dX11_may_35 : decode cX11_may 35 = .ok (.ifCond .ne 16, 3) := by decide +kernel
theorem dX11_may_38 : decode cX11_may 38 = .ok (.aload_n 0, 1) := by decide +kernel
theorem dX11_may_39 : decode cX11_may 39 = .ok (.iload_n 1, 1) := by decide +kernel
theorem dX11_may_40 : decode cX11_may 40 = .ok (.iload_n 2, 1) := by decide +kernel
theorem dX11_may_41 : decode cX11_may 41 = .ok (.invokevirtual 150, 3) := by decide +kernel
theorem dX11_may_44 : decode cX11_may 44 = .ok (.ifCond .eq 7, 3) := by decide +kernel
theorem dX11_may_47 : decode cX11_may 47 = .ok (.iconst 1, 1) := by decide +kernel
theorem dX11_may_48 : decode cX11_may 48 = .ok (.goto 4, 3) := by decide +kernel
theorem dX11_may_51 : decode cX11_may 51 = .ok (.iconst 0, 1) := by decide +kernel
theorem dX11_may_52 : decode cX11_may 52 = .ok (.ireturn, 1) := by decide +kernel
theorem dX11_mays_0 : decode cX11_mays 0 = .ok (.iconst 0, 1) := by decide +kernel
theorem dX11_mays_1 : decode cX11_mays 1 = .ok (.istore_n 2, 1) := by decide +kernel
theorem dX11_mays_2 : decode cX11_mays 2 = .ok (.iconst 0, 1) := by decide +kernel
theorem dX11_mays_3 : decode cX11_mays 3 = .ok (.istore_n 3, 1) := by decide +kernel
theorem dX11_mays_4 : decode cX11_mays 4 = .ok (.iload_n 3, 1) := by decide +kernel
theorem dX11_mays_5 : decode cX11_mays 5 = .ok (.aload_n 0, 1) := by decide +kernel
theorem dX11_mays_6 : decode cX11_mays 6 = .ok (.getfield 68, 3) := by decide +kernel
theorem dX11_mays_9 : decode cX11_mays 9 = .ok (.if_icmp .ge 28, 3) := by decide +kernel
theorem dX11_mays_12 : decode cX11_mays 12 = .ok (.iload_n 2, 1) := by decide +kernel
theorem dX11_mays_13 : decode cX11_mays 13 = .ok (.aload_n 0, 1) := by decide +kernel
theorem dX11_mays_14 : decode cX11_mays 14 = .ok (.iload_n 1, 1) := by decide +kernel
theorem dX11_mays_15 : decode cX11_mays 15 = .ok (.iload_n 3, 1) := by decide +kernel
theorem dX11_mays_16 : decode cX11_mays 16 = .ok (.invokevirtual 153, 3) := by decide +kernel
theorem dX11_mays_19 : decode cX11_mays 19 = .ok (.ifCond .eq 9, 3) := by decide +kernel
theorem dX11_mays_22 : decode cX11_mays 22 = .ok (.iconst 1, 1) := by decide +kernel
theorem dX11_mays_23 : decode cX11_mays 23 = .ok (.iload_n 3, 1) := by decide +kernel
theorem dX11_mays_24 : decode cX11_mays 24 = .ok (.ishl, 1) := by decide +kernel
theorem dX11_mays_25 : decode cX11_mays 25 = .ok (.goto 4, 3) := by decide +kernel
theorem dX11_mays_28 : decode cX11_mays 28 = .ok (.iconst 0, 1) := by decide +kernel
theorem dX11_mays_29 : decode cX11_mays 29 = .ok (.ior, 1) := by decide +kernel
theorem dX11_mays_30 : decode cX11_mays 30 = .ok (.istore_n 2, 1) := by decide +kernel
theorem dX11_mays_31 : decode cX11_mays 31 = .ok (.iinc 3 1, 3) := by decide +kernel
theorem dX11_mays_34 : decode cX11_mays 34 = .ok (.goto (-30), 3) := by decide +kernel
theorem dX11_mays_37 : decode cX11_mays 37 = .ok (.iload_n 2, 1) := by decide +kernel
theorem dX11_mays_38 : decode cX11_mays 38 = .ok (.ireturn, 1) := by decide +kernel
theorem dX11_mends_0 : decode cX11_mends 0 = .ok (.aload_n 0, 1) := by decide +kernel
theorem dX11_mends_1 : decode cX11_mends 1 = .ok (.iload_n 1, 1) := by decide +kernel
theorem dX11_mends_2 : decode cX11_mends 2 = .ok (.invokevirtual 162, 3) := by decide +kernel
theorem dX11_mends_5 : decode cX11_mends 5 = .ok (.ifCond .ne 5, 3) := by decide +kernel
theorem dX11_mends_8 : decode cX11_mends 8 = .ok (.iconst (-1), 1) := by decide +kernel
theorem dX11_mends_9 : decode cX11_mends 9 = .ok (.ireturn, 1) := by decide +kernel
theorem dX11_mends_10 : decode cX11_mends 10 = .ok (.aload_n 0, 1) := by decide +kernel
theorem dX11_mends_11 : decode cX11_mends 11 = .ok (.getfield 28, 3) := by decide +kernel
theorem dX11_mends_14 : decode cX11_mends 14 = .ok (.bipush 61, 2) := by decide +kernel
theorem dX11_mends_16 : decode cX11_mends 16 = .ok (.iload_n 1, 1) := by decide +kernel
theorem dX11_mends_17 : decode cX11_mends 17 = .ok (.iadd, 1) := by decide +kernel
theorem dX11_mends_18 : decode cX11_mends 18 = .ok (.iaload, 1) := by decide +kernel
theorem dX11_mends_19 : decode cX11_mends 19 = .ok (.istore_n 2, 1) := by decide +kernel
theorem dX11_mends_20 : decode cX11_mends 20 = .ok (.iload_n 2, 1) := by decide +kernel
theorem dX11_mends_21 : decode cX11_mends 21 = .ok (.ifCond .ne 6, 3) := by decide +kernel
theorem dX11_mends_24 : decode cX11_mends 24 = .ok (.bipush (-2), 2) := by decide +kernel
theorem dX11_mends_26 : decode cX11_mends 26 = .ok (.ireturn, 1) := by decide +kernel
theorem dX11_mends_27 : decode cX11_mends 27 = .ok (.aload_n 0, 1) := by decide +kernel
theorem dX11_mends_28 : decode cX11_mends 28 = .ok (.invokevirtual 168, 3) := by decide +kernel
theorem dX11_mends_31 : decode cX11_mends 31 = .ok (.aload_n 0, 1) := by decide +kernel
theorem dX11_mends_32 : decode cX11_mends 32 = .ok (.getfield 28, 3) := by decide +kernel
theorem dX11_mends_35 : decode cX11_mends 35 = .ok (.bipush 61, 2) := by decide +kernel
theorem dX11_mends_37 : decode cX11_mends 37 = .ok (.iload_n 1, 1) := by decide +kernel
theorem dX11_mends_38 : decode cX11_mends 38 = .ok (.iadd, 1) := by decide +kernel
theorem dX11_mends_39 : decode cX11_mends 39 = .ok (.iconst 0, 1) := by decide +kernel
theorem dX11_mends_40 : decode cX11_mends 40 = .ok (.iastore, 1) := by decide +kernel
theorem dX11_mends_41 : decode cX11_mends 41 = .ok (.aload_n 0, 1) := by decide +kernel
theorem dX11_mends_42 : decode cX11_mends 42 = .ok (.getfield 28, 3) := by decide +kernel
theorem dX11_mends_45 : decode cX11_mends 45 = .ok (.bipush 67, 2) := by decide +kernel
theorem dX11_mends_47 : decode cX11_mends 47 = .ok (.dup2, 1) := by decide +kernel
theorem dX11_mends_48 : decode cX11_mends 48 = .ok (.iaload, 1) := by decide +kernel
theorem dX11_mends_49 : decode cX11_mends 49 = .ok (.iconst 1, 1) := by decide +kernel
theorem dX11_mends_50 : decode cX11_mends 50 = .ok (.iload_n 1, 1) := by decide +kernel
theorem dX11_mends_51 : decode cX11_mends 51 = .ok (.ishl, 1) := by decide +kernel
theorem dX11_mends_52 : decode cX11_mends 52 = .ok (.iconst (-1), 1) := by decide +kernel
theorem dX11_mends_53 : decode cX11_mends 53 = .ok (.ixor, 1) := by decide +kernel
theorem dX11_mends_54 : decode cX11_mends 54 = .ok (.iand, 1) := by decide +kernel
theorem dX11_mends_55 : decode cX11_mends 55 = .ok (.iastore, 1) := by decide +kernel
theorem dX11_mends_56 : decode cX11_mends 56 = .ok (.iload_n 2, 1) := by decide +kernel
theorem dX11_mends_57 : decode cX11_mends 57 = .ok (.ireturn, 1) := by decide +kernel
theorem dX11_near_0 : decode cX11_near 0 = .ok (.aload_n 0, 1) := by decide +kernel
theorem dX11_near_1 : decode cX11_near 1 = .ok (.iload_n 1, 1) := by decide +kernel
theorem dX11_near_2 : decode cX11_near 2 = .ok (.invokevirtual 162, 3) := by decide +kernel
theorem dX11_near_5 : decode cX11_near 5 = .ok (.ifCond .eq 25, 3) := by decide +kernel
theorem dX11_near_8 : decode cX11_near 8 = .ok (.aload_n 0, 1) := by decide +kernel
theorem dX11_near_9 : decode cX11_near 9 = .ok (.iload_n 2, 1) := by decide +kernel
theorem dX11_near_10 : decode cX11_near 10 = .ok (.invokevirtual 162, 3) := by decide +kernel
theorem dX11_near_13 : decode cX11_near 13 = .ok (.ifCond .eq 17, 3) := by decide +kernel
theorem dX11_near_16 : decode cX11_near 16 = .ok (.iload_n 1, 1) := by decide +kernel
theorem dX11_near_17 : decode cX11_near 17 = .ok (.iload_n 2, 1) := by decide +kernel
theorem dX11_near_18 : decode cX11_near 18 = .ok (.if_icmp .eq 12, 3) := by decide +kernel
theorem dX11_near_21 : decode cX11_near 21 = .ok (.aload_n 0, 1) := by decide +kernel
theorem dX11_near_22 : decode cX11_near 22 = .ok (.iload_n 1, 1) := by decide +kernel
theorem dX11_near_23 : decode cX11_near 23 = .ok (.iload_n 2, 1) := by decide +kernel
theorem dX11_near_24 : decode cX11_near 24 = .ok (.invokevirtual 215, 3) := by decide +kernel
theorem dX11_near_27 : decode cX11_near 27 = .ok (.goto 4, 3) := by decide +kernel
theorem dX11_near_30 : decode cX11_near 30 = .ok (.iconst (-1), 1) := by decide +kernel
theorem dX11_near_31 : decode cX11_near 31 = .ok (.ireturn, 1) := by decide +kernel
theorem dX11_next_0 : decode cX11_next 0 = .ok (.aload_n 0, 1) := by decide +kernel
theorem dX11_next_1 : decode cX11_next 1 = .ok (.aload_n 0, 1) := by decide +kernel
theorem dX11_next_2 : decode cX11_next 2 = .ok (.getfield 82, 3) := by decide +kernel
theorem dX11_next_5 : decode cX11_next 5 = .ok (.invokevirtual 85, 3) := by decide +kernel
theorem dX11_next_8 : decode cX11_next 8 = .ok (.bipush 32, 2) := by decide +kernel
theorem dX11_next_10 : decode cX11_next 10 = .ok (.if_icmp .ne 16, 3) := by decide +kernel
theorem dX11_next_13 : decode cX11_next 13 = .ok (.aload_n 0, 1) := by decide +kernel
theorem dX11_next_14 : decode cX11_next 14 = .ok (.dup, 1) := by decide +kernel
theorem dX11_next_15 : decode cX11_next 15 = .ok (.getfield 82, 3) := by decide +kernel
theorem dX11_next_18 : decode cX11_next 18 = .ok (.iconst 1, 1) := by decide +kernel
theorem dX11_next_19 : decode cX11_next 19 = .ok (.iadd, 1) := by decide +kernel
theorem dX11_next_20 : decode cX11_next 20 = .ok (.putfield 82, 3) := by decide +kernel
theorem dX11_next_23 : decode cX11_next 23 = .ok (.goto (-23), 3) := by decide +kernel
theorem dX11_next_26 : decode cX11_next 26 = .ok (.aload_n 0, 1) := by decide +kernel
theorem dX11_next_27 : decode cX11_next 27 = .ok (.aload_n 0, 1) := by decide +kernel
theorem dX11_next_28 : decode cX11_next 28 = .ok (.getfield 82, 3) := by decide +kernel
theorem dX11_next_31 : decode cX11_next 31 = .ok (.putfield 89, 3) := by decide +kernel
theorem dX11_next_34 : decode cX11_next 34 = .ok (.aload_n 0, 1) := by decide +kernel
theorem dX11_next_35 : decode cX11_next 35 = .ok (.aload_n 0, 1) := by decide +kernel
theorem dX11_next_36 : decode cX11_next 36 = .ok (.getfield 82, 3) := by decide +kernel
theorem dX11_next_39 : decode cX11_next 39 = .ok (.invokevirtual 85, 3) := by decide +kernel
theorem dX11_next_42 : decode cX11_next 42 = .ok (.istore_n 1, 1) := by decide +kernel
theorem dX11_next_43 : decode cX11_next 43 = .ok (.aload_n 0, 1) := by decide +kernel
theorem dX11_next_44 : decode cX11_next 44 = .ok (.iconst 0, 1) := by decide +kernel
theorem dX11_next_45 : decode cX11_next 45 = .ok (.putfield 92, 3) := by decide +kernel
theorem dX11_next_48 : decode cX11_next 48 = .ok (.iload_n 1, 1) := by decide +kernel
theorem dX11_next_49 : decode cX11_next 49 = .ok (.ifCond .ge 11, 3) := by decide +kernel
theorem dX11_next_52 : decode cX11_next 52 = .ok (.aload_n 0, 1) := by decide +kernel
theorem dX11_next_53 : decode cX11_next 53 = .ok (.iconst 0, 1) := by decide +kernel
theorem dX11_next_54 : decode cX11_next 54 = .ok (.putfield 95, 3) := by decide +kernel
theorem dX11_next_57 : decode cX11_next 57 = .ok (.goto 205, 3) := by decide +kernel
theorem dX11_next_60 : decode cX11_next 60 = .ok (.iload_n 1, 1) := by decide +kernel
theorem dX11_next_61 : decode cX11_next 61 = .ok (.invokestatic 98, 3) := by decide +kernel
theorem dX11_next_64 : decode cX11_next 64 = .ok (.ifCond .eq 109, 3) := by decide +kernel
theorem dX11_next_67 : decode cX11_next 67 = .ok (.aload_n 0, 1) := by decide +kernel
theorem dX11_next_68 : decode cX11_next 68 = .ok (.aload_n 0, 1) := by decide +kernel
theorem dX11_next_69 : decode cX11_next 69 = .ok (.getfield 82, 3) := by decide +kernel
theorem dX11_next_72 : decode cX11_next 72 = .ok (.invokevirtual 85, 3) := by decide +kernel
theorem dX11_next_75 : decode cX11_next 75 = .ok (.invokestatic 98, 3) := by decide +kernel
theorem dX11_next_78 : decode cX11_next 78 = .ok (.ifCond .eq 55, 3) := by decide +kernel
theorem dX11_next_81 : decode cX11_next 81 = .ok (.aload_n 0, 1) := by decide +kernel
theorem dX11_next_82 : decode cX11_next 82 = .ok (.aload_n 0, 1) := by decide +kernel
theorem dX11_next_83 : decode cX11_next 83 = .ok (.getfield 92, 3) := by decide +kernel
theorem dX11_next_86 : decode cX11_next 86 = .ok (.bipush 99, 2) := by decide +kernel
theorem dX11_next_88 : decode cX11_next 88 = .ok (.if_icmp .le 10, 3) := by decide +kernel
theorem dX11_next_91 : decode cX11_next 91 = .ok (.aload_n 0, 1) := by decide +kernel
theorem dX11_next_92 : decode cX11_next 92 = .ok (.getfield 92, 3) := by decide +kernel
theorem dX11_next_95 : decode cX11_next 95 = .ok (.goto 22, 3) := by decide +kernel
theorem dX11_next_98 : decode cX11_next 98 = .ok (.bipush 10, 2) := by decide +kernel
theorem dX11_next_100 : decode cX11_next 100 = .ok (.aload_n 0, 1) := by decide +kernel
theorem dX11_next_101 : decode cX11_next 101 = .ok (.getfield 92, 3) := by decide +kernel
theorem dX11_next_104 : decode cX11_next 104 = .ok (.imul, 1) := by decide +kernel
theorem dX11_next_105 : decode cX11_next 105 = .ok (.aload_n 0, 1) := by decide +kernel
theorem dX11_next_106 : decode cX11_next 106 = .ok (.aload_n 0, 1) := by decide +kernel
theorem dX11_next_107 : decode cX11_next 107 = .ok (.getfield 82, 3) := by decide +kernel
theorem dX11_next_110 : decode cX11_next 110 = .ok (.invokevirtual 85, 3) := by decide +kernel
theorem dX11_next_113 : decode cX11_next 113 = .ok (.iadd, 1) := by decide +kernel
theorem dX11_next_114 : decode cX11_next 114 = .ok (.bipush 48, 2) := by decide +kernel
theorem dX11_next_116 : decode cX11_next 116 = .ok (.isub, 1) := by decide +kernel
theorem dX11_next_117 : decode cX11_next 117 = .ok (.putfield 92, 3) := by decide +kernel
theorem dX11_next_120 : decode cX11_next 120 = .ok (.aload_n 0, 1) := by decide +kernel
theorem dX11_next_121 : decode cX11_next 121 = .ok (.dup, 1) := by decide +kernel
theorem dX11_next_122 : decode cX11_next 122 = .ok (.getfield 82, 3) := by decide +kernel
theorem dX11_next_125 : decode cX11_next 125 = .ok (.iconst 1, 1) := by decide +kernel
theorem dX11_next_126 : decode cX11_next 126 = .ok (.iadd, 1) := by decide +kernel
theorem dX11_next_127 : decode cX11_next 127 = .ok (.putfield 82, 3) := by decide +kernel
theorem dX11_next_130 : decode cX11_next 130 = .ok (.goto (-63), 3) := by decide +kernel
theorem dX11_next_133 : decode cX11_next 133 = .ok (.aload_n 0, 1) := by decide +kernel
theorem dX11_next_134 : decode cX11_next 134 = .ok (.aload_n 0, 1) := by decide +kernel
theorem dX11_next_135 : decode cX11_next 135 = .ok (.getfield 92, 3) := by decide +kernel
theorem dX11_next_138 : decode cX11_next 138 = .ok (.bipush 99, 2) := by decide +kernel
theorem dX11_next_140 : decode cX11_next 140 = .ok (.if_icmp .gt 22, 3) := by decide +kernel
theorem dX11_next_143 : decode cX11_next 143 = .ok (.iload_n 1, 1) := by decide +kernel
theorem dX11_next_144 : decode cX11_next 144 = .ok (.bipush 48, 2) := by decide +kernel
theorem dX11_next_146 : decode cX11_next 146 = .ok (.if_icmp .ne 20, 3) := by decide +kernel
theorem dX11_next_149 : decode cX11_next 149 = .ok (.aload_n 0, 1) := by decide +kernel
theorem dX11_next_150 : decode cX11_next 150 = .ok (.getfield 82, 3) := by decide +kernel
theorem dX11_next_153 : decode cX11_next 153 = .ok (.aload_n 0, 1) := by decide +kernel
theorem dX11_next_154 : decode cX11_next 154 = .ok (.getfield 89, 3) := by decide +kernel
theorem dX11_next_157 : decode cX11_next 157 = .ok (.isub, 1) := by decide +kernel
theorem dX11_next_158 : decode cX11_next 158 = .ok (.iconst 1, 1) := by decide +kernel
theorem dX11_next_159 : decode cX11_next 159 = .ok (.if_icmp .le 7, 3) := by decide +kernel
theorem dX11_next_162 : decode cX11_next 162 = .ok (.iconst 4, 1) := by decide +kernel
theorem dX11_next_163 : decode cX11_next 163 = .ok (.goto 4, 3) := by decide +kernel
theorem dX11_next_166 : decode cX11_next 166 = .ok (.iconst 2, 1) := by decide +kernel
theorem dX11_next_167 : decode cX11_next 167 = .ok (.putfield 95, 3) := by decide +kernel
theorem dX11_next_170 : decode cX11_next 170 = .ok (.goto 92, 3) := by decide +kernel
theorem dX11_next_173 : decode cX11_next 173 = .ok (.iload_n 1, 1) := by decide +kernel
theorem dX11_next_174 : decode cX11_next 174 = .ok (.invokestatic 102, 3) := by decide +kernel
theorem dX11_next_177 : decode cX11_next 177 = .ok (.ifCond .eq 60, 3) := by decide +kernel
theorem dX11_next_180 : decode cX11_next 180 = .ok (.aload_n 0, 1) := by decide +kernel
theorem dX11_next_181 : decode cX11_next 181 = .ok (.aload_n 0, 1) := by decide +kernel
theorem dX11_next_182 : decode cX11_next 182 = .ok (.getfield 82, 3) := by decide +kernel
theorem dX11_next_185 : decode cX11_next 185 = .ok (.invokevirtual 85, 3) := by decide +kernel
theorem dX11_next_188 : decode cX11_next 188 = .ok (.invokestatic 102, 3) := by decide +kernel
theorem dX11_next_191 : decode cX11_next 191 = .ok (.ifCond .eq 16, 3) := by decide +kernel
theorem dX11_next_194 : decode cX11_next 194 = .ok (.aload_n 0, 1) := by decide +kernel
theorem dX11_next_195 : decode cX11_next 195 = .ok (.dup, 1) := by decide +kernel
theorem dX11_next_196 : decode cX11_next 196 = .ok (.getfield 82, 3) := by decide +kernel
theorem dX11_next_199 : decode cX11_next 199 = .ok (.iconst 1, 1) := by decide +kernel
theorem dX11_next_200 : decode cX11_next 200 = .ok (.iadd, 1) := by decide +kernel
theorem dX11_next_201 : decode cX11_next 201 = .ok (.putfield 82, 3) := by decide +kernel
theorem dX11_next_204 : decode cX11_next 204 = .ok (.goto (-24), 3) := by decide +kernel
theorem dX11_next_207 : decode cX11_next 207 = .ok (.aload_n 0, 1) := by decide +kernel
theorem dX11_next_208 : decode cX11_next 208 = .ok (.iconst 1, 1) := by decide +kernel
theorem dX11_next_209 : decode cX11_next 209 = .ok (.putfield 95, 3) := by decide +kernel
theorem dX11_next_212 : decode cX11_next 212 = .ok (.aload_n 0, 1) := by decide +kernel
theorem dX11_next_213 : decode cX11_next 213 = .ok (.aload_n 0, 1) := by decide +kernel
theorem dX11_next_214 : decode cX11_next 214 = .ok (.getfield 82, 3) := by decide +kernel
theorem dX11_next_217 : decode cX11_next 217 = .ok (.aload_n 0, 1) := by decide +kernel
theorem dX11_next_218 : decode cX11_next 218 = .ok (.getfield 89, 3) := by decide +kernel
theorem dX11_next_221 : decode cX11_next 221 = .ok (.isub, 1) := by decide +kernel
theorem dX11_next_222 : decode cX11_next 222 = .ok (.iconst 1, 1) := by decide +kernel
theorem dX11_next_223 : decode cX11_next 223 = .ok (.if_icmp .ne 7, 3) := by decide +kernel
theorem dX11_next_226 : decode cX11_next 226 = .ok (.iload_n 1, 1) := by decide +kernel
theorem dX11_next_227 : decode cX11_next 227 = .ok (.goto 4, 3) := by decide +kernel
theorem dX11_next_230 : decode cX11_next 230 = .ok (.iconst 0, 1) := by decide +kernel
theorem dX11_next_231 : decode cX11_next 231 = .ok (.putfield 92, 3) := by decide +kernel
theorem dX11_next_234 : decode cX11_next 234 = .ok (.goto 28, 3) := by decide +kernel
theorem dX11_next_237 : decode cX11_next 237 = .ok (.aload_n 0, 1) := by decide +kernel
theorem dX11_next_238 : decode cX11_next 238 = .ok (.iload_n 1, 1) := by decide +kernel
theorem dX11_next_239 : decode cX11_next 239 = .ok (.bipush 59, 2) := by decide +kernel
theorem dX11_next_241 : decode cX11_next 241 = .ok (.if_icmp .ne 7, 3) := by decide +kernel
theorem dX11_next_244 : decode cX11_next 244 = .ok (.iconst 3, 1) := by decide +kernel
theorem dX11_next_245 : decode cX11_next 245 = .ok (.goto 4, 3) := by decide +kernel
theorem dX11_next_248 : decode cX11_next 248 = .ok (.iconst 4, 1) := by decide +kernel
theorem dX11_next_249 : decode cX11_next 249 = .ok (.putfield 95, 3) := by decide +kernel
theorem dX11_next_252 : decode cX11_next 252 = .ok (.aload_n 0, 1) := by decide +kernel
theorem dX11_next_253 : decode cX11_next 253 = .ok (.dup, 1) := by decide +kernel
theorem dX11_next_254 : decode cX11_next 254 = .ok (.getfield 82, 3) := by decide +kernel
theorem dX11_next_257 : decode cX11_next 257 = .ok (.iconst 1, 1) := by decide +kernel
theorem dX11_next_258 : decode cX11_next 258 = .ok (.iadd, 1) := by decide +kernel
theorem dX11_next_259 : decode cX11_next 259 = .ok (.putfield 82, 3) := by decide +kernel
theorem dX11_next_262 : decode cX11_next 262 = .ok (.return_, 1) := by decide +kernel
theorem dX11_nights_0 : decode cX11_nights 0 = .ok (.iload_n 1, 1) := by decide +kernel
theorem dX11_nights_1 : decode cX11_nights 1 = .ok (.iconst 1, 1) := by decide +kernel
theorem dX11_nights_2 : decode cX11_nights 2 = .ok (.bipush 9, 2) := by decide +kernel
theorem dX11_nights_4 : decode cX11_nights 4 = .ok (.invokestatic 72, 3) := by decide +kernel
theorem dX11_nights_7 : decode cX11_nights 7 = .ok (.ifCond .ne 5, 3) := by decide +kernel
theorem dX11_nights_10 : decode cX11_nights 10 = .ok (.iconst (-1), 1) := by decide +kernel
theorem dX11_nights_11 : decode cX11_nights 11 = .ok (.ireturn, 1) := by decide +kernel
theorem dX11_nights_12 : decode cX11_nights 12 = .ok (.aload_n 0, 1) := by decide +kernel
theorem dX11_nights_13 : decode cX11_nights 13 = .ok (.getfield 28, 3) := by decide +kernel
theorem dX11_nights_16 : decode cX11_nights 16 = .ok (.iconst 0, 1) := by decide +kernel
theorem dX11_nights_17 : decode cX11_nights 17 = .ok (.iaload, 1) := by decide +kernel
theorem dX11_nights_18 : decode cX11_nights 18 = .ok (.iload_n 1, 1) := by decide +kernel
theorem dX11_nights_19 : decode cX11_nights 19 = .ok (.iadd, 1) := by decide +kernel
theorem dX11_nights_20 : decode cX11_nights 20 = .ok (.sipush 999, 3) := by decide +kernel
theorem dX11_nights_23 : decode cX11_nights 23 = .ok (.if_icmp .le 6, 3) := by decide +kernel
theorem dX11_nights_26 : decode cX11_nights 26 = .ok (.bipush (-2), 2) := by decide +kernel
theorem dX11_nights_28 : decode cX11_nights 28 = .ok (.ireturn, 1) := by decide +kernel
theorem dX11_nights_29 : decode cX11_nights 29 = .ok (.aload_n 0, 1) := by decide +kernel
theorem dX11_nights_30 : decode cX11_nights 30 = .ok (.invokevirtual 168, 3) := by decide +kernel
theorem dX11_nights_33 : decode cX11_nights 33 = .ok (.iconst 0, 1) := by decide +kernel
theorem dX11_nights_34 : decode cX11_nights 34 = .ok (.istore_n 2, 1) := by decide +kernel
theorem dX11_nights_35 : decode cX11_nights 35 = .ok (.iload_n 2, 1) := by decide +kernel
theorem dX11_nights_36 : decode cX11_nights 36 = .ok (.iload_n 1, 1) := by decide +kernel
theorem dX11_nights_37 : decode cX11_nights 37 = .ok (.if_icmp .ge 63, 3) := by decide +kernel
theorem dX11_nights_40 : decode cX11_nights 40 = .ok (.iconst 0, 1) := by decide +kernel
theorem dX11_nights_41 : decode cX11_nights 41 = .ok (.istore_n 3, 1) := by decide +kernel
theorem dX11_nights_42 : decode cX11_nights 42 = .ok (.iload_n 3, 1) := by decide +kernel
theorem dX11_nights_43 : decode cX11_nights 43 = .ok (.aload_n 0, 1) := by decide +kernel
theorem dX11_nights_44 : decode cX11_nights 44 = .ok (.getfield 76, 3) := by decide +kernel
theorem dX11_nights_47 : decode cX11_nights 47 = .ok (.if_icmp .ge 37, 3) := by decide +kernel
theorem dX11_nights_50 : decode cX11_nights 50 = .ok (.aload_n 0, 1) := by decide +kernel
theorem dX11_nights_51 : decode cX11_nights 51 = .ok (.getfield 28, 3) := by decide +kernel
theorem dX11_nights_54 : decode cX11_nights 54 = .ok (.bipush 68, 2) := by decide +kernel
theorem dX11_nights_56 : decode cX11_nights 56 = .ok (.iload_n 3, 1) := by decide +kernel
theorem dX11_nights_57 : decode cX11_nights 57 = .ok (.iadd, 1) := by decide +kernel
theorem dX11_nights_58 : decode cX11_nights 58 = .ok (.iaload, 1) := by decide +kernel
theorem dX11_nights_59 : decode cX11_nights 59 = .ok (.bipush (-9), 2) := by decide +kernel
theorem dX11_nights_61 : decode cX11_nights 61 = .ok (.if_icmp .eq 17, 3) := by decide +kernel
theorem dX11_nights_64 : decode cX11_nights 64 = .ok (.aload_n 0, 1) := by decide +kernel
theorem dX11_nights_65 : decode cX11_nights 65 = .ok (.iload_n 3, 1) := by decide +kernel
theorem dX11_nights_66 : decode cX11_nights 66 = .ok (.aload_n 0, 1) := by decide +kernel
theorem dX11_nights_67 : decode cX11_nights 67 = .ok (.getfield 28, 3) := by decide +kernel
theorem dX11_nights_70 : decode cX11_nights 70 = .ok (.bipush 68, 2) := by decide +kernel
theorem dX11_nights_72 : decode cX11_nights 72 = .ok (.iload_n 3, 1) := by decide +kernel
theorem dX11_nights_73 : decode cX11_nights 73 = .ok (.iadd, 1) := by decide +kernel
theorem dX11_nights_74 : decode cX11_nights 74 = .ok (.iaload, 1) := by decide +kernel
theorem dX11_nights_75 : decode cX11_nights 75 = .ok (.invokevirtual 171, 3) := by decide +kernel
theorem dX11_nights_78 : decode cX11_nights 78 = .ok (.iinc 3 1, 3) := by decide +kernel
theorem dX11_nights_81 : decode cX11_nights 81 = .ok (.goto (-39), 3) := by decide +kernel
theorem dX11_nights_84 : decode cX11_nights 84 = .ok (.aload_n 0, 1) := by decide +kernel
theorem dX11_nights_85 : decode cX11_nights 85 = .ok (.getfield 28, 3) := by decide +kernel
theorem dX11_nights_88 : decode cX11_nights 88 = .ok (.iconst 0, 1) := by decide +kernel
theorem dX11_nights_89 : decode cX11_nights 89 = .ok (.dup2, 1) := by decide +kernel
theorem dX11_nights_90 : decode cX11_nights 90 = .ok (.iaload, 1) := by decide +kernel
theorem dX11_nights_91 : decode cX11_nights 91 = .ok (.iconst 1, 1) := by decide +kernel
theorem dX11_nights_92 : decode cX11_nights 92 = .ok (.iadd, 1) := by decide +kernel
theorem dX11_nights_93 : decode cX11_nights 93 = .ok (.iastore, 1) := by decide +kernel
theorem dX11_nights_94 : decode cX11_nights 94 = .ok (.iinc 2 1, 3) := by decide +kernel
theorem dX11_nights_97 : decode cX11_nights 97 = .ok (.goto (-62), 3) := by decide +kernel
theorem dX11_nights_100 : decode cX11_nights 100 = .ok (.aload_n 0, 1) := by decide +kernel
theorem dX11_nights_101 : decode cX11_nights 101 = .ok (.getfield 28, 3) := by decide +kernel
theorem dX11_nights_104 : decode cX11_nights 104 = .ok (.bipush 67, 2) := by decide +kernel
theorem dX11_nights_106 : decode cX11_nights 106 = .ok (.iaload, 1) := by decide +kernel
theorem dX11_nights_107 : decode cX11_nights 107 = .ok (.invokestatic 175, 3) := by decide +kernel
theorem dX11_nights_110 : decode cX11_nights 110 = .ok (.ireturn, 1) := by decide +kernel
theorem dX11_nightsFor_0 : decode cX11_nightsFor 0 = .ok (.aload_n 0, 1) := by decide +kernel
theorem dX11_nightsFor_1 : decode cX11_nightsFor 1 = .ok (.getfield 13, 3) := by decide +kernel
theorem dX11_nightsFor_4 : decode cX11_nightsFor 4 = .ok (.iload_n 2, 1) := by decide +kernel
theorem dX11_nightsFor_5 : decode cX11_nightsFor 5 = .ok (.iaload, 1) := by decide +kernel
theorem dX11_nightsFor_6 : decode cX11_nightsFor 6 = .ok (.aload_n 0, 1) := by decide +kernel
theorem dX11_nightsFor_7 : decode cX11_nightsFor 7 = .ok (.getfield 28, 3) := by decide +kernel
theorem dX11_nightsFor_10 : decode cX11_nightsFor 10 = .ok (.iconst 1, 1) := by decide +kernel
theorem dX11_nightsFor_11 : decode cX11_nightsFor 11 = .ok (.bipush 8, 2) := by decide +kernel
theorem dX11_nightsFor_13 : decode cX11_nightsFor 13 = .ok (.iload_n 1, 1) := by decide +kernel
theorem dX11_nightsFor_14 : decode cX11_nightsFor 14 = .ok (.imul, 1) := by decide +kernel
theorem dX11_nightsFor_15 : decode cX11_nightsFor 15 = .ok (.iadd, 1) := by decide +kernel
theorem dX11_nightsFor_16 : decode cX11_nightsFor 16 = .ok (.iload_n 2, 1) := by decide +kernel
theorem dX11_nightsFor_17 : decode cX11_nightsFor 17 = .ok (.iadd, 1) := by decide +kernel
theorem dX11_nightsFor_18 : decode cX11_nightsFor 18 = .ok (.iaload, 1) := by decide +kernel
theorem dX11_nightsFor_19 : decode cX11_nightsFor 19 = .ok (.isub, 1) := by decide +kernel
theorem dX11_nightsFor_20 : decode cX11_nightsFor 20 = .ok (.istore_n 3, 1) := by decide +kernel
theorem dX11_nightsFor_21 : decode cX11_nightsFor 21 = .ok (.iload_n 3, 1) := by decide +kernel
theorem dX11_nightsFor_22 : decode cX11_nightsFor 22 = .ok (.aload_n 0, 1) := by decide +kernel
theorem dX11_nightsFor_23 : decode cX11_nightsFor 23 = .ok (.getfield 25, 3) := by decide +kernel
theorem dX11_nightsFor_26 : decode cX11_nightsFor 26 = .ok (.iload_n 1, 1) := by decide +kernel
theorem dX11_nightsFor_27 : decode cX11_nightsFor 27 = .ok (.iaload, 1) := by decide +kernel
theorem dX11_nightsFor_28 : decode cX11_nightsFor 28 = .ok (.iadd, 1) := by decide +kernel
theorem dX11_nightsFor_29 : decode cX11_nightsFor 29 = .ok (.iconst 1, 1) := by decide +kernel
theorem dX11_nightsFor_30 : decode cX11_nightsFor 30 = .ok (.isub, 1) := by decide +kernel
theorem dX11_nightsFor_31 : decode cX11_nightsFor 31 = .ok (.aload_n 0, 1) := by decide +kernel
theorem dX11_nightsFor_32 : decode cX11_nightsFor 32 = .ok (.getfield 25, 3) := by decide +kernel
theorem dX11_nightsFor_35 : decode cX11_nightsFor 35 = .ok (.iload_n 1, 1) := by decide +kernel
theorem dX11_nightsFor_36 : decode cX11_nightsFor 36 = .ok (.iaload, 1) := by decide +kernel
theorem dX11_nightsFor_37 : decode cX11_nightsFor 37 = .ok (.idiv, 1) := by decide +kernel
theorem dX11_nightsFor_38 : decode cX11_nightsFor 38 = .ok (.istore 4, 2) := by decide +kernel
theorem dX11_nightsFor_40 : decode cX11_nightsFor 40 = .ok (.iload_n 3, 1) := by decide +kernel
theorem dX11_nightsFor_41 : decode cX11_nightsFor 41 = .ok (.iconst 1, 1) := by decide +kernel
theorem dX11_nightsFor_42 : decode cX11_nightsFor 42 = .ok (.if_icmp .lt 9, 3) := by decide +kernel
theorem dX11_nightsFor_45 : decode cX11_nightsFor 45 = .ok (.iload 4, 2) := by decide +kernel
theorem dX11_nightsFor_47 : decode cX11_nightsFor 47 = .ok (.iconst 1, 1) := by decide +kernel
theorem dX11_nightsFor_48 : decode cX11_nightsFor 48 = .ok (.if_icmp .ge 7, 3) := by decide +kernel
theorem dX11_nightsFor_51 : decode cX11_nightsFor 51 = .ok (.iconst 1, 1) := by decide +kernel
theorem dX11_nightsFor_52 : decode cX11_nightsFor 52 = .ok (.goto 5, 3) := by decide +kernel
theorem dX11_nightsFor_55 : decode cX11_nightsFor 55 = .ok (.iload 4, 2) := by decide +kernel
theorem dX11_nightsFor_57 : decode cX11_nightsFor 57 = .ok (.ireturn, 1) := by decide +kernel
theorem dX11_nightsOf_0 : decode cX11_nightsOf 0 = .ok (.iconst 0, 1) := by decide +kernel
theorem dX11_nightsOf_1 : decode cX11_nightsOf 1 = .ok (.istore_n 3, 1) := by decide +kernel
theorem dX11_nightsOf_2 : decode cX11_nightsOf 2 = .ok (.iconst 0, 1) := by decide +kernel
theorem dX11_nightsOf_3 : decode cX11_nightsOf 3 = .ok (.istore 4, 2) := by decide +kernel
theorem dX11_nightsOf_5 : decode cX11_nightsOf 5 = .ok (.iload 4, 2) := by decide +kernel
theorem dX11_nightsOf_7 : decode cX11_nightsOf 7 = .ok (.aload_n 0, 1) := by decide +kernel
theorem dX11_nightsOf_8 : decode cX11_nightsOf 8 = .ok (.getfield 68, 3) := by decide +kernel
theorem dX11_nightsOf_11 : decode cX11_nightsOf 11 = .ok (.if_icmp .ge 32, 3) := by decide +kernel
theorem dX11_nightsOf_14 : decode cX11_nightsOf 14 = .ok (.iload_n 3, 1) := by decide +kernel
theorem dX11_nightsOf_15 : decode cX11_nightsOf 15 = .ok (.iload_n 2, 1) := by decide +kernel
theorem dX11_nightsOf_16 : decode cX11_nightsOf 16 = .ok (.iload 4, 2) := by decide +kernel
theorem dX11_nightsOf_18 : decode cX11_nightsOf 18 = .ok (.invokestatic 140, 3) := by decide +kernel
theorem dX11_nightsOf_21 : decode cX11_nightsOf 21 = .ok (.ifCond .eq 13, 3) := by decide +kernel
theorem dX11_nightsOf_24 : decode cX11_nightsOf 24 = .ok (.aload_n 0, 1) := by decide +kernel
theorem dX11_nightsOf_25 : decode cX11_nightsOf 25 = .ok (.iload_n 1, 1) := by decide +kernel
theorem dX11_nightsOf_26 : decode cX11_nightsOf 26 = .ok (.iload 4, 2) := by decide +kernel
theorem dX11_nightsOf_28 : decode cX11_nightsOf 28 = .ok (.invokevirtual 188, 3) := by decide +kernel
theorem dX11_nightsOf_31 : decode cX11_nightsOf 31 = .ok (.goto 4, 3) := by decide +kernel
theorem dX11_nightsOf_34 : decode cX11_nightsOf 34 = .ok (.iconst 0, 1) := by decide +kernel
theorem dX11_nightsOf_35 : decode cX11_nightsOf 35 = .ok (.iadd, 1) := by decide +kernel
theorem dX11_nightsOf_36 : decode cX11_nightsOf 36 = .ok (.istore_n 3, 1) := by decide +kernel
theorem dX11_nightsOf_37 : decode cX11_nightsOf 37 = .ok (.iinc 4 1, 3) := by decide +kernel
theorem dX11_nightsOf_40 : decode cX11_nightsOf 40 = .ok (.goto (-35), 3) := by decide +kernel
theorem dX11_nightsOf_43 : decode cX11_nightsOf 43 = .ok (.iload_n 3, 1) := by decide +kernel
theorem dX11_nightsOf_44 : decode cX11_nightsOf 44 = .ok (.ireturn, 1) := by decide +kernel
theorem dX11_now_0 : decode cX11_now 0 = .ok (.iload_n 1, 1) := by decide +kernel
theorem dX11_now_1 : decode cX11_now 1 = .ok (.tableswitch 65 0 4 #[35, 42, 50, 55, 60], 35) := by decide +kernel
theorem dX11_now_36 : decode cX11_now 36 = .ok (.aload_n 0, 1) := by decide +kernel
theorem dX11_now_37 : decode cX11_now 37 = .ok (.getfield 28, 3) := by decide +kernel
theorem dX11_now_40 : decode cX11_now 40 = .ok (.iconst 0, 1) := by decide +kernel
theorem dX11_now_41 : decode cX11_now 41 = .ok (.iaload, 1) := by decide +kernel
theorem dX11_now_42 : decode cX11_now 42 = .ok (.ireturn, 1) := by decide +kernel
theorem dX11_now_43 : decode cX11_now 43 = .ok (.aload_n 0, 1) := by decide +kernel
theorem dX11_now_44 : decode cX11_now 44 = .ok (.getfield 28, 3) := by decide +kernel
theorem dX11_now_47 : decode cX11_now 47 = .ok (.bipush 67, 2) := by decide +kernel
theorem dX11_now_49 : decode cX11_now 49 = .ok (.iaload, 1) := by decide +kernel
theorem dX11_now_50 : decode cX11_now 50 = .ok (.ireturn, 1) := by decide +kernel
theorem dX11_now_51 : decode cX11_now 51 = .ok (.aload_n 0, 1) := by decide +kernel
theorem dX11_now_52 : decode cX11_now 52 = .ok (.invokevirtual 178, 3) := by decide +kernel
theorem dX11_now_55 : decode cX11_now 55 = .ok (.ireturn, 1) := by decide +kernel
theorem dX11_now_56 : decode cX11_now 56 = .ok (.aload_n 0, 1) := by decide +kernel
theorem dX11_now_57 : decode cX11_now 57 = .ok (.invokevirtual 182, 3) := by decide +kernel
theorem dX11_now_60 : decode cX11_now 60 = .ok (.ireturn, 1) := by decide +kernel
theorem dX11_now_61 : decode cX11_now 61 = .ok (.aload_n 0, 1) := by decide +kernel
theorem dX11_now_62 : decode cX11_now 62 = .ok (.invokevirtual 185, 3) := by decide +kernel
theorem dX11_now_65 : decode cX11_now 65 = .ok (.ireturn, 1) := by decide +kernel
theorem dX11_now_66 : decode cX11_now 66 = .ok (.iconst (-1), 1) := by decide +kernel
theorem dX11_now_67 : decode cX11_now 67 = .ok (.ireturn, 1) := by decide +kernel
theorem dX11_odds_0 : decode cX11_odds 0 = .ok (.iload_n 1, 1) := by decide +kernel
theorem dX11_odds_1 : decode cX11_odds 1 = .ok (.iconst 0, 1) := by decide +kernel
theorem dX11_odds_2 : decode cX11_odds 2 = .ok (.bipush 10, 2) := by decide +kernel
theorem dX11_odds_4 : decode cX11_odds 4 = .ok (.invokestatic 72, 3) := by decide +kernel
theorem dX11_odds_7 : decode cX11_odds 7 = .ok (.ifCond .eq 22, 3) := by decide +kernel
theorem dX11_odds_10 : decode cX11_odds 10 = .ok (.iload_n 2, 1) := by decide +kernel
theorem dX11_odds_11 : decode cX11_odds 11 = .ok (.iconst 0, 1) := by decide +kernel
theorem dX11_odds_12 : decode cX11_odds 12 = .ok (.bipush 6, 2) := by decide +kernel
theorem dX11_odds_14 : decode cX11_odds 14 = .ok (.invokestatic 72, 3) := by decide +kernel
theorem dX11_odds_17 : decode cX11_odds 17 = .ok (.ifCond .eq 12, 3) := by decide +kernel
theorem dX11_odds_20 : decode cX11_odds 20 = .ok (.iload_n 3, 1) := by decide +kernel
theorem dX11_odds_21 : decode cX11_odds 21 = .ok (.iconst 0, 1) := by decide +kernel
theorem dX11_odds_22 : decode cX11_odds 22 = .ok (.iconst 1, 1) := by decide +kernel
theorem dX11_odds_23 : decode cX11_odds 23 = .ok (.invokestatic 72, 3) := by decide +kernel
theorem dX11_odds_26 : decode cX11_odds 26 = .ok (.ifCond .ne 5, 3) := by decide +kernel
theorem dX11_odds_29 : decode cX11_odds 29 = .ok (.iconst (-1), 1) := by decide +kernel
theorem dX11_odds_30 : decode cX11_odds 30 = .ok (.ireturn, 1) := by decide +kernel
theorem dX11_odds_31 : decode cX11_odds 31 = .ok (.aload_n 0, 1) := by decide +kernel
theorem dX11_odds_32 : decode cX11_odds 32 = .ok (.getfield 76, 3) := by decide +kernel
theorem dX11_odds_35 : decode cX11_odds 35 = .ok (.aload_n 0, 1) := by decide +kernel
theorem dX11_odds_36 : decode cX11_odds 36 = .ok (.getfield 28, 3) := by decide +kernel
theorem dX11_odds_39 : decode cX11_odds 39 = .ok (.bipush 67, 2) := by decide +kernel
theorem dX11_odds_41 : decode cX11_odds 41 = .ok (.iaload, 1) := by decide +kernel
theorem dX11_odds_42 : decode cX11_odds 42 = .ok (.invokestatic 175, 3) := by decide +kernel
theorem dX11_odds_45 : decode cX11_odds 45 = .ok (.isub, 1) := by decide +kernel
theorem dX11_odds_46 : decode cX11_odds 46 = .ok (.istore 4, 2) := by decide +kernel
theorem dX11_odds_48 : decode cX11_odds 48 = .ok (.iconst 0, 1) := by decide +kernel
theorem dX11_odds_49 : decode cX11_odds 49 = .ok (.istore 5, 2) := by decide +kernel
theorem dX11_odds_51 : decode cX11_odds 51 = .ok (.iconst 1, 1) := by decide +kernel
theorem dX11_odds_52 : decode cX11_odds 52 = .ok (.istore 6, 2) := by decide +kernel
theorem dX11_odds_54 : decode cX11_odds 54 = .ok (.iconst 0, 1) := by decide +kernel
theorem dX11_odds_55 : decode cX11_odds 55 = .ok (.istore 7, 2) := by decide +kernel
theorem dX11_odds_57 : decode cX11_odds 57 = .ok (.iload 7, 2) := by decide +kernel
theorem dX11_odds_59 : decode cX11_odds 59 = .ok (.iload 4, 2) := by decide +kernel
theorem dX11_odds_61 : decode cX11_odds 61 = .ok (.if_icmp .ge 16, 3) := by decide +kernel
theorem dX11_odds_64 : decode cX11_odds 64 = .ok (.iload 6, 2) := by decide +kernel
theorem dX11_odds_66 : decode cX11_odds 66 = .ok (.bipush 10, 2) := by decide +kernel
theorem dX11_odds_68 : decode cX11_odds 68 = .ok (.imul, 1) := by decide +kernel
theorem dX11_odds_69 : decode cX11_odds 69 = .ok (.istore 6, 2) := by decide +kernel
theorem dX11_odds_71 : decode cX11_odds 71 = .ok (.iinc 7 1, 3) := by decide +kernel
theorem dX11_odds_74 : decode cX11_odds 74 = .ok (.goto (-17), 3) := by decide +kernel
theorem dX11_odds_77 : decode cX11_odds 77 = .ok (.iconst 0, 1) := by decide +kernel
theorem dX11_odds_78 : decode cX11_odds 78 = .ok (.istore 7, 2) := by decide +kernel
theorem dX11_odds_80 : decode cX11_odds 80 = .ok (.iload 7, 2) := by decide +kernel
theorem dX11_odds_82 : decode cX11_odds 82 = .ok (.iconst 1, 1) := by decide +kernel
theorem dX11_odds_83 : decode cX11_odds 83 = .ok (.iload 4, 2) := by decide +kernel
theorem dX11_odds_85 : decode cX11_odds 85 = .ok (.ishl, 1) := by decide +kernel
theorem dX11_odds_86 : decode cX11_odds 86 = .ok (.if_icmp .ge 71, 3) := by decide +kernel
theorem dX11_odds_89 : decode cX11_odds 89 = .ok (.iconst 1, 1) := by decide +kernel
theorem dX11_odds_90 : decode cX11_odds 90 = .ok (.istore 8, 2) := by decide +kernel
theorem dX11_odds_92 : decode cX11_odds 92 = .ok (.iconst 0, 1) := by decide +kernel
theorem dX11_odds_93 : decode cX11_odds 93 = .ok (.istore 9, 2) := by decide +kernel
theorem dX11_odds_95 : decode cX11_odds 95 = .ok (.iload 9, 2) := by decide +kernel
theorem dX11_odds_97 : decode cX11_odds 97 = .ok (.iload 4, 2) := by decide +kernel
theorem dX11_odds_99 : decode cX11_odds 99 = .ok (.if_icmp .ge 32, 3) := by decide +kernel
theorem dX11_odds_102 : decode cX11_odds 102 = .ok (.iload 8, 2) := by decide +kernel
theorem dX11_odds_104 : decode cX11_odds 104 = .ok (.iload 7, 2) := by decide +kernel
theorem dX11_odds_106 : decode cX11_odds 106 = .ok (.iload 9, 2) := by decide +kernel
theorem dX11_odds_108 : decode cX11_odds 108 = .ok (.invokestatic 140, 3) := by decide +kernel
theorem dX11_odds_111 : decode cX11_odds 111 = .ok (.ifCond .eq 7, 3) := by decide +kernel
theorem dX11_odds_114 : decode cX11_odds 114 = .ok (.iload_n 1, 1) := by decide +kernel
theorem dX11_odds_115 : decode cX11_odds 115 = .ok (.goto 7, 3) := by decide +kernel
theorem dX11_odds_118 : decode cX11_odds 118 = .ok (.bipush 10, 2) := by decide +kernel
theorem dX11_odds_120 : decode cX11_odds 120 = .ok (.iload_n 1, 1) := by decide +kernel
theorem dX11_odds_121 : decode cX11_odds 121 = .ok (.isub, 1) := by decide +kernel
theorem dX11_odds_122 : decode cX11_odds 122 = .ok (.imul, 1) := by decide +kernel
theorem dX11_odds_123 : decode cX11_odds 123 = .ok (.istore 8, 2) := by decide +kernel
theorem dX11_odds_125 : decode cX11_odds 125 = .ok (.iinc 9 1, 3) := by decide +kernel
theorem dX11_odds_128 : decode cX11_odds 128 = .ok (.goto (-33), 3) := by decide +kernel
theorem dX11_odds_131 : decode cX11_odds 131 = .ok (.iload 5, 2) := by decide +kernel
theorem dX11_odds_133 : decode cX11_odds 133 = .ok (.iload 7, 2) := by decide +kernel
theorem dX11_odds_135 : decode cX11_odds 135 = .ok (.invokestatic 175, 3) := by decide +kernel
theorem dX11_odds_138 : decode cX11_odds 138 = .ok (.iload_n 2, 1) := by decide +kernel
theorem dX11_odds_139 : decode cX11_odds 139 = .ok (.if_icmp .gt 8, 3) := by decide +kernel
theorem dX11_odds_142 : decode cX11_odds 142 = .ok (.iload 8, 2) := by decide +kernel
theorem dX11_odds_144 : decode cX11_odds 144 = .ok (.goto 4, 3) := by decide +kernel
theorem dX11_odds_147 : decode cX11_odds 147 = .ok (.iconst 0, 1) := by decide +kernel
theorem dX11_odds_148 : decode cX11_odds 148 = .ok (.iadd, 1) := by decide +kernel
theorem dX11_odds_149 : decode cX11_odds 149 = .ok (.istore 5, 2) := by decide +kernel
theorem dX11_odds_151 : decode cX11_odds 151 = .ok (.iinc 7 1, 3) := by decide +kernel
theorem dX11_odds_154 : decode cX11_odds 154 = .ok (.goto (-74), 3) := by decide +kernel
theorem dX11_odds_157 : decode cX11_odds 157 = .ok (.iload 5, 2) := by decide +kernel
theorem dX11_odds_159 : decode cX11_odds 159 = .ok (.iload 6, 2) := by decide +kernel
theorem dX11_odds_161 : decode cX11_odds 161 = .ok (.iload_n 3, 1) := by decide +kernel
theorem dX11_odds_162 : decode cX11_odds 162 = .ok (.invokestatic 218, 3) := by decide +kernel
theorem dX11_odds_165 : decode cX11_odds 165 = .ok (.ireturn, 1) := by decide +kernel
theorem dX11_own_0 : decode cX11_own 0 = .ok (.iload_n 1, 1) := by decide +kernel
theorem dX11_own_1 : decode cX11_own 1 = .ok (.iconst (-1), 1) := by decide +kernel
theorem dX11_own_2 : decode cX11_own 2 = .ok (.aload_n 0, 1) := by decide +kernel
theorem dX11_own_3 : decode cX11_own 3 = .ok (.getfield 76, 3) := by decide +kernel
theorem dX11_own_6 : decode cX11_own 6 = .ok (.iconst 1, 1) := by decide +kernel
theorem dX11_own_7 : decode cX11_own 7 = .ok (.isub, 1) := by decide +kernel
theorem dX11_own_8 : decode cX11_own 8 = .ok (.invokestatic 72, 3) := by decide +kernel
theorem dX11_own_11 : decode cX11_own 11 = .ok (.ifCond .ne 5, 3) := by decide +kernel
theorem dX11_own_14 : decode cX11_own 14 = .ok (.iconst (-1), 1) := by decide +kernel
theorem dX11_own_15 : decode cX11_own 15 = .ok (.ireturn, 1) := by decide +kernel
theorem dX11_own_16 : decode cX11_own 16 = .ok (.aload_n 0, 1) := by decide +kernel
theorem dX11_own_17 : decode cX11_own 17 = .ok (.invokevirtual 209, 3) := by decide +kernel
theorem dX11_own_20 : decode cX11_own 20 = .ok (.iconst 0, 1) := by decide +kernel
theorem dX11_own_21 : decode cX11_own 21 = .ok (.istore_n 2, 1) := by decide +kernel
theorem dX11_own_22 : decode cX11_own 22 = .ok (.iconst 0, 1) := by decide +kernel
theorem dX11_own_23 : decode cX11_own 23 = .ok (.istore_n 3, 1) := by decide +kernel
theorem dX11_own_24 : decode cX11_own 24 = .ok (.iload_n 3, 1) := by decide +kernel
theorem dX11_own_25 : decode cX11_own 25 = .ok (.iload_n 1, 1) := by decide +kernel
theorem dX11_own_26 : decode cX11_own 26 = .ok (.if_icmp .ge 35, 3) := by decide +kernel
theorem dX11_own_29 : decode cX11_own 29 = .ok (.aload_n 0, 1) := by decide +kernel
theorem dX11_own_30 : decode cX11_own 30 = .ok (.iload_n 3, 1) := by decide +kernel
theorem dX11_own_31 : decode cX11_own 31 = .ok (.iload_n 2, 1) := by decide +kernel
theorem dX11_own_32 : decode cX11_own 32 = .ok (.invokevirtual 212, 3) := by decide +kernel
theorem dX11_own_35 : decode cX11_own 35 = .ok (.istore 4, 2) := by decide +kernel
theorem dX11_own_37 : decode cX11_own 37 = .ok (.iload_n 2, 1) := by decide +kernel
theorem dX11_own_38 : decode cX11_own 38 = .ok (.iload 4, 2) := by decide +kernel
theorem dX11_own_40 : decode cX11_own 40 = .ok (.bipush (-9), 2) := by decide +kernel
theorem dX11_own_42 : decode cX11_own 42 = .ok (.if_icmp .ne 7, 3) := by decide +kernel
theorem dX11_own_45 : decode cX11_own 45 = .ok (.iconst 0, 1) := by decide +kernel
theorem dX11_own_46 : decode cX11_own 46 = .ok (.goto 7, 3) := by decide +kernel
theorem dX11_own_49 : decode cX11_own 49 = .ok (.iconst 1, 1) := by decide +kernel
theorem dX11_own_50 : decode cX11_own 50 = .ok (.iload 4, 2) := by decide +kernel
theorem dX11_own_52 : decode cX11_own 52 = .ok (.ishl, 1) := by decide +kernel
theorem dX11_own_53 : decode cX11_own 53 = .ok (.ior, 1) := by decide +kernel
theorem dX11_own_54 : decode cX11_own 54 = .ok (.istore_n 2, 1) := by decide +kernel
theorem dX11_own_55 : decode cX11_own 55 = .ok (.iinc 3 1, 3) := by decide +kernel
theorem dX11_own_58 : decode cX11_own 58 = .ok (.goto (-34), 3) := by decide +kernel
theorem dX11_own_61 : decode cX11_own 61 = .ok (.iload_n 1, 1) := by decide +kernel
theorem dX11_own_62 : decode cX11_own 62 = .ok (.ifCond .ge 12, 3) := by decide +kernel
theorem dX11_own_65 : decode cX11_own 65 = .ok (.aload_n 0, 1) := by decide +kernel
theorem dX11_own_66 : decode cX11_own 66 = .ok (.getfield 65, 3) := by decide +kernel
theorem dX11_own_69 : decode cX11_own 69 = .ok (.iconst 0, 1) := by decide +kernel
theorem dX11_own_70 : decode cX11_own 70 = .ok (.iaload, 1) := by decide +kernel
theorem dX11_own_71 : decode cX11_own 71 = .ok (.goto 9, 3) := by decide +kernel
theorem dX11_own_74 : decode cX11_own 74 = .ok (.aload_n 0, 1) := by decide +kernel
theorem dX11_own_75 : decode cX11_own 75 = .ok (.iload_n 1, 1) := by decide +kernel
theorem dX11_own_76 : decode cX11_own 76 = .ok (.iload_n 2, 1) := by decide +kernel
theorem dX11_own_77 : decode cX11_own 77 = .ok (.invokevirtual 212, 3) := by decide +kernel
theorem dX11_own_80 : decode cX11_own 80 = .ok (.ireturn, 1) := by decide +kernel
theorem dX11_plan_0 : decode cX11_plan 0 = .ok (.aload_n 0, 1) := by decide +kernel
theorem dX11_plan_1 : decode cX11_plan 1 = .ok (.iload_n 1, 1) := by decide +kernel
theorem dX11_plan_2 : decode cX11_plan 2 = .ok (.invokevirtual 162, 3) := by decide +kernel
theorem dX11_plan_5 : decode cX11_plan 5 = .ok (.ifCond .eq 22, 3) := by decide +kernel
theorem dX11_plan_8 : decode cX11_plan 8 = .ok (.aload_n 0, 1) := by decide +kernel
theorem dX11_plan_9 : decode cX11_plan 9 = .ok (.iload_n 2, 1) := by decide +kernel
theorem dX11_plan_10 : decode cX11_plan 10 = .ok (.invokevirtual 156, 3) := by decide +kernel
theorem dX11_plan_13 : decode cX11_plan 13 = .ok (.ifCond .eq 14, 3) := by decide +kernel
theorem dX11_plan_16 : decode cX11_plan 16 = .ok (.iload_n 3, 1) := by decide +kernel
theorem dX11_plan_17 : decode cX11_plan 17 = .ok (.bipush (-3), 2) := by decide +kernel
theorem dX11_plan_19 : decode cX11_plan 19 = .ok (.bipush 7, 2) := by decide +kernel
theorem dX11_plan_21 : decode cX11_plan 21 = .ok (.invokestatic 72, 3) := by decide +kernel
theorem dX11_plan_24 : decode cX11_plan 24 = .ok (.ifCond .ne 5, 3) := by decide +kernel
theorem dX11_plan_27 : decode cX11_plan 27 = .ok (.iconst (-1), 1) := by decide +kernel
theorem dX11_plan_28 : decode cX11_plan 28 = .ok (.ireturn, 1) := by decide +kernel
theorem dX11_plan_29 : decode cX11_plan 29 = .ok (.aload_n 0, 1) := by decide +kernel
theorem dX11_plan_30 : decode cX11_plan 30 = .ok (.iload_n 1, 1) := by decide +kernel
theorem dX11_plan_31 : decode cX11_plan 31 = .ok (.iload_n 2, 1) := by decide +kernel
theorem dX11_plan_32 : decode cX11_plan 32 = .ok (.invokevirtual 147, 3) := by decide +kernel
theorem dX11_plan_35 : decode cX11_plan 35 = .ok (.ifCond .eq 7, 3) := by decide +kernel
theorem dX11_plan_38 : decode cX11_plan 38 = .ok (.iconst 0, 1) := by decide +kernel
theorem dX11_plan_39 : decode cX11_plan 39 = .ok (.goto 9, 3) := by decide +kernel
theorem dX11_plan_42 : decode cX11_plan 42 = .ok (.aload_n 0, 1) := by decide +kernel
theorem dX11_plan_43 : decode cX11_plan 43 = .ok (.iload_n 1, 1) := by decide +kernel
theorem dX11_plan_44 : decode cX11_plan 44 = .ok (.iload_n 2, 1) := by decide +kernel
theorem dX11_plan_45 : decode cX11_plan 45 = .ok (.invokevirtual 194, 3) := by decide +kernel
theorem dX11_plan_48 : decode cX11_plan 48 = .ok (.istore 4, 2) := by decide +kernel
theorem dX11_plan_50 : decode cX11_plan 50 = .ok (.iload 4, 2) := by decide +kernel
theorem dX11_plan_52 : decode cX11_plan 52 = .ok (.ifCond .eq 16, 3) := by decide +kernel
theorem dX11_plan_55 : decode cX11_plan 55 = .ok (.aload_n 0, 1) := by decide +kernel
theorem dX11_plan_56 : decode cX11_plan 56 = .ok (.iload_n 1, 1) := by decide +kernel
theorem dX11_plan_57 : decode cX11_plan 57 = .ok (.iload 4, 2) := by decide +kernel
theorem dX11_plan_59 : decode cX11_plan 59 = .ok (.invokevirtual 197, 3) := by decide +kernel
theorem dX11_plan_62 : decode cX11_plan 62 = .ok (.ifCond .ne 6, 3) := by decide +kernel
theorem dX11_plan_65 : decode cX11_plan 65 = .ok (.bipush (-9), 2) := by decide +kernel
theorem dX11_plan_67 : decode cX11_plan 67 = .ok (.ireturn, 1) := by decide +kernel
theorem dX11_plan_68 : decode cX11_plan 68 = .ok (.iload_n 3, 1) := by decide +kernel
theorem dX11_plan_69 : decode cX11_plan 69 = .ok (.iconst (-1), 1) := by decide +kernel
theorem dX11_plan_70 : decode cX11_plan 70 = .ok (.if_icmp .ne 8, 3) := by decide +kernel
theorem dX11_plan_73 : decode cX11_plan 73 = .ok (.iload 4, 2) := by decide +kernel
theorem dX11_plan_75 : decode cX11_plan 75 = .ok (.goto 41, 3) := by decide +kernel
theorem dX11_plan_78 : decode cX11_plan 78 = .ok (.iload_n 3, 1) := by decide +kernel
theorem dX11_plan_79 : decode cX11_plan 79 = .ok (.bipush (-2), 2) := by decide +kernel
theorem dX11_plan_81 : decode cX11_plan 81 = .ok (.if_icmp .ne 13, 3) := by decide +kernel
theorem dX11_plan_84 : decode cX11_plan 84 = .ok (.aload_n 0, 1) := by decide +kernel
theorem dX11_plan_85 : decode cX11_plan 85 = .ok (.iload_n 1, 1) := by decide +kernel
theorem dX11_plan_86 : decode cX11_plan 86 = .ok (.iload 4, 2) := by decide +kernel
theorem dX11_plan_88 : decode cX11_plan 88 = .ok (.invokevirtual 200, 3) := by decide +kernel
theorem dX11_plan_91 : decode cX11_plan 91 = .ok (.goto 25, 3) := by decide +kernel
theorem dX11_plan_94 : decode cX11_plan 94 = .ok (.iload_n 3, 1) := by decide +kernel
theorem dX11_plan_95 : decode cX11_plan 95 = .ok (.bipush (-3), 2) := by decide +kernel
theorem dX11_plan_97 : decode cX11_plan 97 = .ok (.if_icmp .ne 13, 3) := by decide +kernel
theorem dX11_plan_100 : decode cX11_plan 100 = .ok (.aload_n 0, 1) := by decide +kernel
theorem dX11_plan_101 : decode cX11_plan 101 = .ok (.iload_n 1, 1) := by decide +kernel
theorem dX11_plan_102 : decode cX11_plan 102 = .ok (.iload 4, 2) := by decide +kernel
theorem dX11_plan_104 : decode cX11_plan 104 = .ok (.invokevirtual 191, 3) := by decide +kernel
theorem dX11_plan_107 : decode cX11_plan 107 = .ok (.goto 9, 3) := by decide +kernel
theorem dX11_plan_110 : decode cX11_plan 110 = .ok (.iload 4, 2) := by decide +kernel
theorem dX11_plan_112 : decode cX11_plan 112 = .ok (.iload_n 3, 1) := by decide +kernel
theorem dX11_plan_113 : decode cX11_plan 113 = .ok (.invokestatic 203, 3) := by decide +kernel
theorem dX11_plan_116 : decode cX11_plan 116 = .ok (.ireturn, 1) := by decide +kernel
theorem dX11_readCast_0 : decode cX11_readCast 0 = .ok (.aload_n 0, 1) := by decide +kernel
theorem dX11_readCast_1 : decode cX11_readCast 1 = .ok (.getfield 56, 3) := by decide +kernel
theorem dX11_readCast_4 : decode cX11_readCast 4 = .ok (.aload_n 0, 1) := by decide +kernel
theorem dX11_readCast_5 : decode cX11_readCast 5 = .ok (.getfield 119, 3) := by decide +kernel
theorem dX11_readCast_8 : decode cX11_readCast 8 = .ok (.aload_n 0, 1) := by decide +kernel
theorem dX11_readCast_9 : decode cX11_readCast 9 = .ok (.iconst 1, 1) := by decide +kernel
theorem dX11_readCast_10 : decode cX11_readCast 10 = .ok (.bipush 99, 2) := by decide +kernel
theorem dX11_readCast_12 : decode cX11_readCast 12 = .ok (.invokevirtual 115, 3) := by decide +kernel
theorem dX11_readCast_15 : decode cX11_readCast 15 = .ok (.iastore, 1) := by decide +kernel
theorem dX11_readCast_16 : decode cX11_readCast 16 = .ok (.aload_n 0, 1) := by decide +kernel
theorem dX11_readCast_17 : decode cX11_readCast 17 = .ok (.getfield 59, 3) := by decide +kernel
theorem dX11_readCast_20 : decode cX11_readCast 20 = .ok (.aload_n 0, 1) := by decide +kernel
theorem dX11_readCast_21 : decode cX11_readCast 21 = .ok (.getfield 119, 3) := by decide +kernel
theorem dX11_readCast_24 : decode cX11_readCast 24 = .ok (.aload_n 0, 1) := by decide +kernel
theorem dX11_readCast_25 : decode cX11_readCast 25 = .ok (.iconst 1, 1) := by decide +kernel
theorem dX11_readCast_26 : decode cX11_readCast 26 = .ok (.bipush 9, 2) := by decide +kernel
theorem dX11_readCast_28 : decode cX11_readCast 28 = .ok (.invokevirtual 115, 3) := by decide +kernel
theorem dX11_readCast_31 : decode cX11_readCast 31 = .ok (.iastore, 1) := by decide +kernel
theorem dX11_readCast_32 : decode cX11_readCast 32 = .ok (.aload_n 0, 1) := by decide +kernel
theorem dX11_readCast_33 : decode cX11_readCast 33 = .ok (.getfield 62, 3) := by decide +kernel
theorem dX11_readCast_36 : decode cX11_readCast 36 = .ok (.aload_n 0, 1) := by decide +kernel
theorem dX11_readCast_37 : decode cX11_readCast 37 = .ok (.getfield 119, 3) := by decide +kernel
theorem dX11_readCast_40 : decode cX11_readCast 40 = .ok (.aload_n 0, 1) := by decide +kernel
theorem dX11_readCast_41 : decode cX11_readCast 41 = .ok (.iconst 0, 1) := by decide +kernel
theorem dX11_readCast_42 : decode cX11_readCast 42 = .ok (.bipush 63, 2) := by decide +kernel
theorem dX11_readCast_44 : decode cX11_readCast 44 = .ok (.invokevirtual 115, 3) := by decide +kernel
theorem dX11_readCast_47 : decode cX11_readCast 47 = .ok (.iastore, 1) := by decide +kernel
theorem dX11_readCast_48 : decode cX11_readCast 48 = .ok (.aload_n 0, 1) := by decide +kernel
theorem dX11_readCast_49 : decode cX11_readCast 49 = .ok (.dup, 1) := by decide +kernel
theorem dX11_readCast_50 : decode cX11_readCast 50 = .ok (.getfield 119, 3) := by decide +kernel
theorem dX11_readCast_53 : decode cX11_readCast 53 = .ok (.iconst 1, 1) := by decide +kernel
theorem dX11_readCast_54 : decode cX11_readCast 54 = .ok (.iadd, 1) := by decide +kernel
theorem dX11_readCast_55 : decode cX11_readCast 55 = .ok (.putfield 119, 3) := by decide +kernel
theorem dX11_readCast_58 : decode cX11_readCast 58 = .ok (.return_, 1) := by decide +kernel
theorem dX11_readItem_0 : decode cX11_readItem 0 = .ok (.aload_n 0, 1) := by decide +kernel
theorem dX11_readItem_1 : decode cX11_readItem 1 = .ok (.getfield 92, 3) := by decide +kernel
theorem dX11_readItem_4 : decode cX11_readItem 4 = .ok (.istore_n 1, 1) := by decide +kernel
theorem dX11_readItem_5 : decode cX11_readItem 5 = .ok (.iload_n 1, 1) := by decide +kernel
theorem dX11_readItem_6 : decode cX11_readItem 6 = .ok (.bipush 116, 2) := by decide +kernel
theorem dX11_readItem_8 : decode cX11_readItem 8 = .ok (.if_icmp .ne 20, 3) := by decide +kernel
theorem dX11_readItem_11 : decode cX11_readItem 11 = .ok (.aload_n 0, 1) := by decide +kernel
theorem dX11_readItem_12 : decode cX11_readItem 12 = .ok (.getfield 112, 3) := by decide +kernel
theorem dX11_readItem_15 : decode cX11_readItem 15 = .ok (.bipush 8, 2) := by decide +kernel
theorem dX11_readItem_17 : decode cX11_readItem 17 = .ok (.if_icmp .ge 7, 3) := by decide +kernel
theorem dX11_readItem_20 : decode cX11_readItem 20 = .ok (.iconst 1, 1) := by decide +kernel
theorem dX11_readItem_21 : decode cX11_readItem 21 = .ok (.goto 27, 3) := by decide +kernel
theorem dX11_readItem_24 : decode cX11_readItem 24 = .ok (.iconst 0, 1) := by decide +kernel
theorem dX11_readItem_25 : decode cX11_readItem 25 = .ok (.goto 23, 3) := by decide +kernel
theorem dX11_readItem_28 : decode cX11_readItem 28 = .ok (.iload_n 1, 1) := by decide +kernel
theorem dX11_readItem_29 : decode cX11_readItem 29 = .ok (.bipush 99, 2) := by decide +kernel
theorem dX11_readItem_31 : decode cX11_readItem 31 = .ok (.if_icmp .ne 16, 3) := by decide +kernel
theorem dX11_readItem_34 : decode cX11_readItem 34 = .ok (.aload_n 0, 1) := by decide +kernel
theorem dX11_readItem_35 : decode cX11_readItem 35 = .ok (.getfield 119, 3) := by decide +kernel
theorem dX11_readItem_38 : decode cX11_readItem 38 = .ok (.bipush 6, 2) := by decide +kernel
theorem dX11_readItem_40 : decode cX11_readItem 40 = .ok (.if_icmp .ge 7, 3) := by decide +kernel
theorem dX11_readItem_43 : decode cX11_readItem 43 = .ok (.iconst 1, 1) := by decide +kernel
theorem dX11_readItem_44 : decode cX11_readItem 44 = .ok (.goto 4, 3) := by decide +kernel
theorem dX11_readItem_47 : decode cX11_readItem 47 = .ok (.iconst 0, 1) := by decide +kernel
theorem dX11_readItem_48 : decode cX11_readItem 48 = .ok (.istore_n 2, 1) := by decide +kernel
theorem dX11_readItem_49 : decode cX11_readItem 49 = .ok (.aload_n 0, 1) := by decide +kernel
theorem dX11_readItem_50 : decode cX11_readItem 50 = .ok (.getfield 95, 3) := by decide +kernel
theorem dX11_readItem_53 : decode cX11_readItem 53 = .ok (.iconst 1, 1) := by decide +kernel
theorem dX11_readItem_54 : decode cX11_readItem 54 = .ok (.if_icmp .ne 7, 3) := by decide +kernel
theorem dX11_readItem_57 : decode cX11_readItem 57 = .ok (.iload_n 2, 1) := by decide +kernel
theorem dX11_readItem_58 : decode cX11_readItem 58 = .ok (.ifCond .ne 9, 3) := by decide +kernel
theorem dX11_readItem_61 : decode cX11_readItem 61 = .ok (.aload_n 0, 1) := by decide +kernel
theorem dX11_readItem_62 : decode cX11_readItem 62 = .ok (.iconst 1, 1) := by decide +kernel
theorem dX11_readItem_63 : decode cX11_readItem 63 = .ok (.putfield 105, 3) := by decide +kernel
theorem dX11_readItem_66 : decode cX11_readItem 66 = .ok (.return_, 1) := by decide +kernel
theorem dX11_readItem_67 : decode cX11_readItem 67 = .ok (.aload_n 0, 1) := by decide +kernel
theorem dX11_readItem_68 : decode cX11_readItem 68 = .ok (.invokevirtual 109, 3) := by decide +kernel
theorem dX11_readItem_71 : decode cX11_readItem 71 = .ok (.iload_n 1, 1) := by decide +kernel
theorem dX11_readItem_72 : decode cX11_readItem 72 = .ok (.bipush 116, 2) := by decide +kernel
theorem dX11_readItem_74 : decode cX11_readItem 74 = .ok (.if_icmp .ne 10, 3) := by decide +kernel
theorem dX11_readItem_77 : decode cX11_readItem 77 = .ok (.aload_n 0, 1) := by decide +kernel
theorem dX11_readItem_78 : decode cX11_readItem 78 = .ok (.invokevirtual 122, 3) := by decide +kernel
theorem dX11_readItem_81 : decode cX11_readItem 81 = .ok (.goto 7, 3) := by decide +kernel
theorem dX11_readItem_84 : decode cX11_readItem 84 = .ok (.aload_n 0, 1) := by decide +kernel
theorem dX11_readItem_85 : decode cX11_readItem 85 = .ok (.invokevirtual 125, 3) := by decide +kernel
theorem dX11_readItem_88 : decode cX11_readItem 88 = .ok (.aload_n 0, 1) := by decide +kernel
theorem dX11_readItem_89 : decode cX11_readItem 89 = .ok (.aload_n 0, 1) := by decide +kernel
theorem dX11_readItem_90 : decode cX11_readItem 90 = .ok (.getfield 105, 3) := by decide +kernel
theorem dX11_readItem_93 : decode cX11_readItem 93 = .ok (.ifCond .ne 11, 3) := by decide +kernel
theorem dX11_readItem_96 : decode cX11_readItem 96 = .ok (.aload_n 0, 1) := by decide +kernel
theorem dX11_readItem_97 : decode cX11_readItem 97 = .ok (.getfield 95, 3) := by decide +kernel
theorem dX11_readItem_100 : decode cX11_readItem 100 = .ok (.iconst 3, 1) := by decide +kernel
theorem dX11_readItem_101 : decode cX11_readItem 101 = .ok (.if_icmp .eq 7, 3) := by decide +kernel
theorem dX11_readItem_104 : decode cX11_readItem 104 = .ok (.iconst 1, 1) := by decide +kernel
theorem dX11_readItem_105 : decode cX11_readItem 105 = .ok (.goto 4, 3) := by decide +kernel
theorem dX11_readItem_108 : decode cX11_readItem 108 = .ok (.iconst 0, 1) := by decide +kernel
theorem dX11_readItem_109 : decode cX11_readItem 109 = .ok (.putfield 105, 3) := by decide +kernel
theorem dX11_readItem_112 : decode cX11_readItem 112 = .ok (.aload_n 0, 1) := by decide +kernel
theorem dX11_readItem_113 : decode cX11_readItem 113 = .ok (.getfield 105, 3) := by decide +kernel
theorem dX11_readItem_116 : decode cX11_readItem 116 = .ok (.ifCond .ne 7, 3) := by decide +kernel
theorem dX11_readItem_119 : decode cX11_readItem 119 = .ok (.aload_n 0, 1) := by decide +kernel
theorem dX11_readItem_120 : decode cX11_readItem 120 = .ok (.invokevirtual 109, 3) := by decide +kernel
theorem dX11_readItem_123 : decode cX11_readItem 123 = .ok (.return_, 1) := by decide +kernel
theorem dX11_readThing_0 : decode cX11_readThing 0 = .ok (.aload_n 0, 1) := by decide +kernel
theorem dX11_readThing_1 : decode cX11_readThing 1 = .ok (.getfield 112, 3) := by decide +kernel
theorem dX11_readThing_4 : decode cX11_readThing 4 = .ok (.istore_n 1, 1) := by decide +kernel
theorem dX11_readThing_5 : decode cX11_readThing 5 = .ok (.aload_n 0, 1) := by decide +kernel
theorem dX11_readThing_6 : decode cX11_readThing 6 = .ok (.getfield 44, 3) := by decide +kernel
theorem dX11_readThing_9 : decode cX11_readThing 9 = .ok (.iload_n 1, 1) := by decide +kernel
theorem dX11_readThing_10 : decode cX11_readThing 10 = .ok (.aload_n 0, 1) := by decide +kernel
theorem dX11_readThing_11 : decode cX11_readThing 11 = .ok (.iconst 0, 1) := by decide +kernel
theorem dX11_readThing_12 : decode cX11_readThing 12 = .ok (.bipush 9, 2) := by decide +kernel
theorem dX11_readThing_14 : decode cX11_readThing 14 = .ok (.invokevirtual 115, 3) := by decide +kernel
theorem dX11_readThing_17 : decode cX11_readThing 17 = .ok (.iastore, 1) := by decide +kernel
theorem dX11_readThing_18 : decode cX11_readThing 18 = .ok (.aload_n 0, 1) := by decide +kernel
theorem dX11_readThing_19 : decode cX11_readThing 19 = .ok (.getfield 47, 3) := by decide +kernel
theorem dX11_readThing_22 : decode cX11_readThing 22 = .ok (.iload_n 1, 1) := by decide +kernel
theorem dX11_readThing_23 : decode cX11_readThing 23 = .ok (.aload_n 0, 1) := by decide +kernel
theorem dX11_readThing_24 : decode cX11_readThing 24 = .ok (.iconst 1, 1) := by decide +kernel
theorem dX11_readThing_25 : decode cX11_readThing 25 = .ok (.bipush 30, 2) := by decide +kernel
theorem dX11_readThing_27 : decode cX11_readThing 27 = .ok (.invokevirtual 115, 3) := by decide +kernel
theorem dX11_readThing_30 : decode cX11_readThing 30 = .ok (.iastore, 1) := by decide +kernel
theorem dX11_readThing_31 : decode cX11_readThing 31 = .ok (.aload_n 0, 1) := by decide +kernel
theorem dX11_readThing_32 : decode cX11_readThing 32 = .ok (.getfield 50, 3) := by decide +kernel
theorem dX11_readThing_35 : decode cX11_readThing 35 = .ok (.iload_n 1, 1) := by decide +kernel
theorem dX11_readThing_36 : decode cX11_readThing 36 = .ok (.aload_n 0, 1) := by decide +kernel
theorem dX11_readThing_37 : decode cX11_readThing 37 = .ok (.iconst 0, 1) := by decide +kernel
theorem dX11_readThing_38 : decode cX11_readThing 38 = .ok (.bipush 6, 2) := by decide +kernel
theorem dX11_readThing_40 : decode cX11_readThing 40 = .ok (.invokevirtual 115, 3) := by decide +kernel
theorem dX11_readThing_43 : decode cX11_readThing 43 = .ok (.iastore, 1) := by decide +kernel
theorem dX11_readThing_44 : decode cX11_readThing 44 = .ok (.aload_n 0, 1) := by decide +kernel
theorem dX11_readThing_45 : decode cX11_readThing 45 = .ok (.iconst 0, 1) := by decide +kernel
theorem dX11_readThing_46 : decode cX11_readThing 46 = .ok (.iload_n 1, 1) := by decide +kernel
theorem dX11_readThing_47 : decode cX11_readThing 47 = .ok (.invokevirtual 115, 3) := by decide +kernel
theorem dX11_readThing_50 : decode cX11_readThing 50 = .ok (.istore_n 2, 1) := by decide +kernel
theorem dX11_readThing_51 : decode cX11_readThing 51 = .ok (.aload_n 0, 1) := by decide +kernel
theorem dX11_readThing_52 : decode cX11_readThing 52 = .ok (.iconst 0, 1) := by decide +kernel
theorem dX11_readThing_53 : decode cX11_readThing 53 = .ok (.iload_n 1, 1) := by decide +kernel
theorem dX11_readThing_54 : decode cX11_readThing 54 = .ok (.invokevirtual 115, 3) := by decide +kernel
theorem dX11_readThing_57 : decode cX11_readThing 57 = .ok (.istore_n 3, 1) := by decide +kernel
theorem dX11_readThing_58 : decode cX11_readThing 58 = .ok (.aload_n 0, 1) := by decide +kernel
theorem dX11_readThing_59 : decode cX11_readThing 59 = .ok (.getfield 53, 3) := by decide +kernel
theorem dX11_readThing_62 : decode cX11_readThing 62 = .ok (.iload_n 1, 1) := by decide +kernel
theorem dX11_readThing_63 : decode cX11_readThing 63 = .ok (.iconst 1, 1) := by decide +kernel
theorem dX11_readThing_64 : decode cX11_readThing 64 = .ok (.iload_n 2, 1) := by decide +kernel
theorem dX11_readThing_65 : decode cX11_readThing 65 = .ok (.ishl, 1) := by decide +kernel
theorem dX11_readThing_66 : decode cX11_readThing 66 = .ok (.iconst 1, 1) := by decide +kernel
theorem dX11_readThing_67 : decode cX11_readThing 67 = .ok (.iload_n 3, 1) := by decide +kernel
theorem dX11_readThing_68 : decode cX11_readThing 68 = .ok (.ishl, 1) := by decide +kernel
theorem dX11_readThing_69 : decode cX11_readThing 69 = .ok (.ior, 1) := by decide +kernel
theorem dX11_readThing_70 : decode cX11_readThing 70 = .ok (.iconst 1, 1) := by decide +kernel
theorem dX11_readThing_71 : decode cX11_readThing 71 = .ok (.iload_n 1, 1) := by decide +kernel
theorem dX11_readThing_72 : decode cX11_readThing 72 = .ok (.ishl, 1) := by decide +kernel
theorem dX11_readThing_73 : decode cX11_readThing 73 = .ok (.iconst (-1), 1) := by decide +kernel
theorem dX11_readThing_74 : decode cX11_readThing 74 = .ok (.ixor, 1) := by decide +kernel
theorem dX11_readThing_75 : decode cX11_readThing 75 = .ok (.iand, 1) := by decide +kernel
theorem dX11_readThing_76 : decode cX11_readThing 76 = .ok (.iastore, 1) := by decide +kernel
theorem dX11_readThing_77 : decode cX11_readThing 77 = .ok (.aload_n 0, 1) := by decide +kernel
theorem dX11_readThing_78 : decode cX11_readThing 78 = .ok (.dup, 1) := by decide +kernel
theorem dX11_readThing_79 : decode cX11_readThing 79 = .ok (.getfield 112, 3) := by decide +kernel
theorem dX11_readThing_82 : decode cX11_readThing 82 = .ok (.iconst 1, 1) := by decide +kernel
theorem dX11_readThing_83 : decode cX11_readThing 83 = .ok (.iadd, 1) := by decide +kernel
theorem dX11_readThing_84 : decode cX11_readThing 84 = .ok (.putfield 112, 3) := by decide +kernel
theorem dX11_readThing_87 : decode cX11_readThing 87 = .ok (.return_, 1) := by decide +kernel
theorem dX11_remembers_0 : decode cX11_remembers 0 = .ok (.aload_n 0, 1) := by decide +kernel
theorem dX11_remembers_1 : decode cX11_remembers 1 = .ok (.getfield 28, 3) := by decide +kernel
theorem dX11_remembers_4 : decode cX11_remembers 4 = .ok (.bipush 74, 2) := by decide +kernel
theorem dX11_remembers_6 : decode cX11_remembers 6 = .ok (.iaload, 1) := by decide +kernel
theorem dX11_remembers_7 : decode cX11_remembers 7 = .ok (.bipush 10, 2) := by decide +kernel
theorem dX11_remembers_9 : decode cX11_remembers 9 = .ok (.if_icmp .ne 45, 3) := by decide +kernel
theorem dX11_remembers_12 : decode cX11_remembers 12 = .ok (.bipush 75, 2) := by decide +kernel
theorem dX11_remembers_14 : decode cX11_remembers 14 = .ok (.istore_n 1, 1) := by decide +kernel
theorem dX11_remembers_15 : decode cX11_remembers 15 = .ok (.iload_n 1, 1) := by decide +kernel
theorem dX11_remembers_16 : decode cX11_remembers 16 = .ok (.sipush 741, 3) := by decide +kernel
theorem dX11_remembers_19 : decode cX11_remembers 19 = .ok (.if_icmp .ge 24, 3) := by decide +kernel
theorem dX11_remembers_22 : decode cX11_remembers 22 = .ok (.aload_n 0, 1) := by decide +kernel
theorem dX11_remembers_23 : decode cX11_remembers 23 = .ok (.getfield 28, 3) := by decide +kernel
theorem dX11_remembers_26 : decode cX11_remembers 26 = .ok (.iload_n 1, 1) := by decide +kernel
theorem dX11_remembers_27 : decode cX11_remembers 27 = .ok (.aload_n 0, 1) := by decide +kernel
theorem dX11_remembers_28 : decode cX11_remembers 28 = .ok (.getfield 28, 3) := by decide +kernel
theorem dX11_remembers_31 : decode cX11_remembers 31 = .ok (.iload_n 1, 1) := by decide +kernel
theorem dX11_remembers_32 : decode cX11_remembers 32 = .ok (.bipush 74, 2) := by decide +kernel
theorem dX11_remembers_34 : decode cX11_remembers 34 = .ok (.iadd, 1) := by decide +kernel
theorem dX11_remembers_35 : decode cX11_remembers 35 = .ok (.iaload, 1) := by decide +kernel
theorem dX11_remembers_36 : decode cX11_remembers 36 = .ok (.iastore, 1) := by decide +kernel
theorem dX11_remembers_37 : decode cX11_remembers 37 = .ok (.iinc 1 1, 3) := by decide +kernel
theorem dX11_remembers_40 : decode cX11_remembers 40 = .ok (.goto (-25), 3) := by decide +kernel
theorem dX11_remembers_43 : decode cX11_remembers 43 = .ok (.aload_n 0, 1) := by decide +kernel
theorem dX11_remembers_44 : decode cX11_remembers 44 = .ok (.getfield 28, 3) := by decide +kernel
theorem dX11_remembers_47 : decode cX11_remembers 47 = .ok (.bipush 74, 2) := by decide +kernel
theorem dX11_remembers_49 : decode cX11_remembers 49 = .ok (.dup2, 1) := by decide +kernel
theorem dX11_remembers_50 : decode cX11_remembers 50 = .ok (.iaload, 1) := by decide +kernel
theorem dX11_remembers_51 : decode cX11_remembers 51 = .ok (.iconst 1, 1) := by decide +kernel
theorem dX11_remembers_52 : decode cX11_remembers 52 = .ok (.isub, 1) := by decide +kernel
theorem dX11_remembers_53 : decode cX11_remembers 53 = .ok (.iastore, 1) := by decide +kernel
theorem dX11_remembers_54 : decode cX11_remembers 54 = .ok (.bipush 75, 2) := by decide +kernel
theorem dX11_remembers_56 : decode cX11_remembers 56 = .ok (.bipush 74, 2) := by decide +kernel
theorem dX11_remembers_58 : decode cX11_remembers 58 = .ok (.aload_n 0, 1) := by decide +kernel
theorem dX11_remembers_59 : decode cX11_remembers 59 = .ok (.getfield 28, 3) := by decide +kernel
theorem dX11_remembers_62 : decode cX11_remembers 62 = .ok (.bipush 74, 2) := by decide +kernel
theorem dX11_remembers_64 : decode cX11_remembers 64 = .ok (.iaload, 1) := by decide +kernel
theorem dX11_remembers_65 : decode cX11_remembers 65 = .ok (.imul, 1) := by decide +kernel
theorem dX11_remembers_66 : decode cX11_remembers 66 = .ok (.iadd, 1) := by decide +kernel
theorem dX11_remembers_67 : decode cX11_remembers 67 = .ok (.istore_n 1, 1) := by decide +kernel
theorem dX11_remembers_68 : decode cX11_remembers 68 = .ok (.iconst 0, 1) := by decide +kernel
theorem dX11_remembers_69 : decode cX11_remembers 69 = .ok (.istore_n 2, 1) := by decide +kernel
theorem dX11_remembers_70 : decode cX11_remembers 70 = .ok (.iload_n 2, 1) := by decide +kernel
theorem dX11_remembers_71 : decode cX11_remembers 71 = .ok (.bipush 74, 2) := by decide +kernel
theorem dX11_remembers_73 : decode cX11_remembers 73 = .ok (.if_icmp .ge 23, 3) := by decide +kernel
theorem dX11_remembers_76 : decode cX11_remembers 76 = .ok (.aload_n 0, 1) := by decide +kernel
theorem dX11_remembers_77 : decode cX11_remembers 77 = .ok (.getfield 28, 3) := by decide +kernel
theorem dX11_remembers_80 : decode cX11_remembers 80 = .ok (.iload_n 1, 1) := by decide +kernel
theorem dX11_remembers_81 : decode cX11_remembers 81 = .ok (.iload_n 2, 1) := by decide +kernel
theorem dX11_remembers_82 : decode cX11_remembers 82 = .ok (.iadd, 1) := by decide +kernel
theorem dX11_remembers_83 : decode cX11_remembers 83 = .ok (.aload_n 0, 1) := by decide +kernel
theorem dX11_remembers_84 : decode cX11_remembers 84 = .ok (.getfield 28, 3) := by decide +kernel
theorem dX11_remembers_87 : decode cX11_remembers 87 = .ok (.iload_n 2, 1) := by decide +kernel
theorem dX11_remembers_88 : decode cX11_remembers 88 = .ok (.iaload, 1) := by decide +kernel
theorem dX11_remembers_89 : decode cX11_remembers 89 = .ok (.iastore, 1) := by decide +kernel
theorem dX11_remembers_90 : decode cX11_remembers 90 = .ok (.iinc 2 1, 3) := by decide +kernel
theorem dX11_remembers_93 : decode cX11_remembers 93 = .ok (.goto (-23), 3) := by decide +kernel
theorem dX11_remembers_96 : decode cX11_remembers 96 = .ok (.aload_n 0, 1) := by decide +kernel
theorem dX11_remembers_97 : decode cX11_remembers 97 = .ok (.getfield 28, 3) := by decide +kernel
theorem dX11_remembers_100 : decode cX11_remembers 100 = .ok (.bipush 74, 2) := by decide +kernel
theorem dX11_remembers_102 : decode cX11_remembers 102 = .ok (.dup2, 1) := by decide +kernel
theorem dX11_remembers_103 : decode cX11_remembers 103 = .ok (.iaload, 1) := by decide +kernel
theorem dX11_remembers_104 : decode cX11_remembers 104 = .ok (.iconst 1, 1) := by decide +kernel
theorem dX11_remembers_105 : decode cX11_remembers 105 = .ok (.iadd, 1) := by decide +kernel
theorem dX11_remembers_106 : decode cX11_remembers 106 = .ok (.iastore, 1) := by decide +kernel
theorem dX11_remembers_107 : decode cX11_remembers 107 = .ok (.return_, 1) := by decide +kernel
theorem dX11_sets_0 : decode cX11_sets 0 = .ok (.aload_n 0, 1) := by decide +kernel
theorem dX11_sets_1 : decode cX11_sets 1 = .ok (.iload_n 1, 1) := by decide +kernel
theorem dX11_sets_2 : decode cX11_sets 2 = .ok (.invokevirtual 162, 3) := by decide +kernel
theorem dX11_sets_5 : decode cX11_sets 5 = .ok (.ifCond .eq 16, 3) := by decide +kernel
theorem dX11_sets_8 : decode cX11_sets 8 = .ok (.iload_n 2, 1) := by decide +kernel
theorem dX11_sets_9 : decode cX11_sets 9 = .ok (.iconst (-1), 1) := by decide +kernel
theorem dX11_sets_10 : decode cX11_sets 10 = .ok (.if_icmp .eq 13, 3) := by decide +kernel
theorem dX11_sets_13 : decode cX11_sets 13 = .ok (.aload_n 0, 1) := by decide +kernel
theorem dX11_sets_14 : decode cX11_sets 14 = .ok (.iload_n 2, 1) := by decide +kernel
theorem dX11_sets_15 : decode cX11_sets 15 = .ok (.invokevirtual 156, 3) := by decide +kernel
theorem dX11_sets_18 : decode cX11_sets 18 = .ok (.ifCond .ne 5, 3) := by decide +kernel
theorem dX11_sets_21 : decode cX11_sets 21 = .ok (.iconst (-1), 1) := by decide +kernel
theorem dX11_sets_22 : decode cX11_sets 22 = .ok (.ireturn, 1) := by decide +kernel
theorem dX11_sets_23 : decode cX11_sets 23 = .ok (.aload_n 0, 1) := by decide +kernel
theorem dX11_sets_24 : decode cX11_sets 24 = .ok (.getfield 28, 3) := by decide +kernel
theorem dX11_sets_27 : decode cX11_sets 27 = .ok (.bipush 68, 2) := by decide +kernel
theorem dX11_sets_29 : decode cX11_sets 29 = .ok (.iload_n 1, 1) := by decide +kernel
theorem dX11_sets_30 : decode cX11_sets 30 = .ok (.iadd, 1) := by decide +kernel
theorem dX11_sets_31 : decode cX11_sets 31 = .ok (.iaload, 1) := by decide +kernel
theorem dX11_sets_32 : decode cX11_sets 32 = .ok (.istore_n 3, 1) := by decide +kernel
theorem dX11_sets_33 : decode cX11_sets 33 = .ok (.iload_n 2, 1) := by decide +kernel
theorem dX11_sets_34 : decode cX11_sets 34 = .ok (.ifCond .ge 17, 3) := by decide +kernel
theorem dX11_sets_37 : decode cX11_sets 37 = .ok (.iload_n 3, 1) := by decide +kernel
theorem dX11_sets_38 : decode cX11_sets 38 = .ok (.bipush (-9), 2) := by decide +kernel
theorem dX11_sets_40 : decode cX11_sets 40 = .ok (.if_icmp .ne 7, 3) := by decide +kernel
theorem dX11_sets_43 : decode cX11_sets 43 = .ok (.iconst 1, 1) := by decide +kernel
theorem dX11_sets_44 : decode cX11_sets 44 = .ok (.goto 26, 3) := by decide +kernel
theorem dX11_sets_47 : decode cX11_sets 47 = .ok (.iconst 0, 1) := by decide +kernel
theorem dX11_sets_48 : decode cX11_sets 48 = .ok (.goto 22, 3) := by decide +kernel
theorem dX11_sets_51 : decode cX11_sets 51 = .ok (.iload_n 3, 1) := by decide +kernel
theorem dX11_sets_52 : decode cX11_sets 52 = .ok (.iload_n 2, 1) := by decide +kernel
theorem dX11_sets_53 : decode cX11_sets 53 = .ok (.if_icmp .eq 12, 3) := by decide +kernel
theorem dX11_sets_56 : decode cX11_sets 56 = .ok (.aload_n 0, 1) := by decide +kernel
theorem dX11_sets_57 : decode cX11_sets 57 = .ok (.iload_n 1, 1) := by decide +kernel
theorem dX11_sets_58 : decode cX11_sets 58 = .ok (.iload_n 2, 1) := by decide +kernel
theorem dX11_sets_59 : decode cX11_sets 59 = .ok (.invokevirtual 153, 3) := by decide +kernel
theorem dX11_sets_62 : decode cX11_sets 62 = .ok (.ifCond .ne 7, 3) := by decide +kernel
theorem dX11_sets_65 : decode cX11_sets 65 = .ok (.iconst 1, 1) := by decide +kernel
theorem dX11_sets_66 : decode cX11_sets 66 = .ok (.goto 4, 3) := by decide +kernel
theorem dX11_sets_69 : decode cX11_sets 69 = .ok (.iconst 0, 1) := by decide +kernel
theorem dX11_sets_70 : decode cX11_sets 70 = .ok (.istore 4, 2) := by decide +kernel
theorem dX11_sets_72 : decode cX11_sets 72 = .ok (.iload 4, 2) := by decide +kernel
theorem dX11_sets_74 : decode cX11_sets 74 = .ok (.ifCond .eq 6, 3) := by decide +kernel
theorem dX11_sets_77 : decode cX11_sets 77 = .ok (.bipush (-2), 2) := by decide +kernel
theorem dX11_sets_79 : decode cX11_sets 79 = .ok (.ireturn, 1) := by decide +kernel
theorem dX11_sets_80 : decode cX11_sets 80 = .ok (.aload_n 0, 1) := by decide +kernel
theorem dX11_sets_81 : decode cX11_sets 81 = .ok (.invokevirtual 168, 3) := by decide +kernel
theorem dX11_sets_84 : decode cX11_sets 84 = .ok (.aload_n 0, 1) := by decide +kernel
theorem dX11_sets_85 : decode cX11_sets 85 = .ok (.getfield 28, 3) := by decide +kernel
theorem dX11_sets_88 : decode cX11_sets 88 = .ok (.bipush 68, 2) := by decide +kernel
theorem dX11_sets_90 : decode cX11_sets 90 = .ok (.iload_n 1, 1) := by decide +kernel
theorem dX11_sets_91 : decode cX11_sets 91 = .ok (.iadd, 1) := by decide +kernel
theorem dX11_sets_92 : decode cX11_sets 92 = .ok (.iload_n 2, 1) := by decide +kernel
theorem dX11_sets_93 : decode cX11_sets 93 = .ok (.ifCond .ge 8, 3) := by decide +kernel
theorem dX11_sets_96 : decode cX11_sets 96 = .ok (.bipush (-9), 2) := by decide +kernel
theorem dX11_sets_98 : decode cX11_sets 98 = .ok (.goto 4, 3) := by decide +kernel
theorem dX11_sets_101 : decode cX11_sets 101 = .ok (.iload_n 2, 1) := by decide +kernel
theorem dX11_sets_102 : decode cX11_sets 102 = .ok (.iastore, 1) := by decide +kernel
theorem dX11_sets_103 : decode cX11_sets 103 = .ok (.iload_n 3, 1) := by decide +kernel
theorem dX11_sets_104 : decode cX11_sets 104 = .ok (.ireturn, 1) := by decide +kernel
theorem dX11_settles_0 : decode cX11_settles 0 = .ok (.aload_n 0, 1) := by decide +kernel
theorem dX11_settles_1 : decode cX11_settles 1 = .ok (.aload_n 0, 1) := by decide +kernel
theorem dX11_settles_2 : decode cX11_settles 2 = .ok (.getfield 112, 3) := by decide +kernel
theorem dX11_settles_5 : decode cX11_settles 5 = .ok (.putfield 68, 3) := by decide +kernel
theorem dX11_settles_8 : decode cX11_settles 8 = .ok (.aload_n 0, 1) := by decide +kernel
theorem dX11_settles_9 : decode cX11_settles 9 = .ok (.aload_n 0, 1) := by decide +kernel
theorem dX11_settles_10 : decode cX11_settles 10 = .ok (.getfield 119, 3) := by decide +kernel
theorem dX11_settles_13 : decode cX11_settles 13 = .ok (.putfield 76, 3) := by decide +kernel
theorem dX11_settles_16 : decode cX11_settles 16 = .ok (.iconst 0, 1) := by decide +kernel
theorem dX11_settles_17 : decode cX11_settles 17 = .ok (.istore_n 1, 1) := by decide +kernel
theorem dX11_settles_18 : decode cX11_settles 18 = .ok (.iload_n 1, 1) := by decide +kernel
theorem dX11_settles_19 : decode cX11_settles 19 = .ok (.sipush 815, 3) := by decide +kernel
theorem dX11_settles_22 : decode cX11_settles 22 = .ok (.if_icmp .ge 16, 3) := by decide +kernel
theorem dX11_settles_25 : decode cX11_settles 25 = .ok (.aload_n 0, 1) := by decide +kernel
theorem dX11_settles_26 : decode cX11_settles 26 = .ok (.getfield 28, 3) := by decide +kernel
theorem dX11_settles_29 : decode cX11_settles 29 = .ok (.iload_n 1, 1) := by decide +kernel
theorem dX11_settles_30 : decode cX11_settles 30 = .ok (.iconst 0, 1) := by decide +kernel
theorem dX11_settles_31 : decode cX11_settles 31 = .ok (.iastore, 1) := by decide +kernel
theorem dX11_settles_32 : decode cX11_settles 32 = .ok (.iinc 1 1, 3) := by decide +kernel
theorem dX11_settles_35 : decode cX11_settles 35 = .ok (.goto (-17), 3) := by decide +kernel
theorem dX11_settles_38 : decode cX11_settles 38 = .ok (.iconst 0, 1) := by decide +kernel
theorem dX11_settles_39 : decode cX11_settles 39 = .ok (.istore_n 1, 1) := by decide +kernel
theorem dX11_settles_40 : decode cX11_settles 40 = .ok (.iload_n 1, 1) := by decide +kernel
theorem dX11_settles_41 : decode cX11_settles 41 = .ok (.bipush 8, 2) := by decide +kernel
theorem dX11_settles_43 : decode cX11_settles 43 = .ok (.if_icmp .ge 57, 3) := by decide +kernel
theorem dX11_settles_46 : decode cX11_settles 46 = .ok (.aload_n 0, 1) := by decide +kernel
theorem dX11_settles_47 : decode cX11_settles 47 = .ok (.getfield 7, 3) := by decide +kernel
theorem dX11_settles_50 : decode cX11_settles 50 = .ok (.iload_n 1, 1) := by decide +kernel
theorem dX11_settles_51 : decode cX11_settles 51 = .ok (.aload_n 0, 1) := by decide +kernel
theorem dX11_settles_52 : decode cX11_settles 52 = .ok (.getfield 44, 3) := by decide +kernel
theorem dX11_settles_55 : decode cX11_settles 55 = .ok (.iload_n 1, 1) := by decide +kernel
theorem dX11_settles_56 : decode cX11_settles 56 = .ok (.iaload, 1) := by decide +kernel
theorem dX11_settles_57 : decode cX11_settles 57 = .ok (.iastore, 1) := by decide +kernel
theorem dX11_settles_58 : decode cX11_settles 58 = .ok (.aload_n 0, 1) := by decide +kernel
theorem dX11_settles_59 : decode cX11_settles 59 = .ok (.getfield 13, 3) := by decide +kernel
theorem dX11_settles_62 : decode cX11_settles 62 = .ok (.iload_n 1, 1) := by decide +kernel
theorem dX11_settles_63 : decode cX11_settles 63 = .ok (.aload_n 0, 1) := by decide +kernel
theorem dX11_settles_64 : decode cX11_settles 64 = .ok (.getfield 47, 3) := by decide +kernel
theorem dX11_settles_67 : decode cX11_settles 67 = .ok (.iload_n 1, 1) := by decide +kernel
theorem dX11_settles_68 : decode cX11_settles 68 = .ok (.iaload, 1) := by decide +kernel
theorem dX11_settles_69 : decode cX11_settles 69 = .ok (.iastore, 1) := by decide +kernel
theorem dX11_settles_70 : decode cX11_settles 70 = .ok (.aload_n 0, 1) := by decide +kernel
theorem dX11_settles_71 : decode cX11_settles 71 = .ok (.getfield 16, 3) := by decide +kernel
theorem dX11_settles_74 : decode cX11_settles 74 = .ok (.iload_n 1, 1) := by decide +kernel
theorem dX11_settles_75 : decode cX11_settles 75 = .ok (.aload_n 0, 1) := by decide +kernel
theorem dX11_settles_76 : decode cX11_settles 76 = .ok (.getfield 50, 3) := by decide +kernel
theorem dX11_settles_79 : decode cX11_settles 79 = .ok (.iload_n 1, 1) := by decide +kernel
theorem dX11_settles_80 : decode cX11_settles 80 = .ok (.iaload, 1) := by decide +kernel
theorem dX11_settles_81 : decode cX11_settles 81 = .ok (.iastore, 1) := by decide +kernel
theorem dX11_settles_82 : decode cX11_settles 82 = .ok (.aload_n 0, 1) := by decide +kernel
theorem dX11_settles_83 : decode cX11_settles 83 = .ok (.getfield 19, 3) := by decide +kernel
theorem dX11_settles_86 : decode cX11_settles 86 = .ok (.iload_n 1, 1) := by decide +kernel
theorem dX11_settles_87 : decode cX11_settles 87 = .ok (.aload_n 0, 1) := by decide +kernel
theorem dX11_settles_88 : decode cX11_settles 88 = .ok (.getfield 53, 3) := by decide +kernel
theorem dX11_settles_91 : decode cX11_settles 91 = .ok (.iload_n 1, 1) := by decide +kernel
theorem dX11_settles_92 : decode cX11_settles 92 = .ok (.iaload, 1) := by decide +kernel
theorem dX11_settles_93 : decode cX11_settles 93 = .ok (.iastore, 1) := by decide +kernel
theorem dX11_settles_94 : decode cX11_settles 94 = .ok (.iinc 1 1, 3) := by decide +kernel
theorem dX11_settles_97 : decode cX11_settles 97 = .ok (.goto (-57), 3) := by decide +kernel
theorem dX11_settles_100 : decode cX11_settles 100 = .ok (.iconst 0, 1) := by decide +kernel
theorem dX11_settles_101 : decode cX11_settles 101 = .ok (.istore_n 1, 1) := by decide +kernel
theorem dX11_settles_102 : decode cX11_settles 102 = .ok (.iload_n 1, 1) := by decide +kernel
theorem dX11_settles_103 : decode cX11_settles 103 = .ok (.bipush 6, 2) := by decide +kernel
theorem dX11_settles_105 : decode cX11_settles 105 = .ok (.if_icmp .ge 59, 3) := by decide +kernel
theorem dX11_settles_108 : decode cX11_settles 108 = .ok (.aload_n 0, 1) := by decide +kernel
theorem dX11_settles_109 : decode cX11_settles 109 = .ok (.getfield 22, 3) := by decide +kernel
theorem dX11_settles_112 : decode cX11_settles 112 = .ok (.iload_n 1, 1) := by decide +kernel
theorem dX11_settles_113 : decode cX11_settles 113 = .ok (.aload_n 0, 1) := by decide +kernel
theorem dX11_settles_114 : decode cX11_settles 114 = .ok (.getfield 56, 3) := by decide +kernel
theorem dX11_settles_117 : decode cX11_settles 117 = .ok (.iload_n 1, 1) := by decide +kernel
theorem dX11_settles_118 : decode cX11_settles 118 = .ok (.iaload, 1) := by decide +kernel
theorem dX11_settles_119 : decode cX11_settles 119 = .ok (.iastore, 1) := by decide +kernel
theorem dX11_settles_120 : decode cX11_settles 120 = .ok (.aload_n 0, 1) := by decide +kernel
theorem dX11_settles_121 : decode cX11_settles 121 = .ok (.getfield 25, 3) := by decide +kernel
theorem dX11_settles_124 : decode cX11_settles 124 = .ok (.iload_n 1, 1) := by decide +kernel
theorem dX11_settles_125 : decode cX11_settles 125 = .ok (.aload_n 0, 1) := by decide +kernel
theorem dX11_settles_126 : decode cX11_settles 126 = .ok (.getfield 59, 3) := by decide +kernel
theorem dX11_settles_129 : decode cX11_settles 129 = .ok (.iload_n 1, 1) := by decide +kernel
theorem dX11_settles_130 : decode cX11_settles 130 = .ok (.iaload, 1) := by decide +kernel
theorem dX11_settles_131 : decode cX11_settles 131 = .ok (.iastore, 1) := by decide +kernel
theorem dX11_settles_132 : decode cX11_settles 132 = .ok (.aload_n 0, 1) := by decide +kernel
theorem dX11_settles_133 : decode cX11_settles 133 = .ok (.getfield 28, 3) := by decide +kernel
theorem dX11_settles_136 : decode cX11_settles 136 = .ok (.bipush 55, 2) := by decide +kernel
theorem dX11_settles_138 : decode cX11_settles 138 = .ok (.iload_n 1, 1) := by decide +kernel
theorem dX11_settles_139 : decode cX11_settles 139 = .ok (.iadd, 1) := by decide +kernel
theorem dX11_settles_140 : decode cX11_settles 140 = .ok (.aload_n 0, 1) := by decide +kernel
theorem dX11_settles_141 : decode cX11_settles 141 = .ok (.getfield 62, 3) := by decide +kernel
theorem dX11_settles_144 : decode cX11_settles 144 = .ok (.iload_n 1, 1) := by decide +kernel
theorem dX11_settles_145 : decode cX11_settles 145 = .ok (.iaload, 1) := by decide +kernel
theorem dX11_settles_146 : decode cX11_settles 146 = .ok (.iastore, 1) := by decide +kernel
theorem dX11_settles_147 : decode cX11_settles 147 = .ok (.aload_n 0, 1) := by decide +kernel
theorem dX11_settles_148 : decode cX11_settles 148 = .ok (.getfield 28, 3) := by decide +kernel
theorem dX11_settles_151 : decode cX11_settles 151 = .ok (.bipush 68, 2) := by decide +kernel
theorem dX11_settles_153 : decode cX11_settles 153 = .ok (.iload_n 1, 1) := by decide +kernel
theorem dX11_settles_154 : decode cX11_settles 154 = .ok (.iadd, 1) := by decide +kernel
theorem dX11_settles_155 : decode cX11_settles 155 = .ok (.bipush (-9), 2) := by decide +kernel
theorem dX11_settles_157 : decode cX11_settles 157 = .ok (.iastore, 1) := by decide +kernel
theorem dX11_settles_158 : decode cX11_settles 158 = .ok (.iinc 1 1, 3) := by decide +kernel
theorem dX11_settles_161 : decode cX11_settles 161 = .ok (.goto (-59), 3) := by decide +kernel
theorem dX11_settles_164 : decode cX11_settles 164 = .ok (.aload_n 0, 1) := by decide +kernel
theorem dX11_settles_165 : decode cX11_settles 165 = .ok (.iconst 0, 1) := by decide +kernel
theorem dX11_settles_166 : decode cX11_settles 166 = .ok (.putfield 137, 3) := by decide +kernel
theorem dX11_settles_169 : decode cX11_settles 169 = .ok (.aload_n 0, 1) := by decide +kernel
theorem dX11_settles_170 : decode cX11_settles 170 = .ok (.getfield 34, 3) := by decide +kernel
theorem dX11_settles_173 : decode cX11_settles 173 = .ok (.iconst 0, 1) := by decide +kernel
theorem dX11_settles_174 : decode cX11_settles 174 = .ok (.iconst 0, 1) := by decide +kernel
theorem dX11_settles_175 : decode cX11_settles 175 = .ok (.bastore, 1) := by decide +kernel
theorem dX11_settles_176 : decode cX11_settles 176 = .ok (.aload_n 0, 1) := by decide +kernel
theorem dX11_settles_177 : decode cX11_settles 177 = .ok (.getfield 34, 3) := by decide +kernel
theorem dX11_settles_180 : decode cX11_settles 180 = .ok (.iconst 1, 1) := by decide +kernel
theorem dX11_settles_181 : decode cX11_settles 181 = .ok (.iconst 0, 1) := by decide +kernel
theorem dX11_settles_182 : decode cX11_settles 182 = .ok (.bastore, 1) := by decide +kernel
theorem dX11_settles_183 : decode cX11_settles 183 = .ok (.aload_n 0, 1) := by decide +kernel
theorem dX11_settles_184 : decode cX11_settles 184 = .ok (.iconst 0, 1) := by decide +kernel
theorem dX11_settles_185 : decode cX11_settles 185 = .ok (.putfield 79, 3) := by decide +kernel
theorem dX11_settles_188 : decode cX11_settles 188 = .ok (.return_, 1) := by decide +kernel
theorem dX11_takesNumber_0 : decode cX11_takesNumber 0 = .ok (.aload_n 0, 1) := by decide +kernel
theorem dX11_takesNumber_1 : decode cX11_takesNumber 1 = .ok (.getfield 105, 3) := by decide +kernel
theorem dX11_takesNumber_4 : decode cX11_takesNumber 4 = .ok (.ifCond .ne 27, 3) := by decide +kernel
theorem dX11_takesNumber_7 : decode cX11_takesNumber 7 = .ok (.aload_n 0, 1) := by decide +kernel
theorem dX11_takesNumber_8 : decode cX11_takesNumber 8 = .ok (.getfield 95, 3) := by decide +kernel
theorem dX11_takesNumber_11 : decode cX11_takesNumber 11 = .ok (.iconst 2, 1) := by decide +kernel
theorem dX11_takesNumber_12 : decode cX11_takesNumber 12 = .ok (.if_icmp .ne 19, 3) := by decide +kernel
theorem dX11_takesNumber_15 : decode cX11_takesNumber 15 = .ok (.aload_n 0, 1) := by decide +kernel
theorem dX11_takesNumber_16 : decode cX11_takesNumber 16 = .ok (.getfield 92, 3) := by decide +kernel
theorem dX11_takesNumber_19 : decode cX11_takesNumber 19 = .ok (.iload_n 1, 1) := by decide +kernel
theorem dX11_takesNumber_20 : decode cX11_takesNumber 20 = .ok (.iload_n 2, 1) := by decide +kernel
theorem dX11_takesNumber_21 : decode cX11_takesNumber 21 = .ok (.invokestatic 72, 3) := by decide +kernel
theorem dX11_takesNumber_24 : decode cX11_takesNumber 24 = .ok (.ifCond .eq 7, 3) := by decide +kernel
theorem dX11_takesNumber_27 : decode cX11_takesNumber 27 = .ok (.iconst 1, 1) := by decide +kernel
theorem dX11_takesNumber_28 : decode cX11_takesNumber 28 = .ok (.goto 4, 3) := by decide +kernel
theorem dX11_takesNumber_31 : decode cX11_takesNumber 31 = .ok (.iconst 0, 1) := by decide +kernel
theorem dX11_takesNumber_32 : decode cX11_takesNumber 32 = .ok (.istore_n 3, 1) := by decide +kernel
theorem dX11_takesNumber_33 : decode cX11_takesNumber 33 = .ok (.aload_n 0, 1) := by decide +kernel
theorem dX11_takesNumber_34 : decode cX11_takesNumber 34 = .ok (.iload_n 3, 1) := by decide +kernel
theorem dX11_takesNumber_35 : decode cX11_takesNumber 35 = .ok (.ifCond .ne 7, 3) := by decide +kernel
theorem dX11_takesNumber_38 : decode cX11_takesNumber 38 = .ok (.iconst 1, 1) := by decide +kernel
theorem dX11_takesNumber_39 : decode cX11_takesNumber 39 = .ok (.goto 4, 3) := by decide +kernel
theorem dX11_takesNumber_42 : decode cX11_takesNumber 42 = .ok (.iconst 0, 1) := by decide +kernel
theorem dX11_takesNumber_43 : decode cX11_takesNumber 43 = .ok (.putfield 105, 3) := by decide +kernel
theorem dX11_takesNumber_46 : decode cX11_takesNumber 46 = .ok (.aload_n 0, 1) := by decide +kernel
theorem dX11_takesNumber_47 : decode cX11_takesNumber 47 = .ok (.getfield 92, 3) := by decide +kernel
theorem dX11_takesNumber_50 : decode cX11_takesNumber 50 = .ok (.istore 4, 2) := by decide +kernel
theorem dX11_takesNumber_52 : decode cX11_takesNumber 52 = .ok (.iload_n 3, 1) := by decide +kernel
theorem dX11_takesNumber_53 : decode cX11_takesNumber 53 = .ok (.ifCond .eq 7, 3) := by decide +kernel
theorem dX11_takesNumber_56 : decode cX11_takesNumber 56 = .ok (.aload_n 0, 1) := by decide +kernel
theorem dX11_takesNumber_57 : decode cX11_takesNumber 57 = .ok (.invokevirtual 109, 3) := by decide +kernel
theorem dX11_takesNumber_60 : decode cX11_takesNumber 60 = .ok (.iload_n 3, 1) := by decide +kernel
theorem dX11_takesNumber_61 : decode cX11_takesNumber 61 = .ok (.ifCond .eq 8, 3) := by decide +kernel
theorem dX11_takesNumber_64 : decode cX11_takesNumber 64 = .ok (.iload 4, 2) := by decide +kernel
theorem dX11_takesNumber_66 : decode cX11_takesNumber 66 = .ok (.goto 4, 3) := by decide +kernel
theorem dX11_takesNumber_69 : decode cX11_takesNumber 69 = .ok (.iconst 0, 1) := by decide +kernel
theorem dX11_takesNumber_70 : decode cX11_takesNumber 70 = .ok (.ireturn, 1) := by decide +kernel
theorem dX11_thing_0 : decode cX11_thing 0 = .ok (.aload_n 0, 1) := by decide +kernel
theorem dX11_thing_1 : decode cX11_thing 1 = .ok (.iload_n 1, 1) := by decide +kernel
theorem dX11_thing_2 : decode cX11_thing 2 = .ok (.invokevirtual 156, 3) := by decide +kernel
theorem dX11_thing_5 : decode cX11_thing 5 = .ok (.ifCond .ne 5, 3) := by decide +kernel
theorem dX11_thing_8 : decode cX11_thing 8 = .ok (.iconst (-1), 1) := by decide +kernel
theorem dX11_thing_9 : decode cX11_thing 9 = .ok (.ireturn, 1) := by decide +kernel
theorem dX11_thing_10 : decode cX11_thing 10 = .ok (.iload_n 2, 1) := by decide +kernel
theorem dX11_thing_11 : decode cX11_thing 11 = .ok (.tableswitch 67 0 4 #[33, 40, 47, 54, 61], 33) := by decide +kernel
theorem dX11_thing_44 : decode cX11_thing 44 = .ok (.aload_n 0, 1) := by decide +kernel
theorem dX11_thing_45 : decode cX11_thing 45 = .ok (.getfield 7, 3) := by decide +kernel
theorem dX11_thing_48 : decode cX11_thing 48 = .ok (.iload_n 1, 1) := by decide +kernel
theorem dX11_thing_49 : decode cX11_thing 49 = .ok (.iaload, 1) := by decide +kernel
theorem dX11_thing_50 : decode cX11_thing 50 = .ok (.ireturn, 1) := by decide +kernel
theorem dX11_thing_51 : decode cX11_thing 51 = .ok (.aload_n 0, 1) := by decide +kernel
theorem dX11_thing_52 : decode cX11_thing 52 = .ok (.getfield 13, 3) := by decide +kernel
theorem dX11_thing_55 : decode cX11_thing 55 = .ok (.iload_n 1, 1) := by decide +kernel
theorem dX11_thing_56 : decode cX11_thing 56 = .ok (.iaload, 1) := by decide +kernel
theorem dX11_thing_57 : decode cX11_thing 57 = .ok (.ireturn, 1) := by decide +kernel
theorem dX11_thing_58 : decode cX11_thing 58 = .ok (.aload_n 0, 1) := by decide +kernel
theorem dX11_thing_59 : decode cX11_thing 59 = .ok (.getfield 16, 3) := by decide +kernel
theorem dX11_thing_62 : decode cX11_thing 62 = .ok (.iload_n 1, 1) := by decide +kernel
theorem dX11_thing_63 : decode cX11_thing 63 = .ok (.iaload, 1) := by decide +kernel
theorem dX11_thing_64 : decode cX11_thing 64 = .ok (.ireturn, 1) := by decide +kernel
theorem dX11_thing_65 : decode cX11_thing 65 = .ok (.aload_n 0, 1) := by decide +kernel
theorem dX11_thing_66 : decode cX11_thing 66 = .ok (.getfield 19, 3) := by decide +kernel
theorem dX11_thing_69 : decode cX11_thing 69 = .ok (.iload_n 1, 1) := by decide +kernel
theorem dX11_thing_70 : decode cX11_thing 70 = .ok (.iaload, 1) := by decide +kernel
theorem dX11_thing_71 : decode cX11_thing 71 = .ok (.ireturn, 1) := by decide +kernel
theorem dX11_thing_72 : decode cX11_thing 72 = .ok (.aload_n 0, 1) := by decide +kernel
theorem dX11_thing_73 : decode cX11_thing 73 = .ok (.iload_n 1, 1) := by decide +kernel
theorem dX11_thing_74 : decode cX11_thing 74 = .ok (.invokevirtual 159, 3) := by decide +kernel
theorem dX11_thing_77 : decode cX11_thing 77 = .ok (.ireturn, 1) := by decide +kernel
theorem dX11_thing_78 : decode cX11_thing 78 = .ok (.iconst (-1), 1) := by decide +kernel
theorem dX11_thing_79 : decode cX11_thing 79 = .ok (.ireturn, 1) := by decide +kernel
theorem dX11_trace_0 : decode cX11_trace 0 = .ok (.aload_n 0, 1) := by decide +kernel
theorem dX11_trace_1 : decode cX11_trace 1 = .ok (.getfield 226, 3) := by decide +kernel
theorem dX11_trace_4 : decode cX11_trace 4 = .ok (.lreturn, 1) := by decide +kernel
theorem dX11_tree_0 : decode cX11_tree 0 = .ok (.iconst 1, 1) := by decide +kernel
theorem dX11_tree_1 : decode cX11_tree 1 = .ok (.istore_n 1, 1) := by decide +kernel
theorem dX11_tree_2 : decode cX11_tree 2 = .ok (.iconst 0, 1) := by decide +kernel
theorem dX11_tree_3 : decode cX11_tree 3 = .ok (.istore_n 2, 1) := by decide +kernel
theorem dX11_tree_4 : decode cX11_tree 4 = .ok (.iconst 1, 1) := by decide +kernel
theorem dX11_tree_5 : decode cX11_tree 5 = .ok (.istore_n 3, 1) := by decide +kernel
theorem dX11_tree_6 : decode cX11_tree 6 = .ok (.iload_n 3, 1) := by decide +kernel
theorem dX11_tree_7 : decode cX11_tree 7 = .ok (.aload_n 0, 1) := by decide +kernel
theorem dX11_tree_8 : decode cX11_tree 8 = .ok (.getfield 76, 3) := by decide +kernel
theorem dX11_tree_11 : decode cX11_tree 11 = .ok (.if_icmp .ge 136, 3) := by decide +kernel
theorem dX11_tree_14 : decode cX11_tree 14 = .ok (.bipush 99, 2) := by decide +kernel
theorem dX11_tree_16 : decode cX11_tree 16 = .ok (.istore 4, 2) := by decide +kernel
theorem dX11_tree_18 : decode cX11_tree 18 = .ok (.iconst 0, 1) := by decide +kernel
theorem dX11_tree_19 : decode cX11_tree 19 = .ok (.istore 5, 2) := by decide +kernel
theorem dX11_tree_21 : decode cX11_tree 21 = .ok (.iconst 0, 1) := by decide +kernel
theorem dX11_tree_22 : decode cX11_tree 22 = .ok (.istore 6, 2) := by decide +kernel
theorem dX11_tree_24 : decode cX11_tree 24 = .ok (.iload 6, 2) := by decide +kernel
theorem dX11_tree_26 : decode cX11_tree 26 = .ok (.aload_n 0, 1) := by decide +kernel
theorem dX11_tree_27 : decode cX11_tree 27 = .ok (.getfield 76, 3) := by decide +kernel
theorem dX11_tree_30 : decode cX11_tree 30 = .ok (.if_icmp .ge 99, 3) := by decide +kernel
theorem dX11_tree_33 : decode cX11_tree 33 = .ok (.iconst 0, 1) := by decide +kernel
theorem dX11_tree_34 : decode cX11_tree 34 = .ok (.istore 7, 2) := by decide +kernel
theorem dX11_tree_36 : decode cX11_tree 36 = .ok (.iload 7, 2) := by decide +kernel
theorem dX11_tree_38 : decode cX11_tree 38 = .ok (.aload_n 0, 1) := by decide +kernel
theorem dX11_tree_39 : decode cX11_tree 39 = .ok (.getfield 76, 3) := by decide +kernel
theorem dX11_tree_42 : decode cX11_tree 42 = .ok (.if_icmp .ge 81, 3) := by decide +kernel
theorem dX11_tree_45 : decode cX11_tree 45 = .ok (.iload_n 1, 1) := by decide +kernel
theorem dX11_tree_46 : decode cX11_tree 46 = .ok (.iload 6, 2) := by decide +kernel
theorem dX11_tree_48 : decode cX11_tree 48 = .ok (.invokestatic 140, 3) := by decide +kernel
theorem dX11_tree_51 : decode cX11_tree 51 = .ok (.ifCond .eq 29, 3) := by decide +kernel
theorem dX11_tree_54 : decode cX11_tree 54 = .ok (.iload_n 1, 1) := by decide +kernel
theorem dX11_tree_55 : decode cX11_tree 55 = .ok (.iload 7, 2) := by decide +kernel
theorem dX11_tree_57 : decode cX11_tree 57 = .ok (.invokestatic 140, 3) := by decide +kernel
theorem dX11_tree_60 : decode cX11_tree 60 = .ok (.ifCond .ne 20, 3) := by decide +kernel
theorem dX11_tree_63 : decode cX11_tree 63 = .ok (.aload_n 0, 1) := by decide +kernel
theorem dX11_tree_64 : decode cX11_tree 64 = .ok (.iload 6, 2) := by decide +kernel
theorem dX11_tree_66 : decode cX11_tree 66 = .ok (.iload 7, 2) := by decide +kernel
theorem dX11_tree_68 : decode cX11_tree 68 = .ok (.invokevirtual 215, 3) := by decide +kernel
theorem dX11_tree_71 : decode cX11_tree 71 = .ok (.iload 4, 2) := by decide +kernel
theorem dX11_tree_73 : decode cX11_tree 73 = .ok (.if_icmp .ge 7, 3) := by decide +kernel
theorem dX11_tree_76 : decode cX11_tree 76 = .ok (.iconst 1, 1) := by decide +kernel
theorem dX11_tree_77 : decode cX11_tree 77 = .ok (.goto 4, 3) := by decide +kernel
theorem dX11_tree_80 : decode cX11_tree 80 = .ok (.iconst 0, 1) := by decide +kernel
theorem dX11_tree_81 : decode cX11_tree 81 = .ok (.istore 8, 2) := by decide +kernel
theorem dX11_tree_83 : decode cX11_tree 83 = .ok (.iload 8, 2) := by decide +kernel
theorem dX11_tree_85 : decode cX11_tree 85 = .ok (.ifCond .eq 8, 3) := by decide +kernel
theorem dX11_tree_88 : decode cX11_tree 88 = .ok (.iload 7, 2) := by decide +kernel
theorem dX11_tree_90 : decode cX11_tree 90 = .ok (.goto 5, 3) := by decide +kernel
theorem dX11_tree_93 : decode cX11_tree 93 = .ok (.iload 5, 2) := by decide +kernel
theorem dX11_tree_95 : decode cX11_tree 95 = .ok (.istore 5, 2) := by decide +kernel
theorem dX11_tree_97 : decode cX11_tree 97 = .ok (.iload 8, 2) := by decide +kernel
theorem dX11_tree_99 : decode cX11_tree 99 = .ok (.ifCond .eq 14, 3) := by decide +kernel
theorem dX11_tree_102 : decode cX11_tree 102 = .ok (.aload_n 0, 1) := by decide +kernel
theorem dX11_tree_103 : decode cX11_tree 103 = .ok (.iload 6, 2) := by decide +kernel
theorem dX11_tree_105 : decode cX11_tree 105 = .ok (.iload 7, 2) := by decide +kernel
theorem dX11_tree_107 : decode cX11_tree 107 = .ok (.invokevirtual 215, 3) := by decide +kernel
theorem dX11_tree_110 : decode cX11_tree 110 = .ok (.goto 5, 3) := by decide +kernel
theorem dX11_tree_113 : decode cX11_tree 113 = .ok (.iload 4, 2) := by decide +kernel
theorem dX11_tree_115 : decode cX11_tree 115 = .ok (.istore 4, 2) := by decide +kernel
theorem dX11_tree_117 : decode cX11_tree 117 = .ok (.iinc 7 1, 3) := by decide +kernel
theorem dX11_tree_120 : decode cX11_tree 120 = .ok (.goto (-84), 3) := by decide +kernel
theorem dX11_tree_123 : decode cX11_tree 123 = .ok (.iinc 6 1, 3) := by decide +kernel
theorem dX11_tree_126 : decode cX11_tree 126 = .ok (.goto (-102), 3) := by decide +kernel
theorem dX11_tree_129 : decode cX11_tree 129 = .ok (.iload_n 1, 1) := by decide +kernel
theorem dX11_tree_130 : decode cX11_tree 130 = .ok (.iconst 1, 1) := by decide +kernel
theorem dX11_tree_131 : decode cX11_tree 131 = .ok (.iload 5, 2) := by decide +kernel
theorem dX11_tree_133 : decode cX11_tree 133 = .ok (.ishl, 1) := by decide +kernel
theorem dX11_tree_134 : decode cX11_tree 134 = .ok (.ior, 1) := by decide +kernel
theorem dX11_tree_135 : decode cX11_tree 135 = .ok (.istore_n 1, 1) := by decide +kernel
theorem dX11_tree_136 : decode cX11_tree 136 = .ok (.iload_n 2, 1) := by decide +kernel
theorem dX11_tree_137 : decode cX11_tree 137 = .ok (.iload 4, 2) := by decide +kernel
theorem dX11_tree_139 : decode cX11_tree 139 = .ok (.iadd, 1) := by decide +kernel
theorem dX11_tree_140 : decode cX11_tree 140 = .ok (.istore_n 2, 1) := by decide +kernel
theorem dX11_tree_141 : decode cX11_tree 141 = .ok (.iinc 3 1, 3) := by decide +kernel
theorem dX11_tree_144 : decode cX11_tree 144 = .ok (.goto (-138), 3) := by decide +kernel
theorem dX11_tree_147 : decode cX11_tree 147 = .ok (.iload_n 2, 1) := by decide +kernel
theorem dX11_tree_148 : decode cX11_tree 148 = .ok (.ireturn, 1) := by decide +kernel
theorem dX11_type_0 : decode cX11_type 0 = .ok (.iload_n 1, 1) := by decide +kernel
theorem dX11_type_1 : decode cX11_type 1 = .ok (.iconst 0, 1) := by decide +kernel
theorem dX11_type_2 : decode cX11_type 2 = .ok (.sipush 255, 3) := by decide +kernel
theorem dX11_type_5 : decode cX11_type 5 = .ok (.invokestatic 72, 3) := by decide +kernel
theorem dX11_type_8 : decode cX11_type 8 = .ok (.ifCond .ne 5, 3) := by decide +kernel
theorem dX11_type_11 : decode cX11_type 11 = .ok (.iconst (-1), 1) := by decide +kernel
theorem dX11_type_12 : decode cX11_type 12 = .ok (.ireturn, 1) := by decide +kernel
theorem dX11_type_13 : decode cX11_type 13 = .ok (.aload_n 0, 1) := by decide +kernel
theorem dX11_type_14 : decode cX11_type 14 = .ok (.getfield 79, 3) := by decide +kernel
theorem dX11_type_17 : decode cX11_type 17 = .ok (.sipush 150, 3) := by decide +kernel
theorem dX11_type_20 : decode cX11_type 20 = .ok (.if_icmp .ne 6, 3) := by decide +kernel
theorem dX11_type_23 : decode cX11_type 23 = .ok (.bipush (-3), 2) := by decide +kernel
theorem dX11_type_25 : decode cX11_type 25 = .ok (.ireturn, 1) := by decide +kernel
theorem dX11_type_26 : decode cX11_type 26 = .ok (.aload_n 0, 1) := by decide +kernel
theorem dX11_type_27 : decode cX11_type 27 = .ok (.getfield 41, 3) := by decide +kernel
theorem dX11_type_30 : decode cX11_type 30 = .ok (.aload_n 0, 1) := by decide +kernel
theorem dX11_type_31 : decode cX11_type 31 = .ok (.getfield 79, 3) := by decide +kernel
theorem dX11_type_34 : decode cX11_type 34 = .ok (.iload_n 1, 1) := by decide +kernel
theorem dX11_type_35 : decode cX11_type 35 = .ok (.iastore, 1) := by decide +kernel
theorem dX11_type_36 : decode cX11_type 36 = .ok (.aload_n 0, 1) := by decide +kernel
theorem dX11_type_37 : decode cX11_type 37 = .ok (.dup, 1) := by decide +kernel
theorem dX11_type_38 : decode cX11_type 38 = .ok (.getfield 79, 3) := by decide +kernel
theorem dX11_type_41 : decode cX11_type 41 = .ok (.iconst 1, 1) := by decide +kernel
theorem dX11_type_42 : decode cX11_type 42 = .ok (.iadd, 1) := by decide +kernel
theorem dX11_type_43 : decode cX11_type 43 = .ok (.putfield 79, 3) := by decide +kernel
theorem dX11_type_46 : decode cX11_type 46 = .ok (.aload_n 0, 1) := by decide +kernel
theorem dX11_type_47 : decode cX11_type 47 = .ok (.getfield 79, 3) := by decide +kernel
theorem dX11_type_50 : decode cX11_type 50 = .ok (.ireturn, 1) := by decide +kernel
theorem dX11_undo_0 : decode cX11_undo 0 = .ok (.aload_n 0, 1) := by decide +kernel
theorem dX11_undo_1 : decode cX11_undo 1 = .ok (.getfield 28, 3) := by decide +kernel
theorem dX11_undo_4 : decode cX11_undo 4 = .ok (.bipush 74, 2) := by decide +kernel
theorem dX11_undo_6 : decode cX11_undo 6 = .ok (.iaload, 1) := by decide +kernel
theorem dX11_undo_7 : decode cX11_undo 7 = .ok (.ifCond .ne 6, 3) := by decide +kernel
theorem dX11_undo_10 : decode cX11_undo 10 = .ok (.bipush (-2), 2) := by decide +kernel
theorem dX11_undo_12 : decode cX11_undo 12 = .ok (.ireturn, 1) := by decide +kernel
theorem dX11_undo_13 : decode cX11_undo 13 = .ok (.aload_n 0, 1) := by decide +kernel
theorem dX11_undo_14 : decode cX11_undo 14 = .ok (.getfield 28, 3) := by decide +kernel
theorem dX11_undo_17 : decode cX11_undo 17 = .ok (.bipush 74, 2) := by decide +kernel
theorem dX11_undo_19 : decode cX11_undo 19 = .ok (.dup2, 1) := by decide +kernel
theorem dX11_undo_20 : decode cX11_undo 20 = .ok (.iaload, 1) := by decide +kernel
theorem dX11_undo_21 : decode cX11_undo 21 = .ok (.iconst 1, 1) := by decide +kernel
theorem dX11_undo_22 : decode cX11_undo 22 = .ok (.isub, 1) := by decide +kernel
theorem dX11_undo_23 : decode cX11_undo 23 = .ok (.iastore, 1) := by decide +kernel
theorem dX11_undo_24 : decode cX11_undo 24 = .ok (.bipush 75, 2) := by decide +kernel
theorem dX11_undo_26 : decode cX11_undo 26 = .ok (.bipush 74, 2) := by decide +kernel
theorem dX11_undo_28 : decode cX11_undo 28 = .ok (.aload_n 0, 1) := by decide +kernel
theorem dX11_undo_29 : decode cX11_undo 29 = .ok (.getfield 28, 3) := by decide +kernel
theorem dX11_undo_32 : decode cX11_undo 32 = .ok (.bipush 74, 2) := by decide +kernel
theorem dX11_undo_34 : decode cX11_undo 34 = .ok (.iaload, 1) := by decide +kernel
theorem dX11_undo_35 : decode cX11_undo 35 = .ok (.imul, 1) := by decide +kernel
theorem dX11_undo_36 : decode cX11_undo 36 = .ok (.iadd, 1) := by decide +kernel
theorem dX11_undo_37 : decode cX11_undo 37 = .ok (.istore_n 1, 1) := by decide +kernel
theorem dX11_undo_38 : decode cX11_undo 38 = .ok (.iconst 0, 1) := by decide +kernel
theorem dX11_undo_39 : decode cX11_undo 39 = .ok (.istore_n 2, 1) := by decide +kernel
theorem dX11_undo_40 : decode cX11_undo 40 = .ok (.iload_n 2, 1) := by decide +kernel
theorem dX11_undo_41 : decode cX11_undo 41 = .ok (.bipush 74, 2) := by decide +kernel
theorem dX11_undo_43 : decode cX11_undo 43 = .ok (.if_icmp .ge 23, 3) := by decide +kernel
theorem dX11_undo_46 : decode cX11_undo 46 = .ok (.aload_n 0, 1) := by decide +kernel
theorem dX11_undo_47 : decode cX11_undo 47 = .ok (.getfield 28, 3) := by decide +kernel
theorem dX11_undo_50 : decode cX11_undo 50 = .ok (.iload_n 2, 1) := by decide +kernel
theorem dX11_undo_51 : decode cX11_undo 51 = .ok (.aload_n 0, 1) := by decide +kernel
theorem dX11_undo_52 : decode cX11_undo 52 = .ok (.getfield 28, 3) := by decide +kernel
theorem dX11_undo_55 : decode cX11_undo 55 = .ok (.iload_n 1, 1) := by decide +kernel
theorem dX11_undo_56 : decode cX11_undo 56 = .ok (.iload_n 2, 1) := by decide +kernel
theorem dX11_undo_57 : decode cX11_undo 57 = .ok (.iadd, 1) := by decide +kernel
theorem dX11_undo_58 : decode cX11_undo 58 = .ok (.iaload, 1) := by decide +kernel
theorem dX11_undo_59 : decode cX11_undo 59 = .ok (.iastore, 1) := by decide +kernel
theorem dX11_undo_60 : decode cX11_undo 60 = .ok (.iinc 2 1, 3) := by decide +kernel
theorem dX11_undo_63 : decode cX11_undo 63 = .ok (.goto (-23), 3) := by decide +kernel
theorem dX11_undo_66 : decode cX11_undo 66 = .ok (.aload_n 0, 1) := by decide +kernel
theorem dX11_undo_67 : decode cX11_undo 67 = .ok (.getfield 28, 3) := by decide +kernel
theorem dX11_undo_70 : decode cX11_undo 70 = .ok (.bipush 74, 2) := by decide +kernel
theorem dX11_undo_72 : decode cX11_undo 72 = .ok (.iaload, 1) := by decide +kernel
theorem dX11_undo_73 : decode cX11_undo 73 = .ok (.ireturn, 1) := by decide +kernel
theorem dX11_wanted_0 : decode cX11_wanted 0 = .ok (.iconst 1, 1) := by decide +kernel
theorem dX11_wanted_1 : decode cX11_wanted 1 = .ok (.iload_n 2, 1) := by decide +kernel
theorem dX11_wanted_2 : decode cX11_wanted 2 = .ok (.ishl, 1) := by decide +kernel
theorem dX11_wanted_3 : decode cX11_wanted 3 = .ok (.istore_n 3, 1) := by decide +kernel
theorem dX11_wanted_4 : decode cX11_wanted 4 = .ok (.iload_n 2, 1) := by decide +kernel
theorem dX11_wanted_5 : decode cX11_wanted 5 = .ok (.istore 4, 2) := by decide +kernel
theorem dX11_wanted_7 : decode cX11_wanted 7 = .ok (.iload 4, 2) := by decide +kernel
theorem dX11_wanted_9 : decode cX11_wanted 9 = .ok (.ifCond .lt 44, 3) := by decide +kernel
theorem dX11_wanted_12 : decode cX11_wanted 12 = .ok (.iload_n 3, 1) := by decide +kernel
theorem dX11_wanted_13 : decode cX11_wanted 13 = .ok (.iload_n 3, 1) := by decide +kernel
theorem dX11_wanted_14 : decode cX11_wanted 14 = .ok (.iload 4, 2) := by decide +kernel
theorem dX11_wanted_16 : decode cX11_wanted 16 = .ok (.invokestatic 140, 3) := by decide +kernel
theorem dX11_wanted_19 : decode cX11_wanted 19 = .ok (.ifCond .eq 25, 3) := by decide +kernel
theorem dX11_wanted_22 : decode cX11_wanted 22 = .ok (.aload_n 0, 1) := by decide +kernel
theorem dX11_wanted_23 : decode cX11_wanted 23 = .ok (.getfield 19, 3) := by decide +kernel
theorem dX11_wanted_26 : decode cX11_wanted 26 = .ok (.iload 4, 2) := by decide +kernel
theorem dX11_wanted_28 : decode cX11_wanted 28 = .ok (.iaload, 1) := by decide +kernel
theorem dX11_wanted_29 : decode cX11_wanted 29 = .ok (.aload_n 0, 1) := by decide +kernel
theorem dX11_wanted_30 : decode cX11_wanted 30 = .ok (.getfield 28, 3) := by decide +kernel
theorem dX11_wanted_33 : decode cX11_wanted 33 = .ok (.bipush 49, 2) := by decide +kernel
theorem dX11_wanted_35 : decode cX11_wanted 35 = .ok (.iload_n 1, 1) := by decide +kernel
theorem dX11_wanted_36 : decode cX11_wanted 36 = .ok (.iadd, 1) := by decide +kernel
theorem dX11_wanted_37 : decode cX11_wanted 37 = .ok (.iaload, 1) := by decide +kernel
theorem dX11_wanted_38 : decode cX11_wanted 38 = .ok (.iconst (-1), 1) := by decide +kernel
theorem dX11_wanted_39 : decode cX11_wanted 39 = .ok (.ixor, 1) := by decide +kernel
theorem dX11_wanted_40 : decode cX11_wanted 40 = .ok (.iand, 1) := by decide +kernel
theorem dX11_wanted_41 : decode cX11_wanted 41 = .ok (.goto 4, 3) := by decide +kernel
theorem dX11_wanted_44 : decode cX11_wanted 44 = .ok (.iconst 0, 1) := by decide +kernel
theorem dX11_wanted_45 : decode cX11_wanted 45 = .ok (.ior, 1) := by decide +kernel
theorem dX11_wanted_46 : decode cX11_wanted 46 = .ok (.istore_n 3, 1) := by decide +kernel
theorem dX11_wanted_47 : decode cX11_wanted 47 = .ok (.iinc 4 (-1), 3) := by decide +kernel
theorem dX11_wanted_50 : decode cX11_wanted 50 = .ok (.goto (-43), 3) := by decide +kernel
theorem dX11_wanted_53 : decode cX11_wanted 53 = .ok (.iload_n 3, 1) := by decide +kernel
theorem dX11_wanted_54 : decode cX11_wanted 54 = .ok (.ireturn, 1) := by decide +kernel
