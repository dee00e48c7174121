theorem dX9_addCast_0 : decode cX9_addCast 0 = .ok (.aload_n 0, 1) := by decide +kernel
theorem dX9_addCast_1 : decode cX9_addCast 1 = .ok (.getfield 24, 3) := by decide +kernel
theorem dX9_addCast_4 : decode cX9_addCast 4 = .ok (.aload_n 0, 1) := by decide +kernel
theorem dX9_addCast_5 : decode cX9_addCast 5 = .ok (.getfield 37, 3) := by decide +kernel
theorem dX9_addCast_8 : decode cX9_addCast 8 = .ok (.aload_n 1, 1) := by decide +kernel
theorem dX9_addCast_9 : decode cX9_addCast 9 = .ok (.iconst 0, 1) := by decide +kernel
theorem dX9_addCast_10 : decode cX9_addCast 10 = .ok (.iaload, 1) := by decide +kernel
theorem dX9_addCast_11 : decode cX9_addCast 11 = .ok (.iastore, 1) := by decide +kernel
theorem dX9_addCast_12 : decode cX9_addCast 12 = .ok (.aload_n 0, 1) := by decide +kernel
theorem dX9_addCast_13 : decode cX9_addCast 13 = .ok (.getfield 27, 3) := by decide +kernel
theorem dX9_addCast_16 : decode cX9_addCast 16 = .ok (.aload_n 0, 1) := by decide +kernel
theorem dX9_addCast_17 : decode cX9_addCast 17 = .ok (.getfield 37, 3) := by decide +kernel
theorem dX9_addCast_20 : decode cX9_addCast 20 = .ok (.aload_n 1, 1) := by decide +kernel
theorem dX9_addCast_21 : decode cX9_addCast 21 = .ok (.iconst 1, 1) := by decide +kernel
theorem dX9_addCast_22 : decode cX9_addCast 22 = .ok (.iaload, 1) := by decide +kernel
theorem dX9_addCast_23 : decode cX9_addCast 23 = .ok (.iastore, 1) := by decide +kernel
theorem dX9_addCast_24 : decode cX9_addCast 24 = .ok (.aload_n 0, 1) := by decide +kernel
theorem dX9_addCast_25 : decode cX9_addCast 25 = .ok (.getfield 30, 3) := by decide +kernel
theorem dX9_addCast_28 : decode cX9_addCast 28 = .ok (.aload_n 0, 1) := by decide +kernel
theorem dX9_addCast_29 : decode cX9_addCast 29 = .ok (.getfield 37, 3) := by decide +kernel
theorem dX9_addCast_32 : decode cX9_addCast 32 = .ok (.aload_n 1, 1) := by decide +kernel
theorem dX9_addCast_33 : decode cX9_addCast 33 = .ok (.iconst 2, 1) := by decide +kernel
theorem dX9_addCast_34 : decode cX9_addCast 34 = .ok (.iaload, 1) := by decide +kernel
theorem dX9_addCast_35 : decode cX9_addCast 35 = .ok (.iastore, 1) := by decide +kernel
theorem dX9_addCast_36 : decode cX9_addCast 36 = .ok (.aload_n 0, 1) := by decide +kernel
theorem dX9_addCast_37 : decode cX9_addCast 37 = .ok (.dup, 1) := by decide +kernel
theorem dX9_addCast_38 : decode cX9_addCast 38 = .ok (.getfield 37, 3) := by decide +kernel
theorem dX9_addCast_41 : decode cX9_addCast 41 = .ok (.iconst 1, 1) := by decide +kernel
theorem dX9_addCast_42 : decode cX9_addCast 42 = .ok (.iadd, 1) := by decide +kernel
theorem dX9_addCast_43 : decode cX9_addCast 43 = .ok (.putfield 37, 3) := by decide +kernel
theorem dX9_addCast_46 : decode cX9_addCast 46 = .ok (.return_, 1) := by decide +kernel
theorem dX9_addThing_0 : decode cX9_addThing 0 = .ok (.aload_n 0, 1) := by decide +kernel
theorem dX9_addThing_1 : decode cX9_addThing 1 = .ok (.getfield 9, 3) := by decide +kernel
theorem dX9_addThing_4 : decode cX9_addThing 4 = .ok (.aload_n 0, 1) := by decide +kernel
theorem dX9_addThing_5 : decode cX9_addThing 5 = .ok (.getfield 33, 3) := by decide +kernel
theorem dX9_addThing_8 : decode cX9_addThing 8 = .ok (.aload_n 1, 1) := by decide +kernel
theorem dX9_addThing_9 : decode cX9_addThing 9 = .ok (.iconst 0, 1) := by decide +kernel
theorem dX9_addThing_10 : decode cX9_addThing 10 = .ok (.iaload, 1) := by decide +kernel
theorem dX9_addThing_11 : decode cX9_addThing 11 = .ok (.iastore, 1) := by decide +kernel
theorem dX9_addThing_12 : decode cX9_addThing 12 = .ok (.aload_n 0, 1) := by decide +kernel
theorem dX9_addThing_13 : decode cX9_addThing 13 = .ok (.getfield 15, 3) := by decide +kernel
theorem dX9_addThing_16 : decode cX9_addThing 16 = .ok (.aload_n 0, 1) := by decide +kernel
theorem dX9_addThing_17 : decode cX9_addThing 17 = .ok (.getfield 33, 3) := by decide +kernel
theorem dX9_addThing_20 : decode cX9_addThing 20 = .ok (.aload_n 1, 1) := by decide +kernel
theorem dX9_addThing_21 : decode cX9_addThing 21 = .ok (.iconst 1, 1) := by decide +kernel
theorem dX9_addThing_22 : decode cX9_addThing 22 = .ok (.iaload, 1) := by decide +kernel
theorem dX9_addThing_23 : decode cX9_addThing 23 = .ok (.iastore, 1) := by decide +kernel
theorem dX9_addThing_24 : decode cX9_addThing 24 = .ok (.aload_n 0, 1) := by decide +kernel
theorem dX9_addThing_25 : decode cX9_addThing 25 = .ok (.getfield 18, 3) := by decide +kernel
theorem dX9_addThing_28 : decode cX9_addThing 28 = .ok (.aload_n 0, 1) := by decide +kernel
theorem dX9_addThing_29 : decode cX9_addThing 29 = .ok (.getfield 33, 3) := by decide +kernel
theorem dX9_addThing_32 : decode cX9_addThing 32 = .ok (.aload_n 1, 1) := by decide +kernel
theorem dX9_addThing_33 : decode cX9_addThing 33 = .ok (.iconst 2, 1) := by decide +kernel
theorem dX9_addThing_34 : decode cX9_addThing 34 = .ok (.iaload, 1) := by decide +kernel
theorem dX9_addThing_35 : decode cX9_addThing 35 = .ok (.iastore, 1) := by decide +kernel
theorem dX9_addThing_36 : decode cX9_addThing 36 = .ok (.aload_n 0, 1) := by decide +kernel
theorem dX9_addThing_37 : decode cX9_addThing 37 = .ok (.getfield 21, 3) := by decide +kernel
theorem dX9_addThing_40 : decode cX9_addThing 40 = .ok (.aload_n 0, 1) := by decide +kernel
theorem dX9_addThing_41 : decode cX9_addThing 41 = .ok (.getfield 33, 3) := by decide +kernel
theorem dX9_addThing_44 : decode cX9_addThing 44 = .ok (.iconst 1, 1) := by decide +kernel
theorem dX9_addThing_45 : decode cX9_addThing 45 = .ok (.aload_n 1, 1) := by decide +kernel
theorem dX9_addThing_46 : decode cX9_addThing 46 = .ok (.iconst 3, 1) := by decide +kernel
theorem dX9_addThing_47 : decode cX9_addThing 47 = .ok (.iaload, 1) := by decide +kernel
theorem dX9_addThing_48 : decode cX9_addThing 48 = .ok (.ishl, 1) := by decide +kernel
theorem dX9_addThing_49 : decode cX9_addThing 49 = .ok (.iconst 1, 1) := by decide +kernel
theorem dX9_addThing_50 : decode cX9_addThing 50 = .ok (.aload_n 1, 1) := by decide +kernel
theorem dX9_addThing_51 : decode cX9_addThing 51 = .ok (.iconst 4, 1) := by decide +kernel
theorem dX9_addThing_52 : decode cX9_addThing 52 = .ok (.iaload, 1) := by decide +kernel
theorem dX9_addThing_53 : decode cX9_addThing 53 = .ok (.ishl, 1) := by decide +kernel
theorem dX9_addThing_54 : decode cX9_addThing 54 = .ok (.ior, 1) := by decide +kernel
theorem dX9_addThing_55 : decode cX9_addThing 55 = .ok (.iconst 1, 1) := by decide +kernel
theorem dX9_addThing_56 : decode cX9_addThing 56 = .ok (.aload_n 0, 1) := by decide +kernel
theorem dX9_addThing_57 : decode cX9_addThing 57 = .ok (.getfield 33, 3) := by decide +kernel
theorem dX9_addThing_60 : decode cX9_addThing 60 = .ok (.ishl, 1) := by decide +kernel
theorem dX9_addThing_61 : decode cX9_addThing 61 = .ok (.iconst (-1), 1) := by decide +kernel
theorem dX9_addThing_62 : decode cX9_addThing 62 = .ok (.ixor, 1) := by decide +kernel
theorem dX9_addThing_63 : decode cX9_addThing 63 = .ok (.iand, 1) := by decide +kernel
theorem dX9_addThing_64 : decode cX9_addThing 64 = .ok (.iastore, 1) := by decide +kernel
theorem dX9_addThing_65 : decode cX9_addThing 65 = .ok (.aload_n 0, 1) := by decide +kernel
theorem dX9_addThing_66 : decode cX9_addThing 66 = .ok (.dup, 1) := by decide +kernel
theorem dX9_addThing_67 : decode cX9_addThing 67 = .ok (.getfield 33, 3) := by decide +kernel
theorem dX9_addThing_70 : decode cX9_addThing 70 = .ok (.iconst 1, 1) := by decide +kernel
theorem dX9_addThing_71 : decode cX9_addThing 71 = .ok (.iadd, 1) := by decide +kernel
theorem dX9_addThing_72 : decode cX9_addThing 72 = .ok (.putfield 33, 3) := by decide +kernel
theorem dX9_addThing_75 : decode cX9_addThing 75 = .ok (.return_, 1) := by decide +kernel
theorem dX9_become_0 : decode cX9_become 0 = .ok (.aload_n 0, 1) := by decide +kernel
theorem dX9_become_1 : decode cX9_become 1 = .ok (.aload_n 1, 1) := by decide +kernel
theorem dX9_become_2 : decode cX9_become 2 = .ok (.getfield 33, 3) := by decide +kernel
theorem dX9_become_5 : decode cX9_become 5 = .ok (.putfield 33, 3) := by decide +kernel
theorem dX9_become_8 : decode cX9_become 8 = .ok (.aload_n 0, 1) := by decide +kernel
theorem dX9_become_9 : decode cX9_become 9 = .ok (.aload_n 1, 1) := by decide +kernel
theorem dX9_become_10 : decode cX9_become 10 = .ok (.getfield 37, 3) := by decide +kernel
theorem dX9_become_13 : decode cX9_become 13 = .ok (.putfield 37, 3) := by decide +kernel
theorem dX9_become_16 : decode cX9_become 16 = .ok (.aload_n 1, 1) := by decide +kernel
theorem dX9_become_17 : decode cX9_become 17 = .ok (.getfield 9, 3) := by decide +kernel
theorem dX9_become_20 : decode cX9_become 20 = .ok (.iconst 0, 1) := by decide +kernel
theorem dX9_become_21 : decode cX9_become 21 = .ok (.aload_n 0, 1) := by decide +kernel
theorem dX9_become_22 : decode cX9_become 22 = .ok (.getfield 9, 3) := by decide +kernel
theorem dX9_become_25 : decode cX9_become 25 = .ok (.iconst 0, 1) := by decide +kernel
theorem dX9_become_26 : decode cX9_become 26 = .ok (.bipush 8, 2) := by decide +kernel
theorem dX9_become_28 : decode cX9_become 28 = .ok (.invokestatic 40, 3) := by decide +kernel
theorem dX9_become_31 : decode cX9_become 31 = .ok (.aload_n 1, 1) := by decide +kernel
theorem dX9_become_32 : decode cX9_become 32 = .ok (.getfield 15, 3) := by decide +kernel
theorem dX9_become_35 : decode cX9_become 35 = .ok (.iconst 0, 1) := by decide +kernel
theorem dX9_become_36 : decode cX9_become 36 = .ok (.aload_n 0, 1) := by decide +kernel
theorem dX9_become_37 : decode cX9_become 37 = .ok (.getfield 15, 3) := by decide +kernel
theorem dX9_become_40 : decode cX9_become 40 = .ok (.iconst 0, 1) := by decide +kernel
theorem dX9_become_41 : decode cX9_become 41 = .ok (.bipush 8, 2) := by decide +kernel
theorem dX9_become_43 : decode cX9_become 43 = .ok (.invokestatic 40, 3) := by decide +kernel
theorem dX9_become_46 : decode cX9_become 46 = .ok (.aload_n 1, 1) := by decide +kernel
theorem dX9_become_47 : decode cX9_become 47 = .ok (.getfield 18, 3) := by decide +kernel
theorem dX9_become_50 : decode cX9_become 50 = .ok (.iconst 0, 1) := by decide +kernel
theorem dX9_become_51 : decode cX9_become 51 = .ok (.aload_n 0, 1) := by decide +kernel
theorem dX9_become_52 : decode cX9_become 52 = .ok (.getfield 18, 3) := by decide +kernel
theorem dX9_become_55 : decode cX9_become 55 = .ok (.iconst 0, 1) := by decide +kernel
theorem dX9_become_56 : decode cX9_become 56 = .ok (.bipush 8, 2) := by decide +kernel
theorem dX9_become_58 : decode cX9_become 58 = .ok (.invokestatic 40, 3) := by decide +kernel
theorem dX9_become_61 : decode cX9_become 61 = .ok (.aload_n 1, 1) := by decide +kernel
theorem dX9_become_62 : decode cX9_become 62 = .ok (.getfield 21, 3) := by decide +kernel
theorem dX9_become_65 : decode cX9_become 65 = .ok (.iconst 0, 1) := by decide +kernel
theorem dX9_become_66 : decode cX9_become 66 = .ok (.aload_n 0, 1) := by decide +kernel
theorem dX9_become_67 : decode cX9_become 67 = .ok (.getfield 21, 3) := by decide +kernel
theorem dX9_become_70 : decode cX9_become 70 = .ok (.iconst 0, 1) := by decide +kernel
theorem dX9_become_71 : decode cX9_become 71 = .ok (.bipush 8, 2) := by decide +kernel
theorem dX9_become_73 : decode cX9_become 73 = .ok (.invokestatic 40, 3) := by decide +kernel
theorem dX9_become_76 : decode cX9_become 76 = .ok (.aload_n 1, 1) := by decide +kernel
theorem dX9_become_77 : decode cX9_become 77 = .ok (.getfield 24, 3) := by decide +kernel
theorem dX9_become_80 : decode cX9_become 80 = .ok (.iconst 0, 1) := by decide +kernel
theorem dX9_become_81 : decode cX9_become 81 = .ok (.aload_n 0, 1) := by decide +kernel
theorem dX9_become_82 : decode cX9_become 82 = .ok (.getfield 24, 3) := by decide +kernel
theorem dX9_become_85 : decode cX9_become 85 = .ok (.iconst 0, 1) := by decide +kernel
theorem dX9_become_86 : decode cX9_become 86 = .ok (.bipush 6, 2) := by decide +kernel
theorem dX9_become_88 : decode cX9_become 88 = .ok (.invokestatic 40, 3) := by decide +kernel
theorem dX9_become_91 : decode cX9_become 91 = .ok (.aload_n 1, 1) := by decide +kernel
theorem dX9_become_92 : decode cX9_become 92 = .ok (.getfield 27, 3) := by decide +kernel
theorem dX9_become_95 : decode cX9_become 95 = .ok (.iconst 0, 1) := by decide +kernel
theorem dX9_become_96 : decode cX9_become 96 = .ok (.aload_n 0, 1) := by decide +kernel
theorem dX9_become_97 : decode cX9_become 97 = .ok (.getfield 27, 3) := by decide +kernel
theorem dX9_become_100 : decode cX9_become 100 = .ok (.iconst 0, 1) := by decide +kernel
theorem dX9_become_101 : decode cX9_become 101 = .ok (.bipush 6, 2) := by decide +kernel
theorem dX9_become_103 : decode cX9_become 103 = .ok (.invokestatic 40, 3) := by decide +kernel
theorem dX9_become_106 : decode cX9_become 106 = .ok (.aload_n 1, 1) := by decide +kernel
theorem dX9_become_107 : decode cX9_become 107 = .ok (.getfield 30, 3) := by decide +kernel
theorem dX9_become_110 : decode cX9_become 110 = .ok (.iconst 0, 1) := by decide +kernel
theorem dX9_become_111 : decode cX9_become 111 = .ok (.aload_n 0, 1) := by decide +kernel
theorem dX9_become_112 : decode cX9_become 112 = .ok (.getfield 30, 3) := by decide +kernel
theorem dX9_become_115 : decode cX9_become 115 = .ok (.iconst 0, 1) := by decide +kernel
theorem dX9_become_116 : decode cX9_become 116 = .ok (.bipush 6, 2) := by decide +kernel
theorem dX9_become_118 : decode cX9_become 118 = .ok (.invokestatic 40, 3) := by decide +kernel
theorem dX9_become_121 : decode cX9_become 121 = .ok (.return_, 1) := by decide +kernel
theorem dX9_init_0 : decode cX9_init 0 = .ok (.aload_n 0, 1) := by decide +kernel
theorem dX9_init_1 : decode cX9_init 1 = .ok (.invokespecial 3, 3) := by decide +kernel
theorem dX9_init_4 : decode cX9_init 4 = .ok (.aload_n 0, 1) := by decide +kernel
theorem dX9_init_5 : decode cX9_init 5 = .ok (.bipush 8, 2) := by decide +kernel
theorem dX9_init_7 : decode cX9_init 7 = .ok (.newarray .int, 2) := by decide +kernel
theorem dX9_init_9 : decode cX9_init 9 = .ok (.putfield 9, 3) := by decide +kernel
theorem dX9_init_12 : decode cX9_init 12 = .ok (.aload_n 0, 1) := by decide +kernel
theorem dX9_init_13 : decode cX9_init 13 = .ok (.bipush 8, 2) := by decide +kernel
theorem dX9_init_15 : decode cX9_init 15 = .ok (.newarray .int, 2) := by decide +kernel
theorem dX9_init_17 : decode cX9_init 17 = .ok (.putfield 15, 3) := by decide +kernel
theorem dX9_init_20 : decode cX9_init 20 = .ok (.aload_n 0, 1) := by decide +kernel
theorem dX9_init_21 : decode cX9_init 21 = .ok (.bipush 8, 2) := by decide +kernel
theorem dX9_init_23 : decode cX9_init 23 = .ok (.newarray .int, 2) := by decide +kernel
theorem dX9_init_25 : decode cX9_init 25 = .ok (.putfield 18, 3) := by decide +kernel
theorem dX9_init_28 : decode cX9_init 28 = .ok (.aload_n 0, 1) := by decide +kernel
theorem dX9_init_29 : decode cX9_init 29 = .ok (.bipush 8, 2) := by decide +kernel
theorem dX9_init_31 : decode cX9_init 31 = .ok (.newarray .int, 2) := by decide +kernel
theorem dX9_init_33 : decode cX9_init 33 = .ok (.putfield 21, 3) := by decide +kernel
theorem dX9_init_36 : decode cX9_init 36 = .ok (.aload_n 0, 1) := by decide +kernel
theorem dX9_init_37 : decode cX9_init 37 = .ok (.bipush 6, 2) := by decide +kernel
theorem dX9_init_39 : decode cX9_init 39 = .ok (.newarray .int, 2) := by decide +kernel
theorem dX9_init_41 : decode cX9_init 41 = .ok (.putfield 24, 3) := by decide +kernel
theorem dX9_init_44 : decode cX9_init 44 = .ok (.aload_n 0, 1) := by decide +kernel
theorem dX9_init_45 : decode cX9_init 45 = .ok (.bipush 6, 2) := by decide +kernel
theorem dX9_init_47 : decode cX9_init 47 = .ok (.newarray .int, 2) := by decide +kernel
theorem dX9_init_49 : decode cX9_init 49 = .ok (.putfield 27, 3) := by decide +kernel
theorem dX9_init_52 : decode cX9_init 52 = .ok (.aload_n 0, 1) := by decide +kernel
theorem dX9_init_53 : decode cX9_init 53 = .ok (.bipush 6, 2) := by decide +kernel
theorem dX9_init_55 : decode cX9_init 55 = .ok (.newarray .int, 2) := by decide +kernel
theorem dX9_init_57 : decode cX9_init 57 = .ok (.putfield 30, 3) := by decide +kernel
theorem dX9_init_60 : decode cX9_init 60 = .ok (.return_, 1) := by decide +kernel
