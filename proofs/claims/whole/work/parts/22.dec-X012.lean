theorem dX2_init_0 : decode cX2_init 0 = .ok (.aload_n 0, 1) := by decide +kernel
theorem dX2_init_1 : decode cX2_init 1 = .ok (.invokespecial 3, 3) := by decide +kernel
theorem dX2_init_4 : decode cX2_init 4 = .ok (.aload_n 0, 1) := by decide +kernel
theorem dX2_init_5 : decode cX2_init 5 = .ok (.bipush 16, 2) := by decide +kernel
theorem dX2_init_7 : decode cX2_init 7 = .ok (.newarray .int, 2) := by decide +kernel
theorem dX2_init_9 : decode cX2_init 9 = .ok (.putfield 9, 3) := by decide +kernel
theorem dX2_init_12 : decode cX2_init 12 = .ok (.aload_n 0, 1) := by decide +kernel
theorem dX2_init_13 : decode cX2_init 13 = .ok (.bipush 16, 2) := by decide +kernel
theorem dX2_init_15 : decode cX2_init 15 = .ok (.newarray .boolean, 2) := by decide +kernel
theorem dX2_init_17 : decode cX2_init 17 = .ok (.putfield 15, 3) := by decide +kernel
theorem dX2_init_20 : decode cX2_init 20 = .ok (.aload_n 0, 1) := by decide +kernel
theorem dX2_init_21 : decode cX2_init 21 = .ok (.bipush 16, 2) := by decide +kernel
theorem dX2_init_23 : decode cX2_init 23 = .ok (.newarray .long, 2) := by decide +kernel
theorem dX2_init_25 : decode cX2_init 25 = .ok (.putfield 19, 3) := by decide +kernel
theorem dX2_init_28 : decode cX2_init 28 = .ok (.aload_n 0, 1) := by decide +kernel
theorem dX2_init_29 : decode cX2_init 29 = .ok (.bipush 60, 2) := by decide +kernel
theorem dX2_init_31 : decode cX2_init 31 = .ok (.newarray .int, 2) := by decide +kernel
theorem dX2_init_33 : decode cX2_init 33 = .ok (.putfield 23, 3) := by decide +kernel
theorem dX2_init_36 : decode cX2_init 36 = .ok (.aload_n 0, 1) := by decide +kernel
theorem dX2_init_37 : decode cX2_init 37 = .ok (.bipush 60, 2) := by decide +kernel
theorem dX2_init_39 : decode cX2_init 39 = .ok (.newarray .int, 2) := by decide +kernel
theorem dX2_init_41 : decode cX2_init 41 = .ok (.putfield 26, 3) := by decide +kernel
theorem dX2_init_44 : decode cX2_init 44 = .ok (.aload_n 0, 1) := by decide +kernel
theorem dX2_init_45 : decode cX2_init 45 = .ok (.bipush 60, 2) := by decide +kernel
theorem dX2_init_47 : decode cX2_init 47 = .ok (.newarray .int, 2) := by decide +kernel
theorem dX2_init_49 : decode cX2_init 49 = .ok (.putfield 29, 3) := by decide +kernel
theorem dX2_init_52 : decode cX2_init 52 = .ok (.aload_n 0, 1) := by decide +kernel
theorem dX2_init_53 : decode cX2_init 53 = .ok (.bipush 60, 2) := by decide +kernel
theorem dX2_init_55 : decode cX2_init 55 = .ok (.newarray .int, 2) := by decide +kernel
theorem dX2_init_57 : decode cX2_init 57 = .ok (.putfield 32, 3) := by decide +kernel
theorem dX2_init_60 : decode cX2_init 60 = .ok (.aload_n 0, 1) := by decide +kernel
theorem dX2_init_61 : decode cX2_init 61 = .ok (.bipush 60, 2) := by decide +kernel
theorem dX2_init_63 : decode cX2_init 63 = .ok (.newarray .long, 2) := by decide +kernel
theorem dX2_init_65 : decode cX2_init 65 = .ok (.putfield 35, 3) := by decide +kernel
theorem dX2_init_68 : decode cX2_init 68 = .ok (.iconst 0, 1) := by decide +kernel
theorem dX2_init_69 : decode cX2_init 69 = .ok (.istore_n 1, 1) := by decide +kernel
theorem dX2_init_70 : decode cX2_init 70 = .ok (.iload_n 1, 1) := by decide +kernel
theorem dX2_init_71 : decode cX2_init 71 = .ok (.bipush 16, 2) := by decide +kernel
theorem dX2_init_73 : decode cX2_init 73 = .ok (.if_icmp .ge 16, 3) := by decide +kernel
theorem dX2_init_76 : decode cX2_init 76 = .ok (.aload_n 0, 1) := by decide +kernel
theorem dX2_init_77 : decode cX2_init 77 = .ok (.getfield 9, 3) := by decide +kernel
theorem dX2_init_80 : decode cX2_init 80 = .ok (.iload_n 1, 1) := by decide +kernel
theorem dX2_init_81 : decode cX2_init 81 = .ok (.iconst (-1), 1) := by decide +kernel
theorem dX2_init_82 : decode cX2_init 82 = .ok (.iastore, 1) := by decide +kernel
theorem dX2_init_83 : decode cX2_init 83 = .ok (.iinc 1 1, 3) := by decide +kernel
theorem dX2_init_86 : decode cX2_init 86 = .ok (.goto (-16), 3) := by decide +kernel
theorem dX2_init_89 : decode cX2_init 89 = .ok (.return_, 1) := by decide +kernel
theorem dX0_init_0 : decode cX0_init 0 = .ok (.aload_n 0, 1) := by decide +kernel
theorem dX0_init_1 : decode cX0_init 1 = .ok (.invokespecial 3, 3) := by decide +kernel
theorem dX0_init_4 : decode cX0_init 4 = .ok (.aload_n 0, 1) := by decide +kernel
theorem dX0_init_5 : decode cX0_init 5 = .ok (.bipush 40, 2) := by decide +kernel
theorem dX0_init_7 : decode cX0_init 7 = .ok (.newarray .int, 2) := by decide +kernel
theorem dX0_init_9 : decode cX0_init 9 = .ok (.putfield 9, 3) := by decide +kernel
theorem dX0_init_12 : decode cX0_init 12 = .ok (.aload_n 0, 1) := by decide +kernel
theorem dX0_init_13 : decode cX0_init 13 = .ok (.bipush 40, 2) := by decide +kernel
theorem dX0_init_15 : decode cX0_init 15 = .ok (.newarray .int, 2) := by decide +kernel
theorem dX0_init_17 : decode cX0_init 17 = .ok (.putfield 15, 3) := by decide +kernel
theorem dX0_init_20 : decode cX0_init 20 = .ok (.aload_n 0, 1) := by decide +kernel
theorem dX0_init_21 : decode cX0_init 21 = .ok (.bipush 40, 2) := by decide +kernel
theorem dX0_init_23 : decode cX0_init 23 = .ok (.newarray .boolean, 2) := by decide +kernel
theorem dX0_init_25 : decode cX0_init 25 = .ok (.putfield 18, 3) := by decide +kernel
theorem dX0_init_28 : decode cX0_init 28 = .ok (.return_, 1) := by decide +kernel
theorem dX1_init_0 : decode cX1_init 0 = .ok (.aload_n 0, 1) := by decide +kernel
theorem dX1_init_1 : decode cX1_init 1 = .ok (.invokespecial 3, 3) := by decide +kernel
theorem dX1_init_4 : decode cX1_init 4 = .ok (.aload_n 0, 1) := by decide +kernel
theorem dX1_init_5 : decode cX1_init 5 = .ok (.bipush 60, 2) := by decide +kernel
theorem dX1_init_7 : decode cX1_init 7 = .ok (.newarray .int, 2) := by decide +kernel
theorem dX1_init_9 : decode cX1_init 9 = .ok (.putfield 9, 3) := by decide +kernel
theorem dX1_init_12 : decode cX1_init 12 = .ok (.aload_n 0, 1) := by decide +kernel
theorem dX1_init_13 : decode cX1_init 13 = .ok (.bipush 60, 2) := by decide +kernel
theorem dX1_init_15 : decode cX1_init 15 = .ok (.newarray .long, 2) := by decide +kernel
theorem dX1_init_17 : decode cX1_init 17 = .ok (.putfield 15, 3) := by decide +kernel
theorem dX1_init_20 : decode cX1_init 20 = .ok (.aload_n 0, 1) := by decide +kernel
theorem dX1_init_21 : decode cX1_init 21 = .ok (.bipush 60, 2) := by decide +kernel
theorem dX1_init_23 : decode cX1_init 23 = .ok (.newarray .long, 2) := by decide +kernel
theorem dX1_init_25 : decode cX1_init 25 = .ok (.putfield 19, 3) := by decide +kernel
theorem dX1_init_28 : decode cX1_init 28 = .ok (.aload_n 0, 1) := by decide +kernel
theorem dX1_init_29 : decode cX1_init 29 = .ok (.bipush 60, 2) := by decide +kernel
theorem dX1_init_31 : decode cX1_init 31 = .ok (.newarray .long, 2) := by decide +kernel
theorem dX1_init_33 : decode cX1_init 33 = .ok (.putfield 22, 3) := by decide +kernel
theorem dX1_init_36 : decode cX1_init 36 = .ok (.aload_n 0, 1) := by decide +kernel
theorem dX1_init_37 : decode cX1_init 37 = .ok (.bipush 60, 2) := by decide +kernel
theorem dX1_init_39 : decode cX1_init 39 = .ok (.newarray .long, 2) := by decide +kernel
theorem dX1_init_41 : decode cX1_init 41 = .ok (.putfield 25, 3) := by decide +kernel
theorem dX1_init_44 : decode cX1_init 44 = .ok (.aload_n 0, 1) := by decide +kernel
theorem dX1_init_45 : decode cX1_init 45 = .ok (.bipush 60, 2) := by decide +kernel
theorem dX1_init_47 : decode cX1_init 47 = .ok (.newarray .long, 2) := by decide +kernel
theorem dX1_init_49 : decode cX1_init 49 = .ok (.putfield 28, 3) := by decide +kernel
theorem dX1_init_52 : decode cX1_init 52 = .ok (.aload_n 0, 1) := by decide +kernel
theorem dX1_init_53 : decode cX1_init 53 = .ok (.bipush 60, 2) := by decide +kernel
theorem dX1_init_55 : decode cX1_init 55 = .ok (.newarray .int, 2) := by decide +kernel
theorem dX1_init_57 : decode cX1_init 57 = .ok (.putfield 31, 3) := by decide +kernel
theorem dX1_init_60 : decode cX1_init 60 = .ok (.aload_n 0, 1) := by decide +kernel
theorem dX1_init_61 : decode cX1_init 61 = .ok (.aload_n 1, 1) := by decide +kernel
theorem dX1_init_62 : decode cX1_init 62 = .ok (.putfield 34, 3) := by decide +kernel
theorem dX1_init_65 : decode cX1_init 65 = .ok (.return_, 1) := by decide +kernel
theorem dX0_all_0 : decode cX0_all 0 = .ok (.lconst 1, 1) := by decide +kernel
theorem dX0_all_1 : decode cX0_all 1 = .ok (.aload_n 0, 1) := by decide +kernel
theorem dX0_all_2 : decode cX0_all 2 = .ok (.getfield 22, 3) := by decide +kernel
theorem dX0_all_5 : decode cX0_all 5 = .ok (.lshl, 1) := by decide +kernel
theorem dX0_all_6 : decode cX0_all 6 = .ok (.lconst 1, 1) := by decide +kernel
theorem dX0_all_7 : decode cX0_all 7 = .ok (.lsub, 1) := by decide +kernel
theorem dX0_all_8 : decode cX0_all 8 = .ok (.lreturn, 1) := by decide +kernel
theorem dX1_copyFrom_0 : decode cX1_copyFrom 0 = .ok (.aload_n 0, 1) := by decide +kernel
theorem dX1_copyFrom_1 : decode cX1_copyFrom 1 = .ok (.getfield 34, 3) := by decide +kernel
theorem dX1_copyFrom_4 : decode cX1_copyFrom 4 = .ok (.getfield 64, 3) := by decide +kernel
theorem dX1_copyFrom_7 : decode cX1_copyFrom 7 = .ok (.istore_n 2, 1) := by decide +kernel
theorem dX1_copyFrom_8 : decode cX1_copyFrom 8 = .ok (.aload_n 1, 1) := by decide +kernel
theorem dX1_copyFrom_9 : decode cX1_copyFrom 9 = .ok (.getfield 9, 3) := by decide +kernel
theorem dX1_copyFrom_12 : decode cX1_copyFrom 12 = .ok (.iconst 0, 1) := by decide +kernel
theorem dX1_copyFrom_13 : decode cX1_copyFrom 13 = .ok (.aload_n 0, 1) := by decide +kernel
theorem dX1_copyFrom_14 : decode cX1_copyFrom 14 = .ok (.getfield 9, 3) := by decide +kernel
theorem dX1_copyFrom_17 : decode cX1_copyFrom 17 = .ok (.iconst 0, 1) := by decide +kernel
theorem dX1_copyFrom_18 : decode cX1_copyFrom 18 = .ok (.iload_n 2, 1) := by decide +kernel
theorem dX1_copyFrom_19 : decode cX1_copyFrom 19 = .ok (.invokestatic 68, 3) := by decide +kernel
theorem dX1_copyFrom_22 : decode cX1_copyFrom 22 = .ok (.aload_n 1, 1) := by decide +kernel
theorem dX1_copyFrom_23 : decode cX1_copyFrom 23 = .ok (.getfield 15, 3) := by decide +kernel
theorem dX1_copyFrom_26 : decode cX1_copyFrom 26 = .ok (.iconst 0, 1) := by decide +kernel
theorem dX1_copyFrom_27 : decode cX1_copyFrom 27 = .ok (.aload_n 0, 1) := by decide +kernel
theorem dX1_copyFrom_28 : decode cX1_copyFrom 28 = .ok (.getfield 15, 3) := by decide +kernel
theorem dX1_copyFrom_31 : decode cX1_copyFrom 31 = .ok (.iconst 0, 1) := by decide +kernel
theorem dX1_copyFrom_32 : decode cX1_copyFrom 32 = .ok (.iload_n 2, 1) := by decide +kernel
theorem dX1_copyFrom_33 : decode cX1_copyFrom 33 = .ok (.invokestatic 68, 3) := by decide +kernel
theorem dX1_copyFrom_36 : decode cX1_copyFrom 36 = .ok (.aload_n 1, 1) := by decide +kernel
theorem dX1_copyFrom_37 : decode cX1_copyFrom 37 = .ok (.getfield 19, 3) := by decide +kernel
theorem dX1_copyFrom_40 : decode cX1_copyFrom 40 = .ok (.iconst 0, 1) := by decide +kernel
theorem dX1_copyFrom_41 : decode cX1_copyFrom 41 = .ok (.aload_n 0, 1) := by decide +kernel
theorem dX1_copyFrom_42 : decode cX1_copyFrom 42 = .ok (.getfield 19, 3) := by decide +kernel
theorem dX1_copyFrom_45 : decode cX1_copyFrom 45 = .ok (.iconst 0, 1) := by decide +kernel
theorem dX1_copyFrom_46 : decode cX1_copyFrom 46 = .ok (.iload_n 2, 1) := by decide +kernel
theorem dX1_copyFrom_47 : decode cX1_copyFrom 47 = .ok (.invokestatic 68, 3) := by decide +kernel
theorem dX1_copyFrom_50 : decode cX1_copyFrom 50 = .ok (.aload_n 1, 1) := by decide +kernel
theorem dX1_copyFrom_51 : decode cX1_copyFrom 51 = .ok (.getfield 22, 3) := by decide +kernel
theorem dX1_copyFrom_54 : decode cX1_copyFrom 54 = .ok (.iconst 0, 1) := by decide +kernel
theorem dX1_copyFrom_55 : decode cX1_copyFrom 55 = .ok (.aload_n 0, 1) := by decide +kernel
theorem dX1_copyFrom_56 : decode cX1_copyFrom 56 = .ok (.getfield 22, 3) := by decide +kernel
theorem dX1_copyFrom_59 : decode cX1_copyFrom 59 = .ok (.iconst 0, 1) := by decide +kernel
theorem dX1_copyFrom_60 : decode cX1_copyFrom 60 = .ok (.iload_n 2, 1) := by decide +kernel
theorem dX1_copyFrom_61 : decode cX1_copyFrom 61 = .ok (.invokestatic 68, 3) := by decide +kernel
theorem dX1_copyFrom_64 : decode cX1_copyFrom 64 = .ok (.aload_n 1, 1) := by decide +kernel
theorem dX1_copyFrom_65 : decode cX1_copyFrom 65 = .ok (.getfield 25, 3) := by decide +kernel
theorem dX1_copyFrom_68 : decode cX1_copyFrom 68 = .ok (.iconst 0, 1) := by decide +kernel
theorem dX1_copyFrom_69 : decode cX1_copyFrom 69 = .ok (.aload_n 0, 1) := by decide +kernel
theorem dX1_copyFrom_70 : decode cX1_copyFrom 70 = .ok (.getfield 25, 3) := by decide +kernel
theorem dX1_copyFrom_73 : decode cX1_copyFrom 73 = .ok (.iconst 0, 1) := by decide +kernel
theorem dX1_copyFrom_74 : decode cX1_copyFrom 74 = .ok (.iload_n 2, 1) := by decide +kernel
theorem dX1_copyFrom_75 : decode cX1_copyFrom 75 = .ok (.invokestatic 68, 3) := by decide +kernel
theorem dX1_copyFrom_78 : decode cX1_copyFrom 78 = .ok (.aload_n 1, 1) := by decide +kernel
theorem dX1_copyFrom_79 : decode cX1_copyFrom 79 = .ok (.getfield 28, 3) := by decide +kernel
theorem dX1_copyFrom_82 : decode cX1_copyFrom 82 = .ok (.iconst 0, 1) := by decide +kernel
theorem dX1_copyFrom_83 : decode cX1_copyFrom 83 = .ok (.aload_n 0, 1) := by decide +kernel
theorem dX1_copyFrom_84 : decode cX1_copyFrom 84 = .ok (.getfield 28, 3) := by decide +kernel
theorem dX1_copyFrom_87 : decode cX1_copyFrom 87 = .ok (.iconst 0, 1) := by decide +kernel
theorem dX1_copyFrom_88 : decode cX1_copyFrom 88 = .ok (.iload_n 2, 1) := by decide +kernel
theorem dX1_copyFrom_89 : decode cX1_copyFrom 89 = .ok (.invokestatic 68, 3) := by decide +kernel
theorem dX1_copyFrom_92 : decode cX1_copyFrom 92 = .ok (.aload_n 1, 1) := by decide +kernel
theorem dX1_copyFrom_93 : decode cX1_copyFrom 93 = .ok (.getfield 31, 3) := by decide +kernel
theorem dX1_copyFrom_96 : decode cX1_copyFrom 96 = .ok (.iconst 0, 1) := by decide +kernel
theorem dX1_copyFrom_97 : decode cX1_copyFrom 97 = .ok (.aload_n 0, 1) := by decide +kernel
theorem dX1_copyFrom_98 : decode cX1_copyFrom 98 = .ok (.getfield 31, 3) := by decide +kernel
theorem dX1_copyFrom_101 : decode cX1_copyFrom 101 = .ok (.iconst 0, 1) := by decide +kernel
theorem dX1_copyFrom_102 : decode cX1_copyFrom 102 = .ok (.iload_n 2, 1) := by decide +kernel
theorem dX1_copyFrom_103 : decode cX1_copyFrom 103 = .ok (.invokestatic 68, 3) := by decide +kernel
theorem dX1_copyFrom_106 : decode cX1_copyFrom 106 = .ok (.aload_n 0, 1) := by decide +kernel
theorem dX1_copyFrom_107 : decode cX1_copyFrom 107 = .ok (.aload_n 1, 1) := by decide +kernel
theorem dX1_copyFrom_108 : decode cX1_copyFrom 108 = .ok (.getfield 74, 3) := by decide +kernel
theorem dX1_copyFrom_111 : decode cX1_copyFrom 111 = .ok (.putfield 74, 3) := by decide +kernel
theorem dX1_copyFrom_114 : decode cX1_copyFrom 114 = .ok (.aload_n 0, 1) := by decide +kernel
theorem dX1_copyFrom_115 : decode cX1_copyFrom 115 = .ok (.aload_n 1, 1) := by decide +kernel
theorem dX1_copyFrom_116 : decode cX1_copyFrom 116 = .ok (.getfield 78, 3) := by decide +kernel
theorem dX1_copyFrom_119 : decode cX1_copyFrom 119 = .ok (.putfield 78, 3) := by decide +kernel
theorem dX1_copyFrom_122 : decode cX1_copyFrom 122 = .ok (.return_, 1) := by decide +kernel
theorem dX1_makeOne_0 : decode cX1_makeOne 0 = .ok (.aload_n 0, 1) := by decide +kernel
theorem dX1_makeOne_1 : decode cX1_makeOne 1 = .ok (.iload_n 1, 1) := by decide +kernel
theorem dX1_makeOne_2 : decode cX1_makeOne 2 = .ok (.iload_n 2, 1) := by decide +kernel
theorem dX1_makeOne_3 : decode cX1_makeOne 3 = .ok (.invokevirtual 82, 3) := by decide +kernel
theorem dX1_makeOne_6 : decode cX1_makeOne 6 = .ok (.ifCond .eq 5, 3) := by decide +kernel
theorem dX1_makeOne_9 : decode cX1_makeOne 9 = .ok (.iconst 0, 1) := by decide +kernel
theorem dX1_makeOne_10 : decode cX1_makeOne 10 = .ok (.ireturn, 1) := by decide +kernel
theorem dX1_makeOne_11 : decode cX1_makeOne 11 = .ok (.aload_n 0, 1) := by decide +kernel
theorem dX1_makeOne_12 : decode cX1_makeOne 12 = .ok (.iload_n 1, 1) := by decide +kernel
theorem dX1_makeOne_13 : decode cX1_makeOne 13 = .ok (.iload_n 2, 1) := by decide +kernel
theorem dX1_makeOne_14 : decode cX1_makeOne 14 = .ok (.invokevirtual 86, 3) := by decide +kernel
theorem dX1_makeOne_17 : decode cX1_makeOne 17 = .ok (.iconst 0, 1) := by decide +kernel
theorem dX1_makeOne_18 : decode cX1_makeOne 18 = .ok (.istore_n 3, 1) := by decide +kernel
theorem dX1_makeOne_19 : decode cX1_makeOne 19 = .ok (.iload_n 3, 1) := by decide +kernel
theorem dX1_makeOne_20 : decode cX1_makeOne 20 = .ok (.ldc 90, 2) := by decide +kernel
theorem dX1_makeOne_22 : decode cX1_makeOne 22 = .ok (.if_icmp .ge 66, 3) := by decide +kernel
theorem dX1_makeOne_25 : decode cX1_makeOne 25 = .ok (.aload_n 0, 1) := by decide +kernel
theorem dX1_makeOne_26 : decode cX1_makeOne 26 = .ok (.getfield 74, 3) := by decide +kernel
theorem dX1_makeOne_29 : decode cX1_makeOne 29 = .ok (.lconst 0, 1) := by decide +kernel
theorem dX1_makeOne_30 : decode cX1_makeOne 30 = .ok (.lcmp, 1) := by decide +kernel
theorem dX1_makeOne_31 : decode cX1_makeOne 31 = .ok (.ifCond .eq 57, 3) := by decide +kernel
theorem dX1_makeOne_34 : decode cX1_makeOne 34 = .ok (.aload_n 0, 1) := by decide +kernel
theorem dX1_makeOne_35 : decode cX1_makeOne 35 = .ok (.getfield 74, 3) := by decide +kernel
theorem dX1_makeOne_38 : decode cX1_makeOne 38 = .ok (.invokestatic 91, 3) := by decide +kernel
theorem dX1_makeOne_41 : decode cX1_makeOne 41 = .ok (.istore 4, 2) := by decide +kernel
theorem dX1_makeOne_43 : decode cX1_makeOne 43 = .ok (.aload_n 0, 1) := by decide +kernel
theorem dX1_makeOne_44 : decode cX1_makeOne 44 = .ok (.dup, 1) := by decide +kernel
theorem dX1_makeOne_45 : decode cX1_makeOne 45 = .ok (.getfield 74, 3) := by decide +kernel
theorem dX1_makeOne_48 : decode cX1_makeOne 48 = .ok (.aload_n 0, 1) := by decide +kernel
theorem dX1_makeOne_49 : decode cX1_makeOne 49 = .ok (.getfield 74, 3) := by decide +kernel
theorem dX1_makeOne_52 : decode cX1_makeOne 52 = .ok (.lconst 1, 1) := by decide +kernel
theorem dX1_makeOne_53 : decode cX1_makeOne 53 = .ok (.lsub, 1) := by decide +kernel
theorem dX1_makeOne_54 : decode cX1_makeOne 54 = .ok (.land, 1) := by decide +kernel
theorem dX1_makeOne_55 : decode cX1_makeOne 55 = .ok (.putfield 74, 3) := by decide +kernel
theorem dX1_makeOne_58 : decode cX1_makeOne 58 = .ok (.aload_n 0, 1) := by decide +kernel
theorem dX1_makeOne_59 : decode cX1_makeOne 59 = .ok (.iload 4, 2) := by decide +kernel
theorem dX1_makeOne_61 : decode cX1_makeOne 61 = .ok (.invokevirtual 97, 3) := by decide +kernel
theorem dX1_makeOne_64 : decode cX1_makeOne 64 = .ok (.aload_n 0, 1) := by decide +kernel
theorem dX1_makeOne_65 : decode cX1_makeOne 65 = .ok (.getfield 34, 3) := by decide +kernel
theorem dX1_makeOne_68 : decode cX1_makeOne 68 = .ok (.iload 4, 2) := by decide +kernel
theorem dX1_makeOne_70 : decode cX1_makeOne 70 = .ok (.invokevirtual 38, 3) := by decide +kernel
theorem dX1_makeOne_73 : decode cX1_makeOne 73 = .ok (.ifCond .eq 9, 3) := by decide +kernel
theorem dX1_makeOne_76 : decode cX1_makeOne 76 = .ok (.aload_n 0, 1) := by decide +kernel
theorem dX1_makeOne_77 : decode cX1_makeOne 77 = .ok (.iload 4, 2) := by decide +kernel
theorem dX1_makeOne_79 : decode cX1_makeOne 79 = .ok (.invokevirtual 101, 3) := by decide +kernel
theorem dX1_makeOne_82 : decode cX1_makeOne 82 = .ok (.iinc 3 1, 3) := by decide +kernel
theorem dX1_makeOne_85 : decode cX1_makeOne 85 = .ok (.goto (-66), 3) := by decide +kernel
theorem dX1_makeOne_88 : decode cX1_makeOne 88 = .ok (.iconst 1, 1) := by decide +kernel
theorem dX1_makeOne_89 : decode cX1_makeOne 89 = .ok (.ireturn, 1) := by decide +kernel
theorem dX1_areOne_0 : decode cX1_areOne 0 = .ok (.aload_n 0, 1) := by decide +kernel
theorem dX1_areOne_1 : decode cX1_areOne 1 = .ok (.getfield 9, 3) := by decide +kernel
theorem dX1_areOne_4 : decode cX1_areOne 4 = .ok (.iload_n 1, 1) := by decide +kernel
theorem dX1_areOne_5 : decode cX1_areOne 5 = .ok (.iaload, 1) := by decide +kernel
theorem dX1_areOne_6 : decode cX1_areOne 6 = .ok (.aload_n 0, 1) := by decide +kernel
theorem dX1_areOne_7 : decode cX1_areOne 7 = .ok (.getfield 9, 3) := by decide +kernel
theorem dX1_areOne_10 : decode cX1_areOne 10 = .ok (.iload_n 2, 1) := by decide +kernel
theorem dX1_areOne_11 : decode cX1_areOne 11 = .ok (.iaload, 1) := by decide +kernel
theorem dX1_areOne_12 : decode cX1_areOne 12 = .ok (.if_icmp .ne 7, 3) := by decide +kernel
theorem dX1_areOne_15 : decode cX1_areOne 15 = .ok (.iconst 1, 1) := by decide +kernel
theorem dX1_areOne_16 : decode cX1_areOne 16 = .ok (.goto 4, 3) := by decide +kernel
theorem dX1_areOne_19 : decode cX1_areOne 19 = .ok (.iconst 0, 1) := by decide +kernel
theorem dX1_areOne_20 : decode cX1_areOne 20 = .ok (.ireturn, 1) := by decide +kernel
theorem dX1_join_0 : decode cX1_join 0 = .ok (.iload_n 1, 1) := by decide +kernel
theorem dX1_join_1 : decode cX1_join 1 = .ok (.iconst (-1), 1) := by decide +kernel
theorem dX1_join_2 : decode cX1_join 2 = .ok (.if_icmp .eq 8, 3) := by decide +kernel
theorem dX1_join_5 : decode cX1_join 5 = .ok (.iload_n 2, 1) := by decide +kernel
theorem dX1_join_6 : decode cX1_join 6 = .ok (.iconst (-1), 1) := by decide +kernel
theorem dX1_join_7 : decode cX1_join 7 = .ok (.if_icmp .ne 4, 3) := by decide +kernel
theorem dX1_join_10 : decode cX1_join 10 = .ok (.return_, 1) := by decide +kernel
theorem dX1_join_11 : decode cX1_join 11 = .ok (.aload_n 0, 1) := by decide +kernel
theorem dX1_join_12 : decode cX1_join 12 = .ok (.getfield 15, 3) := by decide +kernel
theorem dX1_join_15 : decode cX1_join 15 = .ok (.aload_n 0, 1) := by decide +kernel
theorem dX1_join_16 : decode cX1_join 16 = .ok (.getfield 9, 3) := by decide +kernel
theorem dX1_join_19 : decode cX1_join 19 = .ok (.iload_n 1, 1) := by decide +kernel
theorem dX1_join_20 : decode cX1_join 20 = .ok (.iaload, 1) := by decide +kernel
theorem dX1_join_21 : decode cX1_join 21 = .ok (.laload, 1) := by decide +kernel
theorem dX1_join_22 : decode cX1_join 22 = .ok (.invokestatic 114, 3) := by decide +kernel
theorem dX1_join_25 : decode cX1_join 25 = .ok (.aload_n 0, 1) := by decide +kernel
theorem dX1_join_26 : decode cX1_join 26 = .ok (.getfield 15, 3) := by decide +kernel
theorem dX1_join_29 : decode cX1_join 29 = .ok (.aload_n 0, 1) := by decide +kernel
theorem dX1_join_30 : decode cX1_join 30 = .ok (.getfield 9, 3) := by decide +kernel
theorem dX1_join_33 : decode cX1_join 33 = .ok (.iload_n 2, 1) := by decide +kernel
theorem dX1_join_34 : decode cX1_join 34 = .ok (.iaload, 1) := by decide +kernel
theorem dX1_join_35 : decode cX1_join 35 = .ok (.laload, 1) := by decide +kernel
theorem dX1_join_36 : decode cX1_join 36 = .ok (.invokestatic 114, 3) := by decide +kernel
theorem dX1_join_39 : decode cX1_join 39 = .ok (.if_icmp .lt 7, 3) := by decide +kernel
theorem dX1_join_42 : decode cX1_join 42 = .ok (.iconst 1, 1) := by decide +kernel
theorem dX1_join_43 : decode cX1_join 43 = .ok (.goto 4, 3) := by decide +kernel
theorem dX1_join_46 : decode cX1_join 46 = .ok (.iconst 0, 1) := by decide +kernel
theorem dX1_join_47 : decode cX1_join 47 = .ok (.istore_n 3, 1) := by decide +kernel
theorem dX1_join_48 : decode cX1_join 48 = .ok (.iload_n 3, 1) := by decide +kernel
theorem dX1_join_49 : decode cX1_join 49 = .ok (.ifCond .eq 12, 3) := by decide +kernel
theorem dX1_join_52 : decode cX1_join 52 = .ok (.aload_n 0, 1) := by decide +kernel
theorem dX1_join_53 : decode cX1_join 53 = .ok (.getfield 9, 3) := by decide +kernel
theorem dX1_join_56 : decode cX1_join 56 = .ok (.iload_n 1, 1) := by decide +kernel
theorem dX1_join_57 : decode cX1_join 57 = .ok (.iaload, 1) := by decide +kernel
theorem dX1_join_58 : decode cX1_join 58 = .ok (.goto 9, 3) := by decide +kernel
theorem dX1_join_61 : decode cX1_join 61 = .ok (.aload_n 0, 1) := by decide +kernel
theorem dX1_join_62 : decode cX1_join 62 = .ok (.getfield 9, 3) := by decide +kernel
theorem dX1_join_65 : decode cX1_join 65 = .ok (.iload_n 2, 1) := by decide +kernel
theorem dX1_join_66 : decode cX1_join 66 = .ok (.iaload, 1) := by decide +kernel
theorem dX1_join_67 : decode cX1_join 67 = .ok (.istore 4, 2) := by decide +kernel
theorem dX1_join_69 : decode cX1_join 69 = .ok (.iload_n 3, 1) := by decide +kernel
theorem dX1_join_70 : decode cX1_join 70 = .ok (.ifCond .eq 12, 3) := by decide +kernel
theorem dX1_join_73 : decode cX1_join 73 = .ok (.aload_n 0, 1) := by decide +kernel
theorem dX1_join_74 : decode cX1_join 74 = .ok (.getfield 9, 3) := by decide +kernel
theorem dX1_join_77 : decode cX1_join 77 = .ok (.iload_n 2, 1) := by decide +kernel
theorem dX1_join_78 : decode cX1_join 78 = .ok (.iaload, 1) := by decide +kernel
theorem dX1_join_79 : decode cX1_join 79 = .ok (.goto 9, 3) := by decide +kernel
theorem dX1_join_82 : decode cX1_join 82 = .ok (.aload_n 0, 1) := by decide +kernel
theorem dX1_join_83 : decode cX1_join 83 = .ok (.getfield 9, 3) := by decide +kernel
theorem dX1_join_86 : decode cX1_join 86 = .ok (.iload_n 1, 1) := by decide +kernel
theorem dX1_join_87 : decode cX1_join 87 = .ok (.iaload, 1) := by decide +kernel
theorem dX1_join_88 : decode cX1_join 88 = .ok (.istore 5, 2) := by decide +kernel
theorem dX1_join_90 : decode cX1_join 90 = .ok (.iload 4, 2) := by decide +kernel
theorem dX1_join_92 : decode cX1_join 92 = .ok (.iload 5, 2) := by decide +kernel
theorem dX1_join_94 : decode cX1_join 94 = .ok (.if_icmp .ne 4, 3) := by decide +kernel
theorem dX1_join_97 : decode cX1_join 97 = .ok (.return_, 1) := by decide +kernel
theorem dX1_join_98 : decode cX1_join 98 = .ok (.aload_n 0, 1) := by decide +kernel
theorem dX1_join_99 : decode cX1_join 99 = .ok (.getfield 15, 3) := by decide +kernel
theorem dX1_join_102 : decode cX1_join 102 = .ok (.iload 5, 2) := by decide +kernel
theorem dX1_join_104 : decode cX1_join 104 = .ok (.laload, 1) := by decide +kernel
theorem dX1_join_105 : decode cX1_join 105 = .ok (.lstore 6, 2) := by decide +kernel
theorem dX1_join_107 : decode cX1_join 107 = .ok (.lload 6, 2) := by decide +kernel
theorem dX1_join_109 : decode cX1_join 109 = .ok (.invokestatic 114, 3) := by decide +kernel
theorem dX1_join_112 : decode cX1_join 112 = .ok (.istore 8, 2) := by decide +kernel
theorem dX1_join_114 : decode cX1_join 114 = .ok (.iload 8, 2) := by decide +kernel
theorem dX1_join_116 : decode cX1_join 116 = .ok (.ifCond .le 30, 3) := by decide +kernel
theorem dX1_join_119 : decode cX1_join 119 = .ok (.aload_n 0, 1) := by decide +kernel
theorem dX1_join_120 : decode cX1_join 120 = .ok (.getfield 9, 3) := by decide +kernel
theorem dX1_join_123 : decode cX1_join 123 = .ok (.lload 6, 2) := by decide +kernel
theorem dX1_join_125 : decode cX1_join 125 = .ok (.invokestatic 91, 3) := by decide +kernel
theorem dX1_join_128 : decode cX1_join 128 = .ok (.iload 4, 2) := by decide +kernel
theorem dX1_join_130 : decode cX1_join 130 = .ok (.iastore, 1) := by decide +kernel
theorem dX1_join_131 : decode cX1_join 131 = .ok (.lload 6, 2) := by decide +kernel
theorem dX1_join_133 : decode cX1_join 133 = .ok (.lload 6, 2) := by decide +kernel
theorem dX1_join_135 : decode cX1_join 135 = .ok (.lconst 1, 1) := by decide +kernel
theorem dX1_join_136 : decode cX1_join 136 = .ok (.lsub, 1) := by decide +kernel
theorem dX1_join_137 : decode cX1_join 137 = .ok (.land, 1) := by decide +kernel
theorem dX1_join_138 : decode cX1_join 138 = .ok (.lstore 6, 2) := by decide +kernel
theorem dX1_join_140 : decode cX1_join 140 = .ok (.iinc 8 (-1), 3) := by decide +kernel
theorem dX1_join_143 : decode cX1_join 143 = .ok (.goto (-29), 3) := by decide +kernel
theorem dX1_join_146 : decode cX1_join 146 = .ok (.aload_n 0, 1) := by decide +kernel
theorem dX1_join_147 : decode cX1_join 147 = .ok (.getfield 15, 3) := by decide +kernel
theorem dX1_join_150 : decode cX1_join 150 = .ok (.iload 4, 2) := by decide +kernel
theorem dX1_join_152 : decode cX1_join 152 = .ok (.dup2, 1) := by decide +kernel
theorem dX1_join_153 : decode cX1_join 153 = .ok (.laload, 1) := by decide +kernel
theorem dX1_join_154 : decode cX1_join 154 = .ok (.aload_n 0, 1) := by decide +kernel
theorem dX1_join_155 : decode cX1_join 155 = .ok (.getfield 15, 3) := by decide +kernel
theorem dX1_join_158 : decode cX1_join 158 = .ok (.iload 5, 2) := by decide +kernel
theorem dX1_join_160 : decode cX1_join 160 = .ok (.laload, 1) := by decide +kernel
theorem dX1_join_161 : decode cX1_join 161 = .ok (.lor, 1) := by decide +kernel
theorem dX1_join_162 : decode cX1_join 162 = .ok (.lastore, 1) := by decide +kernel
theorem dX1_join_163 : decode cX1_join 163 = .ok (.aload_n 0, 1) := by decide +kernel
theorem dX1_join_164 : decode cX1_join 164 = .ok (.getfield 19, 3) := by decide +kernel
theorem dX1_join_167 : decode cX1_join 167 = .ok (.iload 4, 2) := by decide +kernel
theorem dX1_join_169 : decode cX1_join 169 = .ok (.dup2, 1) := by decide +kernel
theorem dX1_join_170 : decode cX1_join 170 = .ok (.laload, 1) := by decide +kernel
theorem dX1_join_171 : decode cX1_join 171 = .ok (.aload_n 0, 1) := by decide +kernel
theorem dX1_join_172 : decode cX1_join 172 = .ok (.getfield 19, 3) := by decide +kernel
theorem dX1_join_175 : decode cX1_join 175 = .ok (.iload 5, 2) := by decide +kernel
theorem dX1_join_177 : decode cX1_join 177 = .ok (.laload, 1) := by decide +kernel
theorem dX1_join_178 : decode cX1_join 178 = .ok (.lor, 1) := by decide +kernel
theorem dX1_join_179 : decode cX1_join 179 = .ok (.lastore, 1) := by decide +kernel
theorem dX1_join_180 : decode cX1_join 180 = .ok (.aload_n 0, 1) := by decide +kernel
theorem dX1_join_181 : decode cX1_join 181 = .ok (.getfield 22, 3) := by decide +kernel
theorem dX1_join_184 : decode cX1_join 184 = .ok (.iload 4, 2) := by decide +kernel
theorem dX1_join_186 : decode cX1_join 186 = .ok (.dup2, 1) := by decide +kernel
theorem dX1_join_187 : decode cX1_join 187 = .ok (.laload, 1) := by decide +kernel
theorem dX1_join_188 : decode cX1_join 188 = .ok (.aload_n 0, 1) := by decide +kernel
theorem dX1_join_189 : decode cX1_join 189 = .ok (.getfield 22, 3) := by decide +kernel
theorem dX1_join_192 : decode cX1_join 192 = .ok (.iload 5, 2) := by decide +kernel
theorem dX1_join_194 : decode cX1_join 194 = .ok (.laload, 1) := by decide +kernel
theorem dX1_join_195 : decode cX1_join 195 = .ok (.lor, 1) := by decide +kernel
theorem dX1_join_196 : decode cX1_join 196 = .ok (.lastore, 1) := by decide +kernel
theorem dX1_join_197 : decode cX1_join 197 = .ok (.aload_n 0, 1) := by decide +kernel
theorem dX1_join_198 : decode cX1_join 198 = .ok (.getfield 25, 3) := by decide +kernel
theorem dX1_join_201 : decode cX1_join 201 = .ok (.iload 4, 2) := by decide +kernel
theorem dX1_join_203 : decode cX1_join 203 = .ok (.dup2, 1) := by decide +kernel
theorem dX1_join_204 : decode cX1_join 204 = .ok (.laload, 1) := by decide +kernel
theorem dX1_join_205 : decode cX1_join 205 = .ok (.aload_n 0, 1) := by decide +kernel
theorem dX1_join_206 : decode cX1_join 206 = .ok (.getfield 25, 3) := by decide +kernel
theorem dX1_join_209 : decode cX1_join 209 = .ok (.iload 5, 2) := by decide +kernel
theorem dX1_join_211 : decode cX1_join 211 = .ok (.laload, 1) := by decide +kernel
theorem dX1_join_212 : decode cX1_join 212 = .ok (.lor, 1) := by decide +kernel
theorem dX1_join_213 : decode cX1_join 213 = .ok (.lastore, 1) := by decide +kernel
theorem dX1_join_214 : decode cX1_join 214 = .ok (.aload_n 0, 1) := by decide +kernel
theorem dX1_join_215 : decode cX1_join 215 = .ok (.getfield 28, 3) := by decide +kernel
theorem dX1_join_218 : decode cX1_join 218 = .ok (.iload 4, 2) := by decide +kernel
theorem dX1_join_220 : decode cX1_join 220 = .ok (.dup2, 1) := by decide +kernel
theorem dX1_join_221 : decode cX1_join 221 = .ok (.laload, 1) := by decide +kernel
theorem dX1_join_222 : decode cX1_join 222 = .ok (.aload_n 0, 1) := by decide +kernel
theorem dX1_join_223 : decode cX1_join 223 = .ok (.getfield 28, 3) := by decide +kernel
theorem dX1_join_226 : decode cX1_join 226 = .ok (.iload 5, 2) := by decide +kernel
theorem dX1_join_228 : decode cX1_join 228 = .ok (.laload, 1) := by decide +kernel
theorem dX1_join_229 : decode cX1_join 229 = .ok (.lor, 1) := by decide +kernel
theorem dX1_join_230 : decode cX1_join 230 = .ok (.lastore, 1) := by decide +kernel
theorem dX1_join_231 : decode cX1_join 231 = .ok (.aload_n 0, 1) := by decide +kernel
theorem dX1_join_232 : decode cX1_join 232 = .ok (.dup, 1) := by decide +kernel
theorem dX1_join_233 : decode cX1_join 233 = .ok (.getfield 74, 3) := by decide +kernel
theorem dX1_join_236 : decode cX1_join 236 = .ok (.aload_n 0, 1) := by decide +kernel
theorem dX1_join_237 : decode cX1_join 237 = .ok (.getfield 19, 3) := by decide +kernel
theorem dX1_join_240 : decode cX1_join 240 = .ok (.iload 4, 2) := by decide +kernel
theorem dX1_join_242 : decode cX1_join 242 = .ok (.laload, 1) := by decide +kernel
theorem dX1_join_243 : decode cX1_join 243 = .ok (.aload_n 0, 1) := by decide +kernel
theorem dX1_join_244 : decode cX1_join 244 = .ok (.getfield 22, 3) := by decide +kernel
theorem dX1_join_247 : decode cX1_join 247 = .ok (.iload 4, 2) := by decide +kernel
theorem dX1_join_249 : decode cX1_join 249 = .ok (.laload, 1) := by decide +kernel
theorem dX1_join_250 : decode cX1_join 250 = .ok (.lor, 1) := by decide +kernel
theorem dX1_join_251 : decode cX1_join 251 = .ok (.aload_n 0, 1) := by decide +kernel
theorem dX1_join_252 : decode cX1_join 252 = .ok (.getfield 25, 3) := by decide +kernel
theorem dX1_join_255 : decode cX1_join 255 = .ok (.iload 4, 2) := by decide +kernel
theorem dX1_join_257 : decode cX1_join 257 = .ok (.laload, 1) := by decide +kernel
theorem dX1_join_258 : decode cX1_join 258 = .ok (.lor, 1) := by decide +kernel
theorem dX1_join_259 : decode cX1_join 259 = .ok (.aload_n 0, 1) := by decide +kernel
theorem dX1_join_260 : decode cX1_join 260 = .ok (.getfield 15, 3) := by decide +kernel
theorem dX1_join_263 : decode cX1_join 263 = .ok (.iload 4, 2) := by decide +kernel
theorem dX1_join_265 : decode cX1_join 265 = .ok (.laload, 1) := by decide +kernel
theorem dX1_join_266 : decode cX1_join 266 = .ok (.aload_n 0, 1) := by decide +kernel
theorem dX1_join_267 : decode cX1_join 267 = .ok (.getfield 34, 3) := by decide +kernel
theorem dX1_join_270 : decode cX1_join 270 = .ok (.getfield 117, 3) := by decide +kernel
theorem dX1_join_273 : decode cX1_join 273 = .ok (.land, 1) := by decide +kernel
theorem dX1_join_274 : decode cX1_join 274 = .ok (.lor, 1) := by decide +kernel
theorem dX1_join_275 : decode cX1_join 275 = .ok (.lor, 1) := by decide +kernel
theorem dX1_join_276 : decode cX1_join 276 = .ok (.putfield 74, 3) := by decide +kernel
theorem dX1_join_279 : decode cX1_join 279 = .ok (.aload_n 0, 1) := by decide +kernel
theorem dX1_join_280 : decode cX1_join 280 = .ok (.iload 4, 2) := by decide +kernel
theorem dX1_join_282 : decode cX1_join 282 = .ok (.iload 5, 2) := by decide +kernel
theorem dX1_join_284 : decode cX1_join 284 = .ok (.invokevirtual 120, 3) := by decide +kernel
theorem dX1_join_287 : decode cX1_join 287 = .ok (.return_, 1) := by decide +kernel
theorem dX1_joinBuilders_0 : decode cX1_joinBuilders 0 = .ok (.aload_n 0, 1) := by decide +kernel
theorem dX1_joinBuilders_1 : decode cX1_joinBuilders 1 = .ok (.getfield 31, 3) := by decide +kernel
theorem dX1_joinBuilders_4 : decode cX1_joinBuilders 4 = .ok (.iload_n 1, 1) := by decide +kernel
theorem dX1_joinBuilders_5 : decode cX1_joinBuilders 5 = .ok (.iaload, 1) := by decide +kernel
theorem dX1_joinBuilders_6 : decode cX1_joinBuilders 6 = .ok (.iconst (-1), 1) := by decide +kernel
theorem dX1_joinBuilders_7 : decode cX1_joinBuilders 7 = .ok (.if_icmp .ne 18, 3) := by decide +kernel
theorem dX1_joinBuilders_10 : decode cX1_joinBuilders 10 = .ok (.aload_n 0, 1) := by decide +kernel
theorem dX1_joinBuilders_11 : decode cX1_joinBuilders 11 = .ok (.getfield 31, 3) := by decide +kernel
theorem dX1_joinBuilders_14 : decode cX1_joinBuilders 14 = .ok (.iload_n 1, 1) := by decide +kernel
theorem dX1_joinBuilders_15 : decode cX1_joinBuilders 15 = .ok (.aload_n 0, 1) := by decide +kernel
theorem dX1_joinBuilders_16 : decode cX1_joinBuilders 16 = .ok (.getfield 31, 3) := by decide +kernel
theorem dX1_joinBuilders_19 : decode cX1_joinBuilders 19 = .ok (.iload_n 2, 1) := by decide +kernel
theorem dX1_joinBuilders_20 : decode cX1_joinBuilders 20 = .ok (.iaload, 1) := by decide +kernel
theorem dX1_joinBuilders_21 : decode cX1_joinBuilders 21 = .ok (.iastore, 1) := by decide +kernel
theorem dX1_joinBuilders_22 : decode cX1_joinBuilders 22 = .ok (.goto 33, 3) := by decide +kernel
theorem dX1_joinBuilders_25 : decode cX1_joinBuilders 25 = .ok (.aload_n 0, 1) := by decide +kernel
theorem dX1_joinBuilders_26 : decode cX1_joinBuilders 26 = .ok (.getfield 31, 3) := by decide +kernel
theorem dX1_joinBuilders_29 : decode cX1_joinBuilders 29 = .ok (.iload_n 2, 1) := by decide +kernel
theorem dX1_joinBuilders_30 : decode cX1_joinBuilders 30 = .ok (.iaload, 1) := by decide +kernel
theorem dX1_joinBuilders_31 : decode cX1_joinBuilders 31 = .ok (.iconst (-1), 1) := by decide +kernel
theorem dX1_joinBuilders_32 : decode cX1_joinBuilders 32 = .ok (.if_icmp .eq 23, 3) := by decide +kernel
theorem dX1_joinBuilders_35 : decode cX1_joinBuilders 35 = .ok (.aload_n 0, 1) := by decide +kernel
theorem dX1_joinBuilders_36 : decode cX1_joinBuilders 36 = .ok (.getfield 31, 3) := by decide +kernel
theorem dX1_joinBuilders_39 : decode cX1_joinBuilders 39 = .ok (.iload_n 2, 1) := by decide +kernel
theorem dX1_joinBuilders_40 : decode cX1_joinBuilders 40 = .ok (.iaload, 1) := by decide +kernel
theorem dX1_joinBuilders_41 : decode cX1_joinBuilders 41 = .ok (.aload_n 0, 1) := by decide +kernel
theorem dX1_joinBuilders_42 : decode cX1_joinBuilders 42 = .ok (.getfield 31, 3) := by decide +kernel
theorem dX1_joinBuilders_45 : decode cX1_joinBuilders 45 = .ok (.iload_n 1, 1) := by decide +kernel
theorem dX1_joinBuilders_46 : decode cX1_joinBuilders 46 = .ok (.iaload, 1) := by decide +kernel
theorem dX1_joinBuilders_47 : decode cX1_joinBuilders 47 = .ok (.if_icmp .eq 8, 3) := by decide +kernel
theorem dX1_joinBuilders_50 : decode cX1_joinBuilders 50 = .ok (.aload_n 0, 1) := by decide +kernel
theorem dX1_joinBuilders_51 : decode cX1_joinBuilders 51 = .ok (.iconst 1, 1) := by decide +kernel
theorem dX1_joinBuilders_52 : decode cX1_joinBuilders 52 = .ok (.putfield 78, 3) := by decide +kernel
theorem dX1_joinBuilders_55 : decode cX1_joinBuilders 55 = .ok (.return_, 1) := by decide +kernel
theorem dX1_joinAlike_0 : decode cX1_joinAlike 0 = .ok (.aload_n 0, 1) := by decide +kernel
theorem dX1_joinAlike_1 : decode cX1_joinAlike 1 = .ok (.aload_n 0, 1) := by decide +kernel
theorem dX1_joinAlike_2 : decode cX1_joinAlike 2 = .ok (.getfield 34, 3) := by decide +kernel
theorem dX1_joinAlike_5 : decode cX1_joinAlike 5 = .ok (.getfield 44, 3) := by decide +kernel
theorem dX1_joinAlike_8 : decode cX1_joinAlike 8 = .ok (.iload_n 1, 1) := by decide +kernel
theorem dX1_joinAlike_9 : decode cX1_joinAlike 9 = .ok (.iaload, 1) := by decide +kernel
theorem dX1_joinAlike_10 : decode cX1_joinAlike 10 = .ok (.aload_n 0, 1) := by decide +kernel
theorem dX1_joinAlike_11 : decode cX1_joinAlike 11 = .ok (.getfield 34, 3) := by decide +kernel
theorem dX1_joinAlike_14 : decode cX1_joinAlike 14 = .ok (.getfield 47, 3) := by decide +kernel
theorem dX1_joinAlike_17 : decode cX1_joinAlike 17 = .ok (.iload_n 1, 1) := by decide +kernel
theorem dX1_joinAlike_18 : decode cX1_joinAlike 18 = .ok (.iaload, 1) := by decide +kernel
theorem dX1_joinAlike_19 : decode cX1_joinAlike 19 = .ok (.aload_n 0, 1) := by decide +kernel
theorem dX1_joinAlike_20 : decode cX1_joinAlike 20 = .ok (.getfield 34, 3) := by decide +kernel
theorem dX1_joinAlike_23 : decode cX1_joinAlike 23 = .ok (.getfield 54, 3) := by decide +kernel
theorem dX1_joinAlike_26 : decode cX1_joinAlike 26 = .ok (.iload_n 1, 1) := by decide +kernel
theorem dX1_joinAlike_27 : decode cX1_joinAlike 27 = .ok (.iaload, 1) := by decide +kernel
theorem dX1_joinAlike_28 : decode cX1_joinAlike 28 = .ok (.aload_n 0, 1) := by decide +kernel
theorem dX1_joinAlike_29 : decode cX1_joinAlike 29 = .ok (.getfield 34, 3) := by decide +kernel
theorem dX1_joinAlike_32 : decode cX1_joinAlike 32 = .ok (.getfield 57, 3) := by decide +kernel
theorem dX1_joinAlike_35 : decode cX1_joinAlike 35 = .ok (.iload_n 1, 1) := by decide +kernel
theorem dX1_joinAlike_36 : decode cX1_joinAlike 36 = .ok (.iaload, 1) := by decide +kernel
theorem dX1_joinAlike_37 : decode cX1_joinAlike 37 = .ok (.invokevirtual 104, 3) := by decide +kernel
theorem dX1_joinAlike_40 : decode cX1_joinAlike 40 = .ok (.lstore_n 2, 1) := by decide +kernel
theorem dX1_joinAlike_41 : decode cX1_joinAlike 41 = .ok (.aload_n 0, 1) := by decide +kernel
theorem dX1_joinAlike_42 : decode cX1_joinAlike 42 = .ok (.iload_n 1, 1) := by decide +kernel
theorem dX1_joinAlike_43 : decode cX1_joinAlike 43 = .ok (.lload_n 2, 1) := by decide +kernel
theorem dX1_joinAlike_44 : decode cX1_joinAlike 44 = .ok (.invokestatic 108, 3) := by decide +kernel
theorem dX1_joinAlike_47 : decode cX1_joinAlike 47 = .ok (.invokevirtual 86, 3) := by decide +kernel
theorem dX1_joinAlike_50 : decode cX1_joinAlike 50 = .ok (.return_, 1) := by decide +kernel
theorem dX1_alike_0 : decode cX1_alike 0 = .ok (.aload_n 0, 1) := by decide +kernel
theorem dX1_alike_1 : decode cX1_alike 1 = .ok (.getfield 34, 3) := by decide +kernel
theorem dX1_alike_4 : decode cX1_alike 4 = .ok (.getfield 111, 3) := by decide +kernel
theorem dX1_alike_7 : decode cX1_alike 7 = .ok (.iload_n 1, 1) := by decide +kernel
theorem dX1_alike_8 : decode cX1_alike 8 = .ok (.laload, 1) := by decide +kernel
theorem dX1_alike_9 : decode cX1_alike 9 = .ok (.lstore 5, 2) := by decide +kernel
theorem dX1_alike_11 : decode cX1_alike 11 = .ok (.iload_n 2, 1) := by decide +kernel
theorem dX1_alike_12 : decode cX1_alike 12 = .ok (.iconst (-1), 1) := by decide +kernel
theorem dX1_alike_13 : decode cX1_alike 13 = .ok (.if_icmp .eq 19, 3) := by decide +kernel
theorem dX1_alike_16 : decode cX1_alike 16 = .ok (.lload 5, 2) := by decide +kernel
theorem dX1_alike_18 : decode cX1_alike 18 = .ok (.aload_n 0, 1) := by decide +kernel
theorem dX1_alike_19 : decode cX1_alike 19 = .ok (.getfield 19, 3) := by decide +kernel
theorem dX1_alike_22 : decode cX1_alike 22 = .ok (.aload_n 0, 1) := by decide +kernel
theorem dX1_alike_23 : decode cX1_alike 23 = .ok (.getfield 9, 3) := by decide +kernel
theorem dX1_alike_26 : decode cX1_alike 26 = .ok (.iload_n 2, 1) := by decide +kernel
theorem dX1_alike_27 : decode cX1_alike 27 = .ok (.iaload, 1) := by decide +kernel
theorem dX1_alike_28 : decode cX1_alike 28 = .ok (.laload, 1) := by decide +kernel
theorem dX1_alike_29 : decode cX1_alike 29 = .ok (.land, 1) := by decide +kernel
theorem dX1_alike_30 : decode cX1_alike 30 = .ok (.lstore 5, 2) := by decide +kernel
theorem dX1_alike_32 : decode cX1_alike 32 = .ok (.iload_n 3, 1) := by decide +kernel
theorem dX1_alike_33 : decode cX1_alike 33 = .ok (.iconst (-1), 1) := by decide +kernel
theorem dX1_alike_34 : decode cX1_alike 34 = .ok (.if_icmp .eq 19, 3) := by decide +kernel
theorem dX1_alike_37 : decode cX1_alike 37 = .ok (.lload 5, 2) := by decide +kernel
theorem dX1_alike_39 : decode cX1_alike 39 = .ok (.aload_n 0, 1) := by decide +kernel
theorem dX1_alike_40 : decode cX1_alike 40 = .ok (.getfield 22, 3) := by decide +kernel
theorem dX1_alike_43 : decode cX1_alike 43 = .ok (.aload_n 0, 1) := by decide +kernel
theorem dX1_alike_44 : decode cX1_alike 44 = .ok (.getfield 9, 3) := by decide +kernel
theorem dX1_alike_47 : decode cX1_alike 47 = .ok (.iload_n 3, 1) := by decide +kernel
theorem dX1_alike_48 : decode cX1_alike 48 = .ok (.iaload, 1) := by decide +kernel
theorem dX1_alike_49 : decode cX1_alike 49 = .ok (.laload, 1) := by decide +kernel
theorem dX1_alike_50 : decode cX1_alike 50 = .ok (.land, 1) := by decide +kernel
theorem dX1_alike_51 : decode cX1_alike 51 = .ok (.lstore 5, 2) := by decide +kernel
theorem dX1_alike_53 : decode cX1_alike 53 = .ok (.iload 4, 2) := by decide +kernel
theorem dX1_alike_55 : decode cX1_alike 55 = .ok (.iconst (-1), 1) := by decide +kernel
theorem dX1_alike_56 : decode cX1_alike 56 = .ok (.if_icmp .eq 20, 3) := by decide +kernel
theorem dX1_alike_59 : decode cX1_alike 59 = .ok (.lload 5, 2) := by decide +kernel
theorem dX1_alike_61 : decode cX1_alike 61 = .ok (.aload_n 0, 1) := by decide +kernel
theorem dX1_alike_62 : decode cX1_alike 62 = .ok (.getfield 25, 3) := by decide +kernel
theorem dX1_alike_65 : decode cX1_alike 65 = .ok (.aload_n 0, 1) := by decide +kernel
theorem dX1_alike_66 : decode cX1_alike 66 = .ok (.getfield 9, 3) := by decide +kernel
theorem dX1_alike_69 : decode cX1_alike 69 = .ok (.iload 4, 2) := by decide +kernel
theorem dX1_alike_71 : decode cX1_alike 71 = .ok (.iaload, 1) := by decide +kernel
theorem dX1_alike_72 : decode cX1_alike 72 = .ok (.laload, 1) := by decide +kernel
theorem dX1_alike_73 : decode cX1_alike 73 = .ok (.land, 1) := by decide +kernel
theorem dX1_alike_74 : decode cX1_alike 74 = .ok (.lstore 5, 2) := by decide +kernel
theorem dX1_alike_76 : decode cX1_alike 76 = .ok (.lload 5, 2) := by decide +kernel
theorem dX1_alike_78 : decode cX1_alike 78 = .ok (.lreturn, 1) := by decide +kernel
theorem dX2_isBuilt_0 : decode cX2_isBuilt 0 = .ok (.aload_n 0, 1) := by decide +kernel
theorem dX2_isBuilt_1 : decode cX2_isBuilt 1 = .ok (.getfield 46, 3) := by decide +kernel
theorem dX2_isBuilt_4 : decode cX2_isBuilt 4 = .ok (.iload_n 1, 1) := by decide +kernel
theorem dX2_isBuilt_5 : decode cX2_isBuilt 5 = .ok (.lshr, 1) := by decide +kernel
theorem dX2_isBuilt_6 : decode cX2_isBuilt 6 = .ok (.lconst 1, 1) := by decide +kernel
theorem dX2_isBuilt_7 : decode cX2_isBuilt 7 = .ok (.land, 1) := by decide +kernel
theorem dX2_isBuilt_8 : decode cX2_isBuilt 8 = .ok (.lconst 0, 1) := by decide +kernel
theorem dX2_isBuilt_9 : decode cX2_isBuilt 9 = .ok (.lcmp, 1) := by decide +kernel
theorem dX2_isBuilt_10 : decode cX2_isBuilt 10 = .ok (.ifCond .eq 7, 3) := by decide +kernel
theorem dX2_isBuilt_13 : decode cX2_isBuilt 13 = .ok (.iconst 1, 1) := by decide +kernel
theorem dX2_isBuilt_14 : decode cX2_isBuilt 14 = .ok (.goto 4, 3) := by decide +kernel
theorem dX2_isBuilt_17 : decode cX2_isBuilt 17 = .ok (.iconst 0, 1) := by decide +kernel
theorem dX2_isBuilt_18 : decode cX2_isBuilt 18 = .ok (.ireturn, 1) := by decide +kernel
theorem dX1_joinPlaces_0 : decode cX1_joinPlaces 0 = .ok (.aload_n 0, 1) := by decide +kernel
theorem dX1_joinPlaces_1 : decode cX1_joinPlaces 1 = .ok (.getfield 15, 3) := by decide +kernel
theorem dX1_joinPlaces_4 : decode cX1_joinPlaces 4 = .ok (.aload_n 0, 1) := by decide +kernel
theorem dX1_joinPlaces_5 : decode cX1_joinPlaces 5 = .ok (.getfield 9, 3) := by decide +kernel
theorem dX1_joinPlaces_8 : decode cX1_joinPlaces 8 = .ok (.iload_n 1, 1) := by decide +kernel
theorem dX1_joinPlaces_9 : decode cX1_joinPlaces 9 = .ok (.iaload, 1) := by decide +kernel
theorem dX1_joinPlaces_10 : decode cX1_joinPlaces 10 = .ok (.laload, 1) := by decide +kernel
theorem dX1_joinPlaces_11 : decode cX1_joinPlaces 11 = .ok (.aload_n 0, 1) := by decide +kernel
theorem dX1_joinPlaces_12 : decode cX1_joinPlaces 12 = .ok (.getfield 34, 3) := by decide +kernel
theorem dX1_joinPlaces_15 : decode cX1_joinPlaces 15 = .ok (.getfield 111, 3) := by decide +kernel
theorem dX1_joinPlaces_18 : decode cX1_joinPlaces 18 = .ok (.aload_n 0, 1) := by decide +kernel
theorem dX1_joinPlaces_19 : decode cX1_joinPlaces 19 = .ok (.getfield 34, 3) := by decide +kernel
theorem dX1_joinPlaces_22 : decode cX1_joinPlaces 22 = .ok (.getfield 44, 3) := by decide +kernel
theorem dX1_joinPlaces_25 : decode cX1_joinPlaces 25 = .ok (.iload_n 1, 1) := by decide +kernel
theorem dX1_joinPlaces_26 : decode cX1_joinPlaces 26 = .ok (.iaload, 1) := by decide +kernel
theorem dX1_joinPlaces_27 : decode cX1_joinPlaces 27 = .ok (.laload, 1) := by decide +kernel
theorem dX1_joinPlaces_28 : decode cX1_joinPlaces 28 = .ok (.land, 1) := by decide +kernel
theorem dX1_joinPlaces_29 : decode cX1_joinPlaces 29 = .ok (.invokestatic 108, 3) := by decide +kernel
theorem dX1_joinPlaces_32 : decode cX1_joinPlaces 32 = .ok (.istore_n 2, 1) := by decide +kernel
theorem dX1_joinPlaces_33 : decode cX1_joinPlaces 33 = .ok (.iload_n 2, 1) := by decide +kernel
theorem dX1_joinPlaces_34 : decode cX1_joinPlaces 34 = .ok (.iconst (-1), 1) := by decide +kernel
theorem dX1_joinPlaces_35 : decode cX1_joinPlaces 35 = .ok (.if_icmp .eq 8, 3) := by decide +kernel
theorem dX1_joinPlaces_38 : decode cX1_joinPlaces 38 = .ok (.iload_n 2, 1) := by decide +kernel
theorem dX1_joinPlaces_39 : decode cX1_joinPlaces 39 = .ok (.iload_n 1, 1) := by decide +kernel
theorem dX1_joinPlaces_40 : decode cX1_joinPlaces 40 = .ok (.if_icmp .ne 4, 3) := by decide +kernel
theorem dX1_joinPlaces_43 : decode cX1_joinPlaces 43 = .ok (.return_, 1) := by decide +kernel
theorem dX1_joinPlaces_44 : decode cX1_joinPlaces 44 = .ok (.aload_n 0, 1) := by decide +kernel
theorem dX1_joinPlaces_45 : decode cX1_joinPlaces 45 = .ok (.aload_n 0, 1) := by decide +kernel
theorem dX1_joinPlaces_46 : decode cX1_joinPlaces 46 = .ok (.getfield 34, 3) := by decide +kernel
theorem dX1_joinPlaces_49 : decode cX1_joinPlaces 49 = .ok (.getfield 47, 3) := by decide +kernel
theorem dX1_joinPlaces_52 : decode cX1_joinPlaces 52 = .ok (.iload_n 1, 1) := by decide +kernel
theorem dX1_joinPlaces_53 : decode cX1_joinPlaces 53 = .ok (.iaload, 1) := by decide +kernel
theorem dX1_joinPlaces_54 : decode cX1_joinPlaces 54 = .ok (.aload_n 0, 1) := by decide +kernel
theorem dX1_joinPlaces_55 : decode cX1_joinPlaces 55 = .ok (.getfield 34, 3) := by decide +kernel
theorem dX1_joinPlaces_58 : decode cX1_joinPlaces 58 = .ok (.getfield 47, 3) := by decide +kernel
theorem dX1_joinPlaces_61 : decode cX1_joinPlaces 61 = .ok (.iload_n 2, 1) := by decide +kernel
theorem dX1_joinPlaces_62 : decode cX1_joinPlaces 62 = .ok (.iaload, 1) := by decide +kernel
theorem dX1_joinPlaces_63 : decode cX1_joinPlaces 63 = .ok (.invokevirtual 86, 3) := by decide +kernel
theorem dX1_joinPlaces_66 : decode cX1_joinPlaces 66 = .ok (.aload_n 0, 1) := by decide +kernel
theorem dX1_joinPlaces_67 : decode cX1_joinPlaces 67 = .ok (.aload_n 0, 1) := by decide +kernel
theorem dX1_joinPlaces_68 : decode cX1_joinPlaces 68 = .ok (.getfield 34, 3) := by decide +kernel
theorem dX1_joinPlaces_71 : decode cX1_joinPlaces 71 = .ok (.getfield 54, 3) := by decide +kernel
theorem dX1_joinPlaces_74 : decode cX1_joinPlaces 74 = .ok (.iload_n 1, 1) := by decide +kernel
theorem dX1_joinPlaces_75 : decode cX1_joinPlaces 75 = .ok (.iaload, 1) := by decide +kernel
theorem dX1_joinPlaces_76 : decode cX1_joinPlaces 76 = .ok (.aload_n 0, 1) := by decide +kernel
theorem dX1_joinPlaces_77 : decode cX1_joinPlaces 77 = .ok (.getfield 34, 3) := by decide +kernel
theorem dX1_joinPlaces_80 : decode cX1_joinPlaces 80 = .ok (.getfield 54, 3) := by decide +kernel
theorem dX1_joinPlaces_83 : decode cX1_joinPlaces 83 = .ok (.iload_n 2, 1) := by decide +kernel
theorem dX1_joinPlaces_84 : decode cX1_joinPlaces 84 = .ok (.iaload, 1) := by decide +kernel
theorem dX1_joinPlaces_85 : decode cX1_joinPlaces 85 = .ok (.invokevirtual 86, 3) := by decide +kernel
theorem dX1_joinPlaces_88 : decode cX1_joinPlaces 88 = .ok (.aload_n 0, 1) := by decide +kernel
theorem dX1_joinPlaces_89 : decode cX1_joinPlaces 89 = .ok (.aload_n 0, 1) := by decide +kernel
theorem dX1_joinPlaces_90 : decode cX1_joinPlaces 90 = .ok (.getfield 34, 3) := by decide +kernel
theorem dX1_joinPlaces_93 : decode cX1_joinPlaces 93 = .ok (.getfield 57, 3) := by decide +kernel
theorem dX1_joinPlaces_96 : decode cX1_joinPlaces 96 = .ok (.iload_n 1, 1) := by decide +kernel
theorem dX1_joinPlaces_97 : decode cX1_joinPlaces 97 = .ok (.iaload, 1) := by decide +kernel
theorem dX1_joinPlaces_98 : decode cX1_joinPlaces 98 = .ok (.aload_n 0, 1) := by decide +kernel
theorem dX1_joinPlaces_99 : decode cX1_joinPlaces 99 = .ok (.getfield 34, 3) := by decide +kernel
theorem dX1_joinPlaces_102 : decode cX1_joinPlaces 102 = .ok (.getfield 57, 3) := by decide +kernel
theorem dX1_joinPlaces_105 : decode cX1_joinPlaces 105 = .ok (.iload_n 2, 1) := by decide +kernel
theorem dX1_joinPlaces_106 : decode cX1_joinPlaces 106 = .ok (.iaload, 1) := by decide +kernel
theorem dX1_joinPlaces_107 : decode cX1_joinPlaces 107 = .ok (.invokevirtual 86, 3) := by decide +kernel
theorem dX1_joinPlaces_110 : decode cX1_joinPlaces 110 = .ok (.return_, 1) := by decide +kernel
theorem dX1_hasLoop_0 : decode cX1_hasLoop 0 = .ok (.lconst 1, 1) := by decide +kernel
theorem dX1_hasLoop_1 : decode cX1_hasLoop 1 = .ok (.aload_n 0, 1) := by decide +kernel
theorem dX1_hasLoop_2 : decode cX1_hasLoop 2 = .ok (.getfield 34, 3) := by decide +kernel
theorem dX1_hasLoop_5 : decode cX1_hasLoop 5 = .ok (.getfield 64, 3) := by decide +kernel
theorem dX1_hasLoop_8 : decode cX1_hasLoop 8 = .ok (.lshl, 1) := by decide +kernel
theorem dX1_hasLoop_9 : decode cX1_hasLoop 9 = .ok (.lconst 1, 1) := by decide +kernel
theorem dX1_hasLoop_10 : decode cX1_hasLoop 10 = .ok (.lsub, 1) := by decide +kernel
theorem dX1_hasLoop_11 : decode cX1_hasLoop 11 = .ok (.lstore_n 1, 1) := by decide +kernel
theorem dX1_hasLoop_12 : decode cX1_hasLoop 12 = .ok (.lconst 0, 1) := by decide +kernel
theorem dX1_hasLoop_13 : decode cX1_hasLoop 13 = .ok (.lstore_n 3, 1) := by decide +kernel
theorem dX1_hasLoop_14 : decode cX1_hasLoop 14 = .ok (.iconst 0, 1) := by decide +kernel
theorem dX1_hasLoop_15 : decode cX1_hasLoop 15 = .ok (.istore 5, 2) := by decide +kernel
theorem dX1_hasLoop_17 : decode cX1_hasLoop 17 = .ok (.iload 5, 2) := by decide +kernel
theorem dX1_hasLoop_19 : decode cX1_hasLoop 19 = .ok (.bipush 60, 2) := by decide +kernel
theorem dX1_hasLoop_21 : decode cX1_hasLoop 21 = .ok (.if_icmp .gt 34, 3) := by decide +kernel
theorem dX1_hasLoop_24 : decode cX1_hasLoop 24 = .ok (.lload_n 3, 1) := by decide +kernel
theorem dX1_hasLoop_25 : decode cX1_hasLoop 25 = .ok (.lload_n 1, 1) := by decide +kernel
theorem dX1_hasLoop_26 : decode cX1_hasLoop 26 = .ok (.lcmp, 1) := by decide +kernel
theorem dX1_hasLoop_27 : decode cX1_hasLoop 27 = .ok (.ifCond .eq 28, 3) := by decide +kernel
theorem dX1_hasLoop_30 : decode cX1_hasLoop 30 = .ok (.aload_n 0, 1) := by decide +kernel
theorem dX1_hasLoop_31 : decode cX1_hasLoop 31 = .ok (.lload_n 3, 1) := by decide +kernel
theorem dX1_hasLoop_32 : decode cX1_hasLoop 32 = .ok (.invokevirtual 123, 3) := by decide +kernel
theorem dX1_hasLoop_35 : decode cX1_hasLoop 35 = .ok (.lstore 6, 2) := by decide +kernel
theorem dX1_hasLoop_37 : decode cX1_hasLoop 37 = .ok (.lload 6, 2) := by decide +kernel
theorem dX1_hasLoop_39 : decode cX1_hasLoop 39 = .ok (.lload_n 3, 1) := by decide +kernel
theorem dX1_hasLoop_40 : decode cX1_hasLoop 40 = .ok (.lcmp, 1) := by decide +kernel
theorem dX1_hasLoop_41 : decode cX1_hasLoop 41 = .ok (.ifCond .ne 5, 3) := by decide +kernel
theorem dX1_hasLoop_44 : decode cX1_hasLoop 44 = .ok (.iconst 1, 1) := by decide +kernel
theorem dX1_hasLoop_45 : decode cX1_hasLoop 45 = .ok (.ireturn, 1) := by decide +kernel
theorem dX1_hasLoop_46 : decode cX1_hasLoop 46 = .ok (.lload 6, 2) := by decide +kernel
theorem dX1_hasLoop_48 : decode cX1_hasLoop 48 = .ok (.lstore_n 3, 1) := by decide +kernel
theorem dX1_hasLoop_49 : decode cX1_hasLoop 49 = .ok (.iinc 5 1, 3) := by decide +kernel
theorem dX1_hasLoop_52 : decode cX1_hasLoop 52 = .ok (.goto (-35), 3) := by decide +kernel
theorem dX1_hasLoop_55 : decode cX1_hasLoop 55 = .ok (.iconst 0, 1) := by decide +kernel
theorem dX1_hasLoop_56 : decode cX1_hasLoop 56 = .ok (.ireturn, 1) := by decide +kernel
theorem dX1_clearMore_0 : decode cX1_clearMore 0 = .ok (.lload_n 1, 1) := by decide +kernel
theorem dX1_clearMore_1 : decode cX1_clearMore 1 = .ok (.lstore_n 3, 1) := by decide +kernel
theorem dX1_clearMore_2 : decode cX1_clearMore 2 = .ok (.iconst 0, 1) := by decide +kernel
theorem dX1_clearMore_3 : decode cX1_clearMore 3 = .ok (.istore 5, 2) := by decide +kernel
theorem dX1_clearMore_5 : decode cX1_clearMore 5 = .ok (.iload 5, 2) := by decide +kernel
theorem dX1_clearMore_7 : decode cX1_clearMore 7 = .ok (.aload_n 0, 1) := by decide +kernel
theorem dX1_clearMore_8 : decode cX1_clearMore 8 = .ok (.getfield 34, 3) := by decide +kernel
theorem dX1_clearMore_11 : decode cX1_clearMore 11 = .ok (.getfield 64, 3) := by decide +kernel
theorem dX1_clearMore_14 : decode cX1_clearMore 14 = .ok (.if_icmp .ge 49, 3) := by decide +kernel
theorem dX1_clearMore_17 : decode cX1_clearMore 17 = .ok (.aload_n 0, 1) := by decide +kernel
theorem dX1_clearMore_18 : decode cX1_clearMore 18 = .ok (.getfield 9, 3) := by decide +kernel
theorem dX1_clearMore_21 : decode cX1_clearMore 21 = .ok (.iload 5, 2) := by decide +kernel
theorem dX1_clearMore_23 : decode cX1_clearMore 23 = .ok (.iaload, 1) := by decide +kernel
theorem dX1_clearMore_24 : decode cX1_clearMore 24 = .ok (.iload 5, 2) := by decide +kernel
theorem dX1_clearMore_26 : decode cX1_clearMore 26 = .ok (.if_icmp .ne 31, 3) := by decide +kernel
theorem dX1_clearMore_29 : decode cX1_clearMore 29 = .ok (.aload_n 0, 1) := by decide +kernel
theorem dX1_clearMore_30 : decode cX1_clearMore 30 = .ok (.getfield 28, 3) := by decide +kernel
theorem dX1_clearMore_33 : decode cX1_clearMore 33 = .ok (.iload 5, 2) := by decide +kernel
theorem dX1_clearMore_35 : decode cX1_clearMore 35 = .ok (.laload, 1) := by decide +kernel
theorem dX1_clearMore_36 : decode cX1_clearMore 36 = .ok (.lload_n 3, 1) := by decide +kernel
theorem dX1_clearMore_37 : decode cX1_clearMore 37 = .ok (.ldc2_w 127, 3) := by decide +kernel
theorem dX1_clearMore_40 : decode cX1_clearMore 40 = .ok (.lxor, 1) := by decide +kernel
theorem dX1_clearMore_41 : decode cX1_clearMore 41 = .ok (.land, 1) := by decide +kernel
theorem dX1_clearMore_42 : decode cX1_clearMore 42 = .ok (.lconst 0, 1) := by decide +kernel
theorem dX1_clearMore_43 : decode cX1_clearMore 43 = .ok (.lcmp, 1) := by decide +kernel
theorem dX1_clearMore_44 : decode cX1_clearMore 44 = .ok (.ifCond .ne 13, 3) := by decide +kernel
theorem dX1_clearMore_47 : decode cX1_clearMore 47 = .ok (.lload_n 3, 1) := by decide +kernel
theorem dX1_clearMore_48 : decode cX1_clearMore 48 = .ok (.aload_n 0, 1) := by decide +kernel
theorem dX1_clearMore_49 : decode cX1_clearMore 49 = .ok (.getfield 15, 3) := by decide +kernel
theorem dX1_clearMore_52 : decode cX1_clearMore 52 = .ok (.iload 5, 2) := by decide +kernel
theorem dX1_clearMore_54 : decode cX1_clearMore 54 = .ok (.laload, 1) := by decide +kernel
theorem dX1_clearMore_55 : decode cX1_clearMore 55 = .ok (.lor, 1) := by decide +kernel
theorem dX1_clearMore_56 : decode cX1_clearMore 56 = .ok (.lstore_n 3, 1) := by decide +kernel
theorem dX1_clearMore_57 : decode cX1_clearMore 57 = .ok (.iinc 5 1, 3) := by decide +kernel
theorem dX1_clearMore_60 : decode cX1_clearMore 60 = .ok (.goto (-55), 3) := by decide +kernel
theorem dX1_clearMore_63 : decode cX1_clearMore 63 = .ok (.lload_n 3, 1) := by decide +kernel
theorem dX1_clearMore_64 : decode cX1_clearMore 64 = .ok (.lreturn, 1) := by decide +kernel
theorem dX2_countUsedSigns_0 : decode cX2_countUsedSigns 0 = .ok (.iconst 0, 1) := by decide +kernel
theorem dX2_countUsedSigns_1 : decode cX2_countUsedSigns 1 = .ok (.istore_n 1, 1) := by decide +kernel
theorem dX2_countUsedSigns_2 : decode cX2_countUsedSigns 2 = .ok (.iconst 0, 1) := by decide +kernel
theorem dX2_countUsedSigns_3 : decode cX2_countUsedSigns 3 = .ok (.istore_n 2, 1) := by decide +kernel
theorem dX2_countUsedSigns_4 : decode cX2_countUsedSigns 4 = .ok (.iload_n 2, 1) := by decide +kernel
theorem dX2_countUsedSigns_5 : decode cX2_countUsedSigns 5 = .ok (.bipush 16, 2) := by decide +kernel
theorem dX2_countUsedSigns_7 : decode cX2_countUsedSigns 7 = .ok (.if_icmp .ge 22, 3) := by decide +kernel
theorem dX2_countUsedSigns_10 : decode cX2_countUsedSigns 10 = .ok (.aload_n 0, 1) := by decide +kernel
theorem dX2_countUsedSigns_11 : decode cX2_countUsedSigns 11 = .ok (.getfield 9, 3) := by decide +kernel
theorem dX2_countUsedSigns_14 : decode cX2_countUsedSigns 14 = .ok (.iload_n 2, 1) := by decide +kernel
theorem dX2_countUsedSigns_15 : decode cX2_countUsedSigns 15 = .ok (.iaload, 1) := by decide +kernel
theorem dX2_countUsedSigns_16 : decode cX2_countUsedSigns 16 = .ok (.iconst (-1), 1) := by decide +kernel
theorem dX2_countUsedSigns_17 : decode cX2_countUsedSigns 17 = .ok (.if_icmp .eq 6, 3) := by decide +kernel
theorem dX2_countUsedSigns_20 : decode cX2_countUsedSigns 20 = .ok (.iinc 1 1, 3) := by decide +kernel
theorem dX2_countUsedSigns_23 : decode cX2_countUsedSigns 23 = .ok (.iinc 2 1, 3) := by decide +kernel
theorem dX2_countUsedSigns_26 : decode cX2_countUsedSigns 26 = .ok (.goto (-22), 3) := by decide +kernel
theorem dX2_countUsedSigns_29 : decode cX2_countUsedSigns 29 = .ok (.iload_n 1, 1) := by decide +kernel
theorem dX2_countUsedSigns_30 : decode cX2_countUsedSigns 30 = .ok (.ireturn, 1) := by decide +kernel
theorem dX2_add_0 : decode cX2_add 0 = .ok (.aload_n 0, 1) := by decide +kernel
theorem dX2_add_1 : decode cX2_add 1 = .ok (.getfield 38, 3) := by decide +kernel
theorem dX2_add_4 : decode cX2_add 4 = .ok (.istore 5, 2) := by decide +kernel
theorem dX2_add_6 : decode cX2_add 6 = .ok (.aload_n 0, 1) := by decide +kernel
theorem dX2_add_7 : decode cX2_add 7 = .ok (.getfield 23, 3) := by decide +kernel
theorem dX2_add_10 : decode cX2_add 10 = .ok (.iload 5, 2) := by decide +kernel
theorem dX2_add_12 : decode cX2_add 12 = .ok (.iload_n 1, 1) := by decide +kernel
theorem dX2_add_13 : decode cX2_add 13 = .ok (.iastore, 1) := by decide +kernel
theorem dX2_add_14 : decode cX2_add 14 = .ok (.aload_n 0, 1) := by decide +kernel
theorem dX2_add_15 : decode cX2_add 15 = .ok (.getfield 26, 3) := by decide +kernel
theorem dX2_add_18 : decode cX2_add 18 = .ok (.iload 5, 2) := by decide +kernel
theorem dX2_add_20 : decode cX2_add 20 = .ok (.iload_n 2, 1) := by decide +kernel
theorem dX2_add_21 : decode cX2_add 21 = .ok (.iastore, 1) := by decide +kernel
theorem dX2_add_22 : decode cX2_add 22 = .ok (.aload_n 0, 1) := by decide +kernel
theorem dX2_add_23 : decode cX2_add 23 = .ok (.getfield 29, 3) := by decide +kernel
theorem dX2_add_26 : decode cX2_add 26 = .ok (.iload 5, 2) := by decide +kernel
theorem dX2_add_28 : decode cX2_add 28 = .ok (.iload_n 3, 1) := by decide +kernel
theorem dX2_add_29 : decode cX2_add 29 = .ok (.iastore, 1) := by decide +kernel
theorem dX2_add_30 : decode cX2_add 30 = .ok (.aload_n 0, 1) := by decide +kernel
theorem dX2_add_31 : decode cX2_add 31 = .ok (.getfield 32, 3) := by decide +kernel
theorem dX2_add_34 : decode cX2_add 34 = .ok (.iload 5, 2) := by decide +kernel
theorem dX2_add_36 : decode cX2_add 36 = .ok (.iload 4, 2) := by decide +kernel
theorem dX2_add_38 : decode cX2_add 38 = .ok (.iastore, 1) := by decide +kernel
theorem dX2_add_39 : decode cX2_add 39 = .ok (.aload_n 0, 1) := by decide +kernel
theorem dX2_add_40 : decode cX2_add 40 = .ok (.getfield 35, 3) := by decide +kernel
theorem dX2_add_43 : decode cX2_add 43 = .ok (.iload 5, 2) := by decide +kernel
theorem dX2_add_45 : decode cX2_add 45 = .ok (.lconst 1, 1) := by decide +kernel
theorem dX2_add_46 : decode cX2_add 46 = .ok (.iload 5, 2) := by decide +kernel
theorem dX2_add_48 : decode cX2_add 48 = .ok (.lshl, 1) := by decide +kernel
theorem dX2_add_49 : decode cX2_add 49 = .ok (.aload_n 0, 1) := by decide +kernel
theorem dX2_add_50 : decode cX2_add 50 = .ok (.iload_n 2, 1) := by decide +kernel
theorem dX2_add_51 : decode cX2_add 51 = .ok (.invokevirtual 42, 3) := by decide +kernel
theorem dX2_add_54 : decode cX2_add 54 = .ok (.lor, 1) := by decide +kernel
theorem dX2_add_55 : decode cX2_add 55 = .ok (.aload_n 0, 1) := by decide +kernel
theorem dX2_add_56 : decode cX2_add 56 = .ok (.iload_n 3, 1) := by decide +kernel
theorem dX2_add_57 : decode cX2_add 57 = .ok (.invokevirtual 42, 3) := by decide +kernel
theorem dX2_add_60 : decode cX2_add 60 = .ok (.lor, 1) := by decide +kernel
theorem dX2_add_61 : decode cX2_add 61 = .ok (.aload_n 0, 1) := by decide +kernel
theorem dX2_add_62 : decode cX2_add 62 = .ok (.iload 4, 2) := by decide +kernel
theorem dX2_add_64 : decode cX2_add 64 = .ok (.invokevirtual 42, 3) := by decide +kernel
theorem dX2_add_67 : decode cX2_add 67 = .ok (.lor, 1) := by decide +kernel
theorem dX2_add_68 : decode cX2_add 68 = .ok (.lastore, 1) := by decide +kernel
theorem dX2_add_69 : decode cX2_add 69 = .ok (.aload_n 0, 1) := by decide +kernel
theorem dX2_add_70 : decode cX2_add 70 = .ok (.getfield 19, 3) := by decide +kernel
theorem dX2_add_73 : decode cX2_add 73 = .ok (.iload_n 1, 1) := by decide +kernel
theorem dX2_add_74 : decode cX2_add 74 = .ok (.dup2, 1) := by decide +kernel
theorem dX2_add_75 : decode cX2_add 75 = .ok (.laload, 1) := by decide +kernel
theorem dX2_add_76 : decode cX2_add 76 = .ok (.lconst 1, 1) := by decide +kernel
theorem dX2_add_77 : decode cX2_add 77 = .ok (.iload 5, 2) := by decide +kernel
theorem dX2_add_79 : decode cX2_add 79 = .ok (.lshl, 1) := by decide +kernel
theorem dX2_add_80 : decode cX2_add 80 = .ok (.lor, 1) := by decide +kernel
theorem dX2_add_81 : decode cX2_add 81 = .ok (.lastore, 1) := by decide +kernel
theorem dX2_add_82 : decode cX2_add 82 = .ok (.aload_n 0, 1) := by decide +kernel
theorem dX2_add_83 : decode cX2_add 83 = .ok (.getfield 15, 3) := by decide +kernel
theorem dX2_add_86 : decode cX2_add 86 = .ok (.iload_n 1, 1) := by decide +kernel
theorem dX2_add_87 : decode cX2_add 87 = .ok (.baload, 1) := by decide +kernel
theorem dX2_add_88 : decode cX2_add 88 = .ok (.ifCond .eq 16, 3) := by decide +kernel
theorem dX2_add_91 : decode cX2_add 91 = .ok (.aload_n 0, 1) := by decide +kernel
theorem dX2_add_92 : decode cX2_add 92 = .ok (.dup, 1) := by decide +kernel
theorem dX2_add_93 : decode cX2_add 93 = .ok (.getfield 46, 3) := by decide +kernel
theorem dX2_add_96 : decode cX2_add 96 = .ok (.lconst 1, 1) := by decide +kernel
theorem dX2_add_97 : decode cX2_add 97 = .ok (.iload 5, 2) := by decide +kernel
theorem dX2_add_99 : decode cX2_add 99 = .ok (.lshl, 1) := by decide +kernel
theorem dX2_add_100 : decode cX2_add 100 = .ok (.lor, 1) := by decide +kernel
theorem dX2_add_101 : decode cX2_add 101 = .ok (.putfield 46, 3) := by decide +kernel
theorem dX2_add_104 : decode cX2_add 104 = .ok (.aload_n 0, 1) := by decide +kernel
theorem dX2_add_105 : decode cX2_add 105 = .ok (.dup, 1) := by decide +kernel
theorem dX2_add_106 : decode cX2_add 106 = .ok (.getfield 38, 3) := by decide +kernel
theorem dX2_add_109 : decode cX2_add 109 = .ok (.iconst 1, 1) := by decide +kernel
theorem dX2_add_110 : decode cX2_add 110 = .ok (.iadd, 1) := by decide +kernel
theorem dX2_add_111 : decode cX2_add 111 = .ok (.putfield 38, 3) := by decide +kernel
theorem dX2_add_114 : decode cX2_add 114 = .ok (.return_, 1) := by decide +kernel
theorem dX2_insideOf_0 : decode cX2_insideOf 0 = .ok (.iload_n 1, 1) := by decide +kernel
theorem dX2_insideOf_1 : decode cX2_insideOf 1 = .ok (.iconst (-1), 1) := by decide +kernel
theorem dX2_insideOf_2 : decode cX2_insideOf 2 = .ok (.if_icmp .ne 7, 3) := by decide +kernel
theorem dX2_insideOf_5 : decode cX2_insideOf 5 = .ok (.lconst 0, 1) := by decide +kernel
theorem dX2_insideOf_6 : decode cX2_insideOf 6 = .ok (.goto 9, 3) := by decide +kernel
theorem dX2_insideOf_9 : decode cX2_insideOf 9 = .ok (.aload_n 0, 1) := by decide +kernel
theorem dX2_insideOf_10 : decode cX2_insideOf 10 = .ok (.getfield 35, 3) := by decide +kernel
theorem dX2_insideOf_13 : decode cX2_insideOf 13 = .ok (.iload_n 1, 1) := by decide +kernel
theorem dX2_insideOf_14 : decode cX2_insideOf 14 = .ok (.laload, 1) := by decide +kernel
theorem dX2_insideOf_15 : decode cX2_insideOf 15 = .ok (.lreturn, 1) := by decide +kernel
theorem dX1_addAlone_0 : decode cX1_addAlone 0 = .ok (.aload_n 0, 1) := by decide +kernel
theorem dX1_addAlone_1 : decode cX1_addAlone 1 = .ok (.getfield 34, 3) := by decide +kernel
theorem dX1_addAlone_4 : decode cX1_addAlone 4 = .ok (.iload_n 1, 1) := by decide +kernel
theorem dX1_addAlone_5 : decode cX1_addAlone 5 = .ok (.invokevirtual 38, 3) := by decide +kernel
theorem dX1_addAlone_8 : decode cX1_addAlone 8 = .ok (.istore_n 2, 1) := by decide +kernel
theorem dX1_addAlone_9 : decode cX1_addAlone 9 = .ok (.aload_n 0, 1) := by decide +kernel
theorem dX1_addAlone_10 : decode cX1_addAlone 10 = .ok (.getfield 9, 3) := by decide +kernel
theorem dX1_addAlone_13 : decode cX1_addAlone 13 = .ok (.iload_n 1, 1) := by decide +kernel
theorem dX1_addAlone_14 : decode cX1_addAlone 14 = .ok (.iload_n 1, 1) := by decide +kernel
theorem dX1_addAlone_15 : decode cX1_addAlone 15 = .ok (.iastore, 1) := by decide +kernel
theorem dX1_addAlone_16 : decode cX1_addAlone 16 = .ok (.aload_n 0, 1) := by decide +kernel
theorem dX1_addAlone_17 : decode cX1_addAlone 17 = .ok (.getfield 15, 3) := by decide +kernel
theorem dX1_addAlone_20 : decode cX1_addAlone 20 = .ok (.iload_n 1, 1) := by decide +kernel
theorem dX1_addAlone_21 : decode cX1_addAlone 21 = .ok (.lconst 1, 1) := by decide +kernel
theorem dX1_addAlone_22 : decode cX1_addAlone 22 = .ok (.iload_n 1, 1) := by decide +kernel
theorem dX1_addAlone_23 : decode cX1_addAlone 23 = .ok (.lshl, 1) := by decide +kernel
theorem dX1_addAlone_24 : decode cX1_addAlone 24 = .ok (.lastore, 1) := by decide +kernel
theorem dX1_addAlone_25 : decode cX1_addAlone 25 = .ok (.aload_n 0, 1) := by decide +kernel
theorem dX1_addAlone_26 : decode cX1_addAlone 26 = .ok (.getfield 31, 3) := by decide +kernel
theorem dX1_addAlone_29 : decode cX1_addAlone 29 = .ok (.iload_n 1, 1) := by decide +kernel
theorem dX1_addAlone_30 : decode cX1_addAlone 30 = .ok (.iload_n 2, 1) := by decide +kernel
theorem dX1_addAlone_31 : decode cX1_addAlone 31 = .ok (.ifCond .eq 15, 3) := by decide +kernel
theorem dX1_addAlone_34 : decode cX1_addAlone 34 = .ok (.aload_n 0, 1) := by decide +kernel
theorem dX1_addAlone_35 : decode cX1_addAlone 35 = .ok (.getfield 34, 3) := by decide +kernel
theorem dX1_addAlone_38 : decode cX1_addAlone 38 = .ok (.getfield 44, 3) := by decide +kernel
theorem dX1_addAlone_41 : decode cX1_addAlone 41 = .ok (.iload_n 1, 1) := by decide +kernel
theorem dX1_addAlone_42 : decode cX1_addAlone 42 = .ok (.iaload, 1) := by decide +kernel
theorem dX1_addAlone_43 : decode cX1_addAlone 43 = .ok (.goto 4, 3) := by decide +kernel
theorem dX1_addAlone_46 : decode cX1_addAlone 46 = .ok (.iconst (-1), 1) := by decide +kernel
theorem dX1_addAlone_47 : decode cX1_addAlone 47 = .ok (.iastore, 1) := by decide +kernel
theorem dX1_addAlone_48 : decode cX1_addAlone 48 = .ok (.aload_n 0, 1) := by decide +kernel
theorem dX1_addAlone_49 : decode cX1_addAlone 49 = .ok (.getfield 19, 3) := by decide +kernel
theorem dX1_addAlone_52 : decode cX1_addAlone 52 = .ok (.aload_n 0, 1) := by decide +kernel
theorem dX1_addAlone_53 : decode cX1_addAlone 53 = .ok (.getfield 34, 3) := by decide +kernel
theorem dX1_addAlone_56 : decode cX1_addAlone 56 = .ok (.getfield 47, 3) := by decide +kernel
theorem dX1_addAlone_59 : decode cX1_addAlone 59 = .ok (.iload_n 1, 1) := by decide +kernel
theorem dX1_addAlone_60 : decode cX1_addAlone 60 = .ok (.iaload, 1) := by decide +kernel
theorem dX1_addAlone_61 : decode cX1_addAlone 61 = .ok (.iload_n 1, 1) := by decide +kernel
theorem dX1_addAlone_62 : decode cX1_addAlone 62 = .ok (.invokestatic 50, 3) := by decide +kernel
theorem dX1_addAlone_65 : decode cX1_addAlone 65 = .ok (.aload_n 0, 1) := by decide +kernel
theorem dX1_addAlone_66 : decode cX1_addAlone 66 = .ok (.getfield 22, 3) := by decide +kernel
theorem dX1_addAlone_69 : decode cX1_addAlone 69 = .ok (.aload_n 0, 1) := by decide +kernel
theorem dX1_addAlone_70 : decode cX1_addAlone 70 = .ok (.getfield 34, 3) := by decide +kernel
theorem dX1_addAlone_73 : decode cX1_addAlone 73 = .ok (.getfield 54, 3) := by decide +kernel
theorem dX1_addAlone_76 : decode cX1_addAlone 76 = .ok (.iload_n 1, 1) := by decide +kernel
theorem dX1_addAlone_77 : decode cX1_addAlone 77 = .ok (.iaload, 1) := by decide +kernel
theorem dX1_addAlone_78 : decode cX1_addAlone 78 = .ok (.iload_n 1, 1) := by decide +kernel
theorem dX1_addAlone_79 : decode cX1_addAlone 79 = .ok (.invokestatic 50, 3) := by decide +kernel
theorem dX1_addAlone_82 : decode cX1_addAlone 82 = .ok (.aload_n 0, 1) := by decide +kernel
theorem dX1_addAlone_83 : decode cX1_addAlone 83 = .ok (.getfield 25, 3) := by decide +kernel
theorem dX1_addAlone_86 : decode cX1_addAlone 86 = .ok (.aload_n 0, 1) := by decide +kernel
theorem dX1_addAlone_87 : decode cX1_addAlone 87 = .ok (.getfield 34, 3) := by decide +kernel
theorem dX1_addAlone_90 : decode cX1_addAlone 90 = .ok (.getfield 57, 3) := by decide +kernel
theorem dX1_addAlone_93 : decode cX1_addAlone 93 = .ok (.iload_n 1, 1) := by decide +kernel
theorem dX1_addAlone_94 : decode cX1_addAlone 94 = .ok (.iaload, 1) := by decide +kernel
theorem dX1_addAlone_95 : decode cX1_addAlone 95 = .ok (.iload_n 1, 1) := by decide +kernel
theorem dX1_addAlone_96 : decode cX1_addAlone 96 = .ok (.invokestatic 50, 3) := by decide +kernel
theorem dX1_addAlone_99 : decode cX1_addAlone 99 = .ok (.iload_n 2, 1) := by decide +kernel
theorem dX1_addAlone_100 : decode cX1_addAlone 100 = .ok (.ifCond .eq 47, 3) := by decide +kernel
theorem dX1_addAlone_103 : decode cX1_addAlone 103 = .ok (.aload_n 0, 1) := by decide +kernel
theorem dX1_addAlone_104 : decode cX1_addAlone 104 = .ok (.getfield 28, 3) := by decide +kernel
theorem dX1_addAlone_107 : decode cX1_addAlone 107 = .ok (.iload_n 1, 1) := by decide +kernel
theorem dX1_addAlone_108 : decode cX1_addAlone 108 = .ok (.aload_n 0, 1) := by decide +kernel
theorem dX1_addAlone_109 : decode cX1_addAlone 109 = .ok (.getfield 34, 3) := by decide +kernel
theorem dX1_addAlone_112 : decode cX1_addAlone 112 = .ok (.getfield 47, 3) := by decide +kernel
theorem dX1_addAlone_115 : decode cX1_addAlone 115 = .ok (.iload_n 1, 1) := by decide +kernel
theorem dX1_addAlone_116 : decode cX1_addAlone 116 = .ok (.iaload, 1) := by decide +kernel
theorem dX1_addAlone_117 : decode cX1_addAlone 117 = .ok (.invokestatic 60, 3) := by decide +kernel
theorem dX1_addAlone_120 : decode cX1_addAlone 120 = .ok (.aload_n 0, 1) := by decide +kernel
theorem dX1_addAlone_121 : decode cX1_addAlone 121 = .ok (.getfield 34, 3) := by decide +kernel
theorem dX1_addAlone_124 : decode cX1_addAlone 124 = .ok (.getfield 54, 3) := by decide +kernel
theorem dX1_addAlone_127 : decode cX1_addAlone 127 = .ok (.iload_n 1, 1) := by decide +kernel
theorem dX1_addAlone_128 : decode cX1_addAlone 128 = .ok (.iaload, 1) := by decide +kernel
theorem dX1_addAlone_129 : decode cX1_addAlone 129 = .ok (.invokestatic 60, 3) := by decide +kernel
theorem dX1_addAlone_132 : decode cX1_addAlone 132 = .ok (.lor, 1) := by decide +kernel
theorem dX1_addAlone_133 : decode cX1_addAlone 133 = .ok (.aload_n 0, 1) := by decide +kernel
theorem dX1_addAlone_134 : decode cX1_addAlone 134 = .ok (.getfield 34, 3) := by decide +kernel
theorem dX1_addAlone_137 : decode cX1_addAlone 137 = .ok (.getfield 57, 3) := by decide +kernel
theorem dX1_addAlone_140 : decode cX1_addAlone 140 = .ok (.iload_n 1, 1) := by decide +kernel
theorem dX1_addAlone_141 : decode cX1_addAlone 141 = .ok (.iaload, 1) := by decide +kernel
theorem dX1_addAlone_142 : decode cX1_addAlone 142 = .ok (.invokestatic 60, 3) := by decide +kernel
theorem dX1_addAlone_145 : decode cX1_addAlone 145 = .ok (.lor, 1) := by decide +kernel
theorem dX1_addAlone_146 : decode cX1_addAlone 146 = .ok (.lastore, 1) := by decide +kernel
theorem dX1_addAlone_147 : decode cX1_addAlone 147 = .ok (.return_, 1) := by decide +kernel
theorem dX1_use_0 : decode cX1_use 0 = .ok (.iload_n 1, 1) := by decide +kernel
theorem dX1_use_1 : decode cX1_use 1 = .ok (.iconst (-1), 1) := by decide +kernel
theorem dX1_use_2 : decode cX1_use 2 = .ok (.if_icmp .eq 12, 3) := by decide +kernel
theorem dX1_use_5 : decode cX1_use 5 = .ok (.aload_n 0, 1) := by decide +kernel
theorem dX1_use_6 : decode cX1_use 6 = .ok (.iload_n 1, 1) := by decide +kernel
theorem dX1_use_7 : decode cX1_use 7 = .ok (.dup2, 1) := by decide +kernel
theorem dX1_use_8 : decode cX1_use 8 = .ok (.laload, 1) := by decide +kernel
theorem dX1_use_9 : decode cX1_use 9 = .ok (.lconst 1, 1) := by decide +kernel
theorem dX1_use_10 : decode cX1_use 10 = .ok (.iload_n 2, 1) := by decide +kernel
theorem dX1_use_11 : decode cX1_use 11 = .ok (.lshl, 1) := by decide +kernel
theorem dX1_use_12 : decode cX1_use 12 = .ok (.lor, 1) := by decide +kernel
theorem dX1_use_13 : decode cX1_use 13 = .ok (.lastore, 1) := by decide +kernel
theorem dX1_use_14 : decode cX1_use 14 = .ok (.return_, 1) := by decide +kernel
theorem dX1_bitOf_0 : decode cX1_bitOf 0 = .ok (.iload_n 0, 1) := by decide +kernel
theorem dX1_bitOf_1 : decode cX1_bitOf 1 = .ok (.iconst (-1), 1) := by decide +kernel
theorem dX1_bitOf_2 : decode cX1_bitOf 2 = .ok (.if_icmp .ne 7, 3) := by decide +kernel
theorem dX1_bitOf_5 : decode cX1_bitOf 5 = .ok (.lconst 0, 1) := by decide +kernel
theorem dX1_bitOf_6 : decode cX1_bitOf 6 = .ok (.goto 6, 3) := by decide +kernel
theorem dX1_bitOf_9 : decode cX1_bitOf 9 = .ok (.lconst 1, 1) := by decide +kernel
theorem dX1_bitOf_10 : decode cX1_bitOf 10 = .ok (.iload_n 0, 1) := by decide +kernel
theorem dX1_bitOf_11 : decode cX1_bitOf 11 = .ok (.lshl, 1) := by decide +kernel
theorem dX1_bitOf_12 : decode cX1_bitOf 12 = .ok (.lreturn, 1) := by decide +kernel
theorem dX0_add_0 : decode cX0_add 0 = .ok (.aload_n 0, 1) := by decide +kernel
theorem dX0_add_1 : decode cX0_add 1 = .ok (.getfield 9, 3) := by decide +kernel
theorem dX0_add_4 : decode cX0_add 4 = .ok (.aload_n 0, 1) := by decide +kernel
theorem dX0_add_5 : decode cX0_add 5 = .ok (.getfield 22, 3) := by decide +kernel
theorem dX0_add_8 : decode cX0_add 8 = .ok (.iload_n 1, 1) := by decide +kernel
theorem dX0_add_9 : decode cX0_add 9 = .ok (.iastore, 1) := by decide +kernel
theorem dX0_add_10 : decode cX0_add 10 = .ok (.aload_n 0, 1) := by decide +kernel
theorem dX0_add_11 : decode cX0_add 11 = .ok (.getfield 15, 3) := by decide +kernel
theorem dX0_add_14 : decode cX0_add 14 = .ok (.aload_n 0, 1) := by decide +kernel
theorem dX0_add_15 : decode cX0_add 15 = .ok (.getfield 22, 3) := by decide +kernel
theorem dX0_add_18 : decode cX0_add 18 = .ok (.iload_n 2, 1) := by decide +kernel
theorem dX0_add_19 : decode cX0_add 19 = .ok (.iastore, 1) := by decide +kernel
theorem dX0_add_20 : decode cX0_add 20 = .ok (.aload_n 0, 1) := by decide +kernel
theorem dX0_add_21 : decode cX0_add 21 = .ok (.getfield 18, 3) := by decide +kernel
theorem dX0_add_24 : decode cX0_add 24 = .ok (.aload_n 0, 1) := by decide +kernel
theorem dX0_add_25 : decode cX0_add 25 = .ok (.getfield 22, 3) := by decide +kernel
theorem dX0_add_28 : decode cX0_add 28 = .ok (.iload_n 3, 1) := by decide +kernel
theorem dX0_add_29 : decode cX0_add 29 = .ok (.bastore, 1) := by decide +kernel
theorem dX0_add_30 : decode cX0_add 30 = .ok (.aload_n 0, 1) := by decide +kernel
theorem dX0_add_31 : decode cX0_add 31 = .ok (.dup, 1) := by decide +kernel
theorem dX0_add_32 : decode cX0_add 32 = .ok (.getfield 22, 3) := by decide +kernel
theorem dX0_add_35 : decode cX0_add 35 = .ok (.iconst 1, 1) := by decide +kernel
theorem dX0_add_36 : decode cX0_add 36 = .ok (.iadd, 1) := by decide +kernel
theorem dX0_add_37 : decode cX0_add 37 = .ok (.putfield 22, 3) := by decide +kernel
theorem dX0_add_40 : decode cX0_add 40 = .ok (.return_, 1) := by decide +kernel
theorem dX1_countRows_0 : decode cX1_countRows 0 = .ok (.iconst 0, 1) := by decide +kernel
theorem dX1_countRows_1 : decode cX1_countRows 1 = .ok (.istore_n 1, 1) := by decide +kernel
theorem dX1_countRows_2 : decode cX1_countRows 2 = .ok (.iconst 0, 1) := by decide +kernel
theorem dX1_countRows_3 : decode cX1_countRows 3 = .ok (.istore_n 2, 1) := by decide +kernel
theorem dX1_countRows_4 : decode cX1_countRows 4 = .ok (.iload_n 2, 1) := by decide +kernel
theorem dX1_countRows_5 : decode cX1_countRows 5 = .ok (.aload_n 0, 1) := by decide +kernel
theorem dX1_countRows_6 : decode cX1_countRows 6 = .ok (.getfield 34, 3) := by decide +kernel
theorem dX1_countRows_9 : decode cX1_countRows 9 = .ok (.getfield 64, 3) := by decide +kernel
theorem dX1_countRows_12 : decode cX1_countRows 12 = .ok (.if_icmp .ge 22, 3) := by decide +kernel
theorem dX1_countRows_15 : decode cX1_countRows 15 = .ok (.aload_n 0, 1) := by decide +kernel
theorem dX1_countRows_16 : decode cX1_countRows 16 = .ok (.getfield 9, 3) := by decide +kernel
theorem dX1_countRows_19 : decode cX1_countRows 19 = .ok (.iload_n 2, 1) := by decide +kernel
theorem dX1_countRows_20 : decode cX1_countRows 20 = .ok (.iaload, 1) := by decide +kernel
theorem dX1_countRows_21 : decode cX1_countRows 21 = .ok (.iload_n 2, 1) := by decide +kernel
theorem dX1_countRows_22 : decode cX1_countRows 22 = .ok (.if_icmp .ne 6, 3) := by decide +kernel
theorem dX1_countRows_25 : decode cX1_countRows 25 = .ok (.iinc 1 1, 3) := by decide +kernel
theorem dX1_countRows_28 : decode cX1_countRows 28 = .ok (.iinc 2 1, 3) := by decide +kernel
theorem dX1_countRows_31 : decode cX1_countRows 31 = .ok (.goto (-27), 3) := by decide +kernel
theorem dX1_countRows_34 : decode cX1_countRows 34 = .ok (.iload_n 1, 1) := by decide +kernel
theorem dX1_countRows_35 : decode cX1_countRows 35 = .ok (.ireturn, 1) := by decide +kernel
