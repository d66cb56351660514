theorem dX3_init_0 : decode cX3_init 0 = .ok (.aload_n 0, 1) := by decide +kernel
theorem dX3_init_1 : decode cX3_init 1 = .ok (.invokespecial 1, 3) := by decide +kernel
theorem dX3_init_4 : decode cX3_init 4 = .ok (.aload_n 0, 1) := by decide +kernel
theorem dX3_init_5 : decode cX3_init 5 = .ok (.new 7, 3) := by decide +kernel
theorem dX3_init_8 : decode cX3_init 8 = .ok (.dup, 1) := by decide +kernel
theorem dX3_init_9 : decode cX3_init 9 = .ok (.invokespecial 9, 3) := by decide +kernel
theorem dX3_init_12 : decode cX3_init 12 = .ok (.putfield 10, 3) := by decide +kernel
theorem dX3_init_15 : decode cX3_init 15 = .ok (.aload_n 0, 1) := by decide +kernel
theorem dX3_init_16 : decode cX3_init 16 = .ok (.new 16, 3) := by decide +kernel
theorem dX3_init_19 : decode cX3_init 19 = .ok (.dup, 1) := by decide +kernel
theorem dX3_init_20 : decode cX3_init 20 = .ok (.invokespecial 18, 3) := by decide +kernel
theorem dX3_init_23 : decode cX3_init 23 = .ok (.putfield 19, 3) := by decide +kernel
theorem dX3_init_26 : decode cX3_init 26 = .ok (.aload_n 0, 1) := by decide +kernel
theorem dX3_init_27 : decode cX3_init 27 = .ok (.new 23, 3) := by decide +kernel
theorem dX3_init_30 : decode cX3_init 30 = .ok (.dup, 1) := by decide +kernel
theorem dX3_init_31 : decode cX3_init 31 = .ok (.aload_n 0, 1) := by decide +kernel
theorem dX3_init_32 : decode cX3_init 32 = .ok (.getfield 10, 3) := by decide +kernel
theorem dX3_init_35 : decode cX3_init 35 = .ok (.invokespecial 25, 3) := by decide +kernel
theorem dX3_init_38 : decode cX3_init 38 = .ok (.putfield 28, 3) := by decide +kernel
theorem dX3_init_41 : decode cX3_init 41 = .ok (.aload_n 0, 1) := by decide +kernel
theorem dX3_init_42 : decode cX3_init 42 = .ok (.new 23, 3) := by decide +kernel
theorem dX3_init_45 : decode cX3_init 45 = .ok (.dup, 1) := by decide +kernel
theorem dX3_init_46 : decode cX3_init 46 = .ok (.aload_n 0, 1) := by decide +kernel
theorem dX3_init_47 : decode cX3_init 47 = .ok (.getfield 10, 3) := by decide +kernel
theorem dX3_init_50 : decode cX3_init 50 = .ok (.invokespecial 25, 3) := by decide +kernel
theorem dX3_init_53 : decode cX3_init 53 = .ok (.putfield 32, 3) := by decide +kernel
theorem dX3_init_56 : decode cX3_init 56 = .ok (.return_, 1) := by decide +kernel
theorem dX3_part_0 : decode cX3_part 0 = .ok (.aload_n 0, 1) := by decide +kernel
theorem dX3_part_1 : decode cX3_part 1 = .ok (.iload_n 1, 1) := by decide +kernel
theorem dX3_part_2 : decode cX3_part 2 = .ok (.invokevirtual 95, 3) := by decide +kernel
theorem dX3_part_5 : decode cX3_part 5 = .ok (.ifCond .ne 5, 3) := by decide +kernel
theorem dX3_part_8 : decode cX3_part 8 = .ok (.iconst (-1), 1) := by decide +kernel
theorem dX3_part_9 : decode cX3_part 9 = .ok (.ireturn, 1) := by decide +kernel
theorem dX3_part_10 : decode cX3_part 10 = .ok (.iload_n 2, 1) := by decide +kernel
theorem dX3_part_11 : decode cX3_part 11 = .ok (.tableswitch 86 0 4 #[33, 43, 53, 63, 73], 33) := by decide +kernel
theorem dX3_part_44 : decode cX3_part 44 = .ok (.aload_n 0, 1) := by decide +kernel
theorem dX3_part_45 : decode cX3_part 45 = .ok (.getfield 10, 3) := by decide +kernel
theorem dX3_part_48 : decode cX3_part 48 = .ok (.getfield 98, 3) := by decide +kernel
theorem dX3_part_51 : decode cX3_part 51 = .ok (.iload_n 1, 1) := by decide +kernel
theorem dX3_part_52 : decode cX3_part 52 = .ok (.iaload, 1) := by decide +kernel
theorem dX3_part_53 : decode cX3_part 53 = .ok (.ireturn, 1) := by decide +kernel
theorem dX3_part_54 : decode cX3_part 54 = .ok (.aload_n 0, 1) := by decide +kernel
theorem dX3_part_55 : decode cX3_part 55 = .ok (.getfield 10, 3) := by decide +kernel
theorem dX3_part_58 : decode cX3_part 58 = .ok (.getfield 101, 3) := by decide +kernel
theorem dX3_part_61 : decode cX3_part 61 = .ok (.iload_n 1, 1) := by decide +kernel
theorem dX3_part_62 : decode cX3_part 62 = .ok (.iaload, 1) := by decide +kernel
theorem dX3_part_63 : decode cX3_part 63 = .ok (.ireturn, 1) := by decide +kernel
theorem dX3_part_64 : decode cX3_part 64 = .ok (.aload_n 0, 1) := by decide +kernel
theorem dX3_part_65 : decode cX3_part 65 = .ok (.getfield 10, 3) := by decide +kernel
theorem dX3_part_68 : decode cX3_part 68 = .ok (.getfield 104, 3) := by decide +kernel
theorem dX3_part_71 : decode cX3_part 71 = .ok (.iload_n 1, 1) := by decide +kernel
theorem dX3_part_72 : decode cX3_part 72 = .ok (.iaload, 1) := by decide +kernel
theorem dX3_part_73 : decode cX3_part 73 = .ok (.ireturn, 1) := by decide +kernel
theorem dX3_part_74 : decode cX3_part 74 = .ok (.aload_n 0, 1) := by decide +kernel
theorem dX3_part_75 : decode cX3_part 75 = .ok (.getfield 10, 3) := by decide +kernel
theorem dX3_part_78 : decode cX3_part 78 = .ok (.getfield 107, 3) := by decide +kernel
theorem dX3_part_81 : decode cX3_part 81 = .ok (.iload_n 1, 1) := by decide +kernel
theorem dX3_part_82 : decode cX3_part 82 = .ok (.iaload, 1) := by decide +kernel
theorem dX3_part_83 : decode cX3_part 83 = .ok (.ireturn, 1) := by decide +kernel
theorem dX3_part_84 : decode cX3_part 84 = .ok (.aload_n 0, 1) := by decide +kernel
theorem dX3_part_85 : decode cX3_part 85 = .ok (.getfield 10, 3) := by decide +kernel
theorem dX3_part_88 : decode cX3_part 88 = .ok (.getfield 110, 3) := by decide +kernel
theorem dX3_part_91 : decode cX3_part 91 = .ok (.iload_n 1, 1) := by decide +kernel
theorem dX3_part_92 : decode cX3_part 92 = .ok (.laload, 1) := by decide +kernel
theorem dX3_part_93 : decode cX3_part 93 = .ok (.invokestatic 114, 3) := by decide +kernel
theorem dX3_part_96 : decode cX3_part 96 = .ok (.ireturn, 1) := by decide +kernel
theorem dX3_part_97 : decode cX3_part 97 = .ok (.iconst (-1), 1) := by decide +kernel
theorem dX3_part_98 : decode cX3_part 98 = .ok (.ireturn, 1) := by decide +kernel
theorem dX3_isTerm_0 : decode cX3_isTerm 0 = .ok (.iload_n 1, 1) := by decide +kernel
theorem dX3_isTerm_1 : decode cX3_isTerm 1 = .ok (.ifCond .lt 18, 3) := by decide +kernel
theorem dX3_isTerm_4 : decode cX3_isTerm 4 = .ok (.iload_n 1, 1) := by decide +kernel
theorem dX3_isTerm_5 : decode cX3_isTerm 5 = .ok (.aload_n 0, 1) := by decide +kernel
theorem dX3_isTerm_6 : decode cX3_isTerm 6 = .ok (.getfield 10, 3) := by decide +kernel
theorem dX3_isTerm_9 : decode cX3_isTerm 9 = .ok (.getfield 81, 3) := by decide +kernel
theorem dX3_isTerm_12 : decode cX3_isTerm 12 = .ok (.if_icmp .ge 7, 3) := by decide +kernel
theorem dX3_isTerm_15 : decode cX3_isTerm 15 = .ok (.iconst 1, 1) := by decide +kernel
theorem dX3_isTerm_16 : decode cX3_isTerm 16 = .ok (.goto 4, 3) := by decide +kernel
theorem dX3_isTerm_19 : decode cX3_isTerm 19 = .ok (.iconst 0, 1) := by decide +kernel
theorem dX3_isTerm_20 : decode cX3_isTerm 20 = .ok (.ireturn, 1) := by decide +kernel
theorem dX3_undo_0 : decode cX3_undo 0 = .ok (.aload_n 0, 1) := by decide +kernel
theorem dX3_undo_1 : decode cX3_undo 1 = .ok (.getfield 19, 3) := by decide +kernel
theorem dX3_undo_4 : decode cX3_undo 4 = .ok (.getfield 123, 3) := by decide +kernel
theorem dX3_undo_7 : decode cX3_undo 7 = .ok (.ifCond .ne 5, 3) := by decide +kernel
theorem dX3_undo_10 : decode cX3_undo 10 = .ok (.iconst 0, 1) := by decide +kernel
theorem dX3_undo_11 : decode cX3_undo 11 = .ok (.ireturn, 1) := by decide +kernel
theorem dX3_undo_12 : decode cX3_undo 12 = .ok (.aload_n 0, 1) := by decide +kernel
theorem dX3_undo_13 : decode cX3_undo 13 = .ok (.getfield 19, 3) := by decide +kernel
theorem dX3_undo_16 : decode cX3_undo 16 = .ok (.dup, 1) := by decide +kernel
theorem dX3_undo_17 : decode cX3_undo 17 = .ok (.getfield 123, 3) := by decide +kernel
theorem dX3_undo_20 : decode cX3_undo 20 = .ok (.iconst 1, 1) := by decide +kernel
theorem dX3_undo_21 : decode cX3_undo 21 = .ok (.isub, 1) := by decide +kernel
theorem dX3_undo_22 : decode cX3_undo 22 = .ok (.putfield 123, 3) := by decide +kernel
theorem dX3_undo_25 : decode cX3_undo 25 = .ok (.iconst 1, 1) := by decide +kernel
theorem dX3_undo_26 : decode cX3_undo 26 = .ok (.ireturn, 1) := by decide +kernel
theorem dX3_clashes_0 : decode cX3_clashes 0 = .ok (.aload_n 0, 1) := by decide +kernel
theorem dX3_clashes_1 : decode cX3_clashes 1 = .ok (.getfield 19, 3) := by decide +kernel
theorem dX3_clashes_4 : decode cX3_clashes 4 = .ok (.invokevirtual 129, 3) := by decide +kernel
theorem dX3_clashes_7 : decode cX3_clashes 7 = .ok (.lstore_n 1, 1) := by decide +kernel
theorem dX3_clashes_8 : decode cX3_clashes 8 = .ok (.aload_n 0, 1) := by decide +kernel
theorem dX3_clashes_9 : decode cX3_clashes 9 = .ok (.lload_n 1, 1) := by decide +kernel
theorem dX3_clashes_10 : decode cX3_clashes 10 = .ok (.invokevirtual 133, 3) := by decide +kernel
theorem dX3_clashes_13 : decode cX3_clashes 13 = .ok (.aload_n 0, 1) := by decide +kernel
theorem dX3_clashes_14 : decode cX3_clashes 14 = .ok (.lload_n 1, 1) := by decide +kernel
theorem dX3_clashes_15 : decode cX3_clashes 15 = .ok (.invokevirtual 141, 3) := by decide +kernel
theorem dX3_clashes_18 : decode cX3_clashes 18 = .ok (.ireturn, 1) := by decide +kernel
theorem dX3_gather_0 : decode cX3_gather 0 = .ok (.aload_n 0, 1) := by decide +kernel
theorem dX3_gather_1 : decode cX3_gather 1 = .ok (.getfield 32, 3) := by decide +kernel
theorem dX3_gather_4 : decode cX3_gather 4 = .ok (.aload_n 0, 1) := by decide +kernel
theorem dX3_gather_5 : decode cX3_gather 5 = .ok (.getfield 28, 3) := by decide +kernel
theorem dX3_gather_8 : decode cX3_gather 8 = .ok (.invokevirtual 166, 3) := by decide +kernel
theorem dX3_gather_11 : decode cX3_gather 11 = .ok (.iconst 0, 1) := by decide +kernel
theorem dX3_gather_12 : decode cX3_gather 12 = .ok (.istore_n 3, 1) := by decide +kernel
theorem dX3_gather_13 : decode cX3_gather 13 = .ok (.iload_n 3, 1) := by decide +kernel
theorem dX3_gather_14 : decode cX3_gather 14 = .ok (.aload_n 0, 1) := by decide +kernel
theorem dX3_gather_15 : decode cX3_gather 15 = .ok (.getfield 19, 3) := by decide +kernel
theorem dX3_gather_18 : decode cX3_gather 18 = .ok (.getfield 123, 3) := by decide +kernel
theorem dX3_gather_21 : decode cX3_gather 21 = .ok (.if_icmp .ge 57, 3) := by decide +kernel
theorem dX3_gather_24 : decode cX3_gather 24 = .ok (.aload_n 0, 1) := by decide +kernel
theorem dX3_gather_25 : decode cX3_gather 25 = .ok (.getfield 19, 3) := by decide +kernel
theorem dX3_gather_28 : decode cX3_gather 28 = .ok (.getfield 170, 3) := by decide +kernel
theorem dX3_gather_31 : decode cX3_gather 31 = .ok (.iload_n 3, 1) := by decide +kernel
theorem dX3_gather_32 : decode cX3_gather 32 = .ok (.baload, 1) := by decide +kernel
theorem dX3_gather_33 : decode cX3_gather 33 = .ok (.ifCond .eq 39, 3) := by decide +kernel
theorem dX3_gather_36 : decode cX3_gather 36 = .ok (.lload_n 1, 1) := by decide +kernel
theorem dX3_gather_37 : decode cX3_gather 37 = .ok (.iload_n 3, 1) := by decide +kernel
theorem dX3_gather_38 : decode cX3_gather 38 = .ok (.lshr, 1) := by decide +kernel
theorem dX3_gather_39 : decode cX3_gather 39 = .ok (.lconst 1, 1) := by decide +kernel
theorem dX3_gather_40 : decode cX3_gather 40 = .ok (.land, 1) := by decide +kernel
theorem dX3_gather_41 : decode cX3_gather 41 = .ok (.lconst 0, 1) := by decide +kernel
theorem dX3_gather_42 : decode cX3_gather 42 = .ok (.lcmp, 1) := by decide +kernel
theorem dX3_gather_43 : decode cX3_gather 43 = .ok (.ifCond .eq 29, 3) := by decide +kernel
theorem dX3_gather_46 : decode cX3_gather 46 = .ok (.aload_n 0, 1) := by decide +kernel
theorem dX3_gather_47 : decode cX3_gather 47 = .ok (.getfield 32, 3) := by decide +kernel
theorem dX3_gather_50 : decode cX3_gather 50 = .ok (.aload_n 0, 1) := by decide +kernel
theorem dX3_gather_51 : decode cX3_gather 51 = .ok (.getfield 19, 3) := by decide +kernel
theorem dX3_gather_54 : decode cX3_gather 54 = .ok (.getfield 173, 3) := by decide +kernel
theorem dX3_gather_57 : decode cX3_gather 57 = .ok (.iload_n 3, 1) := by decide +kernel
theorem dX3_gather_58 : decode cX3_gather 58 = .ok (.iaload, 1) := by decide +kernel
theorem dX3_gather_59 : decode cX3_gather 59 = .ok (.aload_n 0, 1) := by decide +kernel
theorem dX3_gather_60 : decode cX3_gather 60 = .ok (.getfield 19, 3) := by decide +kernel
theorem dX3_gather_63 : decode cX3_gather 63 = .ok (.getfield 176, 3) := by decide +kernel
theorem dX3_gather_66 : decode cX3_gather 66 = .ok (.iload_n 3, 1) := by decide +kernel
theorem dX3_gather_67 : decode cX3_gather 67 = .ok (.iaload, 1) := by decide +kernel
theorem dX3_gather_68 : decode cX3_gather 68 = .ok (.invokevirtual 145, 3) := by decide +kernel
theorem dX3_gather_71 : decode cX3_gather 71 = .ok (.pop, 1) := by decide +kernel
theorem dX3_gather_72 : decode cX3_gather 72 = .ok (.iinc 3 1, 3) := by decide +kernel
theorem dX3_gather_75 : decode cX3_gather 75 = .ok (.goto (-62), 3) := by decide +kernel
theorem dX3_gather_78 : decode cX3_gather 78 = .ok (.return_, 1) := by decide +kernel
theorem dX3_leastOf_0 : decode cX3_leastOf 0 = .ok (.lload_n 0, 1) := by decide +kernel
theorem dX3_leastOf_1 : decode cX3_leastOf 1 = .ok (.lconst 0, 1) := by decide +kernel
theorem dX3_leastOf_2 : decode cX3_leastOf 2 = .ok (.lcmp, 1) := by decide +kernel
theorem dX3_leastOf_3 : decode cX3_leastOf 3 = .ok (.ifCond .ne 7, 3) := by decide +kernel
theorem dX3_leastOf_6 : decode cX3_leastOf 6 = .ok (.iconst (-1), 1) := by decide +kernel
theorem dX3_leastOf_7 : decode cX3_leastOf 7 = .ok (.goto 7, 3) := by decide +kernel
theorem dX3_leastOf_10 : decode cX3_leastOf 10 = .ok (.lload_n 0, 1) := by decide +kernel
theorem dX3_leastOf_11 : decode cX3_leastOf 11 = .ok (.invokestatic 184, 3) := by decide +kernel
theorem dX3_leastOf_14 : decode cX3_leastOf 14 = .ok (.ireturn, 1) := by decide +kernel
theorem dX3_isBroken_0 : decode cX3_isBroken 0 = .ok (.aload_n 0, 1) := by decide +kernel
theorem dX3_isBroken_1 : decode cX3_isBroken 1 = .ok (.getfield 32, 3) := by decide +kernel
theorem dX3_isBroken_4 : decode cX3_isBroken 4 = .ok (.getfield 187, 3) := by decide +kernel
theorem dX3_isBroken_7 : decode cX3_isBroken 7 = .ok (.ifCond .ne 21, 3) := by decide +kernel
theorem dX3_isBroken_10 : decode cX3_isBroken 10 = .ok (.aload_n 0, 1) := by decide +kernel
theorem dX3_isBroken_11 : decode cX3_isBroken 11 = .ok (.lload_n 1, 1) := by decide +kernel
theorem dX3_isBroken_12 : decode cX3_isBroken 12 = .ok (.invokevirtual 191, 3) := by decide +kernel
theorem dX3_isBroken_15 : decode cX3_isBroken 15 = .ok (.ifCond .ne 13, 3) := by decide +kernel
theorem dX3_isBroken_18 : decode cX3_isBroken 18 = .ok (.aload_n 0, 1) := by decide +kernel
theorem dX3_isBroken_19 : decode cX3_isBroken 19 = .ok (.getfield 32, 3) := by decide +kernel
theorem dX3_isBroken_22 : decode cX3_isBroken 22 = .ok (.invokevirtual 194, 3) := by decide +kernel
theorem dX3_isBroken_25 : decode cX3_isBroken 25 = .ok (.ifCond .eq 7, 3) := by decide +kernel
theorem dX3_isBroken_28 : decode cX3_isBroken 28 = .ok (.iconst 1, 1) := by decide +kernel
theorem dX3_isBroken_29 : decode cX3_isBroken 29 = .ok (.goto 4, 3) := by decide +kernel
theorem dX3_isBroken_32 : decode cX3_isBroken 32 = .ok (.iconst 0, 1) := by decide +kernel
theorem dX3_isBroken_33 : decode cX3_isBroken 33 = .ok (.ireturn, 1) := by decide +kernel
theorem dX3_isOtherBroken_0 : decode cX3_isOtherBroken 0 = .ok (.iconst 0, 1) := by decide +kernel
theorem dX3_isOtherBroken_1 : decode cX3_isOtherBroken 1 = .ok (.istore_n 3, 1) := by decide +kernel
theorem dX3_isOtherBroken_2 : decode cX3_isOtherBroken 2 = .ok (.iload_n 3, 1) := by decide +kernel
theorem dX3_isOtherBroken_3 : decode cX3_isOtherBroken 3 = .ok (.aload_n 0, 1) := by decide +kernel
theorem dX3_isOtherBroken_4 : decode cX3_isOtherBroken 4 = .ok (.getfield 19, 3) := by decide +kernel
theorem dX3_isOtherBroken_7 : decode cX3_isOtherBroken 7 = .ok (.getfield 123, 3) := by decide +kernel
theorem dX3_isOtherBroken_10 : decode cX3_isOtherBroken 10 = .ok (.if_icmp .ge 61, 3) := by decide +kernel
theorem dX3_isOtherBroken_13 : decode cX3_isOtherBroken 13 = .ok (.aload_n 0, 1) := by decide +kernel
theorem dX3_isOtherBroken_14 : decode cX3_isOtherBroken 14 = .ok (.getfield 19, 3) := by decide +kernel
theorem dX3_isOtherBroken_17 : decode cX3_isOtherBroken 17 = .ok (.getfield 170, 3) := by decide +kernel
theorem dX3_isOtherBroken_20 : decode cX3_isOtherBroken 20 = .ok (.iload_n 3, 1) := by decide +kernel
theorem dX3_isOtherBroken_21 : decode cX3_isOtherBroken 21 = .ok (.baload, 1) := by decide +kernel
theorem dX3_isOtherBroken_22 : decode cX3_isOtherBroken 22 = .ok (.ifCond .ne 43, 3) := by decide +kernel
theorem dX3_isOtherBroken_25 : decode cX3_isOtherBroken 25 = .ok (.lload_n 1, 1) := by decide +kernel
theorem dX3_isOtherBroken_26 : decode cX3_isOtherBroken 26 = .ok (.iload_n 3, 1) := by decide +kernel
theorem dX3_isOtherBroken_27 : decode cX3_isOtherBroken 27 = .ok (.lshr, 1) := by decide +kernel
theorem dX3_isOtherBroken_28 : decode cX3_isOtherBroken 28 = .ok (.lconst 1, 1) := by decide +kernel
theorem dX3_isOtherBroken_29 : decode cX3_isOtherBroken 29 = .ok (.land, 1) := by decide +kernel
theorem dX3_isOtherBroken_30 : decode cX3_isOtherBroken 30 = .ok (.lconst 0, 1) := by decide +kernel
theorem dX3_isOtherBroken_31 : decode cX3_isOtherBroken 31 = .ok (.lcmp, 1) := by decide +kernel
theorem dX3_isOtherBroken_32 : decode cX3_isOtherBroken 32 = .ok (.ifCond .eq 33, 3) := by decide +kernel
theorem dX3_isOtherBroken_35 : decode cX3_isOtherBroken 35 = .ok (.aload_n 0, 1) := by decide +kernel
theorem dX3_isOtherBroken_36 : decode cX3_isOtherBroken 36 = .ok (.getfield 32, 3) := by decide +kernel
theorem dX3_isOtherBroken_39 : decode cX3_isOtherBroken 39 = .ok (.aload_n 0, 1) := by decide +kernel
theorem dX3_isOtherBroken_40 : decode cX3_isOtherBroken 40 = .ok (.getfield 19, 3) := by decide +kernel
theorem dX3_isOtherBroken_43 : decode cX3_isOtherBroken 43 = .ok (.getfield 173, 3) := by decide +kernel
theorem dX3_isOtherBroken_46 : decode cX3_isOtherBroken 46 = .ok (.iload_n 3, 1) := by decide +kernel
theorem dX3_isOtherBroken_47 : decode cX3_isOtherBroken 47 = .ok (.iaload, 1) := by decide +kernel
theorem dX3_isOtherBroken_48 : decode cX3_isOtherBroken 48 = .ok (.aload_n 0, 1) := by decide +kernel
theorem dX3_isOtherBroken_49 : decode cX3_isOtherBroken 49 = .ok (.getfield 19, 3) := by decide +kernel
theorem dX3_isOtherBroken_52 : decode cX3_isOtherBroken 52 = .ok (.getfield 176, 3) := by decide +kernel
theorem dX3_isOtherBroken_55 : decode cX3_isOtherBroken 55 = .ok (.iload_n 3, 1) := by decide +kernel
theorem dX3_isOtherBroken_56 : decode cX3_isOtherBroken 56 = .ok (.iaload, 1) := by decide +kernel
theorem dX3_isOtherBroken_57 : decode cX3_isOtherBroken 57 = .ok (.invokevirtual 137, 3) := by decide +kernel
theorem dX3_isOtherBroken_60 : decode cX3_isOtherBroken 60 = .ok (.ifCond .eq 5, 3) := by decide +kernel
theorem dX3_isOtherBroken_63 : decode cX3_isOtherBroken 63 = .ok (.iconst 1, 1) := by decide +kernel
theorem dX3_isOtherBroken_64 : decode cX3_isOtherBroken 64 = .ok (.ireturn, 1) := by decide +kernel
theorem dX3_isOtherBroken_65 : decode cX3_isOtherBroken 65 = .ok (.iinc 3 1, 3) := by decide +kernel
theorem dX3_isOtherBroken_68 : decode cX3_isOtherBroken 68 = .ok (.goto (-66), 3) := by decide +kernel
theorem dX3_isOtherBroken_71 : decode cX3_isOtherBroken 71 = .ok (.iconst 0, 1) := by decide +kernel
theorem dX3_isOtherBroken_72 : decode cX3_isOtherBroken 72 = .ok (.ireturn, 1) := by decide +kernel
theorem dX3_clash_0 : decode cX3_clash 0 = .ok (.aload_n 0, 1) := by decide +kernel
theorem dX3_clash_1 : decode cX3_clash 1 = .ok (.iconst (-1), 1) := by decide +kernel
theorem dX3_clash_2 : decode cX3_clash 2 = .ok (.iconst (-1), 1) := by decide +kernel
theorem dX3_clash_3 : decode cX3_clash 3 = .ok (.invokevirtual 162, 3) := by decide +kernel
theorem dX3_clash_6 : decode cX3_clash 6 = .ok (.lreturn, 1) := by decide +kernel
theorem dX3_reasonOf_0 : decode cX3_reasonOf 0 = .ok (.lconst 0, 1) := by decide +kernel
theorem dX3_reasonOf_1 : decode cX3_reasonOf 1 = .ok (.lstore_n 3, 1) := by decide +kernel
theorem dX3_reasonOf_2 : decode cX3_reasonOf 2 = .ok (.aload_n 0, 1) := by decide +kernel
theorem dX3_reasonOf_3 : decode cX3_reasonOf 3 = .ok (.getfield 19, 3) := by decide +kernel
theorem dX3_reasonOf_6 : decode cX3_reasonOf 6 = .ok (.getfield 123, 3) := by decide +kernel
theorem dX3_reasonOf_9 : decode cX3_reasonOf 9 = .ok (.istore 5, 2) := by decide +kernel
theorem dX3_reasonOf_11 : decode cX3_reasonOf 11 = .ok (.iconst 0, 1) := by decide +kernel
theorem dX3_reasonOf_12 : decode cX3_reasonOf 12 = .ok (.istore 6, 2) := by decide +kernel
theorem dX3_reasonOf_14 : decode cX3_reasonOf 14 = .ok (.iload 6, 2) := by decide +kernel
theorem dX3_reasonOf_16 : decode cX3_reasonOf 16 = .ok (.bipush 40, 2) := by decide +kernel
theorem dX3_reasonOf_18 : decode cX3_reasonOf 18 = .ok (.if_icmp .gt 50, 3) := by decide +kernel
theorem dX3_reasonOf_21 : decode cX3_reasonOf 21 = .ok (.aload_n 0, 1) := by decide +kernel
theorem dX3_reasonOf_22 : decode cX3_reasonOf 22 = .ok (.lload_n 3, 1) := by decide +kernel
theorem dX3_reasonOf_23 : decode cX3_reasonOf 23 = .ok (.iload 5, 2) := by decide +kernel
theorem dX3_reasonOf_25 : decode cX3_reasonOf 25 = .ok (.iload_n 1, 1) := by decide +kernel
theorem dX3_reasonOf_26 : decode cX3_reasonOf 26 = .ok (.iload_n 2, 1) := by decide +kernel
theorem dX3_reasonOf_27 : decode cX3_reasonOf 27 = .ok (.invokevirtual 198, 3) := by decide +kernel
theorem dX3_reasonOf_30 : decode cX3_reasonOf 30 = .ok (.istore 7, 2) := by decide +kernel
theorem dX3_reasonOf_32 : decode cX3_reasonOf 32 = .ok (.iload 7, 2) := by decide +kernel
theorem dX3_reasonOf_34 : decode cX3_reasonOf 34 = .ok (.iconst (-1), 1) := by decide +kernel
theorem dX3_reasonOf_35 : decode cX3_reasonOf 35 = .ok (.if_icmp .ne 7, 3) := by decide +kernel
theorem dX3_reasonOf_38 : decode cX3_reasonOf 38 = .ok (.ldc2_w 202, 3) := by decide +kernel
theorem dX3_reasonOf_41 : decode cX3_reasonOf 41 = .ok (.lreturn, 1) := by decide +kernel
theorem dX3_reasonOf_42 : decode cX3_reasonOf 42 = .ok (.iload 7, 2) := by decide +kernel
theorem dX3_reasonOf_44 : decode cX3_reasonOf 44 = .ok (.ifCond .ne 5, 3) := by decide +kernel
theorem dX3_reasonOf_47 : decode cX3_reasonOf 47 = .ok (.lload_n 3, 1) := by decide +kernel
theorem dX3_reasonOf_48 : decode cX3_reasonOf 48 = .ok (.lreturn, 1) := by decide +kernel
theorem dX3_reasonOf_49 : decode cX3_reasonOf 49 = .ok (.iload 7, 2) := by decide +kernel
theorem dX3_reasonOf_51 : decode cX3_reasonOf 51 = .ok (.iconst 1, 1) := by decide +kernel
theorem dX3_reasonOf_52 : decode cX3_reasonOf 52 = .ok (.isub, 1) := by decide +kernel
theorem dX3_reasonOf_53 : decode cX3_reasonOf 53 = .ok (.istore 5, 2) := by decide +kernel
theorem dX3_reasonOf_55 : decode cX3_reasonOf 55 = .ok (.lload_n 3, 1) := by decide +kernel
theorem dX3_reasonOf_56 : decode cX3_reasonOf 56 = .ok (.lconst 1, 1) := by decide +kernel
theorem dX3_reasonOf_57 : decode cX3_reasonOf 57 = .ok (.iload 5, 2) := by decide +kernel
theorem dX3_reasonOf_59 : decode cX3_reasonOf 59 = .ok (.lshl, 1) := by decide +kernel
theorem dX3_reasonOf_60 : decode cX3_reasonOf 60 = .ok (.lor, 1) := by decide +kernel
theorem dX3_reasonOf_61 : decode cX3_reasonOf 61 = .ok (.lstore_n 3, 1) := by decide +kernel
theorem dX3_reasonOf_62 : decode cX3_reasonOf 62 = .ok (.iinc 6 1, 3) := by decide +kernel
theorem dX3_reasonOf_65 : decode cX3_reasonOf 65 = .ok (.goto (-51), 3) := by decide +kernel
theorem dX3_reasonOf_68 : decode cX3_reasonOf 68 = .ok (.lload_n 3, 1) := by decide +kernel
theorem dX3_reasonOf_69 : decode cX3_reasonOf 69 = .ok (.lreturn, 1) := by decide +kernel
theorem dX3_fewestAhead_0 : decode cX3_fewestAhead 0 = .ok (.aload_n 0, 1) := by decide +kernel
theorem dX3_fewestAhead_1 : decode cX3_fewestAhead 1 = .ok (.lload_n 1, 1) := by decide +kernel
theorem dX3_fewestAhead_2 : decode cX3_fewestAhead 2 = .ok (.invokevirtual 133, 3) := by decide +kernel
theorem dX3_fewestAhead_5 : decode cX3_fewestAhead 5 = .ok (.aload_n 0, 1) := by decide +kernel
theorem dX3_fewestAhead_6 : decode cX3_fewestAhead 6 = .ok (.lload_n 1, 1) := by decide +kernel
theorem dX3_fewestAhead_7 : decode cX3_fewestAhead 7 = .ok (.iload 4, 2) := by decide +kernel
theorem dX3_fewestAhead_9 : decode cX3_fewestAhead 9 = .ok (.iload 5, 2) := by decide +kernel
theorem dX3_fewestAhead_11 : decode cX3_fewestAhead 11 = .ok (.invokevirtual 204, 3) := by decide +kernel
theorem dX3_fewestAhead_14 : decode cX3_fewestAhead 14 = .ok (.ifCond .eq 5, 3) := by decide +kernel
theorem dX3_fewestAhead_17 : decode cX3_fewestAhead 17 = .ok (.iconst 0, 1) := by decide +kernel
theorem dX3_fewestAhead_18 : decode cX3_fewestAhead 18 = .ok (.ireturn, 1) := by decide +kernel
theorem dX3_fewestAhead_19 : decode cX3_fewestAhead 19 = .ok (.lload_n 1, 1) := by decide +kernel
theorem dX3_fewestAhead_20 : decode cX3_fewestAhead 20 = .ok (.lstore 6, 2) := by decide +kernel
theorem dX3_fewestAhead_22 : decode cX3_fewestAhead 22 = .ok (.iconst 0, 1) := by decide +kernel
theorem dX3_fewestAhead_23 : decode cX3_fewestAhead 23 = .ok (.istore 8, 2) := by decide +kernel
theorem dX3_fewestAhead_25 : decode cX3_fewestAhead 25 = .ok (.iload 8, 2) := by decide +kernel
theorem dX3_fewestAhead_27 : decode cX3_fewestAhead 27 = .ok (.iload_n 3, 1) := by decide +kernel
theorem dX3_fewestAhead_28 : decode cX3_fewestAhead 28 = .ok (.if_icmp .ge 45, 3) := by decide +kernel
theorem dX3_fewestAhead_31 : decode cX3_fewestAhead 31 = .ok (.lload 6, 2) := by decide +kernel
theorem dX3_fewestAhead_33 : decode cX3_fewestAhead 33 = .ok (.lconst 1, 1) := by decide +kernel
theorem dX3_fewestAhead_34 : decode cX3_fewestAhead 34 = .ok (.iload 8, 2) := by decide +kernel
theorem dX3_fewestAhead_36 : decode cX3_fewestAhead 36 = .ok (.lshl, 1) := by decide +kernel
theorem dX3_fewestAhead_37 : decode cX3_fewestAhead 37 = .ok (.lor, 1) := by decide +kernel
theorem dX3_fewestAhead_38 : decode cX3_fewestAhead 38 = .ok (.lstore 6, 2) := by decide +kernel
theorem dX3_fewestAhead_40 : decode cX3_fewestAhead 40 = .ok (.aload_n 0, 1) := by decide +kernel
theorem dX3_fewestAhead_41 : decode cX3_fewestAhead 41 = .ok (.iload 8, 2) := by decide +kernel
theorem dX3_fewestAhead_43 : decode cX3_fewestAhead 43 = .ok (.invokevirtual 208, 3) := by decide +kernel
theorem dX3_fewestAhead_46 : decode cX3_fewestAhead 46 = .ok (.ifCond .eq 21, 3) := by decide +kernel
theorem dX3_fewestAhead_49 : decode cX3_fewestAhead 49 = .ok (.aload_n 0, 1) := by decide +kernel
theorem dX3_fewestAhead_50 : decode cX3_fewestAhead 50 = .ok (.lload 6, 2) := by decide +kernel
theorem dX3_fewestAhead_52 : decode cX3_fewestAhead 52 = .ok (.iload 4, 2) := by decide +kernel
theorem dX3_fewestAhead_54 : decode cX3_fewestAhead 54 = .ok (.iload 5, 2) := by decide +kernel
theorem dX3_fewestAhead_56 : decode cX3_fewestAhead 56 = .ok (.invokevirtual 204, 3) := by decide +kernel
theorem dX3_fewestAhead_59 : decode cX3_fewestAhead 59 = .ok (.ifCond .eq 8, 3) := by decide +kernel
theorem dX3_fewestAhead_62 : decode cX3_fewestAhead 62 = .ok (.iload 8, 2) := by decide +kernel
theorem dX3_fewestAhead_64 : decode cX3_fewestAhead 64 = .ok (.iconst 1, 1) := by decide +kernel
theorem dX3_fewestAhead_65 : decode cX3_fewestAhead 65 = .ok (.iadd, 1) := by decide +kernel
theorem dX3_fewestAhead_66 : decode cX3_fewestAhead 66 = .ok (.ireturn, 1) := by decide +kernel
theorem dX3_fewestAhead_67 : decode cX3_fewestAhead 67 = .ok (.iinc 8 1, 3) := by decide +kernel
theorem dX3_fewestAhead_70 : decode cX3_fewestAhead 70 = .ok (.goto (-45), 3) := by decide +kernel
theorem dX3_fewestAhead_73 : decode cX3_fewestAhead 73 = .ok (.iconst (-1), 1) := by decide +kernel
theorem dX3_fewestAhead_74 : decode cX3_fewestAhead 74 = .ok (.ireturn, 1) := by decide +kernel
theorem dX3_isReached_0 : decode cX3_isReached 0 = .ok (.iload_n 3, 1) := by decide +kernel
theorem dX3_isReached_1 : decode cX3_isReached 1 = .ok (.iconst (-1), 1) := by decide +kernel
theorem dX3_isReached_2 : decode cX3_isReached 2 = .ok (.if_icmp .ne 11, 3) := by decide +kernel
theorem dX3_isReached_5 : decode cX3_isReached 5 = .ok (.aload_n 0, 1) := by decide +kernel
theorem dX3_isReached_6 : decode cX3_isReached 6 = .ok (.lload_n 1, 1) := by decide +kernel
theorem dX3_isReached_7 : decode cX3_isReached 7 = .ok (.invokevirtual 141, 3) := by decide +kernel
theorem dX3_isReached_10 : decode cX3_isReached 10 = .ok (.goto 13, 3) := by decide +kernel
theorem dX3_isReached_13 : decode cX3_isReached 13 = .ok (.aload_n 0, 1) := by decide +kernel
theorem dX3_isReached_14 : decode cX3_isReached 14 = .ok (.getfield 32, 3) := by decide +kernel
theorem dX3_isReached_17 : decode cX3_isReached 17 = .ok (.iload_n 3, 1) := by decide +kernel
theorem dX3_isReached_18 : decode cX3_isReached 18 = .ok (.iload 4, 2) := by decide +kernel
theorem dX3_isReached_20 : decode cX3_isReached 20 = .ok (.invokevirtual 137, 3) := by decide +kernel
theorem dX3_isReached_23 : decode cX3_isReached 23 = .ok (.ireturn, 1) := by decide +kernel
theorem dX3_putIn_0 : decode cX3_putIn 0 = .ok (.aload_n 0, 1) := by decide +kernel
theorem dX3_putIn_1 : decode cX3_putIn 1 = .ok (.getfield 19, 3) := by decide +kernel
theorem dX3_putIn_4 : decode cX3_putIn 4 = .ok (.getfield 170, 3) := by decide +kernel
theorem dX3_putIn_7 : decode cX3_putIn 7 = .ok (.iload_n 1, 1) := by decide +kernel
theorem dX3_putIn_8 : decode cX3_putIn 8 = .ok (.baload, 1) := by decide +kernel
theorem dX3_putIn_9 : decode cX3_putIn 9 = .ok (.ifCond .eq 31, 3) := by decide +kernel
theorem dX3_putIn_12 : decode cX3_putIn 12 = .ok (.aload_n 0, 1) := by decide +kernel
theorem dX3_putIn_13 : decode cX3_putIn 13 = .ok (.getfield 32, 3) := by decide +kernel
theorem dX3_putIn_16 : decode cX3_putIn 16 = .ok (.aload_n 0, 1) := by decide +kernel
theorem dX3_putIn_17 : decode cX3_putIn 17 = .ok (.getfield 19, 3) := by decide +kernel
theorem dX3_putIn_20 : decode cX3_putIn 20 = .ok (.getfield 173, 3) := by decide +kernel
theorem dX3_putIn_23 : decode cX3_putIn 23 = .ok (.iload_n 1, 1) := by decide +kernel
theorem dX3_putIn_24 : decode cX3_putIn 24 = .ok (.iaload, 1) := by decide +kernel
theorem dX3_putIn_25 : decode cX3_putIn 25 = .ok (.aload_n 0, 1) := by decide +kernel
theorem dX3_putIn_26 : decode cX3_putIn 26 = .ok (.getfield 19, 3) := by decide +kernel
theorem dX3_putIn_29 : decode cX3_putIn 29 = .ok (.getfield 176, 3) := by decide +kernel
theorem dX3_putIn_32 : decode cX3_putIn 32 = .ok (.iload_n 1, 1) := by decide +kernel
theorem dX3_putIn_33 : decode cX3_putIn 33 = .ok (.iaload, 1) := by decide +kernel
theorem dX3_putIn_34 : decode cX3_putIn 34 = .ok (.invokevirtual 145, 3) := by decide +kernel
theorem dX3_putIn_37 : decode cX3_putIn 37 = .ok (.ifCond .eq 7, 3) := by decide +kernel
theorem dX3_putIn_40 : decode cX3_putIn 40 = .ok (.iconst 1, 1) := by decide +kernel
theorem dX3_putIn_41 : decode cX3_putIn 41 = .ok (.goto 4, 3) := by decide +kernel
theorem dX3_putIn_44 : decode cX3_putIn 44 = .ok (.iconst 0, 1) := by decide +kernel
theorem dX3_putIn_45 : decode cX3_putIn 45 = .ok (.ireturn, 1) := by decide +kernel
theorem dX3_idle_0 : decode cX3_idle 0 = .ok (.lconst 0, 1) := by decide +kernel
theorem dX3_idle_1 : decode cX3_idle 1 = .ok (.lstore_n 1, 1) := by decide +kernel
theorem dX3_idle_2 : decode cX3_idle 2 = .ok (.aload_n 0, 1) := by decide +kernel
theorem dX3_idle_3 : decode cX3_idle 3 = .ok (.getfield 32, 3) := by decide +kernel
theorem dX3_idle_6 : decode cX3_idle 6 = .ok (.aload_n 0, 1) := by decide +kernel
theorem dX3_idle_7 : decode cX3_idle 7 = .ok (.getfield 28, 3) := by decide +kernel
theorem dX3_idle_10 : decode cX3_idle 10 = .ok (.invokevirtual 166, 3) := by decide +kernel
theorem dX3_idle_13 : decode cX3_idle 13 = .ok (.iconst 0, 1) := by decide +kernel
theorem dX3_idle_14 : decode cX3_idle 14 = .ok (.istore_n 3, 1) := by decide +kernel
theorem dX3_idle_15 : decode cX3_idle 15 = .ok (.iload_n 3, 1) := by decide +kernel
theorem dX3_idle_16 : decode cX3_idle 16 = .ok (.aload_n 0, 1) := by decide +kernel
theorem dX3_idle_17 : decode cX3_idle 17 = .ok (.getfield 19, 3) := by decide +kernel
theorem dX3_idle_20 : decode cX3_idle 20 = .ok (.getfield 123, 3) := by decide +kernel
theorem dX3_idle_23 : decode cX3_idle 23 = .ok (.if_icmp .ge 55, 3) := by decide +kernel
theorem dX3_idle_26 : decode cX3_idle 26 = .ok (.aload_n 0, 1) := by decide +kernel
theorem dX3_idle_27 : decode cX3_idle 27 = .ok (.getfield 19, 3) := by decide +kernel
theorem dX3_idle_30 : decode cX3_idle 30 = .ok (.getfield 170, 3) := by decide +kernel
theorem dX3_idle_33 : decode cX3_idle 33 = .ok (.iload_n 3, 1) := by decide +kernel
theorem dX3_idle_34 : decode cX3_idle 34 = .ok (.baload, 1) := by decide +kernel
theorem dX3_idle_35 : decode cX3_idle 35 = .ok (.ifCond .eq 37, 3) := by decide +kernel
theorem dX3_idle_38 : decode cX3_idle 38 = .ok (.aload_n 0, 1) := by decide +kernel
theorem dX3_idle_39 : decode cX3_idle 39 = .ok (.getfield 32, 3) := by decide +kernel
theorem dX3_idle_42 : decode cX3_idle 42 = .ok (.aload_n 0, 1) := by decide +kernel
theorem dX3_idle_43 : decode cX3_idle 43 = .ok (.getfield 19, 3) := by decide +kernel
theorem dX3_idle_46 : decode cX3_idle 46 = .ok (.getfield 173, 3) := by decide +kernel
theorem dX3_idle_49 : decode cX3_idle 49 = .ok (.iload_n 3, 1) := by decide +kernel
theorem dX3_idle_50 : decode cX3_idle 50 = .ok (.iaload, 1) := by decide +kernel
theorem dX3_idle_51 : decode cX3_idle 51 = .ok (.aload_n 0, 1) := by decide +kernel
theorem dX3_idle_52 : decode cX3_idle 52 = .ok (.getfield 19, 3) := by decide +kernel
theorem dX3_idle_55 : decode cX3_idle 55 = .ok (.getfield 176, 3) := by decide +kernel
theorem dX3_idle_58 : decode cX3_idle 58 = .ok (.iload_n 3, 1) := by decide +kernel
theorem dX3_idle_59 : decode cX3_idle 59 = .ok (.iaload, 1) := by decide +kernel
theorem dX3_idle_60 : decode cX3_idle 60 = .ok (.invokevirtual 145, 3) := by decide +kernel
theorem dX3_idle_63 : decode cX3_idle 63 = .ok (.ifCond .ne 9, 3) := by decide +kernel
theorem dX3_idle_66 : decode cX3_idle 66 = .ok (.lload_n 1, 1) := by decide +kernel
theorem dX3_idle_67 : decode cX3_idle 67 = .ok (.lconst 1, 1) := by decide +kernel
theorem dX3_idle_68 : decode cX3_idle 68 = .ok (.iload_n 3, 1) := by decide +kernel
theorem dX3_idle_69 : decode cX3_idle 69 = .ok (.lshl, 1) := by decide +kernel
theorem dX3_idle_70 : decode cX3_idle 70 = .ok (.lor, 1) := by decide +kernel
theorem dX3_idle_71 : decode cX3_idle 71 = .ok (.lstore_n 1, 1) := by decide +kernel
theorem dX3_idle_72 : decode cX3_idle 72 = .ok (.iinc 3 1, 3) := by decide +kernel
theorem dX3_idle_75 : decode cX3_idle 75 = .ok (.goto (-60), 3) := by decide +kernel
theorem dX3_idle_78 : decode cX3_idle 78 = .ok (.lload_n 1, 1) := by decide +kernel
theorem dX3_idle_79 : decode cX3_idle 79 = .ok (.lreturn, 1) := by decide +kernel
theorem dX3_about_0 : decode cX3_about 0 = .ok (.iload_n 1, 1) := by decide +kernel
theorem dX3_about_1 : decode cX3_about 1 = .ok (.tableswitch 51 0 2 #[27, 35, 43], 27) := by decide +kernel
theorem dX3_about_28 : decode cX3_about 28 = .ok (.aload_n 0, 1) := by decide +kernel
theorem dX3_about_29 : decode cX3_about 29 = .ok (.getfield 10, 3) := by decide +kernel
theorem dX3_about_32 : decode cX3_about 32 = .ok (.getfield 81, 3) := by decide +kernel
theorem dX3_about_35 : decode cX3_about 35 = .ok (.ireturn, 1) := by decide +kernel
theorem dX3_about_36 : decode cX3_about 36 = .ok (.aload_n 0, 1) := by decide +kernel
theorem dX3_about_37 : decode cX3_about 37 = .ok (.getfield 19, 3) := by decide +kernel
theorem dX3_about_40 : decode cX3_about 40 = .ok (.getfield 123, 3) := by decide +kernel
theorem dX3_about_43 : decode cX3_about 43 = .ok (.ireturn, 1) := by decide +kernel
theorem dX3_about_44 : decode cX3_about 44 = .ok (.aload_n 0, 1) := by decide +kernel
theorem dX3_about_45 : decode cX3_about 45 = .ok (.getfield 10, 3) := by decide +kernel
theorem dX3_about_48 : decode cX3_about 48 = .ok (.invokevirtual 179, 3) := by decide +kernel
theorem dX3_about_51 : decode cX3_about 51 = .ok (.ireturn, 1) := by decide +kernel
theorem dX3_about_52 : decode cX3_about 52 = .ok (.iconst (-1), 1) := by decide +kernel
theorem dX3_about_53 : decode cX3_about 53 = .ok (.ireturn, 1) := by decide +kernel
theorem dX3_builder_0 : decode cX3_builder 0 = .ok (.aload_n 0, 1) := by decide +kernel
theorem dX3_builder_1 : decode cX3_builder 1 = .ok (.iload_n 1, 1) := by decide +kernel
theorem dX3_builder_2 : decode cX3_builder 2 = .ok (.invokevirtual 35, 3) := by decide +kernel
theorem dX3_builder_5 : decode cX3_builder 5 = .ok (.ifCond .ne 13, 3) := by decide +kernel
theorem dX3_builder_8 : decode cX3_builder 8 = .ok (.new 39, 3) := by decide +kernel
theorem dX3_builder_11 : decode cX3_builder 11 = .ok (.dup, 1) := by decide +kernel
theorem dX3_builder_12 : decode cX3_builder 12 = .ok (.ldc 41, 2) := by decide +kernel
theorem dX3_builder_14 : decode cX3_builder 14 = .ok (.invokespecial 43, 3) := by decide +kernel
theorem dX3_builder_17 : decode cX3_builder 17 = .ok (.athrow, 1) := by decide +kernel
theorem dX3_builder_18 : decode cX3_builder 18 = .ok (.aload_n 0, 1) := by decide +kernel
theorem dX3_builder_19 : decode cX3_builder 19 = .ok (.getfield 10, 3) := by decide +kernel
theorem dX3_builder_22 : decode cX3_builder 22 = .ok (.getfield 46, 3) := by decide +kernel
theorem dX3_builder_25 : decode cX3_builder 25 = .ok (.iload_n 1, 1) := by decide +kernel
theorem dX3_builder_26 : decode cX3_builder 26 = .ok (.iaload, 1) := by decide +kernel
theorem dX3_builder_27 : decode cX3_builder 27 = .ok (.iconst (-1), 1) := by decide +kernel
theorem dX3_builder_28 : decode cX3_builder 28 = .ok (.if_icmp .eq 13, 3) := by decide +kernel
theorem dX3_builder_31 : decode cX3_builder 31 = .ok (.new 50, 3) := by decide +kernel
theorem dX3_builder_34 : decode cX3_builder 34 = .ok (.dup, 1) := by decide +kernel
theorem dX3_builder_35 : decode cX3_builder 35 = .ok (.ldc 52, 2) := by decide +kernel
theorem dX3_builder_37 : decode cX3_builder 37 = .ok (.invokespecial 54, 3) := by decide +kernel
theorem dX3_builder_40 : decode cX3_builder 40 = .ok (.athrow, 1) := by decide +kernel
theorem dX3_builder_41 : decode cX3_builder 41 = .ok (.aload_n 0, 1) := by decide +kernel
theorem dX3_builder_42 : decode cX3_builder 42 = .ok (.getfield 10, 3) := by decide +kernel
theorem dX3_builder_45 : decode cX3_builder 45 = .ok (.getfield 55, 3) := by decide +kernel
theorem dX3_builder_48 : decode cX3_builder 48 = .ok (.iload_n 1, 1) := by decide +kernel
theorem dX3_builder_49 : decode cX3_builder 49 = .ok (.iconst 1, 1) := by decide +kernel
theorem dX3_builder_50 : decode cX3_builder 50 = .ok (.bastore, 1) := by decide +kernel
theorem dX3_builder_51 : decode cX3_builder 51 = .ok (.return_, 1) := by decide +kernel
theorem dX3_isSign_0 : decode cX3_isSign 0 = .ok (.iload_n 1, 1) := by decide +kernel
theorem dX3_isSign_1 : decode cX3_isSign 1 = .ok (.ifCond .lt 13, 3) := by decide +kernel
theorem dX3_isSign_4 : decode cX3_isSign 4 = .ok (.iload_n 1, 1) := by decide +kernel
theorem dX3_isSign_5 : decode cX3_isSign 5 = .ok (.bipush 16, 2) := by decide +kernel
theorem dX3_isSign_7 : decode cX3_isSign 7 = .ok (.if_icmp .ge 7, 3) := by decide +kernel
theorem dX3_isSign_10 : decode cX3_isSign 10 = .ok (.iconst 1, 1) := by decide +kernel
theorem dX3_isSign_11 : decode cX3_isSign 11 = .ok (.goto 4, 3) := by decide +kernel
theorem dX3_isSign_14 : decode cX3_isSign 14 = .ok (.iconst 0, 1) := by decide +kernel
theorem dX3_isSign_15 : decode cX3_isSign 15 = .ok (.ireturn, 1) := by decide +kernel
theorem dX3_term_0 : decode cX3_term 0 = .ok (.iload_n 2, 1) := by decide +kernel
theorem dX3_term_1 : decode cX3_term 1 = .ok (.iconst (-1), 1) := by decide +kernel
theorem dX3_term_2 : decode cX3_term 2 = .ok (.if_icmp .ne 7, 3) := by decide +kernel
theorem dX3_term_5 : decode cX3_term 5 = .ok (.iconst (-1), 1) := by decide +kernel
theorem dX3_term_6 : decode cX3_term 6 = .ok (.goto 4, 3) := by decide +kernel
theorem dX3_term_9 : decode cX3_term 9 = .ok (.iload_n 3, 1) := by decide +kernel
theorem dX3_term_10 : decode cX3_term 10 = .ok (.istore 5, 2) := by decide +kernel
theorem dX3_term_12 : decode cX3_term 12 = .ok (.iload 5, 2) := by decide +kernel
theorem dX3_term_14 : decode cX3_term 14 = .ok (.iconst (-1), 1) := by decide +kernel
theorem dX3_term_15 : decode cX3_term 15 = .ok (.if_icmp .ne 7, 3) := by decide +kernel
theorem dX3_term_18 : decode cX3_term 18 = .ok (.iconst (-1), 1) := by decide +kernel
theorem dX3_term_19 : decode cX3_term 19 = .ok (.goto 5, 3) := by decide +kernel
theorem dX3_term_22 : decode cX3_term 22 = .ok (.iload 4, 2) := by decide +kernel
theorem dX3_term_24 : decode cX3_term 24 = .ok (.istore 6, 2) := by decide +kernel
theorem dX3_term_26 : decode cX3_term 26 = .ok (.aload_n 0, 1) := by decide +kernel
theorem dX3_term_27 : decode cX3_term 27 = .ok (.iload_n 1, 1) := by decide +kernel
theorem dX3_term_28 : decode cX3_term 28 = .ok (.invokevirtual 35, 3) := by decide +kernel
theorem dX3_term_31 : decode cX3_term 31 = .ok (.ifCond .eq 29, 3) := by decide +kernel
theorem dX3_term_34 : decode cX3_term 34 = .ok (.aload_n 0, 1) := by decide +kernel
theorem dX3_term_35 : decode cX3_term 35 = .ok (.iload_n 2, 1) := by decide +kernel
theorem dX3_term_36 : decode cX3_term 36 = .ok (.invokevirtual 59, 3) := by decide +kernel
theorem dX3_term_39 : decode cX3_term 39 = .ok (.ifCond .eq 21, 3) := by decide +kernel
theorem dX3_term_42 : decode cX3_term 42 = .ok (.aload_n 0, 1) := by decide +kernel
theorem dX3_term_43 : decode cX3_term 43 = .ok (.iload 5, 2) := by decide +kernel
theorem dX3_term_45 : decode cX3_term 45 = .ok (.invokevirtual 59, 3) := by decide +kernel
theorem dX3_term_48 : decode cX3_term 48 = .ok (.ifCond .eq 12, 3) := by decide +kernel
theorem dX3_term_51 : decode cX3_term 51 = .ok (.aload_n 0, 1) := by decide +kernel
theorem dX3_term_52 : decode cX3_term 52 = .ok (.iload 6, 2) := by decide +kernel
theorem dX3_term_54 : decode cX3_term 54 = .ok (.invokevirtual 59, 3) := by decide +kernel
theorem dX3_term_57 : decode cX3_term 57 = .ok (.ifCond .ne 13, 3) := by decide +kernel
theorem dX3_term_60 : decode cX3_term 60 = .ok (.new 39, 3) := by decide +kernel
theorem dX3_term_63 : decode cX3_term 63 = .ok (.dup, 1) := by decide +kernel
theorem dX3_term_64 : decode cX3_term 64 = .ok (.ldc 62, 2) := by decide +kernel
theorem dX3_term_66 : decode cX3_term 66 = .ok (.invokespecial 43, 3) := by decide +kernel
theorem dX3_term_69 : decode cX3_term 69 = .ok (.athrow, 1) := by decide +kernel
theorem dX3_term_70 : decode cX3_term 70 = .ok (.aload_n 0, 1) := by decide +kernel
theorem dX3_term_71 : decode cX3_term 71 = .ok (.getfield 10, 3) := by decide +kernel
theorem dX3_term_74 : decode cX3_term 74 = .ok (.getfield 46, 3) := by decide +kernel
theorem dX3_term_77 : decode cX3_term 77 = .ok (.iload_n 1, 1) := by decide +kernel
theorem dX3_term_78 : decode cX3_term 78 = .ok (.iaload, 1) := by decide +kernel
theorem dX3_term_79 : decode cX3_term 79 = .ok (.istore 7, 2) := by decide +kernel
theorem dX3_term_81 : decode cX3_term 81 = .ok (.iload 7, 2) := by decide +kernel
theorem dX3_term_83 : decode cX3_term 83 = .ok (.iconst (-1), 1) := by decide +kernel
theorem dX3_term_84 : decode cX3_term 84 = .ok (.if_icmp .eq 26, 3) := by decide +kernel
theorem dX3_term_87 : decode cX3_term 87 = .ok (.iload 7, 2) := by decide +kernel
theorem dX3_term_89 : decode cX3_term 89 = .ok (.iload_n 2, 1) := by decide +kernel
theorem dX3_term_90 : decode cX3_term 90 = .ok (.iload 5, 2) := by decide +kernel
theorem dX3_term_92 : decode cX3_term 92 = .ok (.iload 6, 2) := by decide +kernel
theorem dX3_term_94 : decode cX3_term 94 = .ok (.invokestatic 64, 3) := by decide +kernel
theorem dX3_term_97 : decode cX3_term 97 = .ok (.if_icmp .eq 13, 3) := by decide +kernel
theorem dX3_term_100 : decode cX3_term 100 = .ok (.new 68, 3) := by decide +kernel
theorem dX3_term_103 : decode cX3_term 103 = .ok (.dup, 1) := by decide +kernel
theorem dX3_term_104 : decode cX3_term 104 = .ok (.ldc 70, 2) := by decide +kernel
theorem dX3_term_106 : decode cX3_term 106 = .ok (.invokespecial 72, 3) := by decide +kernel
theorem dX3_term_109 : decode cX3_term 109 = .ok (.athrow, 1) := by decide +kernel
theorem dX3_term_110 : decode cX3_term 110 = .ok (.aload_n 0, 1) := by decide +kernel
theorem dX3_term_111 : decode cX3_term 111 = .ok (.getfield 28, 3) := by decide +kernel
theorem dX3_term_114 : decode cX3_term 114 = .ok (.iload_n 1, 1) := by decide +kernel
theorem dX3_term_115 : decode cX3_term 115 = .ok (.iload_n 2, 1) := by decide +kernel
theorem dX3_term_116 : decode cX3_term 116 = .ok (.iload 5, 2) := by decide +kernel
theorem dX3_term_118 : decode cX3_term 118 = .ok (.iload 6, 2) := by decide +kernel
theorem dX3_term_120 : decode cX3_term 120 = .ok (.invokevirtual 73, 3) := by decide +kernel
theorem dX3_term_123 : decode cX3_term 123 = .ok (.invokestatic 77, 3) := by decide +kernel
theorem dX3_term_126 : decode cX3_term 126 = .ok (.istore 8, 2) := by decide +kernel
theorem dX3_term_128 : decode cX3_term 128 = .ok (.iload 8, 2) := by decide +kernel
theorem dX3_term_130 : decode cX3_term 130 = .ok (.iconst (-1), 1) := by decide +kernel
theorem dX3_term_131 : decode cX3_term 131 = .ok (.if_icmp .eq 6, 3) := by decide +kernel
theorem dX3_term_134 : decode cX3_term 134 = .ok (.iload 8, 2) := by decide +kernel
theorem dX3_term_136 : decode cX3_term 136 = .ok (.ireturn, 1) := by decide +kernel
theorem dX3_term_137 : decode cX3_term 137 = .ok (.aload_n 0, 1) := by decide +kernel
theorem dX3_term_138 : decode cX3_term 138 = .ok (.getfield 10, 3) := by decide +kernel
theorem dX3_term_141 : decode cX3_term 141 = .ok (.getfield 81, 3) := by decide +kernel
theorem dX3_term_144 : decode cX3_term 144 = .ok (.bipush 60, 2) := by decide +kernel
theorem dX3_term_146 : decode cX3_term 146 = .ok (.if_icmp .lt 13, 3) := by decide +kernel
theorem dX3_term_149 : decode cX3_term 149 = .ok (.new 50, 3) := by decide +kernel
theorem dX3_term_152 : decode cX3_term 152 = .ok (.dup, 1) := by decide +kernel
theorem dX3_term_153 : decode cX3_term 153 = .ok (.ldc 85, 2) := by decide +kernel
theorem dX3_term_155 : decode cX3_term 155 = .ok (.invokespecial 54, 3) := by decide +kernel
theorem dX3_term_158 : decode cX3_term 158 = .ok (.athrow, 1) := by decide +kernel
theorem dX3_term_159 : decode cX3_term 159 = .ok (.aload_n 0, 1) := by decide +kernel
theorem dX3_term_160 : decode cX3_term 160 = .ok (.getfield 10, 3) := by decide +kernel
theorem dX3_term_163 : decode cX3_term 163 = .ok (.getfield 81, 3) := by decide +kernel
theorem dX3_term_166 : decode cX3_term 166 = .ok (.istore 9, 2) := by decide +kernel
theorem dX3_term_168 : decode cX3_term 168 = .ok (.aload_n 0, 1) := by decide +kernel
theorem dX3_term_169 : decode cX3_term 169 = .ok (.getfield 10, 3) := by decide +kernel
theorem dX3_term_172 : decode cX3_term 172 = .ok (.iload_n 1, 1) := by decide +kernel
theorem dX3_term_173 : decode cX3_term 173 = .ok (.iload_n 2, 1) := by decide +kernel
theorem dX3_term_174 : decode cX3_term 174 = .ok (.iload 5, 2) := by decide +kernel
theorem dX3_term_176 : decode cX3_term 176 = .ok (.iload 6, 2) := by decide +kernel
theorem dX3_term_178 : decode cX3_term 178 = .ok (.invokevirtual 87, 3) := by decide +kernel
theorem dX3_term_181 : decode cX3_term 181 = .ok (.aload_n 0, 1) := by decide +kernel
theorem dX3_term_182 : decode cX3_term 182 = .ok (.getfield 10, 3) := by decide +kernel
theorem dX3_term_185 : decode cX3_term 185 = .ok (.getfield 46, 3) := by decide +kernel
theorem dX3_term_188 : decode cX3_term 188 = .ok (.iload_n 1, 1) := by decide +kernel
theorem dX3_term_189 : decode cX3_term 189 = .ok (.iload_n 2, 1) := by decide +kernel
theorem dX3_term_190 : decode cX3_term 190 = .ok (.iload 5, 2) := by decide +kernel
theorem dX3_term_192 : decode cX3_term 192 = .ok (.iload 6, 2) := by decide +kernel
theorem dX3_term_194 : decode cX3_term 194 = .ok (.invokestatic 64, 3) := by decide +kernel
theorem dX3_term_197 : decode cX3_term 197 = .ok (.iastore, 1) := by decide +kernel
theorem dX3_term_198 : decode cX3_term 198 = .ok (.aload_n 0, 1) := by decide +kernel
theorem dX3_term_199 : decode cX3_term 199 = .ok (.getfield 28, 3) := by decide +kernel
theorem dX3_term_202 : decode cX3_term 202 = .ok (.iload 9, 2) := by decide +kernel
theorem dX3_term_204 : decode cX3_term 204 = .ok (.invokevirtual 91, 3) := by decide +kernel
theorem dX3_term_207 : decode cX3_term 207 = .ok (.iload 9, 2) := by decide +kernel
theorem dX3_term_209 : decode cX3_term 209 = .ok (.ireturn, 1) := by decide +kernel
theorem dX3_isPlace_0 : decode cX3_isPlace 0 = .ok (.iload_n 1, 1) := by decide +kernel
theorem dX3_isPlace_1 : decode cX3_isPlace 1 = .ok (.iconst (-1), 1) := by decide +kernel
theorem dX3_isPlace_2 : decode cX3_isPlace 2 = .ok (.if_icmp .eq 11, 3) := by decide +kernel
theorem dX3_isPlace_5 : decode cX3_isPlace 5 = .ok (.aload_n 0, 1) := by decide +kernel
theorem dX3_isPlace_6 : decode cX3_isPlace 6 = .ok (.iload_n 1, 1) := by decide +kernel
theorem dX3_isPlace_7 : decode cX3_isPlace 7 = .ok (.invokevirtual 95, 3) := by decide +kernel
theorem dX3_isPlace_10 : decode cX3_isPlace 10 = .ok (.ifCond .eq 7, 3) := by decide +kernel
theorem dX3_isPlace_13 : decode cX3_isPlace 13 = .ok (.iconst 1, 1) := by decide +kernel
theorem dX3_isPlace_14 : decode cX3_isPlace 14 = .ok (.goto 4, 3) := by decide +kernel
theorem dX3_isPlace_17 : decode cX3_isPlace 17 = .ok (.iconst 0, 1) := by decide +kernel
theorem dX3_isPlace_18 : decode cX3_isPlace 18 = .ok (.ireturn, 1) := by decide +kernel
theorem dX3_countPlaces_0 : decode cX3_countPlaces 0 = .ok (.iload_n 0, 1) := by decide +kernel
theorem dX3_countPlaces_1 : decode cX3_countPlaces 1 = .ok (.iconst (-1), 1) := by decide +kernel
theorem dX3_countPlaces_2 : decode cX3_countPlaces 2 = .ok (.if_icmp .ne 5, 3) := by decide +kernel
theorem dX3_countPlaces_5 : decode cX3_countPlaces 5 = .ok (.iconst 0, 1) := by decide +kernel
theorem dX3_countPlaces_6 : decode cX3_countPlaces 6 = .ok (.ireturn, 1) := by decide +kernel
theorem dX3_countPlaces_7 : decode cX3_countPlaces 7 = .ok (.iload_n 1, 1) := by decide +kernel
theorem dX3_countPlaces_8 : decode cX3_countPlaces 8 = .ok (.iconst (-1), 1) := by decide +kernel
theorem dX3_countPlaces_9 : decode cX3_countPlaces 9 = .ok (.if_icmp .ne 5, 3) := by decide +kernel
theorem dX3_countPlaces_12 : decode cX3_countPlaces 12 = .ok (.iconst 1, 1) := by decide +kernel
theorem dX3_countPlaces_13 : decode cX3_countPlaces 13 = .ok (.ireturn, 1) := by decide +kernel
theorem dX3_countPlaces_14 : decode cX3_countPlaces 14 = .ok (.iload_n 2, 1) := by decide +kernel
theorem dX3_countPlaces_15 : decode cX3_countPlaces 15 = .ok (.iconst (-1), 1) := by decide +kernel
theorem dX3_countPlaces_16 : decode cX3_countPlaces 16 = .ok (.if_icmp .ne 7, 3) := by decide +kernel
theorem dX3_countPlaces_19 : decode cX3_countPlaces 19 = .ok (.iconst 2, 1) := by decide +kernel
theorem dX3_countPlaces_20 : decode cX3_countPlaces 20 = .ok (.goto 4, 3) := by decide +kernel
theorem dX3_countPlaces_23 : decode cX3_countPlaces 23 = .ok (.iconst 3, 1) := by decide +kernel
theorem dX3_countPlaces_24 : decode cX3_countPlaces 24 = .ok (.ireturn, 1) := by decide +kernel
theorem dX3_fact_0 : decode cX3_fact 0 = .ok (.aload_n 0, 1) := by decide +kernel
theorem dX3_fact_1 : decode cX3_fact 1 = .ok (.iload_n 1, 1) := by decide +kernel
theorem dX3_fact_2 : decode cX3_fact 2 = .ok (.iload_n 2, 1) := by decide +kernel
theorem dX3_fact_3 : decode cX3_fact 3 = .ok (.invokevirtual 119, 3) := by decide +kernel
theorem dX3_fact_6 : decode cX3_fact 6 = .ok (.aload_n 0, 1) := by decide +kernel
theorem dX3_fact_7 : decode cX3_fact 7 = .ok (.getfield 19, 3) := by decide +kernel
theorem dX3_fact_10 : decode cX3_fact 10 = .ok (.getfield 123, 3) := by decide +kernel
theorem dX3_fact_13 : decode cX3_fact 13 = .ok (.bipush 40, 2) := by decide +kernel
theorem dX3_fact_15 : decode cX3_fact 15 = .ok (.if_icmp .lt 13, 3) := by decide +kernel
theorem dX3_fact_18 : decode cX3_fact 18 = .ok (.new 50, 3) := by decide +kernel
theorem dX3_fact_21 : decode cX3_fact 21 = .ok (.dup, 1) := by decide +kernel
theorem dX3_fact_22 : decode cX3_fact 22 = .ok (.ldc 124, 2) := by decide +kernel
theorem dX3_fact_24 : decode cX3_fact 24 = .ok (.invokespecial 54, 3) := by decide +kernel
theorem dX3_fact_27 : decode cX3_fact 27 = .ok (.athrow, 1) := by decide +kernel
theorem dX3_fact_28 : decode cX3_fact 28 = .ok (.aload_n 0, 1) := by decide +kernel
theorem dX3_fact_29 : decode cX3_fact 29 = .ok (.getfield 19, 3) := by decide +kernel
theorem dX3_fact_32 : decode cX3_fact 32 = .ok (.getfield 123, 3) := by decide +kernel
theorem dX3_fact_35 : decode cX3_fact 35 = .ok (.istore 4, 2) := by decide +kernel
theorem dX3_fact_37 : decode cX3_fact 37 = .ok (.aload_n 0, 1) := by decide +kernel
theorem dX3_fact_38 : decode cX3_fact 38 = .ok (.getfield 19, 3) := by decide +kernel
theorem dX3_fact_41 : decode cX3_fact 41 = .ok (.iload_n 1, 1) := by decide +kernel
theorem dX3_fact_42 : decode cX3_fact 42 = .ok (.iload_n 2, 1) := by decide +kernel
theorem dX3_fact_43 : decode cX3_fact 43 = .ok (.iload_n 3, 1) := by decide +kernel
theorem dX3_fact_44 : decode cX3_fact 44 = .ok (.invokevirtual 126, 3) := by decide +kernel
theorem dX3_fact_47 : decode cX3_fact 47 = .ok (.iload 4, 2) := by decide +kernel
theorem dX3_fact_49 : decode cX3_fact 49 = .ok (.ireturn, 1) := by decide +kernel
theorem dX3_requireTerms_0 : decode cX3_requireTerms 0 = .ok (.aload_n 0, 1) := by decide +kernel
theorem dX3_requireTerms_1 : decode cX3_requireTerms 1 = .ok (.iload_n 1, 1) := by decide +kernel
theorem dX3_requireTerms_2 : decode cX3_requireTerms 2 = .ok (.invokevirtual 95, 3) := by decide +kernel
theorem dX3_requireTerms_5 : decode cX3_requireTerms 5 = .ok (.ifCond .eq 11, 3) := by decide +kernel
theorem dX3_requireTerms_8 : decode cX3_requireTerms 8 = .ok (.aload_n 0, 1) := by decide +kernel
theorem dX3_requireTerms_9 : decode cX3_requireTerms 9 = .ok (.iload_n 2, 1) := by decide +kernel
theorem dX3_requireTerms_10 : decode cX3_requireTerms 10 = .ok (.invokevirtual 95, 3) := by decide +kernel
theorem dX3_requireTerms_13 : decode cX3_requireTerms 13 = .ok (.ifCond .ne 13, 3) := by decide +kernel
theorem dX3_requireTerms_16 : decode cX3_requireTerms 16 = .ok (.new 39, 3) := by decide +kernel
theorem dX3_requireTerms_19 : decode cX3_requireTerms 19 = .ok (.dup, 1) := by decide +kernel
theorem dX3_requireTerms_20 : decode cX3_requireTerms 20 = .ok (.ldc 182, 2) := by decide +kernel
theorem dX3_requireTerms_22 : decode cX3_requireTerms 22 = .ok (.invokespecial 43, 3) := by decide +kernel
theorem dX3_requireTerms_25 : decode cX3_requireTerms 25 = .ok (.athrow, 1) := by decide +kernel
theorem dX3_requireTerms_26 : decode cX3_requireTerms 26 = .ok (.return_, 1) := by decide +kernel
theorem dX3_isOne_0 : decode cX3_isOne 0 = .ok (.aload_n 0, 1) := by decide +kernel
theorem dX3_isOne_1 : decode cX3_isOne 1 = .ok (.iload_n 1, 1) := by decide +kernel
theorem dX3_isOne_2 : decode cX3_isOne 2 = .ok (.iload_n 2, 1) := by decide +kernel
theorem dX3_isOne_3 : decode cX3_isOne 3 = .ok (.invokevirtual 119, 3) := by decide +kernel
theorem dX3_isOne_6 : decode cX3_isOne 6 = .ok (.aload_n 0, 1) := by decide +kernel
theorem dX3_isOne_7 : decode cX3_isOne 7 = .ok (.aload_n 0, 1) := by decide +kernel
theorem dX3_isOne_8 : decode cX3_isOne 8 = .ok (.getfield 19, 3) := by decide +kernel
theorem dX3_isOne_11 : decode cX3_isOne 11 = .ok (.invokevirtual 129, 3) := by decide +kernel
theorem dX3_isOne_14 : decode cX3_isOne 14 = .ok (.invokevirtual 133, 3) := by decide +kernel
theorem dX3_isOne_17 : decode cX3_isOne 17 = .ok (.aload_n 0, 1) := by decide +kernel
theorem dX3_isOne_18 : decode cX3_isOne 18 = .ok (.getfield 32, 3) := by decide +kernel
theorem dX3_isOne_21 : decode cX3_isOne 21 = .ok (.iload_n 1, 1) := by decide +kernel
theorem dX3_isOne_22 : decode cX3_isOne 22 = .ok (.iload_n 2, 1) := by decide +kernel
theorem dX3_isOne_23 : decode cX3_isOne 23 = .ok (.invokevirtual 137, 3) := by decide +kernel
theorem dX3_isOne_26 : decode cX3_isOne 26 = .ok (.ireturn, 1) := by decide +kernel
theorem dX3_isOther_0 : decode cX3_isOther 0 = .ok (.aload_n 0, 1) := by decide +kernel
theorem dX3_isOther_1 : decode cX3_isOther 1 = .ok (.iload_n 1, 1) := by decide +kernel
theorem dX3_isOther_2 : decode cX3_isOther 2 = .ok (.iload_n 2, 1) := by decide +kernel
theorem dX3_isOther_3 : decode cX3_isOther 3 = .ok (.invokevirtual 119, 3) := by decide +kernel
theorem dX3_isOther_6 : decode cX3_isOther 6 = .ok (.aload_n 0, 1) := by decide +kernel
theorem dX3_isOther_7 : decode cX3_isOther 7 = .ok (.getfield 19, 3) := by decide +kernel
theorem dX3_isOther_10 : decode cX3_isOther 10 = .ok (.invokevirtual 129, 3) := by decide +kernel
theorem dX3_isOther_13 : decode cX3_isOther 13 = .ok (.lstore_n 3, 1) := by decide +kernel
theorem dX3_isOther_14 : decode cX3_isOther 14 = .ok (.aload_n 0, 1) := by decide +kernel
theorem dX3_isOther_15 : decode cX3_isOther 15 = .ok (.lload_n 3, 1) := by decide +kernel
theorem dX3_isOther_16 : decode cX3_isOther 16 = .ok (.invokevirtual 133, 3) := by decide +kernel
theorem dX3_isOther_19 : decode cX3_isOther 19 = .ok (.aload_n 0, 1) := by decide +kernel
theorem dX3_isOther_20 : decode cX3_isOther 20 = .ok (.getfield 32, 3) := by decide +kernel
theorem dX3_isOther_23 : decode cX3_isOther 23 = .ok (.iload_n 1, 1) := by decide +kernel
theorem dX3_isOther_24 : decode cX3_isOther 24 = .ok (.iload_n 2, 1) := by decide +kernel
theorem dX3_isOther_25 : decode cX3_isOther 25 = .ok (.invokevirtual 145, 3) := by decide +kernel
theorem dX3_isOther_28 : decode cX3_isOther 28 = .ok (.pop, 1) := by decide +kernel
theorem dX3_isOther_29 : decode cX3_isOther 29 = .ok (.aload_n 0, 1) := by decide +kernel
theorem dX3_isOther_30 : decode cX3_isOther 30 = .ok (.lload_n 3, 1) := by decide +kernel
theorem dX3_isOther_31 : decode cX3_isOther 31 = .ok (.invokevirtual 141, 3) := by decide +kernel
theorem dX3_isOther_34 : decode cX3_isOther 34 = .ok (.ireturn, 1) := by decide +kernel
theorem dX3_row_0 : decode cX3_row 0 = .ok (.aload_n 0, 1) := by decide +kernel
theorem dX3_row_1 : decode cX3_row 1 = .ok (.iload_n 1, 1) := by decide +kernel
theorem dX3_row_2 : decode cX3_row 2 = .ok (.iload_n 1, 1) := by decide +kernel
theorem dX3_row_3 : decode cX3_row 3 = .ok (.invokevirtual 119, 3) := by decide +kernel
theorem dX3_row_6 : decode cX3_row 6 = .ok (.aload_n 0, 1) := by decide +kernel
theorem dX3_row_7 : decode cX3_row 7 = .ok (.aload_n 0, 1) := by decide +kernel
theorem dX3_row_8 : decode cX3_row 8 = .ok (.getfield 19, 3) := by decide +kernel
theorem dX3_row_11 : decode cX3_row 11 = .ok (.invokevirtual 129, 3) := by decide +kernel
theorem dX3_row_14 : decode cX3_row 14 = .ok (.invokevirtual 133, 3) := by decide +kernel
theorem dX3_row_17 : decode cX3_row 17 = .ok (.aload_n 0, 1) := by decide +kernel
theorem dX3_row_18 : decode cX3_row 18 = .ok (.getfield 32, 3) := by decide +kernel
theorem dX3_row_21 : decode cX3_row 21 = .ok (.getfield 148, 3) := by decide +kernel
theorem dX3_row_24 : decode cX3_row 24 = .ok (.aload_n 0, 1) := by decide +kernel
theorem dX3_row_25 : decode cX3_row 25 = .ok (.getfield 32, 3) := by decide +kernel
theorem dX3_row_28 : decode cX3_row 28 = .ok (.getfield 151, 3) := by decide +kernel
theorem dX3_row_31 : decode cX3_row 31 = .ok (.iload_n 1, 1) := by decide +kernel
theorem dX3_row_32 : decode cX3_row 32 = .ok (.iaload, 1) := by decide +kernel
theorem dX3_row_33 : decode cX3_row 33 = .ok (.laload, 1) := by decide +kernel
theorem dX3_row_34 : decode cX3_row 34 = .ok (.lstore_n 3, 1) := by decide +kernel
theorem dX3_row_35 : decode cX3_row 35 = .ok (.iload_n 2, 1) := by decide +kernel
theorem dX3_row_36 : decode cX3_row 36 = .ok (.tableswitch 63 0 3 #[32, 37, 42, 55], 32) := by decide +kernel
theorem dX3_row_68 : decode cX3_row 68 = .ok (.lload_n 3, 1) := by decide +kernel
theorem dX3_row_69 : decode cX3_row 69 = .ok (.invokestatic 77, 3) := by decide +kernel
theorem dX3_row_72 : decode cX3_row 72 = .ok (.ireturn, 1) := by decide +kernel
theorem dX3_row_73 : decode cX3_row 73 = .ok (.lload_n 3, 1) := by decide +kernel
theorem dX3_row_74 : decode cX3_row 74 = .ok (.invokestatic 114, 3) := by decide +kernel
theorem dX3_row_77 : decode cX3_row 77 = .ok (.ireturn, 1) := by decide +kernel
theorem dX3_row_78 : decode cX3_row 78 = .ok (.lload_n 3, 1) := by decide +kernel
theorem dX3_row_79 : decode cX3_row 79 = .ok (.aload_n 0, 1) := by decide +kernel
theorem dX3_row_80 : decode cX3_row 80 = .ok (.getfield 10, 3) := by decide +kernel
theorem dX3_row_83 : decode cX3_row 83 = .ok (.getfield 154, 3) := by decide +kernel
theorem dX3_row_86 : decode cX3_row 86 = .ok (.land, 1) := by decide +kernel
theorem dX3_row_87 : decode cX3_row 87 = .ok (.invokestatic 77, 3) := by decide +kernel
theorem dX3_row_90 : decode cX3_row 90 = .ok (.ireturn, 1) := by decide +kernel
theorem dX3_row_91 : decode cX3_row 91 = .ok (.aload_n 0, 1) := by decide +kernel
theorem dX3_row_92 : decode cX3_row 92 = .ok (.getfield 32, 3) := by decide +kernel
theorem dX3_row_95 : decode cX3_row 95 = .ok (.invokevirtual 158, 3) := by decide +kernel
theorem dX3_row_98 : decode cX3_row 98 = .ok (.ireturn, 1) := by decide +kernel
theorem dX3_row_99 : decode cX3_row 99 = .ok (.iconst (-1), 1) := by decide +kernel
theorem dX3_row_100 : decode cX3_row 100 = .ok (.ireturn, 1) := by decide +kernel
theorem dX3_reason_0 : decode cX3_reason 0 = .ok (.aload_n 0, 1) := by decide +kernel
theorem dX3_reason_1 : decode cX3_reason 1 = .ok (.iload_n 1, 1) := by decide +kernel
theorem dX3_reason_2 : decode cX3_reason 2 = .ok (.iload_n 2, 1) := by decide +kernel
theorem dX3_reason_3 : decode cX3_reason 3 = .ok (.invokevirtual 119, 3) := by decide +kernel
theorem dX3_reason_6 : decode cX3_reason 6 = .ok (.aload_n 0, 1) := by decide +kernel
theorem dX3_reason_7 : decode cX3_reason 7 = .ok (.iload_n 1, 1) := by decide +kernel
theorem dX3_reason_8 : decode cX3_reason 8 = .ok (.iload_n 2, 1) := by decide +kernel
theorem dX3_reason_9 : decode cX3_reason 9 = .ok (.invokevirtual 162, 3) := by decide +kernel
theorem dX3_reason_12 : decode cX3_reason 12 = .ok (.lreturn, 1) := by decide +kernel
