theorem dJ13_bitCount_0 : decode cJ13_bitCount 0 = .ok (.lload_n 0, 1) := by decide +kernel
theorem dJ13_bitCount_1 : decode cJ13_bitCount 1 = .ok (.lload_n 0, 1) := by decide +kernel
theorem dJ13_bitCount_2 : decode cJ13_bitCount 2 = .ok (.iconst 1, 1) := by decide +kernel
theorem dJ13_bitCount_3 : decode cJ13_bitCount 3 = .ok (.lushr, 1) := by decide +kernel
theorem dJ13_bitCount_4 : decode cJ13_bitCount 4 = .ok (.ldc2_w 314, 3) := by decide +kernel
theorem dJ13_bitCount_7 : decode cJ13_bitCount 7 = .ok (.land, 1) := by decide +kernel
theorem dJ13_bitCount_8 : decode cJ13_bitCount 8 = .ok (.lsub, 1) := by decide +kernel
theorem dJ13_bitCount_9 : decode cJ13_bitCount 9 = .ok (.lstore_n 0, 1) := by decide +kernel
theorem dJ13_bitCount_10 : decode cJ13_bitCount 10 = .ok (.lload_n 0, 1) := by decide +kernel
theorem dJ13_bitCount_11 : decode cJ13_bitCount 11 = .ok (.ldc2_w 316, 3) := by decide +kernel
theorem dJ13_bitCount_14 : decode cJ13_bitCount 14 = .ok (.land, 1) := by decide +kernel
theorem dJ13_bitCount_15 : decode cJ13_bitCount 15 = .ok (.lload_n 0, 1) := by decide +kernel
theorem dJ13_bitCount_16 : decode cJ13_bitCount 16 = .ok (.iconst 2, 1) := by decide +kernel
theorem dJ13_bitCount_17 : decode cJ13_bitCount 17 = .ok (.lushr, 1) := by decide +kernel
theorem dJ13_bitCount_18 : decode cJ13_bitCount 18 = .ok (.ldc2_w 316, 3) := by decide +kernel
theorem dJ13_bitCount_21 : decode cJ13_bitCount 21 = .ok (.land, 1) := by decide +kernel
theorem dJ13_bitCount_22 : decode cJ13_bitCount 22 = .ok (.ladd, 1) := by decide +kernel
theorem dJ13_bitCount_23 : decode cJ13_bitCount 23 = .ok (.lstore_n 0, 1) := by decide +kernel
theorem dJ13_bitCount_24 : decode cJ13_bitCount 24 = .ok (.lload_n 0, 1) := by decide +kernel
theorem dJ13_bitCount_25 : decode cJ13_bitCount 25 = .ok (.lload_n 0, 1) := by decide +kernel
theorem dJ13_bitCount_26 : decode cJ13_bitCount 26 = .ok (.iconst 4, 1) := by decide +kernel
theorem dJ13_bitCount_27 : decode cJ13_bitCount 27 = .ok (.lushr, 1) := by decide +kernel
theorem dJ13_bitCount_28 : decode cJ13_bitCount 28 = .ok (.ladd, 1) := by decide +kernel
theorem dJ13_bitCount_29 : decode cJ13_bitCount 29 = .ok (.ldc2_w 318, 3) := by decide +kernel
theorem dJ13_bitCount_32 : decode cJ13_bitCount 32 = .ok (.land, 1) := by decide +kernel
theorem dJ13_bitCount_33 : decode cJ13_bitCount 33 = .ok (.lstore_n 0, 1) := by decide +kernel
theorem dJ13_bitCount_34 : decode cJ13_bitCount 34 = .ok (.lload_n 0, 1) := by decide +kernel
theorem dJ13_bitCount_35 : decode cJ13_bitCount 35 = .ok (.lload_n 0, 1) := by decide +kernel
theorem dJ13_bitCount_36 : decode cJ13_bitCount 36 = .ok (.bipush 8, 2) := by decide +kernel
theorem dJ13_bitCount_38 : decode cJ13_bitCount 38 = .ok (.lushr, 1) := by decide +kernel
theorem dJ13_bitCount_39 : decode cJ13_bitCount 39 = .ok (.ladd, 1) := by decide +kernel
theorem dJ13_bitCount_40 : decode cJ13_bitCount 40 = .ok (.lstore_n 0, 1) := by decide +kernel
theorem dJ13_bitCount_41 : decode cJ13_bitCount 41 = .ok (.lload_n 0, 1) := by decide +kernel
theorem dJ13_bitCount_42 : decode cJ13_bitCount 42 = .ok (.lload_n 0, 1) := by decide +kernel
theorem dJ13_bitCount_43 : decode cJ13_bitCount 43 = .ok (.bipush 16, 2) := by decide +kernel
theorem dJ13_bitCount_45 : decode cJ13_bitCount 45 = .ok (.lushr, 1) := by decide +kernel
theorem dJ13_bitCount_46 : decode cJ13_bitCount 46 = .ok (.ladd, 1) := by decide +kernel
theorem dJ13_bitCount_47 : decode cJ13_bitCount 47 = .ok (.lstore_n 0, 1) := by decide +kernel
theorem dJ13_bitCount_48 : decode cJ13_bitCount 48 = .ok (.lload_n 0, 1) := by decide +kernel
theorem dJ13_bitCount_49 : decode cJ13_bitCount 49 = .ok (.lload_n 0, 1) := by decide +kernel
theorem dJ13_bitCount_50 : decode cJ13_bitCount 50 = .ok (.bipush 32, 2) := by decide +kernel
theorem dJ13_bitCount_52 : decode cJ13_bitCount 52 = .ok (.lushr, 1) := by decide +kernel
theorem dJ13_bitCount_53 : decode cJ13_bitCount 53 = .ok (.ladd, 1) := by decide +kernel
theorem dJ13_bitCount_54 : decode cJ13_bitCount 54 = .ok (.lstore_n 0, 1) := by decide +kernel
theorem dJ13_bitCount_55 : decode cJ13_bitCount 55 = .ok (.lload_n 0, 1) := by decide +kernel
theorem dJ13_bitCount_56 : decode cJ13_bitCount 56 = .ok (.l2i, 1) := by decide +kernel
theorem dJ13_bitCount_57 : decode cJ13_bitCount 57 = .ok (.bipush 127, 2) := by decide +kernel
theorem dJ13_bitCount_59 : decode cJ13_bitCount 59 = .ok (.iand, 1) := by decide +kernel
theorem dJ13_bitCount_60 : decode cJ13_bitCount 60 = .ok (.ireturn, 1) := by decide +kernel
theorem dJ13_numberOfTrailingZeros_0 : decode cJ13_numberOfTrailingZeros 0 = .ok (.lload_n 0, 1) := by decide +kernel
theorem dJ13_numberOfTrailingZeros_1 : decode cJ13_numberOfTrailingZeros 1 = .ok (.l2i, 1) := by decide +kernel
theorem dJ13_numberOfTrailingZeros_2 : decode cJ13_numberOfTrailingZeros 2 = .ok (.istore_n 2, 1) := by decide +kernel
theorem dJ13_numberOfTrailingZeros_3 : decode cJ13_numberOfTrailingZeros 3 = .ok (.iload_n 2, 1) := by decide +kernel
theorem dJ13_numberOfTrailingZeros_4 : decode cJ13_numberOfTrailingZeros 4 = .ok (.ifCond .ne 17, 3) := by decide +kernel
theorem dJ13_numberOfTrailingZeros_7 : decode cJ13_numberOfTrailingZeros 7 = .ok (.bipush 32, 2) := by decide +kernel
theorem dJ13_numberOfTrailingZeros_9 : decode cJ13_numberOfTrailingZeros 9 = .ok (.lload_n 0, 1) := by decide +kernel
theorem dJ13_numberOfTrailingZeros_10 : decode cJ13_numberOfTrailingZeros 10 = .ok (.bipush 32, 2) := by decide +kernel
theorem dJ13_numberOfTrailingZeros_12 : decode cJ13_numberOfTrailingZeros 12 = .ok (.lushr, 1) := by decide +kernel
theorem dJ13_numberOfTrailingZeros_13 : decode cJ13_numberOfTrailingZeros 13 = .ok (.l2i, 1) := by decide +kernel
theorem dJ13_numberOfTrailingZeros_14 : decode cJ13_numberOfTrailingZeros 14 = .ok (.invokestatic 311, 3) := by decide +kernel
theorem dJ13_numberOfTrailingZeros_17 : decode cJ13_numberOfTrailingZeros 17 = .ok (.iadd, 1) := by decide +kernel
theorem dJ13_numberOfTrailingZeros_18 : decode cJ13_numberOfTrailingZeros 18 = .ok (.goto 7, 3) := by decide +kernel
theorem dJ13_numberOfTrailingZeros_21 : decode cJ13_numberOfTrailingZeros 21 = .ok (.iload_n 2, 1) := by decide +kernel
theorem dJ13_numberOfTrailingZeros_22 : decode cJ13_numberOfTrailingZeros 22 = .ok (.invokestatic 311, 3) := by decide +kernel
theorem dJ13_numberOfTrailingZeros_25 : decode cJ13_numberOfTrailingZeros 25 = .ok (.ireturn, 1) := by decide +kernel
theorem dJ6_numberOfTrailingZeros_0 : decode cJ6_numberOfTrailingZeros 0 = .ok (.iload_n 0, 1) := by decide +kernel
theorem dJ6_numberOfTrailingZeros_1 : decode cJ6_numberOfTrailingZeros 1 = .ok (.iconst (-1), 1) := by decide +kernel
theorem dJ6_numberOfTrailingZeros_2 : decode cJ6_numberOfTrailingZeros 2 = .ok (.ixor, 1) := by decide +kernel
theorem dJ6_numberOfTrailingZeros_3 : decode cJ6_numberOfTrailingZeros 3 = .ok (.iload_n 0, 1) := by decide +kernel
theorem dJ6_numberOfTrailingZeros_4 : decode cJ6_numberOfTrailingZeros 4 = .ok (.iconst 1, 1) := by decide +kernel
theorem dJ6_numberOfTrailingZeros_5 : decode cJ6_numberOfTrailingZeros 5 = .ok (.isub, 1) := by decide +kernel
theorem dJ6_numberOfTrailingZeros_6 : decode cJ6_numberOfTrailingZeros 6 = .ok (.iand, 1) := by decide +kernel
theorem dJ6_numberOfTrailingZeros_7 : decode cJ6_numberOfTrailingZeros 7 = .ok (.istore_n 0, 1) := by decide +kernel
theorem dJ6_numberOfTrailingZeros_8 : decode cJ6_numberOfTrailingZeros 8 = .ok (.iload_n 0, 1) := by decide +kernel
theorem dJ6_numberOfTrailingZeros_9 : decode cJ6_numberOfTrailingZeros 9 = .ok (.ifCond .gt 8, 3) := by decide +kernel
theorem dJ6_numberOfTrailingZeros_12 : decode cJ6_numberOfTrailingZeros 12 = .ok (.iload_n 0, 1) := by decide +kernel
theorem dJ6_numberOfTrailingZeros_13 : decode cJ6_numberOfTrailingZeros 13 = .ok (.bipush 32, 2) := by decide +kernel
theorem dJ6_numberOfTrailingZeros_15 : decode cJ6_numberOfTrailingZeros 15 = .ok (.iand, 1) := by decide +kernel
theorem dJ6_numberOfTrailingZeros_16 : decode cJ6_numberOfTrailingZeros 16 = .ok (.ireturn, 1) := by decide +kernel
theorem dJ6_numberOfTrailingZeros_17 : decode cJ6_numberOfTrailingZeros 17 = .ok (.iconst 1, 1) := by decide +kernel
theorem dJ6_numberOfTrailingZeros_18 : decode cJ6_numberOfTrailingZeros 18 = .ok (.istore_n 1, 1) := by decide +kernel
theorem dJ6_numberOfTrailingZeros_19 : decode cJ6_numberOfTrailingZeros 19 = .ok (.iload_n 0, 1) := by decide +kernel
theorem dJ6_numberOfTrailingZeros_20 : decode cJ6_numberOfTrailingZeros 20 = .ok (.ldc_w 264, 3) := by decide +kernel
theorem dJ6_numberOfTrailingZeros_23 : decode cJ6_numberOfTrailingZeros 23 = .ok (.if_icmp .le 11, 3) := by decide +kernel
theorem dJ6_numberOfTrailingZeros_26 : decode cJ6_numberOfTrailingZeros 26 = .ok (.iinc 1 16, 3) := by decide +kernel
theorem dJ6_numberOfTrailingZeros_29 : decode cJ6_numberOfTrailingZeros 29 = .ok (.iload_n 0, 1) := by decide +kernel
theorem dJ6_numberOfTrailingZeros_30 : decode cJ6_numberOfTrailingZeros 30 = .ok (.bipush 16, 2) := by decide +kernel
theorem dJ6_numberOfTrailingZeros_32 : decode cJ6_numberOfTrailingZeros 32 = .ok (.iushr, 1) := by decide +kernel
theorem dJ6_numberOfTrailingZeros_33 : decode cJ6_numberOfTrailingZeros 33 = .ok (.istore_n 0, 1) := by decide +kernel
theorem dJ6_numberOfTrailingZeros_34 : decode cJ6_numberOfTrailingZeros 34 = .ok (.iload_n 0, 1) := by decide +kernel
theorem dJ6_numberOfTrailingZeros_35 : decode cJ6_numberOfTrailingZeros 35 = .ok (.sipush 256, 3) := by decide +kernel
theorem dJ6_numberOfTrailingZeros_38 : decode cJ6_numberOfTrailingZeros 38 = .ok (.if_icmp .le 11, 3) := by decide +kernel
theorem dJ6_numberOfTrailingZeros_41 : decode cJ6_numberOfTrailingZeros 41 = .ok (.iinc 1 8, 3) := by decide +kernel
theorem dJ6_numberOfTrailingZeros_44 : decode cJ6_numberOfTrailingZeros 44 = .ok (.iload_n 0, 1) := by decide +kernel
theorem dJ6_numberOfTrailingZeros_45 : decode cJ6_numberOfTrailingZeros 45 = .ok (.bipush 8, 2) := by decide +kernel
theorem dJ6_numberOfTrailingZeros_47 : decode cJ6_numberOfTrailingZeros 47 = .ok (.iushr, 1) := by decide +kernel
theorem dJ6_numberOfTrailingZeros_48 : decode cJ6_numberOfTrailingZeros 48 = .ok (.istore_n 0, 1) := by decide +kernel
theorem dJ6_numberOfTrailingZeros_49 : decode cJ6_numberOfTrailingZeros 49 = .ok (.iload_n 0, 1) := by decide +kernel
theorem dJ6_numberOfTrailingZeros_50 : decode cJ6_numberOfTrailingZeros 50 = .ok (.bipush 16, 2) := by decide +kernel
theorem dJ6_numberOfTrailingZeros_52 : decode cJ6_numberOfTrailingZeros 52 = .ok (.if_icmp .le 10, 3) := by decide +kernel
theorem dJ6_numberOfTrailingZeros_55 : decode cJ6_numberOfTrailingZeros 55 = .ok (.iinc 1 4, 3) := by decide +kernel
theorem dJ6_numberOfTrailingZeros_58 : decode cJ6_numberOfTrailingZeros 58 = .ok (.iload_n 0, 1) := by decide +kernel
theorem dJ6_numberOfTrailingZeros_59 : decode cJ6_numberOfTrailingZeros 59 = .ok (.iconst 4, 1) := by decide +kernel
theorem dJ6_numberOfTrailingZeros_60 : decode cJ6_numberOfTrailingZeros 60 = .ok (.iushr, 1) := by decide +kernel
theorem dJ6_numberOfTrailingZeros_61 : decode cJ6_numberOfTrailingZeros 61 = .ok (.istore_n 0, 1) := by decide +kernel
theorem dJ6_numberOfTrailingZeros_62 : decode cJ6_numberOfTrailingZeros 62 = .ok (.iload_n 0, 1) := by decide +kernel
theorem dJ6_numberOfTrailingZeros_63 : decode cJ6_numberOfTrailingZeros 63 = .ok (.iconst 4, 1) := by decide +kernel
theorem dJ6_numberOfTrailingZeros_64 : decode cJ6_numberOfTrailingZeros 64 = .ok (.if_icmp .le 10, 3) := by decide +kernel
theorem dJ6_numberOfTrailingZeros_67 : decode cJ6_numberOfTrailingZeros 67 = .ok (.iinc 1 2, 3) := by decide +kernel
theorem dJ6_numberOfTrailingZeros_70 : decode cJ6_numberOfTrailingZeros 70 = .ok (.iload_n 0, 1) := by decide +kernel
theorem dJ6_numberOfTrailingZeros_71 : decode cJ6_numberOfTrailingZeros 71 = .ok (.iconst 2, 1) := by decide +kernel
theorem dJ6_numberOfTrailingZeros_72 : decode cJ6_numberOfTrailingZeros 72 = .ok (.iushr, 1) := by decide +kernel
theorem dJ6_numberOfTrailingZeros_73 : decode cJ6_numberOfTrailingZeros 73 = .ok (.istore_n 0, 1) := by decide +kernel
theorem dJ6_numberOfTrailingZeros_74 : decode cJ6_numberOfTrailingZeros 74 = .ok (.iload_n 1, 1) := by decide +kernel
theorem dJ6_numberOfTrailingZeros_75 : decode cJ6_numberOfTrailingZeros 75 = .ok (.iload_n 0, 1) := by decide +kernel
theorem dJ6_numberOfTrailingZeros_76 : decode cJ6_numberOfTrailingZeros 76 = .ok (.iconst 1, 1) := by decide +kernel
theorem dJ6_numberOfTrailingZeros_77 : decode cJ6_numberOfTrailingZeros 77 = .ok (.iushr, 1) := by decide +kernel
theorem dJ6_numberOfTrailingZeros_78 : decode cJ6_numberOfTrailingZeros 78 = .ok (.iadd, 1) := by decide +kernel
theorem dJ6_numberOfTrailingZeros_79 : decode cJ6_numberOfTrailingZeros 79 = .ok (.ireturn, 1) := by decide +kernel
