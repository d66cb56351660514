theorem dX4_init_0 : decode cX4_init 0 = .ok (.aload_n 0, 1) := by decide +kernel
theorem dX4_init_1 : decode cX4_init 1 = .ok (.invokespecial 1, 3) := by decide +kernel
theorem dX4_init_4 : decode cX4_init 4 = .ok (.aload_n 0, 1) := by decide +kernel
theorem dX4_init_5 : decode cX4_init 5 = .ok (.bipush 16, 2) := by decide +kernel
theorem dX4_init_7 : decode cX4_init 7 = .ok (.newarray .boolean, 2) := by decide +kernel
theorem dX4_init_9 : decode cX4_init 9 = .ok (.putfield 7, 3) := by decide +kernel
theorem dX4_init_12 : decode cX4_init 12 = .ok (.aload_n 0, 1) := by decide +kernel
theorem dX4_init_13 : decode cX4_init 13 = .ok (.bipush 16, 2) := by decide +kernel
theorem dX4_init_15 : decode cX4_init 15 = .ok (.newarray .boolean, 2) := by decide +kernel
theorem dX4_init_17 : decode cX4_init 17 = .ok (.putfield 13, 3) := by decide +kernel
theorem dX4_init_20 : decode cX4_init 20 = .ok (.aload_n 0, 1) := by decide +kernel
theorem dX4_init_21 : decode cX4_init 21 = .ok (.bipush 16, 2) := by decide +kernel
theorem dX4_init_23 : decode cX4_init 23 = .ok (.newarray .int, 2) := by decide +kernel
theorem dX4_init_25 : decode cX4_init 25 = .ok (.putfield 16, 3) := by decide +kernel
theorem dX4_init_28 : decode cX4_init 28 = .ok (.aload_n 0, 1) := by decide +kernel
theorem dX4_init_29 : decode cX4_init 29 = .ok (.bipush 60, 2) := by decide +kernel
theorem dX4_init_31 : decode cX4_init 31 = .ok (.newarray .int, 2) := by decide +kernel
theorem dX4_init_33 : decode cX4_init 33 = .ok (.putfield 20, 3) := by decide +kernel
theorem dX4_init_36 : decode cX4_init 36 = .ok (.aload_n 0, 1) := by decide +kernel
theorem dX4_init_37 : decode cX4_init 37 = .ok (.sipush 180, 3) := by decide +kernel
theorem dX4_init_40 : decode cX4_init 40 = .ok (.newarray .int, 2) := by decide +kernel
theorem dX4_init_42 : decode cX4_init 42 = .ok (.putfield 23, 3) := by decide +kernel
theorem dX4_init_45 : decode cX4_init 45 = .ok (.aload_n 0, 1) := by decide +kernel
theorem dX4_init_46 : decode cX4_init 46 = .ok (.bipush 40, 2) := by decide +kernel
theorem dX4_init_48 : decode cX4_init 48 = .ok (.newarray .int, 2) := by decide +kernel
theorem dX4_init_50 : decode cX4_init 50 = .ok (.putfield 26, 3) := by decide +kernel
theorem dX4_init_53 : decode cX4_init 53 = .ok (.aload_n 0, 1) := by decide +kernel
theorem dX4_init_54 : decode cX4_init 54 = .ok (.bipush 40, 2) := by decide +kernel
theorem dX4_init_56 : decode cX4_init 56 = .ok (.newarray .int, 2) := by decide +kernel
theorem dX4_init_58 : decode cX4_init 58 = .ok (.putfield 29, 3) := by decide +kernel
theorem dX4_init_61 : decode cX4_init 61 = .ok (.aload_n 0, 1) := by decide +kernel
theorem dX4_init_62 : decode cX4_init 62 = .ok (.bipush 40, 2) := by decide +kernel
theorem dX4_init_64 : decode cX4_init 64 = .ok (.newarray .boolean, 2) := by decide +kernel
theorem dX4_init_66 : decode cX4_init 66 = .ok (.putfield 32, 3) := by decide +kernel
theorem dX4_init_69 : decode cX4_init 69 = .ok (.aload_n 0, 1) := by decide +kernel
theorem dX4_init_70 : decode cX4_init 70 = .ok (.bipush 60, 2) := by decide +kernel
theorem dX4_init_72 : decode cX4_init 72 = .ok (.newarray .int, 2) := by decide +kernel
theorem dX4_init_74 : decode cX4_init 74 = .ok (.putfield 35, 3) := by decide +kernel
theorem dX4_init_77 : decode cX4_init 77 = .ok (.aload_n 0, 1) := by decide +kernel
theorem dX4_init_78 : decode cX4_init 78 = .ok (.sipush 3600, 3) := by decide +kernel
theorem dX4_init_81 : decode cX4_init 81 = .ok (.newarray .boolean, 2) := by decide +kernel
theorem dX4_init_83 : decode cX4_init 83 = .ok (.putfield 38, 3) := by decide +kernel
theorem dX4_init_86 : decode cX4_init 86 = .ok (.aload_n 0, 1) := by decide +kernel
theorem dX4_init_87 : decode cX4_init 87 = .ok (.bipush 60, 2) := by decide +kernel
theorem dX4_init_89 : decode cX4_init 89 = .ok (.newarray .boolean, 2) := by decide +kernel
theorem dX4_init_91 : decode cX4_init 91 = .ok (.putfield 41, 3) := by decide +kernel
theorem dX4_init_94 : decode cX4_init 94 = .ok (.return_, 1) := by decide +kernel
theorem dX4_thrown_0 : decode cX4_thrown 0 = .ok (.aload_n 0, 1) := by decide +kernel
theorem dX4_thrown_1 : decode cX4_thrown 1 = .ok (.getfield 44, 3) := by decide +kernel
theorem dX4_thrown_4 : decode cX4_thrown 4 = .ok (.ireturn, 1) := by decide +kernel
theorem dX4_builder_0 : decode cX4_builder 0 = .ok (.aload_n 0, 1) := by decide +kernel
theorem dX4_builder_1 : decode cX4_builder 1 = .ok (.iload_n 1, 1) := by decide +kernel
theorem dX4_builder_2 : decode cX4_builder 2 = .ok (.ifCond .lt 9, 3) := by decide +kernel
theorem dX4_builder_5 : decode cX4_builder 5 = .ok (.iload_n 1, 1) := by decide +kernel
theorem dX4_builder_6 : decode cX4_builder 6 = .ok (.bipush 16, 2) := by decide +kernel
theorem dX4_builder_8 : decode cX4_builder 8 = .ok (.if_icmp .lt 7, 3) := by decide +kernel
theorem dX4_builder_11 : decode cX4_builder 11 = .ok (.iconst 1, 1) := by decide +kernel
theorem dX4_builder_12 : decode cX4_builder 12 = .ok (.goto 17, 3) := by decide +kernel
theorem dX4_builder_15 : decode cX4_builder 15 = .ok (.aload_n 0, 1) := by decide +kernel
theorem dX4_builder_16 : decode cX4_builder 16 = .ok (.getfield 13, 3) := by decide +kernel
theorem dX4_builder_19 : decode cX4_builder 19 = .ok (.iload_n 1, 1) := by decide +kernel
theorem dX4_builder_20 : decode cX4_builder 20 = .ok (.baload, 1) := by decide +kernel
theorem dX4_builder_21 : decode cX4_builder 21 = .ok (.ifCond .eq 7, 3) := by decide +kernel
theorem dX4_builder_24 : decode cX4_builder 24 = .ok (.iconst 2, 1) := by decide +kernel
theorem dX4_builder_25 : decode cX4_builder 25 = .ok (.goto 4, 3) := by decide +kernel
theorem dX4_builder_28 : decode cX4_builder 28 = .ok (.iconst 0, 1) := by decide +kernel
theorem dX4_builder_29 : decode cX4_builder 29 = .ok (.putfield 44, 3) := by decide +kernel
theorem dX4_builder_32 : decode cX4_builder 32 = .ok (.aload_n 0, 1) := by decide +kernel
theorem dX4_builder_33 : decode cX4_builder 33 = .ok (.getfield 44, 3) := by decide +kernel
theorem dX4_builder_36 : decode cX4_builder 36 = .ok (.ifCond .ne 10, 3) := by decide +kernel
theorem dX4_builder_39 : decode cX4_builder 39 = .ok (.aload_n 0, 1) := by decide +kernel
theorem dX4_builder_40 : decode cX4_builder 40 = .ok (.getfield 7, 3) := by decide +kernel
theorem dX4_builder_43 : decode cX4_builder 43 = .ok (.iload_n 1, 1) := by decide +kernel
theorem dX4_builder_44 : decode cX4_builder 44 = .ok (.iconst 1, 1) := by decide +kernel
theorem dX4_builder_45 : decode cX4_builder 45 = .ok (.bastore, 1) := by decide +kernel
theorem dX4_builder_46 : decode cX4_builder 46 = .ok (.return_, 1) := by decide +kernel
theorem dX4_term_0 : decode cX4_term 0 = .ok (.aload_n 0, 1) := by decide +kernel
theorem dX4_term_1 : decode cX4_term 1 = .ok (.iload_n 2, 1) := by decide +kernel
theorem dX4_term_2 : decode cX4_term 2 = .ok (.iload_n 3, 1) := by decide +kernel
theorem dX4_term_3 : decode cX4_term 3 = .ok (.iload 4, 2) := by decide +kernel
theorem dX4_term_5 : decode cX4_term 5 = .ok (.invokevirtual 55, 3) := by decide +kernel
theorem dX4_term_8 : decode cX4_term 8 = .ok (.istore 5, 2) := by decide +kernel
theorem dX4_term_10 : decode cX4_term 10 = .ok (.aload_n 0, 1) := by decide +kernel
theorem dX4_term_11 : decode cX4_term 11 = .ok (.iload_n 1, 1) := by decide +kernel
theorem dX4_term_12 : decode cX4_term 12 = .ok (.ifCond .lt 15, 3) := by decide +kernel
theorem dX4_term_15 : decode cX4_term 15 = .ok (.iload_n 1, 1) := by decide +kernel
theorem dX4_term_16 : decode cX4_term 16 = .ok (.bipush 16, 2) := by decide +kernel
theorem dX4_term_18 : decode cX4_term 18 = .ok (.if_icmp .ge 9, 3) := by decide +kernel
theorem dX4_term_21 : decode cX4_term 21 = .ok (.iload 5, 2) := by decide +kernel
theorem dX4_term_23 : decode cX4_term 23 = .ok (.iconst 4, 1) := by decide +kernel
theorem dX4_term_24 : decode cX4_term 24 = .ok (.if_icmp .ne 7, 3) := by decide +kernel
theorem dX4_term_27 : decode cX4_term 27 = .ok (.iconst 1, 1) := by decide +kernel
theorem dX4_term_28 : decode cX4_term 28 = .ok (.goto 28, 3) := by decide +kernel
theorem dX4_term_31 : decode cX4_term 31 = .ok (.aload_n 0, 1) := by decide +kernel
theorem dX4_term_32 : decode cX4_term 32 = .ok (.getfield 13, 3) := by decide +kernel
theorem dX4_term_35 : decode cX4_term 35 = .ok (.iload_n 1, 1) := by decide +kernel
theorem dX4_term_36 : decode cX4_term 36 = .ok (.baload, 1) := by decide +kernel
theorem dX4_term_37 : decode cX4_term 37 = .ok (.ifCond .eq 18, 3) := by decide +kernel
theorem dX4_term_40 : decode cX4_term 40 = .ok (.aload_n 0, 1) := by decide +kernel
theorem dX4_term_41 : decode cX4_term 41 = .ok (.getfield 16, 3) := by decide +kernel
theorem dX4_term_44 : decode cX4_term 44 = .ok (.iload_n 1, 1) := by decide +kernel
theorem dX4_term_45 : decode cX4_term 45 = .ok (.iaload, 1) := by decide +kernel
theorem dX4_term_46 : decode cX4_term 46 = .ok (.iload 5, 2) := by decide +kernel
theorem dX4_term_48 : decode cX4_term 48 = .ok (.if_icmp .eq 7, 3) := by decide +kernel
theorem dX4_term_51 : decode cX4_term 51 = .ok (.iconst 2, 1) := by decide +kernel
theorem dX4_term_52 : decode cX4_term 52 = .ok (.goto 4, 3) := by decide +kernel
theorem dX4_term_55 : decode cX4_term 55 = .ok (.iconst 0, 1) := by decide +kernel
theorem dX4_term_56 : decode cX4_term 56 = .ok (.putfield 44, 3) := by decide +kernel
theorem dX4_term_59 : decode cX4_term 59 = .ok (.aload_n 0, 1) := by decide +kernel
theorem dX4_term_60 : decode cX4_term 60 = .ok (.getfield 44, 3) := by decide +kernel
theorem dX4_term_63 : decode cX4_term 63 = .ok (.ifCond .le 5, 3) := by decide +kernel
theorem dX4_term_66 : decode cX4_term 66 = .ok (.iconst 0, 1) := by decide +kernel
theorem dX4_term_67 : decode cX4_term 67 = .ok (.ireturn, 1) := by decide +kernel
theorem dX4_term_68 : decode cX4_term 68 = .ok (.iload 5, 2) := by decide +kernel
theorem dX4_term_70 : decode cX4_term 70 = .ok (.ifCond .le 7, 3) := by decide +kernel
theorem dX4_term_73 : decode cX4_term 73 = .ok (.iload_n 2, 1) := by decide +kernel
theorem dX4_term_74 : decode cX4_term 74 = .ok (.goto 4, 3) := by decide +kernel
theorem dX4_term_77 : decode cX4_term 77 = .ok (.iconst (-1), 1) := by decide +kernel
theorem dX4_term_78 : decode cX4_term 78 = .ok (.istore 6, 2) := by decide +kernel
theorem dX4_term_80 : decode cX4_term 80 = .ok (.iload 5, 2) := by decide +kernel
theorem dX4_term_82 : decode cX4_term 82 = .ok (.iconst 1, 1) := by decide +kernel
theorem dX4_term_83 : decode cX4_term 83 = .ok (.if_icmp .le 7, 3) := by decide +kernel
theorem dX4_term_86 : decode cX4_term 86 = .ok (.iload_n 3, 1) := by decide +kernel
theorem dX4_term_87 : decode cX4_term 87 = .ok (.goto 4, 3) := by decide +kernel
theorem dX4_term_90 : decode cX4_term 90 = .ok (.iconst (-1), 1) := by decide +kernel
theorem dX4_term_91 : decode cX4_term 91 = .ok (.istore 7, 2) := by decide +kernel
theorem dX4_term_93 : decode cX4_term 93 = .ok (.iload 5, 2) := by decide +kernel
theorem dX4_term_95 : decode cX4_term 95 = .ok (.iconst 2, 1) := by decide +kernel
theorem dX4_term_96 : decode cX4_term 96 = .ok (.if_icmp .le 8, 3) := by decide +kernel
theorem dX4_term_99 : decode cX4_term 99 = .ok (.iload 4, 2) := by decide +kernel
theorem dX4_term_101 : decode cX4_term 101 = .ok (.goto 4, 3) := by decide +kernel
theorem dX4_term_104 : decode cX4_term 104 = .ok (.iconst (-1), 1) := by decide +kernel
theorem dX4_term_105 : decode cX4_term 105 = .ok (.istore 8, 2) := by decide +kernel
theorem dX4_term_107 : decode cX4_term 107 = .ok (.iconst 0, 1) := by decide +kernel
theorem dX4_term_108 : decode cX4_term 108 = .ok (.istore 9, 2) := by decide +kernel
theorem dX4_term_110 : decode cX4_term 110 = .ok (.iload 9, 2) := by decide +kernel
theorem dX4_term_112 : decode cX4_term 112 = .ok (.aload_n 0, 1) := by decide +kernel
theorem dX4_term_113 : decode cX4_term 113 = .ok (.getfield 48, 3) := by decide +kernel
theorem dX4_term_116 : decode cX4_term 116 = .ok (.if_icmp .ge 66, 3) := by decide +kernel
theorem dX4_term_119 : decode cX4_term 119 = .ok (.aload_n 0, 1) := by decide +kernel
theorem dX4_term_120 : decode cX4_term 120 = .ok (.getfield 20, 3) := by decide +kernel
theorem dX4_term_123 : decode cX4_term 123 = .ok (.iload 9, 2) := by decide +kernel
theorem dX4_term_125 : decode cX4_term 125 = .ok (.iaload, 1) := by decide +kernel
theorem dX4_term_126 : decode cX4_term 126 = .ok (.iload_n 1, 1) := by decide +kernel
theorem dX4_term_127 : decode cX4_term 127 = .ok (.if_icmp .ne 49, 3) := by decide +kernel
theorem dX4_term_130 : decode cX4_term 130 = .ok (.aload_n 0, 1) := by decide +kernel
theorem dX4_term_131 : decode cX4_term 131 = .ok (.getfield 23, 3) := by decide +kernel
theorem dX4_term_134 : decode cX4_term 134 = .ok (.iconst 3, 1) := by decide +kernel
theorem dX4_term_135 : decode cX4_term 135 = .ok (.iload 9, 2) := by decide +kernel
theorem dX4_term_137 : decode cX4_term 137 = .ok (.imul, 1) := by decide +kernel
theorem dX4_term_138 : decode cX4_term 138 = .ok (.iaload, 1) := by decide +kernel
theorem dX4_term_139 : decode cX4_term 139 = .ok (.iload 6, 2) := by decide +kernel
theorem dX4_term_141 : decode cX4_term 141 = .ok (.if_icmp .ne 35, 3) := by decide +kernel
theorem dX4_term_144 : decode cX4_term 144 = .ok (.aload_n 0, 1) := by decide +kernel
theorem dX4_term_145 : decode cX4_term 145 = .ok (.getfield 23, 3) := by decide +kernel
theorem dX4_term_148 : decode cX4_term 148 = .ok (.iconst 3, 1) := by decide +kernel
theorem dX4_term_149 : decode cX4_term 149 = .ok (.iload 9, 2) := by decide +kernel
theorem dX4_term_151 : decode cX4_term 151 = .ok (.imul, 1) := by decide +kernel
theorem dX4_term_152 : decode cX4_term 152 = .ok (.iconst 1, 1) := by decide +kernel
theorem dX4_term_153 : decode cX4_term 153 = .ok (.iadd, 1) := by decide +kernel
theorem dX4_term_154 : decode cX4_term 154 = .ok (.iaload, 1) := by decide +kernel
theorem dX4_term_155 : decode cX4_term 155 = .ok (.iload 7, 2) := by decide +kernel
theorem dX4_term_157 : decode cX4_term 157 = .ok (.if_icmp .ne 19, 3) := by decide +kernel
theorem dX4_term_160 : decode cX4_term 160 = .ok (.aload_n 0, 1) := by decide +kernel
theorem dX4_term_161 : decode cX4_term 161 = .ok (.getfield 23, 3) := by decide +kernel
theorem dX4_term_164 : decode cX4_term 164 = .ok (.iconst 3, 1) := by decide +kernel
theorem dX4_term_165 : decode cX4_term 165 = .ok (.iload 9, 2) := by decide +kernel
theorem dX4_term_167 : decode cX4_term 167 = .ok (.imul, 1) := by decide +kernel
theorem dX4_term_168 : decode cX4_term 168 = .ok (.iconst 2, 1) := by decide +kernel
theorem dX4_term_169 : decode cX4_term 169 = .ok (.iadd, 1) := by decide +kernel
theorem dX4_term_170 : decode cX4_term 170 = .ok (.iaload, 1) := by decide +kernel
theorem dX4_term_171 : decode cX4_term 171 = .ok (.iload 8, 2) := by decide +kernel
theorem dX4_term_173 : decode cX4_term 173 = .ok (.if_icmp .eq 9, 3) := by decide +kernel
theorem dX4_term_176 : decode cX4_term 176 = .ok (.iinc 9 1, 3) := by decide +kernel
theorem dX4_term_179 : decode cX4_term 179 = .ok (.goto (-69), 3) := by decide +kernel
theorem dX4_term_182 : decode cX4_term 182 = .ok (.iload 9, 2) := by decide +kernel
theorem dX4_term_184 : decode cX4_term 184 = .ok (.aload_n 0, 1) := by decide +kernel
theorem dX4_term_185 : decode cX4_term 185 = .ok (.getfield 48, 3) := by decide +kernel
theorem dX4_term_188 : decode cX4_term 188 = .ok (.if_icmp .ge 6, 3) := by decide +kernel
theorem dX4_term_191 : decode cX4_term 191 = .ok (.iload 9, 2) := by decide +kernel
theorem dX4_term_193 : decode cX4_term 193 = .ok (.ireturn, 1) := by decide +kernel
theorem dX4_term_194 : decode cX4_term 194 = .ok (.aload_n 0, 1) := by decide +kernel
theorem dX4_term_195 : decode cX4_term 195 = .ok (.aload_n 0, 1) := by decide +kernel
theorem dX4_term_196 : decode cX4_term 196 = .ok (.getfield 48, 3) := by decide +kernel
theorem dX4_term_199 : decode cX4_term 199 = .ok (.bipush 60, 2) := by decide +kernel
theorem dX4_term_201 : decode cX4_term 201 = .ok (.if_icmp .ne 7, 3) := by decide +kernel
theorem dX4_term_204 : decode cX4_term 204 = .ok (.iconst 3, 1) := by decide +kernel
theorem dX4_term_205 : decode cX4_term 205 = .ok (.goto 4, 3) := by decide +kernel
theorem dX4_term_208 : decode cX4_term 208 = .ok (.iconst 0, 1) := by decide +kernel
theorem dX4_term_209 : decode cX4_term 209 = .ok (.putfield 44, 3) := by decide +kernel
theorem dX4_term_212 : decode cX4_term 212 = .ok (.aload_n 0, 1) := by decide +kernel
theorem dX4_term_213 : decode cX4_term 213 = .ok (.getfield 44, 3) := by decide +kernel
theorem dX4_term_216 : decode cX4_term 216 = .ok (.ifCond .le 5, 3) := by decide +kernel
theorem dX4_term_219 : decode cX4_term 219 = .ok (.iconst 0, 1) := by decide +kernel
theorem dX4_term_220 : decode cX4_term 220 = .ok (.ireturn, 1) := by decide +kernel
theorem dX4_term_221 : decode cX4_term 221 = .ok (.aload_n 0, 1) := by decide +kernel
theorem dX4_term_222 : decode cX4_term 222 = .ok (.getfield 13, 3) := by decide +kernel
theorem dX4_term_225 : decode cX4_term 225 = .ok (.iload_n 1, 1) := by decide +kernel
theorem dX4_term_226 : decode cX4_term 226 = .ok (.iconst 1, 1) := by decide +kernel
theorem dX4_term_227 : decode cX4_term 227 = .ok (.bastore, 1) := by decide +kernel
theorem dX4_term_228 : decode cX4_term 228 = .ok (.aload_n 0, 1) := by decide +kernel
theorem dX4_term_229 : decode cX4_term 229 = .ok (.getfield 16, 3) := by decide +kernel
theorem dX4_term_232 : decode cX4_term 232 = .ok (.iload_n 1, 1) := by decide +kernel
theorem dX4_term_233 : decode cX4_term 233 = .ok (.iload 5, 2) := by decide +kernel
theorem dX4_term_235 : decode cX4_term 235 = .ok (.iastore, 1) := by decide +kernel
theorem dX4_term_236 : decode cX4_term 236 = .ok (.aload_n 0, 1) := by decide +kernel
theorem dX4_term_237 : decode cX4_term 237 = .ok (.getfield 20, 3) := by decide +kernel
theorem dX4_term_240 : decode cX4_term 240 = .ok (.iload 9, 2) := by decide +kernel
theorem dX4_term_242 : decode cX4_term 242 = .ok (.iload_n 1, 1) := by decide +kernel
theorem dX4_term_243 : decode cX4_term 243 = .ok (.iastore, 1) := by decide +kernel
theorem dX4_term_244 : decode cX4_term 244 = .ok (.aload_n 0, 1) := by decide +kernel
theorem dX4_term_245 : decode cX4_term 245 = .ok (.getfield 23, 3) := by decide +kernel
theorem dX4_term_248 : decode cX4_term 248 = .ok (.iconst 3, 1) := by decide +kernel
theorem dX4_term_249 : decode cX4_term 249 = .ok (.iload 9, 2) := by decide +kernel
theorem dX4_term_251 : decode cX4_term 251 = .ok (.imul, 1) := by decide +kernel
theorem dX4_term_252 : decode cX4_term 252 = .ok (.iload 6, 2) := by decide +kernel
theorem dX4_term_254 : decode cX4_term 254 = .ok (.iastore, 1) := by decide +kernel
theorem dX4_term_255 : decode cX4_term 255 = .ok (.aload_n 0, 1) := by decide +kernel
theorem dX4_term_256 : decode cX4_term 256 = .ok (.getfield 23, 3) := by decide +kernel
theorem dX4_term_259 : decode cX4_term 259 = .ok (.iconst 3, 1) := by decide +kernel
theorem dX4_term_260 : decode cX4_term 260 = .ok (.iload 9, 2) := by decide +kernel
theorem dX4_term_262 : decode cX4_term 262 = .ok (.imul, 1) := by decide +kernel
theorem dX4_term_263 : decode cX4_term 263 = .ok (.iconst 1, 1) := by decide +kernel
theorem dX4_term_264 : decode cX4_term 264 = .ok (.iadd, 1) := by decide +kernel
theorem dX4_term_265 : decode cX4_term 265 = .ok (.iload 7, 2) := by decide +kernel
theorem dX4_term_267 : decode cX4_term 267 = .ok (.iastore, 1) := by decide +kernel
theorem dX4_term_268 : decode cX4_term 268 = .ok (.aload_n 0, 1) := by decide +kernel
theorem dX4_term_269 : decode cX4_term 269 = .ok (.getfield 23, 3) := by decide +kernel
theorem dX4_term_272 : decode cX4_term 272 = .ok (.iconst 3, 1) := by decide +kernel
theorem dX4_term_273 : decode cX4_term 273 = .ok (.iload 9, 2) := by decide +kernel
theorem dX4_term_275 : decode cX4_term 275 = .ok (.imul, 1) := by decide +kernel
theorem dX4_term_276 : decode cX4_term 276 = .ok (.iconst 2, 1) := by decide +kernel
theorem dX4_term_277 : decode cX4_term 277 = .ok (.iadd, 1) := by decide +kernel
theorem dX4_term_278 : decode cX4_term 278 = .ok (.iload 8, 2) := by decide +kernel
theorem dX4_term_280 : decode cX4_term 280 = .ok (.iastore, 1) := by decide +kernel
theorem dX4_term_281 : decode cX4_term 281 = .ok (.aload_n 0, 1) := by decide +kernel
theorem dX4_term_282 : decode cX4_term 282 = .ok (.dup, 1) := by decide +kernel
theorem dX4_term_283 : decode cX4_term 283 = .ok (.getfield 48, 3) := by decide +kernel
theorem dX4_term_286 : decode cX4_term 286 = .ok (.iconst 1, 1) := by decide +kernel
theorem dX4_term_287 : decode cX4_term 287 = .ok (.iadd, 1) := by decide +kernel
theorem dX4_term_288 : decode cX4_term 288 = .ok (.putfield 48, 3) := by decide +kernel
theorem dX4_term_291 : decode cX4_term 291 = .ok (.iload 9, 2) := by decide +kernel
theorem dX4_term_293 : decode cX4_term 293 = .ok (.ireturn, 1) := by decide +kernel
theorem dX4_counted_0 : decode cX4_counted 0 = .ok (.iload_n 1, 1) := by decide +kernel
theorem dX4_counted_1 : decode cX4_counted 1 = .ok (.iconst (-1), 1) := by decide +kernel
theorem dX4_counted_2 : decode cX4_counted 2 = .ok (.if_icmp .ne 5, 3) := by decide +kernel
theorem dX4_counted_5 : decode cX4_counted 5 = .ok (.iconst 0, 1) := by decide +kernel
theorem dX4_counted_6 : decode cX4_counted 6 = .ok (.ireturn, 1) := by decide +kernel
theorem dX4_counted_7 : decode cX4_counted 7 = .ok (.aload_n 0, 1) := by decide +kernel
theorem dX4_counted_8 : decode cX4_counted 8 = .ok (.iload_n 1, 1) := by decide +kernel
theorem dX4_counted_9 : decode cX4_counted 9 = .ok (.invokevirtual 51, 3) := by decide +kernel
theorem dX4_counted_12 : decode cX4_counted 12 = .ok (.ifCond .ne 5, 3) := by decide +kernel
theorem dX4_counted_15 : decode cX4_counted 15 = .ok (.iconst 4, 1) := by decide +kernel
theorem dX4_counted_16 : decode cX4_counted 16 = .ok (.ireturn, 1) := by decide +kernel
theorem dX4_counted_17 : decode cX4_counted 17 = .ok (.iload_n 2, 1) := by decide +kernel
theorem dX4_counted_18 : decode cX4_counted 18 = .ok (.iconst (-1), 1) := by decide +kernel
theorem dX4_counted_19 : decode cX4_counted 19 = .ok (.if_icmp .ne 5, 3) := by decide +kernel
theorem dX4_counted_22 : decode cX4_counted 22 = .ok (.iconst 1, 1) := by decide +kernel
theorem dX4_counted_23 : decode cX4_counted 23 = .ok (.ireturn, 1) := by decide +kernel
theorem dX4_counted_24 : decode cX4_counted 24 = .ok (.aload_n 0, 1) := by decide +kernel
theorem dX4_counted_25 : decode cX4_counted 25 = .ok (.iload_n 2, 1) := by decide +kernel
theorem dX4_counted_26 : decode cX4_counted 26 = .ok (.invokevirtual 51, 3) := by decide +kernel
theorem dX4_counted_29 : decode cX4_counted 29 = .ok (.ifCond .ne 5, 3) := by decide +kernel
theorem dX4_counted_32 : decode cX4_counted 32 = .ok (.iconst 4, 1) := by decide +kernel
theorem dX4_counted_33 : decode cX4_counted 33 = .ok (.ireturn, 1) := by decide +kernel
theorem dX4_counted_34 : decode cX4_counted 34 = .ok (.iload_n 3, 1) := by decide +kernel
theorem dX4_counted_35 : decode cX4_counted 35 = .ok (.iconst (-1), 1) := by decide +kernel
theorem dX4_counted_36 : decode cX4_counted 36 = .ok (.if_icmp .ne 7, 3) := by decide +kernel
theorem dX4_counted_39 : decode cX4_counted 39 = .ok (.iconst 2, 1) := by decide +kernel
theorem dX4_counted_40 : decode cX4_counted 40 = .ok (.goto 16, 3) := by decide +kernel
theorem dX4_counted_43 : decode cX4_counted 43 = .ok (.aload_n 0, 1) := by decide +kernel
theorem dX4_counted_44 : decode cX4_counted 44 = .ok (.iload_n 3, 1) := by decide +kernel
theorem dX4_counted_45 : decode cX4_counted 45 = .ok (.invokevirtual 51, 3) := by decide +kernel
theorem dX4_counted_48 : decode cX4_counted 48 = .ok (.ifCond .eq 7, 3) := by decide +kernel
theorem dX4_counted_51 : decode cX4_counted 51 = .ok (.iconst 3, 1) := by decide +kernel
theorem dX4_counted_52 : decode cX4_counted 52 = .ok (.goto 4, 3) := by decide +kernel
theorem dX4_counted_55 : decode cX4_counted 55 = .ok (.iconst 4, 1) := by decide +kernel
theorem dX4_counted_56 : decode cX4_counted 56 = .ok (.ireturn, 1) := by decide +kernel
theorem dX4_isTerm_0 : decode cX4_isTerm 0 = .ok (.iload_n 1, 1) := by decide +kernel
theorem dX4_isTerm_1 : decode cX4_isTerm 1 = .ok (.ifCond .lt 15, 3) := by decide +kernel
theorem dX4_isTerm_4 : decode cX4_isTerm 4 = .ok (.iload_n 1, 1) := by decide +kernel
theorem dX4_isTerm_5 : decode cX4_isTerm 5 = .ok (.aload_n 0, 1) := by decide +kernel
theorem dX4_isTerm_6 : decode cX4_isTerm 6 = .ok (.getfield 48, 3) := by decide +kernel
theorem dX4_isTerm_9 : decode cX4_isTerm 9 = .ok (.if_icmp .ge 7, 3) := by decide +kernel
theorem dX4_isTerm_12 : decode cX4_isTerm 12 = .ok (.iconst 1, 1) := by decide +kernel
theorem dX4_isTerm_13 : decode cX4_isTerm 13 = .ok (.goto 4, 3) := by decide +kernel
theorem dX4_isTerm_16 : decode cX4_isTerm 16 = .ok (.iconst 0, 1) := by decide +kernel
theorem dX4_isTerm_17 : decode cX4_isTerm 17 = .ok (.ireturn, 1) := by decide +kernel
theorem dX4_part_0 : decode cX4_part 0 = .ok (.aload_n 0, 1) := by decide +kernel
theorem dX4_part_1 : decode cX4_part 1 = .ok (.iconst 0, 1) := by decide +kernel
theorem dX4_part_2 : decode cX4_part 2 = .ok (.putfield 44, 3) := by decide +kernel
theorem dX4_part_5 : decode cX4_part 5 = .ok (.aload_n 0, 1) := by decide +kernel
theorem dX4_part_6 : decode cX4_part 6 = .ok (.iload_n 1, 1) := by decide +kernel
theorem dX4_part_7 : decode cX4_part 7 = .ok (.invokevirtual 51, 3) := by decide +kernel
theorem dX4_part_10 : decode cX4_part 10 = .ok (.ifCond .ne 5, 3) := by decide +kernel
theorem dX4_part_13 : decode cX4_part 13 = .ok (.iconst (-1), 1) := by decide +kernel
theorem dX4_part_14 : decode cX4_part 14 = .ok (.ireturn, 1) := by decide +kernel
theorem dX4_part_15 : decode cX4_part 15 = .ok (.iload_n 2, 1) := by decide +kernel
theorem dX4_part_16 : decode cX4_part 16 = .ok (.ifCond .ne 10, 3) := by decide +kernel
theorem dX4_part_19 : decode cX4_part 19 = .ok (.aload_n 0, 1) := by decide +kernel
theorem dX4_part_20 : decode cX4_part 20 = .ok (.getfield 20, 3) := by decide +kernel
theorem dX4_part_23 : decode cX4_part 23 = .ok (.iload_n 1, 1) := by decide +kernel
theorem dX4_part_24 : decode cX4_part 24 = .ok (.iaload, 1) := by decide +kernel
theorem dX4_part_25 : decode cX4_part 25 = .ok (.ireturn, 1) := by decide +kernel
theorem dX4_part_26 : decode cX4_part 26 = .ok (.iload_n 2, 1) := by decide +kernel
theorem dX4_part_27 : decode cX4_part 27 = .ok (.ifCond .le 21, 3) := by decide +kernel
theorem dX4_part_30 : decode cX4_part 30 = .ok (.iload_n 2, 1) := by decide +kernel
theorem dX4_part_31 : decode cX4_part 31 = .ok (.iconst 4, 1) := by decide +kernel
theorem dX4_part_32 : decode cX4_part 32 = .ok (.if_icmp .ge 16, 3) := by decide +kernel
theorem dX4_part_35 : decode cX4_part 35 = .ok (.aload_n 0, 1) := by decide +kernel
theorem dX4_part_36 : decode cX4_part 36 = .ok (.getfield 23, 3) := by decide +kernel
theorem dX4_part_39 : decode cX4_part 39 = .ok (.iconst 3, 1) := by decide +kernel
theorem dX4_part_40 : decode cX4_part 40 = .ok (.iload_n 1, 1) := by decide +kernel
theorem dX4_part_41 : decode cX4_part 41 = .ok (.imul, 1) := by decide +kernel
theorem dX4_part_42 : decode cX4_part 42 = .ok (.iload_n 2, 1) := by decide +kernel
theorem dX4_part_43 : decode cX4_part 43 = .ok (.iadd, 1) := by decide +kernel
theorem dX4_part_44 : decode cX4_part 44 = .ok (.iconst 1, 1) := by decide +kernel
theorem dX4_part_45 : decode cX4_part 45 = .ok (.isub, 1) := by decide +kernel
theorem dX4_part_46 : decode cX4_part 46 = .ok (.iaload, 1) := by decide +kernel
theorem dX4_part_47 : decode cX4_part 47 = .ok (.ireturn, 1) := by decide +kernel
theorem dX4_part_48 : decode cX4_part 48 = .ok (.iload_n 2, 1) := by decide +kernel
theorem dX4_part_49 : decode cX4_part 49 = .ok (.iconst 4, 1) := by decide +kernel
theorem dX4_part_50 : decode cX4_part 50 = .ok (.if_icmp .ne 11, 3) := by decide +kernel
theorem dX4_part_53 : decode cX4_part 53 = .ok (.aload_n 0, 1) := by decide +kernel
theorem dX4_part_54 : decode cX4_part 54 = .ok (.iload_n 1, 1) := by decide +kernel
theorem dX4_part_55 : decode cX4_part 55 = .ok (.invokevirtual 59, 3) := by decide +kernel
theorem dX4_part_58 : decode cX4_part 58 = .ok (.goto 4, 3) := by decide +kernel
theorem dX4_part_61 : decode cX4_part 61 = .ok (.iconst (-1), 1) := by decide +kernel
theorem dX4_part_62 : decode cX4_part 62 = .ok (.ireturn, 1) := by decide +kernel
theorem dX4_standing_0 : decode cX4_standing 0 = .ok (.iconst 0, 1) := by decide +kernel
theorem dX4_standing_1 : decode cX4_standing 1 = .ok (.istore_n 2, 1) := by decide +kernel
theorem dX4_standing_2 : decode cX4_standing 2 = .ok (.iconst 0, 1) := by decide +kernel
theorem dX4_standing_3 : decode cX4_standing 3 = .ok (.istore_n 3, 1) := by decide +kernel
theorem dX4_standing_4 : decode cX4_standing 4 = .ok (.iload_n 3, 1) := by decide +kernel
theorem dX4_standing_5 : decode cX4_standing 5 = .ok (.bipush 60, 2) := by decide +kernel
theorem dX4_standing_7 : decode cX4_standing 7 = .ok (.if_icmp .ge 25, 3) := by decide +kernel
theorem dX4_standing_10 : decode cX4_standing 10 = .ok (.aload_n 0, 1) := by decide +kernel
theorem dX4_standing_11 : decode cX4_standing 11 = .ok (.getfield 41, 3) := by decide +kernel
theorem dX4_standing_14 : decode cX4_standing 14 = .ok (.iload_n 3, 1) := by decide +kernel
theorem dX4_standing_15 : decode cX4_standing 15 = .ok (.iload_n 3, 1) := by decide +kernel
theorem dX4_standing_16 : decode cX4_standing 16 = .ok (.iload_n 1, 1) := by decide +kernel
theorem dX4_standing_17 : decode cX4_standing 17 = .ok (.if_icmp .ne 7, 3) := by decide +kernel
theorem dX4_standing_20 : decode cX4_standing 20 = .ok (.iconst 1, 1) := by decide +kernel
theorem dX4_standing_21 : decode cX4_standing 21 = .ok (.goto 4, 3) := by decide +kernel
theorem dX4_standing_24 : decode cX4_standing 24 = .ok (.iconst 0, 1) := by decide +kernel
theorem dX4_standing_25 : decode cX4_standing 25 = .ok (.bastore, 1) := by decide +kernel
theorem dX4_standing_26 : decode cX4_standing 26 = .ok (.iinc 3 1, 3) := by decide +kernel
theorem dX4_standing_29 : decode cX4_standing 29 = .ok (.goto (-25), 3) := by decide +kernel
theorem dX4_standing_32 : decode cX4_standing 32 = .ok (.iload_n 1, 1) := by decide +kernel
theorem dX4_standing_33 : decode cX4_standing 33 = .ok (.istore_n 3, 1) := by decide +kernel
theorem dX4_standing_34 : decode cX4_standing 34 = .ok (.iload_n 3, 1) := by decide +kernel
theorem dX4_standing_35 : decode cX4_standing 35 = .ok (.ifCond .lt 66, 3) := by decide +kernel
theorem dX4_standing_38 : decode cX4_standing 38 = .ok (.aload_n 0, 1) := by decide +kernel
theorem dX4_standing_39 : decode cX4_standing 39 = .ok (.getfield 41, 3) := by decide +kernel
theorem dX4_standing_42 : decode cX4_standing 42 = .ok (.iload_n 3, 1) := by decide +kernel
theorem dX4_standing_43 : decode cX4_standing 43 = .ok (.baload, 1) := by decide +kernel
theorem dX4_standing_44 : decode cX4_standing 44 = .ok (.ifCond .ne 6, 3) := by decide +kernel
theorem dX4_standing_47 : decode cX4_standing 47 = .ok (.goto 48, 3) := by decide +kernel
theorem dX4_standing_50 : decode cX4_standing 50 = .ok (.iinc 2 1, 3) := by decide +kernel
theorem dX4_standing_53 : decode cX4_standing 53 = .ok (.iconst 0, 1) := by decide +kernel
theorem dX4_standing_54 : decode cX4_standing 54 = .ok (.istore 4, 2) := by decide +kernel
theorem dX4_standing_56 : decode cX4_standing 56 = .ok (.iload 4, 2) := by decide +kernel
theorem dX4_standing_58 : decode cX4_standing 58 = .ok (.aload_n 0, 1) := by decide +kernel
theorem dX4_standing_59 : decode cX4_standing 59 = .ok (.getfield 16, 3) := by decide +kernel
theorem dX4_standing_62 : decode cX4_standing 62 = .ok (.aload_n 0, 1) := by decide +kernel
theorem dX4_standing_63 : decode cX4_standing 63 = .ok (.getfield 20, 3) := by decide +kernel
theorem dX4_standing_66 : decode cX4_standing 66 = .ok (.iload_n 3, 1) := by decide +kernel
theorem dX4_standing_67 : decode cX4_standing 67 = .ok (.iaload, 1) := by decide +kernel
theorem dX4_standing_68 : decode cX4_standing 68 = .ok (.iaload, 1) := by decide +kernel
theorem dX4_standing_69 : decode cX4_standing 69 = .ok (.if_icmp .ge 26, 3) := by decide +kernel
theorem dX4_standing_72 : decode cX4_standing 72 = .ok (.aload_n 0, 1) := by decide +kernel
theorem dX4_standing_73 : decode cX4_standing 73 = .ok (.getfield 41, 3) := by decide +kernel
theorem dX4_standing_76 : decode cX4_standing 76 = .ok (.aload_n 0, 1) := by decide +kernel
theorem dX4_standing_77 : decode cX4_standing 77 = .ok (.getfield 23, 3) := by decide +kernel
theorem dX4_standing_80 : decode cX4_standing 80 = .ok (.iconst 3, 1) := by decide +kernel
theorem dX4_standing_81 : decode cX4_standing 81 = .ok (.iload_n 3, 1) := by decide +kernel
theorem dX4_standing_82 : decode cX4_standing 82 = .ok (.imul, 1) := by decide +kernel
theorem dX4_standing_83 : decode cX4_standing 83 = .ok (.iload 4, 2) := by decide +kernel
theorem dX4_standing_85 : decode cX4_standing 85 = .ok (.iadd, 1) := by decide +kernel
theorem dX4_standing_86 : decode cX4_standing 86 = .ok (.iaload, 1) := by decide +kernel
theorem dX4_standing_87 : decode cX4_standing 87 = .ok (.iconst 1, 1) := by decide +kernel
theorem dX4_standing_88 : decode cX4_standing 88 = .ok (.bastore, 1) := by decide +kernel
theorem dX4_standing_89 : decode cX4_standing 89 = .ok (.iinc 4 1, 3) := by decide +kernel
theorem dX4_standing_92 : decode cX4_standing 92 = .ok (.goto (-36), 3) := by decide +kernel
theorem dX4_standing_95 : decode cX4_standing 95 = .ok (.iinc 3 (-1), 3) := by decide +kernel
theorem dX4_standing_98 : decode cX4_standing 98 = .ok (.goto (-64), 3) := by decide +kernel
theorem dX4_standing_101 : decode cX4_standing 101 = .ok (.iload_n 2, 1) := by decide +kernel
theorem dX4_standing_102 : decode cX4_standing 102 = .ok (.ireturn, 1) := by decide +kernel
theorem dX4_fact_0 : decode cX4_fact 0 = .ok (.aload_n 0, 1) := by decide +kernel
theorem dX4_fact_1 : decode cX4_fact 1 = .ok (.aload_n 0, 1) := by decide +kernel
theorem dX4_fact_2 : decode cX4_fact 2 = .ok (.iload_n 1, 1) := by decide +kernel
theorem dX4_fact_3 : decode cX4_fact 3 = .ok (.invokevirtual 51, 3) := by decide +kernel
theorem dX4_fact_6 : decode cX4_fact 6 = .ok (.ifCond .eq 11, 3) := by decide +kernel
theorem dX4_fact_9 : decode cX4_fact 9 = .ok (.aload_n 0, 1) := by decide +kernel
theorem dX4_fact_10 : decode cX4_fact 10 = .ok (.iload_n 2, 1) := by decide +kernel
theorem dX4_fact_11 : decode cX4_fact 11 = .ok (.invokevirtual 51, 3) := by decide +kernel
theorem dX4_fact_14 : decode cX4_fact 14 = .ok (.ifCond .ne 7, 3) := by decide +kernel
theorem dX4_fact_17 : decode cX4_fact 17 = .ok (.iconst 1, 1) := by decide +kernel
theorem dX4_fact_18 : decode cX4_fact 18 = .ok (.goto 17, 3) := by decide +kernel
theorem dX4_fact_21 : decode cX4_fact 21 = .ok (.aload_n 0, 1) := by decide +kernel
theorem dX4_fact_22 : decode cX4_fact 22 = .ok (.getfield 63, 3) := by decide +kernel
theorem dX4_fact_25 : decode cX4_fact 25 = .ok (.bipush 40, 2) := by decide +kernel
theorem dX4_fact_27 : decode cX4_fact 27 = .ok (.if_icmp .ne 7, 3) := by decide +kernel
theorem dX4_fact_30 : decode cX4_fact 30 = .ok (.iconst 2, 1) := by decide +kernel
theorem dX4_fact_31 : decode cX4_fact 31 = .ok (.goto 4, 3) := by decide +kernel
theorem dX4_fact_34 : decode cX4_fact 34 = .ok (.iconst 0, 1) := by decide +kernel
theorem dX4_fact_35 : decode cX4_fact 35 = .ok (.putfield 44, 3) := by decide +kernel
theorem dX4_fact_38 : decode cX4_fact 38 = .ok (.aload_n 0, 1) := by decide +kernel
theorem dX4_fact_39 : decode cX4_fact 39 = .ok (.getfield 44, 3) := by decide +kernel
theorem dX4_fact_42 : decode cX4_fact 42 = .ok (.ifCond .le 5, 3) := by decide +kernel
theorem dX4_fact_45 : decode cX4_fact 45 = .ok (.iconst 0, 1) := by decide +kernel
theorem dX4_fact_46 : decode cX4_fact 46 = .ok (.ireturn, 1) := by decide +kernel
theorem dX4_fact_47 : decode cX4_fact 47 = .ok (.aload_n 0, 1) := by decide +kernel
theorem dX4_fact_48 : decode cX4_fact 48 = .ok (.getfield 26, 3) := by decide +kernel
theorem dX4_fact_51 : decode cX4_fact 51 = .ok (.aload_n 0, 1) := by decide +kernel
theorem dX4_fact_52 : decode cX4_fact 52 = .ok (.getfield 63, 3) := by decide +kernel
theorem dX4_fact_55 : decode cX4_fact 55 = .ok (.iload_n 1, 1) := by decide +kernel
theorem dX4_fact_56 : decode cX4_fact 56 = .ok (.iastore, 1) := by decide +kernel
theorem dX4_fact_57 : decode cX4_fact 57 = .ok (.aload_n 0, 1) := by decide +kernel
theorem dX4_fact_58 : decode cX4_fact 58 = .ok (.getfield 29, 3) := by decide +kernel
theorem dX4_fact_61 : decode cX4_fact 61 = .ok (.aload_n 0, 1) := by decide +kernel
theorem dX4_fact_62 : decode cX4_fact 62 = .ok (.getfield 63, 3) := by decide +kernel
theorem dX4_fact_65 : decode cX4_fact 65 = .ok (.iload_n 2, 1) := by decide +kernel
theorem dX4_fact_66 : decode cX4_fact 66 = .ok (.iastore, 1) := by decide +kernel
theorem dX4_fact_67 : decode cX4_fact 67 = .ok (.aload_n 0, 1) := by decide +kernel
theorem dX4_fact_68 : decode cX4_fact 68 = .ok (.getfield 32, 3) := by decide +kernel
theorem dX4_fact_71 : decode cX4_fact 71 = .ok (.aload_n 0, 1) := by decide +kernel
theorem dX4_fact_72 : decode cX4_fact 72 = .ok (.getfield 63, 3) := by decide +kernel
theorem dX4_fact_75 : decode cX4_fact 75 = .ok (.iload_n 3, 1) := by decide +kernel
theorem dX4_fact_76 : decode cX4_fact 76 = .ok (.bastore, 1) := by decide +kernel
theorem dX4_fact_77 : decode cX4_fact 77 = .ok (.aload_n 0, 1) := by decide +kernel
theorem dX4_fact_78 : decode cX4_fact 78 = .ok (.dup, 1) := by decide +kernel
theorem dX4_fact_79 : decode cX4_fact 79 = .ok (.getfield 63, 3) := by decide +kernel
theorem dX4_fact_82 : decode cX4_fact 82 = .ok (.iconst 1, 1) := by decide +kernel
theorem dX4_fact_83 : decode cX4_fact 83 = .ok (.iadd, 1) := by decide +kernel
theorem dX4_fact_84 : decode cX4_fact 84 = .ok (.putfield 63, 3) := by decide +kernel
theorem dX4_fact_87 : decode cX4_fact 87 = .ok (.aload_n 0, 1) := by decide +kernel
theorem dX4_fact_88 : decode cX4_fact 88 = .ok (.getfield 63, 3) := by decide +kernel
theorem dX4_fact_91 : decode cX4_fact 91 = .ok (.iconst 1, 1) := by decide +kernel
theorem dX4_fact_92 : decode cX4_fact 92 = .ok (.isub, 1) := by decide +kernel
theorem dX4_fact_93 : decode cX4_fact 93 = .ok (.ireturn, 1) := by decide +kernel
theorem dX4_undo_0 : decode cX4_undo 0 = .ok (.aload_n 0, 1) := by decide +kernel
theorem dX4_undo_1 : decode cX4_undo 1 = .ok (.iconst 0, 1) := by decide +kernel
theorem dX4_undo_2 : decode cX4_undo 2 = .ok (.putfield 44, 3) := by decide +kernel
theorem dX4_undo_5 : decode cX4_undo 5 = .ok (.aload_n 0, 1) := by decide +kernel
theorem dX4_undo_6 : decode cX4_undo 6 = .ok (.getfield 63, 3) := by decide +kernel
theorem dX4_undo_9 : decode cX4_undo 9 = .ok (.ifCond .ne 5, 3) := by decide +kernel
theorem dX4_undo_12 : decode cX4_undo 12 = .ok (.iconst 0, 1) := by decide +kernel
theorem dX4_undo_13 : decode cX4_undo 13 = .ok (.ireturn, 1) := by decide +kernel
theorem dX4_undo_14 : decode cX4_undo 14 = .ok (.aload_n 0, 1) := by decide +kernel
theorem dX4_undo_15 : decode cX4_undo 15 = .ok (.dup, 1) := by decide +kernel
theorem dX4_undo_16 : decode cX4_undo 16 = .ok (.getfield 63, 3) := by decide +kernel
theorem dX4_undo_19 : decode cX4_undo 19 = .ok (.iconst 1, 1) := by decide +kernel
theorem dX4_undo_20 : decode cX4_undo 20 = .ok (.isub, 1) := by decide +kernel
theorem dX4_undo_21 : decode cX4_undo 21 = .ok (.putfield 63, 3) := by decide +kernel
theorem dX4_undo_24 : decode cX4_undo 24 = .ok (.iconst 1, 1) := by decide +kernel
theorem dX4_undo_25 : decode cX4_undo 25 = .ok (.ireturn, 1) := by decide +kernel
theorem dX4_isOne_0 : decode cX4_isOne 0 = .ok (.aload_n 0, 1) := by decide +kernel
theorem dX4_isOne_1 : decode cX4_isOne 1 = .ok (.aload_n 0, 1) := by decide +kernel
theorem dX4_isOne_2 : decode cX4_isOne 2 = .ok (.iload_n 1, 1) := by decide +kernel
theorem dX4_isOne_3 : decode cX4_isOne 3 = .ok (.invokevirtual 51, 3) := by decide +kernel
theorem dX4_isOne_6 : decode cX4_isOne 6 = .ok (.ifCond .eq 11, 3) := by decide +kernel
theorem dX4_isOne_9 : decode cX4_isOne 9 = .ok (.aload_n 0, 1) := by decide +kernel
theorem dX4_isOne_10 : decode cX4_isOne 10 = .ok (.iload_n 2, 1) := by decide +kernel
theorem dX4_isOne_11 : decode cX4_isOne 11 = .ok (.invokevirtual 51, 3) := by decide +kernel
theorem dX4_isOne_14 : decode cX4_isOne 14 = .ok (.ifCond .ne 7, 3) := by decide +kernel
theorem dX4_isOne_17 : decode cX4_isOne 17 = .ok (.iconst 1, 1) := by decide +kernel
theorem dX4_isOne_18 : decode cX4_isOne 18 = .ok (.goto 4, 3) := by decide +kernel
theorem dX4_isOne_21 : decode cX4_isOne 21 = .ok (.iconst 0, 1) := by decide +kernel
theorem dX4_isOne_22 : decode cX4_isOne 22 = .ok (.putfield 44, 3) := by decide +kernel
theorem dX4_isOne_25 : decode cX4_isOne 25 = .ok (.aload_n 0, 1) := by decide +kernel
theorem dX4_isOne_26 : decode cX4_isOne 26 = .ok (.getfield 44, 3) := by decide +kernel
theorem dX4_isOne_29 : decode cX4_isOne 29 = .ok (.ifCond .le 5, 3) := by decide +kernel
theorem dX4_isOne_32 : decode cX4_isOne 32 = .ok (.iconst 0, 1) := by decide +kernel
theorem dX4_isOne_33 : decode cX4_isOne 33 = .ok (.ireturn, 1) := by decide +kernel
theorem dX4_isOne_34 : decode cX4_isOne 34 = .ok (.aload_n 0, 1) := by decide +kernel
theorem dX4_isOne_35 : decode cX4_isOne 35 = .ok (.aload_n 0, 1) := by decide +kernel
theorem dX4_isOne_36 : decode cX4_isOne 36 = .ok (.invokevirtual 82, 3) := by decide +kernel
theorem dX4_isOne_39 : decode cX4_isOne 39 = .ok (.iload_n 1, 1) := by decide +kernel
theorem dX4_isOne_40 : decode cX4_isOne 40 = .ok (.iload_n 1, 1) := by decide +kernel
theorem dX4_isOne_41 : decode cX4_isOne 41 = .ok (.invokevirtual 86, 3) := by decide +kernel
theorem dX4_isOne_44 : decode cX4_isOne 44 = .ok (.aload_n 0, 1) := by decide +kernel
theorem dX4_isOne_45 : decode cX4_isOne 45 = .ok (.getfield 35, 3) := by decide +kernel
theorem dX4_isOne_48 : decode cX4_isOne 48 = .ok (.iload_n 1, 1) := by decide +kernel
theorem dX4_isOne_49 : decode cX4_isOne 49 = .ok (.iaload, 1) := by decide +kernel
theorem dX4_isOne_50 : decode cX4_isOne 50 = .ok (.aload_n 0, 1) := by decide +kernel
theorem dX4_isOne_51 : decode cX4_isOne 51 = .ok (.getfield 35, 3) := by decide +kernel
theorem dX4_isOne_54 : decode cX4_isOne 54 = .ok (.iload_n 2, 1) := by decide +kernel
theorem dX4_isOne_55 : decode cX4_isOne 55 = .ok (.iaload, 1) := by decide +kernel
theorem dX4_isOne_56 : decode cX4_isOne 56 = .ok (.if_icmp .ne 7, 3) := by decide +kernel
theorem dX4_isOne_59 : decode cX4_isOne 59 = .ok (.iconst 1, 1) := by decide +kernel
theorem dX4_isOne_60 : decode cX4_isOne 60 = .ok (.goto 4, 3) := by decide +kernel
theorem dX4_isOne_63 : decode cX4_isOne 63 = .ok (.iconst 0, 1) := by decide +kernel
theorem dX4_isOne_64 : decode cX4_isOne 64 = .ok (.ireturn, 1) := by decide +kernel
theorem dX4_all_0 : decode cX4_all 0 = .ok (.lconst 1, 1) := by decide +kernel
theorem dX4_all_1 : decode cX4_all 1 = .ok (.aload_n 0, 1) := by decide +kernel
theorem dX4_all_2 : decode cX4_all 2 = .ok (.getfield 63, 3) := by decide +kernel
theorem dX4_all_5 : decode cX4_all 5 = .ok (.lshl, 1) := by decide +kernel
theorem dX4_all_6 : decode cX4_all 6 = .ok (.lconst 1, 1) := by decide +kernel
theorem dX4_all_7 : decode cX4_all 7 = .ok (.lsub, 1) := by decide +kernel
theorem dX4_all_8 : decode cX4_all 8 = .ok (.lreturn, 1) := by decide +kernel
theorem dX4_joinAll_0 : decode cX4_joinAll 0 = .ok (.iconst 0, 1) := by decide +kernel
theorem dX4_joinAll_1 : decode cX4_joinAll 1 = .ok (.istore 5, 2) := by decide +kernel
theorem dX4_joinAll_3 : decode cX4_joinAll 3 = .ok (.iload 5, 2) := by decide +kernel
theorem dX4_joinAll_5 : decode cX4_joinAll 5 = .ok (.aload_n 0, 1) := by decide +kernel
theorem dX4_joinAll_6 : decode cX4_joinAll 6 = .ok (.getfield 48, 3) := by decide +kernel
theorem dX4_joinAll_9 : decode cX4_joinAll 9 = .ok (.if_icmp .ge 18, 3) := by decide +kernel
theorem dX4_joinAll_12 : decode cX4_joinAll 12 = .ok (.aload_n 0, 1) := by decide +kernel
theorem dX4_joinAll_13 : decode cX4_joinAll 13 = .ok (.getfield 35, 3) := by decide +kernel
theorem dX4_joinAll_16 : decode cX4_joinAll 16 = .ok (.iload 5, 2) := by decide +kernel
theorem dX4_joinAll_18 : decode cX4_joinAll 18 = .ok (.iload 5, 2) := by decide +kernel
theorem dX4_joinAll_20 : decode cX4_joinAll 20 = .ok (.iastore, 1) := by decide +kernel
theorem dX4_joinAll_21 : decode cX4_joinAll 21 = .ok (.iinc 5 1, 3) := by decide +kernel
theorem dX4_joinAll_24 : decode cX4_joinAll 24 = .ok (.goto (-21), 3) := by decide +kernel
theorem dX4_joinAll_27 : decode cX4_joinAll 27 = .ok (.aload_n 0, 1) := by decide +kernel
theorem dX4_joinAll_28 : decode cX4_joinAll 28 = .ok (.getfield 48, 3) := by decide +kernel
theorem dX4_joinAll_31 : decode cX4_joinAll 31 = .ok (.ifCond .le 10, 3) := by decide +kernel
theorem dX4_joinAll_34 : decode cX4_joinAll 34 = .ok (.aload_n 0, 1) := by decide +kernel
theorem dX4_joinAll_35 : decode cX4_joinAll 35 = .ok (.iload_n 3, 1) := by decide +kernel
theorem dX4_joinAll_36 : decode cX4_joinAll 36 = .ok (.iload 4, 2) := by decide +kernel
theorem dX4_joinAll_38 : decode cX4_joinAll 38 = .ok (.invokevirtual 70, 3) := by decide +kernel
theorem dX4_joinAll_41 : decode cX4_joinAll 41 = .ok (.iconst 0, 1) := by decide +kernel
theorem dX4_joinAll_42 : decode cX4_joinAll 42 = .ok (.istore 5, 2) := by decide +kernel
theorem dX4_joinAll_44 : decode cX4_joinAll 44 = .ok (.iload 5, 2) := by decide +kernel
theorem dX4_joinAll_46 : decode cX4_joinAll 46 = .ok (.aload_n 0, 1) := by decide +kernel
theorem dX4_joinAll_47 : decode cX4_joinAll 47 = .ok (.getfield 63, 3) := by decide +kernel
theorem dX4_joinAll_50 : decode cX4_joinAll 50 = .ok (.if_icmp .ge 48, 3) := by decide +kernel
theorem dX4_joinAll_53 : decode cX4_joinAll 53 = .ok (.lload_n 1, 1) := by decide +kernel
theorem dX4_joinAll_54 : decode cX4_joinAll 54 = .ok (.iload 5, 2) := by decide +kernel
theorem dX4_joinAll_56 : decode cX4_joinAll 56 = .ok (.lshr, 1) := by decide +kernel
theorem dX4_joinAll_57 : decode cX4_joinAll 57 = .ok (.lconst 1, 1) := by decide +kernel
theorem dX4_joinAll_58 : decode cX4_joinAll 58 = .ok (.land, 1) := by decide +kernel
theorem dX4_joinAll_59 : decode cX4_joinAll 59 = .ok (.lconst 1, 1) := by decide +kernel
theorem dX4_joinAll_60 : decode cX4_joinAll 60 = .ok (.lcmp, 1) := by decide +kernel
theorem dX4_joinAll_61 : decode cX4_joinAll 61 = .ok (.ifCond .ne 31, 3) := by decide +kernel
theorem dX4_joinAll_64 : decode cX4_joinAll 64 = .ok (.aload_n 0, 1) := by decide +kernel
theorem dX4_joinAll_65 : decode cX4_joinAll 65 = .ok (.getfield 32, 3) := by decide +kernel
theorem dX4_joinAll_68 : decode cX4_joinAll 68 = .ok (.iload 5, 2) := by decide +kernel
theorem dX4_joinAll_70 : decode cX4_joinAll 70 = .ok (.baload, 1) := by decide +kernel
theorem dX4_joinAll_71 : decode cX4_joinAll 71 = .ok (.ifCond .eq 21, 3) := by decide +kernel
theorem dX4_joinAll_74 : decode cX4_joinAll 74 = .ok (.aload_n 0, 1) := by decide +kernel
theorem dX4_joinAll_75 : decode cX4_joinAll 75 = .ok (.aload_n 0, 1) := by decide +kernel
theorem dX4_joinAll_76 : decode cX4_joinAll 76 = .ok (.getfield 26, 3) := by decide +kernel
theorem dX4_joinAll_79 : decode cX4_joinAll 79 = .ok (.iload 5, 2) := by decide +kernel
theorem dX4_joinAll_81 : decode cX4_joinAll 81 = .ok (.iaload, 1) := by decide +kernel
theorem dX4_joinAll_82 : decode cX4_joinAll 82 = .ok (.aload_n 0, 1) := by decide +kernel
theorem dX4_joinAll_83 : decode cX4_joinAll 83 = .ok (.getfield 29, 3) := by decide +kernel
theorem dX4_joinAll_86 : decode cX4_joinAll 86 = .ok (.iload 5, 2) := by decide +kernel
theorem dX4_joinAll_88 : decode cX4_joinAll 88 = .ok (.iaload, 1) := by decide +kernel
theorem dX4_joinAll_89 : decode cX4_joinAll 89 = .ok (.invokevirtual 70, 3) := by decide +kernel
theorem dX4_joinAll_92 : decode cX4_joinAll 92 = .ok (.iinc 5 1, 3) := by decide +kernel
theorem dX4_joinAll_95 : decode cX4_joinAll 95 = .ok (.goto (-51), 3) := by decide +kernel
theorem dX4_joinAll_98 : decode cX4_joinAll 98 = .ok (.aload_n 0, 1) := by decide +kernel
theorem dX4_joinAll_99 : decode cX4_joinAll 99 = .ok (.iconst 1, 1) := by decide +kernel
theorem dX4_joinAll_100 : decode cX4_joinAll 100 = .ok (.putfield 66, 3) := by decide +kernel
theorem dX4_joinAll_103 : decode cX4_joinAll 103 = .ok (.aload_n 0, 1) := by decide +kernel
theorem dX4_joinAll_104 : decode cX4_joinAll 104 = .ok (.getfield 66, 3) := by decide +kernel
theorem dX4_joinAll_107 : decode cX4_joinAll 107 = .ok (.ifCond .eq 170, 3) := by decide +kernel
theorem dX4_joinAll_110 : decode cX4_joinAll 110 = .ok (.aload_n 0, 1) := by decide +kernel
theorem dX4_joinAll_111 : decode cX4_joinAll 111 = .ok (.iconst 0, 1) := by decide +kernel
theorem dX4_joinAll_112 : decode cX4_joinAll 112 = .ok (.putfield 66, 3) := by decide +kernel
theorem dX4_joinAll_115 : decode cX4_joinAll 115 = .ok (.iconst 0, 1) := by decide +kernel
theorem dX4_joinAll_116 : decode cX4_joinAll 116 = .ok (.istore 5, 2) := by decide +kernel
theorem dX4_joinAll_118 : decode cX4_joinAll 118 = .ok (.iload 5, 2) := by decide +kernel
theorem dX4_joinAll_120 : decode cX4_joinAll 120 = .ok (.aload_n 0, 1) := by decide +kernel
theorem dX4_joinAll_121 : decode cX4_joinAll 121 = .ok (.getfield 48, 3) := by decide +kernel
theorem dX4_joinAll_124 : decode cX4_joinAll 124 = .ok (.if_icmp .ge 150, 3) := by decide +kernel
theorem dX4_joinAll_127 : decode cX4_joinAll 127 = .ok (.iconst 0, 1) := by decide +kernel
theorem dX4_joinAll_128 : decode cX4_joinAll 128 = .ok (.istore 6, 2) := by decide +kernel
theorem dX4_joinAll_130 : decode cX4_joinAll 130 = .ok (.iload 6, 2) := by decide +kernel
theorem dX4_joinAll_132 : decode cX4_joinAll 132 = .ok (.iload 5, 2) := by decide +kernel
theorem dX4_joinAll_134 : decode cX4_joinAll 134 = .ok (.if_icmp .ge 134, 3) := by decide +kernel
theorem dX4_joinAll_137 : decode cX4_joinAll 137 = .ok (.aload_n 0, 1) := by decide +kernel
theorem dX4_joinAll_138 : decode cX4_joinAll 138 = .ok (.getfield 20, 3) := by decide +kernel
theorem dX4_joinAll_141 : decode cX4_joinAll 141 = .ok (.iload 5, 2) := by decide +kernel
theorem dX4_joinAll_143 : decode cX4_joinAll 143 = .ok (.iaload, 1) := by decide +kernel
theorem dX4_joinAll_144 : decode cX4_joinAll 144 = .ok (.aload_n 0, 1) := by decide +kernel
theorem dX4_joinAll_145 : decode cX4_joinAll 145 = .ok (.getfield 20, 3) := by decide +kernel
theorem dX4_joinAll_148 : decode cX4_joinAll 148 = .ok (.iload 6, 2) := by decide +kernel
theorem dX4_joinAll_150 : decode cX4_joinAll 150 = .ok (.iaload, 1) := by decide +kernel
theorem dX4_joinAll_151 : decode cX4_joinAll 151 = .ok (.if_icmp .eq 6, 3) := by decide +kernel
theorem dX4_joinAll_154 : decode cX4_joinAll 154 = .ok (.goto 108, 3) := by decide +kernel
theorem dX4_joinAll_157 : decode cX4_joinAll 157 = .ok (.aload_n 0, 1) := by decide +kernel
theorem dX4_joinAll_158 : decode cX4_joinAll 158 = .ok (.iload 5, 2) := by decide +kernel
theorem dX4_joinAll_160 : decode cX4_joinAll 160 = .ok (.iload 6, 2) := by decide +kernel
theorem dX4_joinAll_162 : decode cX4_joinAll 162 = .ok (.invokevirtual 74, 3) := by decide +kernel
theorem dX4_joinAll_165 : decode cX4_joinAll 165 = .ok (.ifCond .eq 11, 3) := by decide +kernel
theorem dX4_joinAll_168 : decode cX4_joinAll 168 = .ok (.aload_n 0, 1) := by decide +kernel
theorem dX4_joinAll_169 : decode cX4_joinAll 169 = .ok (.iload 5, 2) := by decide +kernel
theorem dX4_joinAll_171 : decode cX4_joinAll 171 = .ok (.iload 6, 2) := by decide +kernel
theorem dX4_joinAll_173 : decode cX4_joinAll 173 = .ok (.invokevirtual 70, 3) := by decide +kernel
theorem dX4_joinAll_176 : decode cX4_joinAll 176 = .ok (.iconst 0, 1) := by decide +kernel
theorem dX4_joinAll_177 : decode cX4_joinAll 177 = .ok (.istore 7, 2) := by decide +kernel
theorem dX4_joinAll_179 : decode cX4_joinAll 179 = .ok (.aload_n 0, 1) := by decide +kernel
theorem dX4_joinAll_180 : decode cX4_joinAll 180 = .ok (.getfield 35, 3) := by decide +kernel
theorem dX4_joinAll_183 : decode cX4_joinAll 183 = .ok (.iload 5, 2) := by decide +kernel
theorem dX4_joinAll_185 : decode cX4_joinAll 185 = .ok (.iaload, 1) := by decide +kernel
theorem dX4_joinAll_186 : decode cX4_joinAll 186 = .ok (.aload_n 0, 1) := by decide +kernel
theorem dX4_joinAll_187 : decode cX4_joinAll 187 = .ok (.getfield 35, 3) := by decide +kernel
theorem dX4_joinAll_190 : decode cX4_joinAll 190 = .ok (.iload 6, 2) := by decide +kernel
theorem dX4_joinAll_192 : decode cX4_joinAll 192 = .ok (.iaload, 1) := by decide +kernel
theorem dX4_joinAll_193 : decode cX4_joinAll 193 = .ok (.if_icmp .ne 69, 3) := by decide +kernel
theorem dX4_joinAll_196 : decode cX4_joinAll 196 = .ok (.aload_n 0, 1) := by decide +kernel
theorem dX4_joinAll_197 : decode cX4_joinAll 197 = .ok (.getfield 7, 3) := by decide +kernel
theorem dX4_joinAll_200 : decode cX4_joinAll 200 = .ok (.aload_n 0, 1) := by decide +kernel
theorem dX4_joinAll_201 : decode cX4_joinAll 201 = .ok (.getfield 20, 3) := by decide +kernel
theorem dX4_joinAll_204 : decode cX4_joinAll 204 = .ok (.iload 5, 2) := by decide +kernel
theorem dX4_joinAll_206 : decode cX4_joinAll 206 = .ok (.iaload, 1) := by decide +kernel
theorem dX4_joinAll_207 : decode cX4_joinAll 207 = .ok (.baload, 1) := by decide +kernel
theorem dX4_joinAll_208 : decode cX4_joinAll 208 = .ok (.ifCond .eq 54, 3) := by decide +kernel
theorem dX4_joinAll_211 : decode cX4_joinAll 211 = .ok (.iload 7, 2) := by decide +kernel
theorem dX4_joinAll_213 : decode cX4_joinAll 213 = .ok (.aload_n 0, 1) := by decide +kernel
theorem dX4_joinAll_214 : decode cX4_joinAll 214 = .ok (.getfield 16, 3) := by decide +kernel
theorem dX4_joinAll_217 : decode cX4_joinAll 217 = .ok (.aload_n 0, 1) := by decide +kernel
theorem dX4_joinAll_218 : decode cX4_joinAll 218 = .ok (.getfield 20, 3) := by decide +kernel
theorem dX4_joinAll_221 : decode cX4_joinAll 221 = .ok (.iload 5, 2) := by decide +kernel
theorem dX4_joinAll_223 : decode cX4_joinAll 223 = .ok (.iaload, 1) := by decide +kernel
theorem dX4_joinAll_224 : decode cX4_joinAll 224 = .ok (.iaload, 1) := by decide +kernel
theorem dX4_joinAll_225 : decode cX4_joinAll 225 = .ok (.if_icmp .ge 37, 3) := by decide +kernel
theorem dX4_joinAll_228 : decode cX4_joinAll 228 = .ok (.aload_n 0, 1) := by decide +kernel
theorem dX4_joinAll_229 : decode cX4_joinAll 229 = .ok (.aload_n 0, 1) := by decide +kernel
theorem dX4_joinAll_230 : decode cX4_joinAll 230 = .ok (.getfield 23, 3) := by decide +kernel
theorem dX4_joinAll_233 : decode cX4_joinAll 233 = .ok (.iconst 3, 1) := by decide +kernel
theorem dX4_joinAll_234 : decode cX4_joinAll 234 = .ok (.iload 5, 2) := by decide +kernel
theorem dX4_joinAll_236 : decode cX4_joinAll 236 = .ok (.imul, 1) := by decide +kernel
theorem dX4_joinAll_237 : decode cX4_joinAll 237 = .ok (.iload 7, 2) := by decide +kernel
theorem dX4_joinAll_239 : decode cX4_joinAll 239 = .ok (.iadd, 1) := by decide +kernel
theorem dX4_joinAll_240 : decode cX4_joinAll 240 = .ok (.iaload, 1) := by decide +kernel
theorem dX4_joinAll_241 : decode cX4_joinAll 241 = .ok (.aload_n 0, 1) := by decide +kernel
theorem dX4_joinAll_242 : decode cX4_joinAll 242 = .ok (.getfield 23, 3) := by decide +kernel
theorem dX4_joinAll_245 : decode cX4_joinAll 245 = .ok (.iconst 3, 1) := by decide +kernel
theorem dX4_joinAll_246 : decode cX4_joinAll 246 = .ok (.iload 6, 2) := by decide +kernel
theorem dX4_joinAll_248 : decode cX4_joinAll 248 = .ok (.imul, 1) := by decide +kernel
theorem dX4_joinAll_249 : decode cX4_joinAll 249 = .ok (.iload 7, 2) := by decide +kernel
theorem dX4_joinAll_251 : decode cX4_joinAll 251 = .ok (.iadd, 1) := by decide +kernel
theorem dX4_joinAll_252 : decode cX4_joinAll 252 = .ok (.iaload, 1) := by decide +kernel
theorem dX4_joinAll_253 : decode cX4_joinAll 253 = .ok (.invokevirtual 70, 3) := by decide +kernel
theorem dX4_joinAll_256 : decode cX4_joinAll 256 = .ok (.iinc 7 1, 3) := by decide +kernel
theorem dX4_joinAll_259 : decode cX4_joinAll 259 = .ok (.goto (-80), 3) := by decide +kernel
theorem dX4_joinAll_262 : decode cX4_joinAll 262 = .ok (.iinc 6 1, 3) := by decide +kernel
theorem dX4_joinAll_265 : decode cX4_joinAll 265 = .ok (.goto (-135), 3) := by decide +kernel
theorem dX4_joinAll_268 : decode cX4_joinAll 268 = .ok (.iinc 5 1, 3) := by decide +kernel
theorem dX4_joinAll_271 : decode cX4_joinAll 271 = .ok (.goto (-153), 3) := by decide +kernel
theorem dX4_joinAll_274 : decode cX4_joinAll 274 = .ok (.goto (-171), 3) := by decide +kernel
theorem dX4_joinAll_277 : decode cX4_joinAll 277 = .ok (.return_, 1) := by decide +kernel
theorem dX4_join_0 : decode cX4_join 0 = .ok (.aload_n 0, 1) := by decide +kernel
theorem dX4_join_1 : decode cX4_join 1 = .ok (.getfield 35, 3) := by decide +kernel
theorem dX4_join_4 : decode cX4_join 4 = .ok (.iload_n 1, 1) := by decide +kernel
theorem dX4_join_5 : decode cX4_join 5 = .ok (.iaload, 1) := by decide +kernel
theorem dX4_join_6 : decode cX4_join 6 = .ok (.istore_n 3, 1) := by decide +kernel
theorem dX4_join_7 : decode cX4_join 7 = .ok (.aload_n 0, 1) := by decide +kernel
theorem dX4_join_8 : decode cX4_join 8 = .ok (.getfield 35, 3) := by decide +kernel
theorem dX4_join_11 : decode cX4_join 11 = .ok (.iload_n 2, 1) := by decide +kernel
theorem dX4_join_12 : decode cX4_join 12 = .ok (.iaload, 1) := by decide +kernel
theorem dX4_join_13 : decode cX4_join 13 = .ok (.istore 4, 2) := by decide +kernel
theorem dX4_join_15 : decode cX4_join 15 = .ok (.iload_n 3, 1) := by decide +kernel
theorem dX4_join_16 : decode cX4_join 16 = .ok (.iload 4, 2) := by decide +kernel
theorem dX4_join_18 : decode cX4_join 18 = .ok (.if_icmp .ne 4, 3) := by decide +kernel
theorem dX4_join_21 : decode cX4_join 21 = .ok (.return_, 1) := by decide +kernel
theorem dX4_join_22 : decode cX4_join 22 = .ok (.iload_n 3, 1) := by decide +kernel
theorem dX4_join_23 : decode cX4_join 23 = .ok (.iload 4, 2) := by decide +kernel
theorem dX4_join_25 : decode cX4_join 25 = .ok (.if_icmp .ge 7, 3) := by decide +kernel
theorem dX4_join_28 : decode cX4_join 28 = .ok (.iload_n 3, 1) := by decide +kernel
theorem dX4_join_29 : decode cX4_join 29 = .ok (.goto 5, 3) := by decide +kernel
theorem dX4_join_32 : decode cX4_join 32 = .ok (.iload 4, 2) := by decide +kernel
theorem dX4_join_34 : decode cX4_join 34 = .ok (.istore 5, 2) := by decide +kernel
theorem dX4_join_36 : decode cX4_join 36 = .ok (.iconst 0, 1) := by decide +kernel
theorem dX4_join_37 : decode cX4_join 37 = .ok (.istore 6, 2) := by decide +kernel
theorem dX4_join_39 : decode cX4_join 39 = .ok (.iload 6, 2) := by decide +kernel
theorem dX4_join_41 : decode cX4_join 41 = .ok (.aload_n 0, 1) := by decide +kernel
theorem dX4_join_42 : decode cX4_join 42 = .ok (.getfield 48, 3) := by decide +kernel
theorem dX4_join_45 : decode cX4_join 45 = .ok (.if_icmp .ge 41, 3) := by decide +kernel
theorem dX4_join_48 : decode cX4_join 48 = .ok (.aload_n 0, 1) := by decide +kernel
theorem dX4_join_49 : decode cX4_join 49 = .ok (.getfield 35, 3) := by decide +kernel
theorem dX4_join_52 : decode cX4_join 52 = .ok (.iload 6, 2) := by decide +kernel
theorem dX4_join_54 : decode cX4_join 54 = .ok (.iaload, 1) := by decide +kernel
theorem dX4_join_55 : decode cX4_join 55 = .ok (.iload_n 3, 1) := by decide +kernel
theorem dX4_join_56 : decode cX4_join 56 = .ok (.if_icmp .eq 15, 3) := by decide +kernel
theorem dX4_join_59 : decode cX4_join 59 = .ok (.aload_n 0, 1) := by decide +kernel
theorem dX4_join_60 : decode cX4_join 60 = .ok (.getfield 35, 3) := by decide +kernel
theorem dX4_join_63 : decode cX4_join 63 = .ok (.iload 6, 2) := by decide +kernel
theorem dX4_join_65 : decode cX4_join 65 = .ok (.iaload, 1) := by decide +kernel
theorem dX4_join_66 : decode cX4_join 66 = .ok (.iload 4, 2) := by decide +kernel
theorem dX4_join_68 : decode cX4_join 68 = .ok (.if_icmp .ne 12, 3) := by decide +kernel
theorem dX4_join_71 : decode cX4_join 71 = .ok (.aload_n 0, 1) := by decide +kernel
theorem dX4_join_72 : decode cX4_join 72 = .ok (.getfield 35, 3) := by decide +kernel
theorem dX4_join_75 : decode cX4_join 75 = .ok (.iload 6, 2) := by decide +kernel
theorem dX4_join_77 : decode cX4_join 77 = .ok (.iload 5, 2) := by decide +kernel
theorem dX4_join_79 : decode cX4_join 79 = .ok (.iastore, 1) := by decide +kernel
theorem dX4_join_80 : decode cX4_join 80 = .ok (.iinc 6 1, 3) := by decide +kernel
theorem dX4_join_83 : decode cX4_join 83 = .ok (.goto (-44), 3) := by decide +kernel
theorem dX4_join_86 : decode cX4_join 86 = .ok (.aload_n 0, 1) := by decide +kernel
theorem dX4_join_87 : decode cX4_join 87 = .ok (.iconst 1, 1) := by decide +kernel
theorem dX4_join_88 : decode cX4_join 88 = .ok (.putfield 66, 3) := by decide +kernel
theorem dX4_join_91 : decode cX4_join 91 = .ok (.return_, 1) := by decide +kernel
theorem dX4_areAlike_0 : decode cX4_areAlike 0 = .ok (.iconst 1, 1) := by decide +kernel
theorem dX4_areAlike_1 : decode cX4_areAlike 1 = .ok (.istore_n 3, 1) := by decide +kernel
theorem dX4_areAlike_2 : decode cX4_areAlike 2 = .ok (.iconst 0, 1) := by decide +kernel
theorem dX4_areAlike_3 : decode cX4_areAlike 3 = .ok (.istore 4, 2) := by decide +kernel
theorem dX4_areAlike_5 : decode cX4_areAlike 5 = .ok (.iload 4, 2) := by decide +kernel
theorem dX4_areAlike_7 : decode cX4_areAlike 7 = .ok (.aload_n 0, 1) := by decide +kernel
theorem dX4_areAlike_8 : decode cX4_areAlike 8 = .ok (.getfield 16, 3) := by decide +kernel
theorem dX4_areAlike_11 : decode cX4_areAlike 11 = .ok (.aload_n 0, 1) := by decide +kernel
theorem dX4_areAlike_12 : decode cX4_areAlike 12 = .ok (.getfield 20, 3) := by decide +kernel
theorem dX4_areAlike_15 : decode cX4_areAlike 15 = .ok (.iload_n 1, 1) := by decide +kernel
theorem dX4_areAlike_16 : decode cX4_areAlike 16 = .ok (.iaload, 1) := by decide +kernel
theorem dX4_areAlike_17 : decode cX4_areAlike 17 = .ok (.iaload, 1) := by decide +kernel
theorem dX4_areAlike_18 : decode cX4_areAlike 18 = .ok (.if_icmp .ge 54, 3) := by decide +kernel
theorem dX4_areAlike_21 : decode cX4_areAlike 21 = .ok (.iload_n 3, 1) := by decide +kernel
theorem dX4_areAlike_22 : decode cX4_areAlike 22 = .ok (.ifCond .eq 42, 3) := by decide +kernel
theorem dX4_areAlike_25 : decode cX4_areAlike 25 = .ok (.aload_n 0, 1) := by decide +kernel
theorem dX4_areAlike_26 : decode cX4_areAlike 26 = .ok (.getfield 35, 3) := by decide +kernel
theorem dX4_areAlike_29 : decode cX4_areAlike 29 = .ok (.aload_n 0, 1) := by decide +kernel
theorem dX4_areAlike_30 : decode cX4_areAlike 30 = .ok (.getfield 23, 3) := by decide +kernel
theorem dX4_areAlike_33 : decode cX4_areAlike 33 = .ok (.iconst 3, 1) := by decide +kernel
theorem dX4_areAlike_34 : decode cX4_areAlike 34 = .ok (.iload_n 1, 1) := by decide +kernel
theorem dX4_areAlike_35 : decode cX4_areAlike 35 = .ok (.imul, 1) := by decide +kernel
theorem dX4_areAlike_36 : decode cX4_areAlike 36 = .ok (.iload 4, 2) := by decide +kernel
theorem dX4_areAlike_38 : decode cX4_areAlike 38 = .ok (.iadd, 1) := by decide +kernel
theorem dX4_areAlike_39 : decode cX4_areAlike 39 = .ok (.iaload, 1) := by decide +kernel
theorem dX4_areAlike_40 : decode cX4_areAlike 40 = .ok (.iaload, 1) := by decide +kernel
theorem dX4_areAlike_41 : decode cX4_areAlike 41 = .ok (.aload_n 0, 1) := by decide +kernel
theorem dX4_areAlike_42 : decode cX4_areAlike 42 = .ok (.getfield 35, 3) := by decide +kernel
theorem dX4_areAlike_45 : decode cX4_areAlike 45 = .ok (.aload_n 0, 1) := by decide +kernel
theorem dX4_areAlike_46 : decode cX4_areAlike 46 = .ok (.getfield 23, 3) := by decide +kernel
theorem dX4_areAlike_49 : decode cX4_areAlike 49 = .ok (.iconst 3, 1) := by decide +kernel
theorem dX4_areAlike_50 : decode cX4_areAlike 50 = .ok (.iload_n 2, 1) := by decide +kernel
theorem dX4_areAlike_51 : decode cX4_areAlike 51 = .ok (.imul, 1) := by decide +kernel
theorem dX4_areAlike_52 : decode cX4_areAlike 52 = .ok (.iload 4, 2) := by decide +kernel
theorem dX4_areAlike_54 : decode cX4_areAlike 54 = .ok (.iadd, 1) := by decide +kernel
theorem dX4_areAlike_55 : decode cX4_areAlike 55 = .ok (.iaload, 1) := by decide +kernel
theorem dX4_areAlike_56 : decode cX4_areAlike 56 = .ok (.iaload, 1) := by decide +kernel
theorem dX4_areAlike_57 : decode cX4_areAlike 57 = .ok (.if_icmp .ne 7, 3) := by decide +kernel
theorem dX4_areAlike_60 : decode cX4_areAlike 60 = .ok (.iconst 1, 1) := by decide +kernel
theorem dX4_areAlike_61 : decode cX4_areAlike 61 = .ok (.goto 4, 3) := by decide +kernel
theorem dX4_areAlike_64 : decode cX4_areAlike 64 = .ok (.iconst 0, 1) := by decide +kernel
theorem dX4_areAlike_65 : decode cX4_areAlike 65 = .ok (.istore_n 3, 1) := by decide +kernel
theorem dX4_areAlike_66 : decode cX4_areAlike 66 = .ok (.iinc 4 1, 3) := by decide +kernel
theorem dX4_areAlike_69 : decode cX4_areAlike 69 = .ok (.goto (-64), 3) := by decide +kernel
theorem dX4_areAlike_72 : decode cX4_areAlike 72 = .ok (.iload_n 3, 1) := by decide +kernel
theorem dX4_areAlike_73 : decode cX4_areAlike 73 = .ok (.ireturn, 1) := by decide +kernel
theorem dX4_clashes_0 : decode cX4_clashes 0 = .ok (.aload_n 0, 1) := by decide +kernel
theorem dX4_clashes_1 : decode cX4_clashes 1 = .ok (.iconst 0, 1) := by decide +kernel
theorem dX4_clashes_2 : decode cX4_clashes 2 = .ok (.putfield 44, 3) := by decide +kernel
theorem dX4_clashes_5 : decode cX4_clashes 5 = .ok (.aload_n 0, 1) := by decide +kernel
theorem dX4_clashes_6 : decode cX4_clashes 6 = .ok (.aload_n 0, 1) := by decide +kernel
theorem dX4_clashes_7 : decode cX4_clashes 7 = .ok (.invokevirtual 82, 3) := by decide +kernel
theorem dX4_clashes_10 : decode cX4_clashes 10 = .ok (.iconst 0, 1) := by decide +kernel
theorem dX4_clashes_11 : decode cX4_clashes 11 = .ok (.iconst 0, 1) := by decide +kernel
theorem dX4_clashes_12 : decode cX4_clashes 12 = .ok (.invokevirtual 86, 3) := by decide +kernel
theorem dX4_clashes_15 : decode cX4_clashes 15 = .ok (.aload_n 0, 1) := by decide +kernel
theorem dX4_clashes_16 : decode cX4_clashes 16 = .ok (.aload_n 0, 1) := by decide +kernel
theorem dX4_clashes_17 : decode cX4_clashes 17 = .ok (.invokevirtual 82, 3) := by decide +kernel
theorem dX4_clashes_20 : decode cX4_clashes 20 = .ok (.invokevirtual 90, 3) := by decide +kernel
theorem dX4_clashes_23 : decode cX4_clashes 23 = .ok (.ireturn, 1) := by decide +kernel
theorem dX4_clashing_0 : decode cX4_clashing 0 = .ok (.iconst 0, 1) := by decide +kernel
theorem dX4_clashing_1 : decode cX4_clashing 1 = .ok (.istore_n 3, 1) := by decide +kernel
theorem dX4_clashing_2 : decode cX4_clashing 2 = .ok (.iload_n 3, 1) := by decide +kernel
theorem dX4_clashing_3 : decode cX4_clashing 3 = .ok (.aload_n 0, 1) := by decide +kernel
theorem dX4_clashing_4 : decode cX4_clashing 4 = .ok (.getfield 63, 3) := by decide +kernel
theorem dX4_clashing_7 : decode cX4_clashing 7 = .ok (.if_icmp .ge 55, 3) := by decide +kernel
theorem dX4_clashing_10 : decode cX4_clashing 10 = .ok (.lload_n 1, 1) := by decide +kernel
theorem dX4_clashing_11 : decode cX4_clashing 11 = .ok (.iload_n 3, 1) := by decide +kernel
theorem dX4_clashing_12 : decode cX4_clashing 12 = .ok (.lshr, 1) := by decide +kernel
theorem dX4_clashing_13 : decode cX4_clashing 13 = .ok (.lconst 1, 1) := by decide +kernel
theorem dX4_clashing_14 : decode cX4_clashing 14 = .ok (.land, 1) := by decide +kernel
theorem dX4_clashing_15 : decode cX4_clashing 15 = .ok (.lconst 1, 1) := by decide +kernel
theorem dX4_clashing_16 : decode cX4_clashing 16 = .ok (.lcmp, 1) := by decide +kernel
theorem dX4_clashing_17 : decode cX4_clashing 17 = .ok (.ifCond .ne 39, 3) := by decide +kernel
theorem dX4_clashing_20 : decode cX4_clashing 20 = .ok (.aload_n 0, 1) := by decide +kernel
theorem dX4_clashing_21 : decode cX4_clashing 21 = .ok (.getfield 32, 3) := by decide +kernel
theorem dX4_clashing_24 : decode cX4_clashing 24 = .ok (.iload_n 3, 1) := by decide +kernel
theorem dX4_clashing_25 : decode cX4_clashing 25 = .ok (.baload, 1) := by decide +kernel
theorem dX4_clashing_26 : decode cX4_clashing 26 = .ok (.ifCond .ne 30, 3) := by decide +kernel
theorem dX4_clashing_29 : decode cX4_clashing 29 = .ok (.aload_n 0, 1) := by decide +kernel
theorem dX4_clashing_30 : decode cX4_clashing 30 = .ok (.getfield 35, 3) := by decide +kernel
theorem dX4_clashing_33 : decode cX4_clashing 33 = .ok (.aload_n 0, 1) := by decide +kernel
theorem dX4_clashing_34 : decode cX4_clashing 34 = .ok (.getfield 26, 3) := by decide +kernel
theorem dX4_clashing_37 : decode cX4_clashing 37 = .ok (.iload_n 3, 1) := by decide +kernel
theorem dX4_clashing_38 : decode cX4_clashing 38 = .ok (.iaload, 1) := by decide +kernel
theorem dX4_clashing_39 : decode cX4_clashing 39 = .ok (.iaload, 1) := by decide +kernel
theorem dX4_clashing_40 : decode cX4_clashing 40 = .ok (.aload_n 0, 1) := by decide +kernel
theorem dX4_clashing_41 : decode cX4_clashing 41 = .ok (.getfield 35, 3) := by decide +kernel
theorem dX4_clashing_44 : decode cX4_clashing 44 = .ok (.aload_n 0, 1) := by decide +kernel
theorem dX4_clashing_45 : decode cX4_clashing 45 = .ok (.getfield 29, 3) := by decide +kernel
theorem dX4_clashing_48 : decode cX4_clashing 48 = .ok (.iload_n 3, 1) := by decide +kernel
theorem dX4_clashing_49 : decode cX4_clashing 49 = .ok (.iaload, 1) := by decide +kernel
theorem dX4_clashing_50 : decode cX4_clashing 50 = .ok (.iaload, 1) := by decide +kernel
theorem dX4_clashing_51 : decode cX4_clashing 51 = .ok (.if_icmp .ne 5, 3) := by decide +kernel
theorem dX4_clashing_54 : decode cX4_clashing 54 = .ok (.iconst 1, 1) := by decide +kernel
theorem dX4_clashing_55 : decode cX4_clashing 55 = .ok (.ireturn, 1) := by decide +kernel
theorem dX4_clashing_56 : decode cX4_clashing 56 = .ok (.iinc 3 1, 3) := by decide +kernel
theorem dX4_clashing_59 : decode cX4_clashing 59 = .ok (.goto (-57), 3) := by decide +kernel
theorem dX4_clashing_62 : decode cX4_clashing 62 = .ok (.iconst 0, 1) := by decide +kernel
theorem dX4_clashing_63 : decode cX4_clashing 63 = .ok (.istore_n 3, 1) := by decide +kernel
theorem dX4_clashing_64 : decode cX4_clashing 64 = .ok (.iload_n 3, 1) := by decide +kernel
theorem dX4_clashing_65 : decode cX4_clashing 65 = .ok (.aload_n 0, 1) := by decide +kernel
theorem dX4_clashing_66 : decode cX4_clashing 66 = .ok (.getfield 48, 3) := by decide +kernel
theorem dX4_clashing_69 : decode cX4_clashing 69 = .ok (.if_icmp .ge 87, 3) := by decide +kernel
theorem dX4_clashing_72 : decode cX4_clashing 72 = .ok (.iconst 0, 1) := by decide +kernel
theorem dX4_clashing_73 : decode cX4_clashing 73 = .ok (.istore 4, 2) := by decide +kernel
theorem dX4_clashing_75 : decode cX4_clashing 75 = .ok (.iload 4, 2) := by decide +kernel
theorem dX4_clashing_77 : decode cX4_clashing 77 = .ok (.iload_n 3, 1) := by decide +kernel
theorem dX4_clashing_78 : decode cX4_clashing 78 = .ok (.if_icmp .ge 72, 3) := by decide +kernel
theorem dX4_clashing_81 : decode cX4_clashing 81 = .ok (.aload_n 0, 1) := by decide +kernel
theorem dX4_clashing_82 : decode cX4_clashing 82 = .ok (.getfield 35, 3) := by decide +kernel
theorem dX4_clashing_85 : decode cX4_clashing 85 = .ok (.iload_n 3, 1) := by decide +kernel
theorem dX4_clashing_86 : decode cX4_clashing 86 = .ok (.iaload, 1) := by decide +kernel
theorem dX4_clashing_87 : decode cX4_clashing 87 = .ok (.aload_n 0, 1) := by decide +kernel
theorem dX4_clashing_88 : decode cX4_clashing 88 = .ok (.getfield 35, 3) := by decide +kernel
theorem dX4_clashing_91 : decode cX4_clashing 91 = .ok (.iload 4, 2) := by decide +kernel
theorem dX4_clashing_93 : decode cX4_clashing 93 = .ok (.iaload, 1) := by decide +kernel
theorem dX4_clashing_94 : decode cX4_clashing 94 = .ok (.if_icmp .ne 50, 3) := by decide +kernel
theorem dX4_clashing_97 : decode cX4_clashing 97 = .ok (.aload_n 0, 1) := by decide +kernel
theorem dX4_clashing_98 : decode cX4_clashing 98 = .ok (.getfield 20, 3) := by decide +kernel
theorem dX4_clashing_101 : decode cX4_clashing 101 = .ok (.iload_n 3, 1) := by decide +kernel
theorem dX4_clashing_102 : decode cX4_clashing 102 = .ok (.iaload, 1) := by decide +kernel
theorem dX4_clashing_103 : decode cX4_clashing 103 = .ok (.aload_n 0, 1) := by decide +kernel
theorem dX4_clashing_104 : decode cX4_clashing 104 = .ok (.getfield 20, 3) := by decide +kernel
theorem dX4_clashing_107 : decode cX4_clashing 107 = .ok (.iload 4, 2) := by decide +kernel
theorem dX4_clashing_109 : decode cX4_clashing 109 = .ok (.iaload, 1) := by decide +kernel
theorem dX4_clashing_110 : decode cX4_clashing 110 = .ok (.if_icmp .eq 34, 3) := by decide +kernel
theorem dX4_clashing_113 : decode cX4_clashing 113 = .ok (.aload_n 0, 1) := by decide +kernel
theorem dX4_clashing_114 : decode cX4_clashing 114 = .ok (.getfield 7, 3) := by decide +kernel
theorem dX4_clashing_117 : decode cX4_clashing 117 = .ok (.aload_n 0, 1) := by decide +kernel
theorem dX4_clashing_118 : decode cX4_clashing 118 = .ok (.getfield 20, 3) := by decide +kernel
theorem dX4_clashing_121 : decode cX4_clashing 121 = .ok (.iload_n 3, 1) := by decide +kernel
theorem dX4_clashing_122 : decode cX4_clashing 122 = .ok (.iaload, 1) := by decide +kernel
theorem dX4_clashing_123 : decode cX4_clashing 123 = .ok (.baload, 1) := by decide +kernel
theorem dX4_clashing_124 : decode cX4_clashing 124 = .ok (.ifCond .eq 20, 3) := by decide +kernel
theorem dX4_clashing_127 : decode cX4_clashing 127 = .ok (.aload_n 0, 1) := by decide +kernel
theorem dX4_clashing_128 : decode cX4_clashing 128 = .ok (.getfield 7, 3) := by decide +kernel
theorem dX4_clashing_131 : decode cX4_clashing 131 = .ok (.aload_n 0, 1) := by decide +kernel
theorem dX4_clashing_132 : decode cX4_clashing 132 = .ok (.getfield 20, 3) := by decide +kernel
theorem dX4_clashing_135 : decode cX4_clashing 135 = .ok (.iload 4, 2) := by decide +kernel
theorem dX4_clashing_137 : decode cX4_clashing 137 = .ok (.iaload, 1) := by decide +kernel
theorem dX4_clashing_138 : decode cX4_clashing 138 = .ok (.baload, 1) := by decide +kernel
theorem dX4_clashing_139 : decode cX4_clashing 139 = .ok (.ifCond .eq 5, 3) := by decide +kernel
theorem dX4_clashing_142 : decode cX4_clashing 142 = .ok (.iconst 1, 1) := by decide +kernel
theorem dX4_clashing_143 : decode cX4_clashing 143 = .ok (.ireturn, 1) := by decide +kernel
theorem dX4_clashing_144 : decode cX4_clashing 144 = .ok (.iinc 4 1, 3) := by decide +kernel
theorem dX4_clashing_147 : decode cX4_clashing 147 = .ok (.goto (-72), 3) := by decide +kernel
theorem dX4_clashing_150 : decode cX4_clashing 150 = .ok (.iinc 3 1, 3) := by decide +kernel
theorem dX4_clashing_153 : decode cX4_clashing 153 = .ok (.goto (-89), 3) := by decide +kernel
theorem dX4_clashing_156 : decode cX4_clashing 156 = .ok (.aload_n 0, 1) := by decide +kernel
theorem dX4_clashing_157 : decode cX4_clashing 157 = .ok (.invokevirtual 78, 3) := by decide +kernel
theorem dX4_clashing_160 : decode cX4_clashing 160 = .ok (.ireturn, 1) := by decide +kernel
theorem dX4_turns_0 : decode cX4_turns 0 = .ok (.iconst 0, 1) := by decide +kernel
theorem dX4_turns_1 : decode cX4_turns 1 = .ok (.istore_n 1, 1) := by decide +kernel
theorem dX4_turns_2 : decode cX4_turns 2 = .ok (.iload_n 1, 1) := by decide +kernel
theorem dX4_turns_3 : decode cX4_turns 3 = .ok (.sipush 3600, 3) := by decide +kernel
theorem dX4_turns_6 : decode cX4_turns 6 = .ok (.if_icmp .ge 16, 3) := by decide +kernel
theorem dX4_turns_9 : decode cX4_turns 9 = .ok (.aload_n 0, 1) := by decide +kernel
theorem dX4_turns_10 : decode cX4_turns 10 = .ok (.getfield 38, 3) := by decide +kernel
theorem dX4_turns_13 : decode cX4_turns 13 = .ok (.iload_n 1, 1) := by decide +kernel
theorem dX4_turns_14 : decode cX4_turns 14 = .ok (.iconst 0, 1) := by decide +kernel
theorem dX4_turns_15 : decode cX4_turns 15 = .ok (.bastore, 1) := by decide +kernel
theorem dX4_turns_16 : decode cX4_turns 16 = .ok (.iinc 1 1, 3) := by decide +kernel
theorem dX4_turns_19 : decode cX4_turns 19 = .ok (.goto (-17), 3) := by decide +kernel
theorem dX4_turns_22 : decode cX4_turns 22 = .ok (.iconst 0, 1) := by decide +kernel
theorem dX4_turns_23 : decode cX4_turns 23 = .ok (.istore_n 1, 1) := by decide +kernel
theorem dX4_turns_24 : decode cX4_turns 24 = .ok (.iload_n 1, 1) := by decide +kernel
theorem dX4_turns_25 : decode cX4_turns 25 = .ok (.aload_n 0, 1) := by decide +kernel
theorem dX4_turns_26 : decode cX4_turns 26 = .ok (.getfield 48, 3) := by decide +kernel
theorem dX4_turns_29 : decode cX4_turns 29 = .ok (.if_icmp .ge 77, 3) := by decide +kernel
theorem dX4_turns_32 : decode cX4_turns 32 = .ok (.iconst 0, 1) := by decide +kernel
theorem dX4_turns_33 : decode cX4_turns 33 = .ok (.istore_n 2, 1) := by decide +kernel
theorem dX4_turns_34 : decode cX4_turns 34 = .ok (.aload_n 0, 1) := by decide +kernel
theorem dX4_turns_35 : decode cX4_turns 35 = .ok (.getfield 7, 3) := by decide +kernel
theorem dX4_turns_38 : decode cX4_turns 38 = .ok (.aload_n 0, 1) := by decide +kernel
theorem dX4_turns_39 : decode cX4_turns 39 = .ok (.getfield 20, 3) := by decide +kernel
theorem dX4_turns_42 : decode cX4_turns 42 = .ok (.iload_n 1, 1) := by decide +kernel
theorem dX4_turns_43 : decode cX4_turns 43 = .ok (.iaload, 1) := by decide +kernel
theorem dX4_turns_44 : decode cX4_turns 44 = .ok (.baload, 1) := by decide +kernel
theorem dX4_turns_45 : decode cX4_turns 45 = .ok (.ifCond .eq 55, 3) := by decide +kernel
theorem dX4_turns_48 : decode cX4_turns 48 = .ok (.iload_n 2, 1) := by decide +kernel
theorem dX4_turns_49 : decode cX4_turns 49 = .ok (.aload_n 0, 1) := by decide +kernel
theorem dX4_turns_50 : decode cX4_turns 50 = .ok (.getfield 16, 3) := by decide +kernel
theorem dX4_turns_53 : decode cX4_turns 53 = .ok (.aload_n 0, 1) := by decide +kernel
theorem dX4_turns_54 : decode cX4_turns 54 = .ok (.getfield 20, 3) := by decide +kernel
theorem dX4_turns_57 : decode cX4_turns 57 = .ok (.iload_n 1, 1) := by decide +kernel
theorem dX4_turns_58 : decode cX4_turns 58 = .ok (.iaload, 1) := by decide +kernel
theorem dX4_turns_59 : decode cX4_turns 59 = .ok (.iaload, 1) := by decide +kernel
theorem dX4_turns_60 : decode cX4_turns 60 = .ok (.if_icmp .ge 40, 3) := by decide +kernel
theorem dX4_turns_63 : decode cX4_turns 63 = .ok (.aload_n 0, 1) := by decide +kernel
theorem dX4_turns_64 : decode cX4_turns 64 = .ok (.getfield 38, 3) := by decide +kernel
theorem dX4_turns_67 : decode cX4_turns 67 = .ok (.bipush 60, 2) := by decide +kernel
theorem dX4_turns_69 : decode cX4_turns 69 = .ok (.aload_n 0, 1) := by decide +kernel
theorem dX4_turns_70 : decode cX4_turns 70 = .ok (.getfield 35, 3) := by decide +kernel
theorem dX4_turns_73 : decode cX4_turns 73 = .ok (.iload_n 1, 1) := by decide +kernel
theorem dX4_turns_74 : decode cX4_turns 74 = .ok (.iaload, 1) := by decide +kernel
theorem dX4_turns_75 : decode cX4_turns 75 = .ok (.imul, 1) := by decide +kernel
theorem dX4_turns_76 : decode cX4_turns 76 = .ok (.aload_n 0, 1) := by decide +kernel
theorem dX4_turns_77 : decode cX4_turns 77 = .ok (.getfield 35, 3) := by decide +kernel
theorem dX4_turns_80 : decode cX4_turns 80 = .ok (.aload_n 0, 1) := by decide +kernel
theorem dX4_turns_81 : decode cX4_turns 81 = .ok (.getfield 23, 3) := by decide +kernel
theorem dX4_turns_84 : decode cX4_turns 84 = .ok (.iconst 3, 1) := by decide +kernel
theorem dX4_turns_85 : decode cX4_turns 85 = .ok (.iload_n 1, 1) := by decide +kernel
theorem dX4_turns_86 : decode cX4_turns 86 = .ok (.imul, 1) := by decide +kernel
theorem dX4_turns_87 : decode cX4_turns 87 = .ok (.iload_n 2, 1) := by decide +kernel
theorem dX4_turns_88 : decode cX4_turns 88 = .ok (.iadd, 1) := by decide +kernel
theorem dX4_turns_89 : decode cX4_turns 89 = .ok (.iaload, 1) := by decide +kernel
theorem dX4_turns_90 : decode cX4_turns 90 = .ok (.iaload, 1) := by decide +kernel
theorem dX4_turns_91 : decode cX4_turns 91 = .ok (.iadd, 1) := by decide +kernel
theorem dX4_turns_92 : decode cX4_turns 92 = .ok (.iconst 1, 1) := by decide +kernel
theorem dX4_turns_93 : decode cX4_turns 93 = .ok (.bastore, 1) := by decide +kernel
theorem dX4_turns_94 : decode cX4_turns 94 = .ok (.iinc 2 1, 3) := by decide +kernel
theorem dX4_turns_97 : decode cX4_turns 97 = .ok (.goto (-63), 3) := by decide +kernel
theorem dX4_turns_100 : decode cX4_turns 100 = .ok (.iinc 1 1, 3) := by decide +kernel
theorem dX4_turns_103 : decode cX4_turns 103 = .ok (.goto (-79), 3) := by decide +kernel
theorem dX4_turns_106 : decode cX4_turns 106 = .ok (.iconst 0, 1) := by decide +kernel
theorem dX4_turns_107 : decode cX4_turns 107 = .ok (.istore_n 1, 1) := by decide +kernel
theorem dX4_turns_108 : decode cX4_turns 108 = .ok (.iload_n 1, 1) := by decide +kernel
theorem dX4_turns_109 : decode cX4_turns 109 = .ok (.aload_n 0, 1) := by decide +kernel
theorem dX4_turns_110 : decode cX4_turns 110 = .ok (.getfield 48, 3) := by decide +kernel
theorem dX4_turns_113 : decode cX4_turns 113 = .ok (.if_icmp .ge 81, 3) := by decide +kernel
theorem dX4_turns_116 : decode cX4_turns 116 = .ok (.iconst 0, 1) := by decide +kernel
theorem dX4_turns_117 : decode cX4_turns 117 = .ok (.istore_n 2, 1) := by decide +kernel
theorem dX4_turns_118 : decode cX4_turns 118 = .ok (.iload_n 2, 1) := by decide +kernel
theorem dX4_turns_119 : decode cX4_turns 119 = .ok (.aload_n 0, 1) := by decide +kernel
theorem dX4_turns_120 : decode cX4_turns 120 = .ok (.getfield 48, 3) := by decide +kernel
theorem dX4_turns_123 : decode cX4_turns 123 = .ok (.if_icmp .ge 65, 3) := by decide +kernel
theorem dX4_turns_126 : decode cX4_turns 126 = .ok (.iconst 0, 1) := by decide +kernel
theorem dX4_turns_127 : decode cX4_turns 127 = .ok (.istore_n 3, 1) := by decide +kernel
theorem dX4_turns_128 : decode cX4_turns 128 = .ok (.aload_n 0, 1) := by decide +kernel
theorem dX4_turns_129 : decode cX4_turns 129 = .ok (.getfield 38, 3) := by decide +kernel
theorem dX4_turns_132 : decode cX4_turns 132 = .ok (.bipush 60, 2) := by decide +kernel
theorem dX4_turns_134 : decode cX4_turns 134 = .ok (.iload_n 2, 1) := by decide +kernel
theorem dX4_turns_135 : decode cX4_turns 135 = .ok (.imul, 1) := by decide +kernel
theorem dX4_turns_136 : decode cX4_turns 136 = .ok (.iload_n 1, 1) := by decide +kernel
theorem dX4_turns_137 : decode cX4_turns 137 = .ok (.iadd, 1) := by decide +kernel
theorem dX4_turns_138 : decode cX4_turns 138 = .ok (.baload, 1) := by decide +kernel
theorem dX4_turns_139 : decode cX4_turns 139 = .ok (.ifCond .eq 43, 3) := by decide +kernel
theorem dX4_turns_142 : decode cX4_turns 142 = .ok (.iload_n 3, 1) := by decide +kernel
theorem dX4_turns_143 : decode cX4_turns 143 = .ok (.aload_n 0, 1) := by decide +kernel
theorem dX4_turns_144 : decode cX4_turns 144 = .ok (.getfield 48, 3) := by decide +kernel
theorem dX4_turns_147 : decode cX4_turns 147 = .ok (.if_icmp .ge 35, 3) := by decide +kernel
theorem dX4_turns_150 : decode cX4_turns 150 = .ok (.aload_n 0, 1) := by decide +kernel
theorem dX4_turns_151 : decode cX4_turns 151 = .ok (.getfield 38, 3) := by decide +kernel
theorem dX4_turns_154 : decode cX4_turns 154 = .ok (.bipush 60, 2) := by decide +kernel
theorem dX4_turns_156 : decode cX4_turns 156 = .ok (.iload_n 1, 1) := by decide +kernel
theorem dX4_turns_157 : decode cX4_turns 157 = .ok (.imul, 1) := by decide +kernel
theorem dX4_turns_158 : decode cX4_turns 158 = .ok (.iload_n 3, 1) := by decide +kernel
theorem dX4_turns_159 : decode cX4_turns 159 = .ok (.iadd, 1) := by decide +kernel
theorem dX4_turns_160 : decode cX4_turns 160 = .ok (.baload, 1) := by decide +kernel
theorem dX4_turns_161 : decode cX4_turns 161 = .ok (.ifCond .eq 15, 3) := by decide +kernel
theorem dX4_turns_164 : decode cX4_turns 164 = .ok (.aload_n 0, 1) := by decide +kernel
theorem dX4_turns_165 : decode cX4_turns 165 = .ok (.getfield 38, 3) := by decide +kernel
theorem dX4_turns_168 : decode cX4_turns 168 = .ok (.bipush 60, 2) := by decide +kernel
theorem dX4_turns_170 : decode cX4_turns 170 = .ok (.iload_n 2, 1) := by decide +kernel
theorem dX4_turns_171 : decode cX4_turns 171 = .ok (.imul, 1) := by decide +kernel
theorem dX4_turns_172 : decode cX4_turns 172 = .ok (.iload_n 3, 1) := by decide +kernel
theorem dX4_turns_173 : decode cX4_turns 173 = .ok (.iadd, 1) := by decide +kernel
theorem dX4_turns_174 : decode cX4_turns 174 = .ok (.iconst 1, 1) := by decide +kernel
theorem dX4_turns_175 : decode cX4_turns 175 = .ok (.bastore, 1) := by decide +kernel
theorem dX4_turns_176 : decode cX4_turns 176 = .ok (.iinc 3 1, 3) := by decide +kernel
theorem dX4_turns_179 : decode cX4_turns 179 = .ok (.goto (-51), 3) := by decide +kernel
theorem dX4_turns_182 : decode cX4_turns 182 = .ok (.iinc 2 1, 3) := by decide +kernel
theorem dX4_turns_185 : decode cX4_turns 185 = .ok (.goto (-67), 3) := by decide +kernel
theorem dX4_turns_188 : decode cX4_turns 188 = .ok (.iinc 1 1, 3) := by decide +kernel
theorem dX4_turns_191 : decode cX4_turns 191 = .ok (.goto (-83), 3) := by decide +kernel
theorem dX4_turns_194 : decode cX4_turns 194 = .ok (.iconst 0, 1) := by decide +kernel
theorem dX4_turns_195 : decode cX4_turns 195 = .ok (.istore_n 1, 1) := by decide +kernel
theorem dX4_turns_196 : decode cX4_turns 196 = .ok (.iconst 0, 1) := by decide +kernel
theorem dX4_turns_197 : decode cX4_turns 197 = .ok (.istore_n 2, 1) := by decide +kernel
theorem dX4_turns_198 : decode cX4_turns 198 = .ok (.iload_n 2, 1) := by decide +kernel
theorem dX4_turns_199 : decode cX4_turns 199 = .ok (.aload_n 0, 1) := by decide +kernel
theorem dX4_turns_200 : decode cX4_turns 200 = .ok (.getfield 48, 3) := by decide +kernel
theorem dX4_turns_203 : decode cX4_turns 203 = .ok (.if_icmp .ge 33, 3) := by decide +kernel
theorem dX4_turns_206 : decode cX4_turns 206 = .ok (.iload_n 1, 1) := by decide +kernel
theorem dX4_turns_207 : decode cX4_turns 207 = .ok (.ifCond .ne 17, 3) := by decide +kernel
theorem dX4_turns_210 : decode cX4_turns 210 = .ok (.aload_n 0, 1) := by decide +kernel
theorem dX4_turns_211 : decode cX4_turns 211 = .ok (.getfield 38, 3) := by decide +kernel
theorem dX4_turns_214 : decode cX4_turns 214 = .ok (.bipush 60, 2) := by decide +kernel
theorem dX4_turns_216 : decode cX4_turns 216 = .ok (.iload_n 2, 1) := by decide +kernel
theorem dX4_turns_217 : decode cX4_turns 217 = .ok (.imul, 1) := by decide +kernel
theorem dX4_turns_218 : decode cX4_turns 218 = .ok (.iload_n 2, 1) := by decide +kernel
theorem dX4_turns_219 : decode cX4_turns 219 = .ok (.iadd, 1) := by decide +kernel
theorem dX4_turns_220 : decode cX4_turns 220 = .ok (.baload, 1) := by decide +kernel
theorem dX4_turns_221 : decode cX4_turns 221 = .ok (.ifCond .eq 7, 3) := by decide +kernel
theorem dX4_turns_224 : decode cX4_turns 224 = .ok (.iconst 1, 1) := by decide +kernel
theorem dX4_turns_225 : decode cX4_turns 225 = .ok (.goto 4, 3) := by decide +kernel
theorem dX4_turns_228 : decode cX4_turns 228 = .ok (.iconst 0, 1) := by decide +kernel
theorem dX4_turns_229 : decode cX4_turns 229 = .ok (.istore_n 1, 1) := by decide +kernel
theorem dX4_turns_230 : decode cX4_turns 230 = .ok (.iinc 2 1, 3) := by decide +kernel
theorem dX4_turns_233 : decode cX4_turns 233 = .ok (.goto (-35), 3) := by decide +kernel
theorem dX4_turns_236 : decode cX4_turns 236 = .ok (.iload_n 1, 1) := by decide +kernel
theorem dX4_turns_237 : decode cX4_turns 237 = .ok (.ireturn, 1) := by decide +kernel
theorem dX4_isOther_0 : decode cX4_isOther 0 = .ok (.aload_n 0, 1) := by decide +kernel
theorem dX4_isOther_1 : decode cX4_isOther 1 = .ok (.aload_n 0, 1) := by decide +kernel
theorem dX4_isOther_2 : decode cX4_isOther 2 = .ok (.iload_n 1, 1) := by decide +kernel
theorem dX4_isOther_3 : decode cX4_isOther 3 = .ok (.invokevirtual 51, 3) := by decide +kernel
theorem dX4_isOther_6 : decode cX4_isOther 6 = .ok (.ifCond .eq 11, 3) := by decide +kernel
theorem dX4_isOther_9 : decode cX4_isOther 9 = .ok (.aload_n 0, 1) := by decide +kernel
theorem dX4_isOther_10 : decode cX4_isOther 10 = .ok (.iload_n 2, 1) := by decide +kernel
theorem dX4_isOther_11 : decode cX4_isOther 11 = .ok (.invokevirtual 51, 3) := by decide +kernel
theorem dX4_isOther_14 : decode cX4_isOther 14 = .ok (.ifCond .ne 7, 3) := by decide +kernel
theorem dX4_isOther_17 : decode cX4_isOther 17 = .ok (.iconst 1, 1) := by decide +kernel
theorem dX4_isOther_18 : decode cX4_isOther 18 = .ok (.goto 4, 3) := by decide +kernel
theorem dX4_isOther_21 : decode cX4_isOther 21 = .ok (.iconst 0, 1) := by decide +kernel
theorem dX4_isOther_22 : decode cX4_isOther 22 = .ok (.putfield 44, 3) := by decide +kernel
theorem dX4_isOther_25 : decode cX4_isOther 25 = .ok (.aload_n 0, 1) := by decide +kernel
theorem dX4_isOther_26 : decode cX4_isOther 26 = .ok (.getfield 44, 3) := by decide +kernel
theorem dX4_isOther_29 : decode cX4_isOther 29 = .ok (.ifCond .le 5, 3) := by decide +kernel
theorem dX4_isOther_32 : decode cX4_isOther 32 = .ok (.iconst 0, 1) := by decide +kernel
theorem dX4_isOther_33 : decode cX4_isOther 33 = .ok (.ireturn, 1) := by decide +kernel
theorem dX4_isOther_34 : decode cX4_isOther 34 = .ok (.aload_n 0, 1) := by decide +kernel
theorem dX4_isOther_35 : decode cX4_isOther 35 = .ok (.aload_n 0, 1) := by decide +kernel
theorem dX4_isOther_36 : decode cX4_isOther 36 = .ok (.invokevirtual 82, 3) := by decide +kernel
theorem dX4_isOther_39 : decode cX4_isOther 39 = .ok (.iload_n 1, 1) := by decide +kernel
theorem dX4_isOther_40 : decode cX4_isOther 40 = .ok (.iload_n 2, 1) := by decide +kernel
theorem dX4_isOther_41 : decode cX4_isOther 41 = .ok (.invokevirtual 86, 3) := by decide +kernel
theorem dX4_isOther_44 : decode cX4_isOther 44 = .ok (.aload_n 0, 1) := by decide +kernel
theorem dX4_isOther_45 : decode cX4_isOther 45 = .ok (.aload_n 0, 1) := by decide +kernel
theorem dX4_isOther_46 : decode cX4_isOther 46 = .ok (.invokevirtual 82, 3) := by decide +kernel
theorem dX4_isOther_49 : decode cX4_isOther 49 = .ok (.invokevirtual 90, 3) := by decide +kernel
theorem dX4_isOther_52 : decode cX4_isOther 52 = .ok (.ireturn, 1) := by decide +kernel
theorem dX4_row_0 : decode cX4_row 0 = .ok (.aload_n 0, 1) := by decide +kernel
theorem dX4_row_1 : decode cX4_row 1 = .ok (.aload_n 0, 1) := by decide +kernel
theorem dX4_row_2 : decode cX4_row 2 = .ok (.iload_n 1, 1) := by decide +kernel
theorem dX4_row_3 : decode cX4_row 3 = .ok (.invokevirtual 51, 3) := by decide +kernel
theorem dX4_row_6 : decode cX4_row 6 = .ok (.ifCond .eq 7, 3) := by decide +kernel
theorem dX4_row_9 : decode cX4_row 9 = .ok (.iconst 0, 1) := by decide +kernel
theorem dX4_row_10 : decode cX4_row 10 = .ok (.goto 4, 3) := by decide +kernel
theorem dX4_row_13 : decode cX4_row 13 = .ok (.iconst 1, 1) := by decide +kernel
theorem dX4_row_14 : decode cX4_row 14 = .ok (.putfield 44, 3) := by decide +kernel
theorem dX4_row_17 : decode cX4_row 17 = .ok (.aload_n 0, 1) := by decide +kernel
theorem dX4_row_18 : decode cX4_row 18 = .ok (.getfield 44, 3) := by decide +kernel
theorem dX4_row_21 : decode cX4_row 21 = .ok (.ifCond .le 5, 3) := by decide +kernel
theorem dX4_row_24 : decode cX4_row 24 = .ok (.iconst 0, 1) := by decide +kernel
theorem dX4_row_25 : decode cX4_row 25 = .ok (.ireturn, 1) := by decide +kernel
theorem dX4_row_26 : decode cX4_row 26 = .ok (.aload_n 0, 1) := by decide +kernel
theorem dX4_row_27 : decode cX4_row 27 = .ok (.aload_n 0, 1) := by decide +kernel
theorem dX4_row_28 : decode cX4_row 28 = .ok (.invokevirtual 82, 3) := by decide +kernel
theorem dX4_row_31 : decode cX4_row 31 = .ok (.iload_n 1, 1) := by decide +kernel
theorem dX4_row_32 : decode cX4_row 32 = .ok (.iload_n 1, 1) := by decide +kernel
theorem dX4_row_33 : decode cX4_row 33 = .ok (.invokevirtual 86, 3) := by decide +kernel
theorem dX4_row_36 : decode cX4_row 36 = .ok (.iconst 0, 1) := by decide +kernel
theorem dX4_row_37 : decode cX4_row 37 = .ok (.istore_n 3, 1) := by decide +kernel
theorem dX4_row_38 : decode cX4_row 38 = .ok (.iconst (-1), 1) := by decide +kernel
theorem dX4_row_39 : decode cX4_row 39 = .ok (.istore 4, 2) := by decide +kernel
theorem dX4_row_41 : decode cX4_row 41 = .ok (.iconst 0, 1) := by decide +kernel
theorem dX4_row_42 : decode cX4_row 42 = .ok (.istore 5, 2) := by decide +kernel
theorem dX4_row_44 : decode cX4_row 44 = .ok (.aload_n 0, 1) := by decide +kernel
theorem dX4_row_45 : decode cX4_row 45 = .ok (.getfield 48, 3) := by decide +kernel
theorem dX4_row_48 : decode cX4_row 48 = .ok (.iconst 1, 1) := by decide +kernel
theorem dX4_row_49 : decode cX4_row 49 = .ok (.isub, 1) := by decide +kernel
theorem dX4_row_50 : decode cX4_row 50 = .ok (.istore 6, 2) := by decide +kernel
theorem dX4_row_52 : decode cX4_row 52 = .ok (.iload 6, 2) := by decide +kernel
theorem dX4_row_54 : decode cX4_row 54 = .ok (.ifCond .lt 72, 3) := by decide +kernel
theorem dX4_row_57 : decode cX4_row 57 = .ok (.iload 5, 2) := by decide +kernel
theorem dX4_row_59 : decode cX4_row 59 = .ok (.aload_n 0, 1) := by decide +kernel
theorem dX4_row_60 : decode cX4_row 60 = .ok (.getfield 35, 3) := by decide +kernel
theorem dX4_row_63 : decode cX4_row 63 = .ok (.iload 6, 2) := by decide +kernel
theorem dX4_row_65 : decode cX4_row 65 = .ok (.iaload, 1) := by decide +kernel
theorem dX4_row_66 : decode cX4_row 66 = .ok (.iload 6, 2) := by decide +kernel
theorem dX4_row_68 : decode cX4_row 68 = .ok (.if_icmp .ne 7, 3) := by decide +kernel
theorem dX4_row_71 : decode cX4_row 71 = .ok (.iconst 1, 1) := by decide +kernel
theorem dX4_row_72 : decode cX4_row 72 = .ok (.goto 4, 3) := by decide +kernel
theorem dX4_row_75 : decode cX4_row 75 = .ok (.iconst 0, 1) := by decide +kernel
theorem dX4_row_76 : decode cX4_row 76 = .ok (.iadd, 1) := by decide +kernel
theorem dX4_row_77 : decode cX4_row 77 = .ok (.istore 5, 2) := by decide +kernel
theorem dX4_row_79 : decode cX4_row 79 = .ok (.aload_n 0, 1) := by decide +kernel
theorem dX4_row_80 : decode cX4_row 80 = .ok (.getfield 35, 3) := by decide +kernel
theorem dX4_row_83 : decode cX4_row 83 = .ok (.iload 6, 2) := by decide +kernel
theorem dX4_row_85 : decode cX4_row 85 = .ok (.iaload, 1) := by decide +kernel
theorem dX4_row_86 : decode cX4_row 86 = .ok (.aload_n 0, 1) := by decide +kernel
theorem dX4_row_87 : decode cX4_row 87 = .ok (.getfield 35, 3) := by decide +kernel
theorem dX4_row_90 : decode cX4_row 90 = .ok (.iload_n 1, 1) := by decide +kernel
theorem dX4_row_91 : decode cX4_row 91 = .ok (.iaload, 1) := by decide +kernel
theorem dX4_row_92 : decode cX4_row 92 = .ok (.if_icmp .eq 6, 3) := by decide +kernel
theorem dX4_row_95 : decode cX4_row 95 = .ok (.goto 25, 3) := by decide +kernel
theorem dX4_row_98 : decode cX4_row 98 = .ok (.iinc 3 1, 3) := by decide +kernel
theorem dX4_row_101 : decode cX4_row 101 = .ok (.aload_n 0, 1) := by decide +kernel
theorem dX4_row_102 : decode cX4_row 102 = .ok (.getfield 7, 3) := by decide +kernel
theorem dX4_row_105 : decode cX4_row 105 = .ok (.aload_n 0, 1) := by decide +kernel
theorem dX4_row_106 : decode cX4_row 106 = .ok (.getfield 20, 3) := by decide +kernel
theorem dX4_row_109 : decode cX4_row 109 = .ok (.iload 6, 2) := by decide +kernel
theorem dX4_row_111 : decode cX4_row 111 = .ok (.iaload, 1) := by decide +kernel
theorem dX4_row_112 : decode cX4_row 112 = .ok (.baload, 1) := by decide +kernel
theorem dX4_row_113 : decode cX4_row 113 = .ok (.ifCond .eq 7, 3) := by decide +kernel
theorem dX4_row_116 : decode cX4_row 116 = .ok (.iload 6, 2) := by decide +kernel
theorem dX4_row_118 : decode cX4_row 118 = .ok (.istore 4, 2) := by decide +kernel
theorem dX4_row_120 : decode cX4_row 120 = .ok (.iinc 6 (-1), 3) := by decide +kernel
theorem dX4_row_123 : decode cX4_row 123 = .ok (.goto (-71), 3) := by decide +kernel
theorem dX4_row_126 : decode cX4_row 126 = .ok (.iload_n 2, 1) := by decide +kernel
theorem dX4_row_127 : decode cX4_row 127 = .ok (.ifCond .ne 12, 3) := by decide +kernel
theorem dX4_row_130 : decode cX4_row 130 = .ok (.aload_n 0, 1) := by decide +kernel
theorem dX4_row_131 : decode cX4_row 131 = .ok (.getfield 35, 3) := by decide +kernel
theorem dX4_row_134 : decode cX4_row 134 = .ok (.iload_n 1, 1) := by decide +kernel
theorem dX4_row_135 : decode cX4_row 135 = .ok (.iaload, 1) := by decide +kernel
theorem dX4_row_136 : decode cX4_row 136 = .ok (.goto 33, 3) := by decide +kernel
theorem dX4_row_139 : decode cX4_row 139 = .ok (.iload_n 2, 1) := by decide +kernel
theorem dX4_row_140 : decode cX4_row 140 = .ok (.iconst 1, 1) := by decide +kernel
theorem dX4_row_141 : decode cX4_row 141 = .ok (.if_icmp .ne 7, 3) := by decide +kernel
theorem dX4_row_144 : decode cX4_row 144 = .ok (.iload_n 3, 1) := by decide +kernel
theorem dX4_row_145 : decode cX4_row 145 = .ok (.goto 24, 3) := by decide +kernel
theorem dX4_row_148 : decode cX4_row 148 = .ok (.iload_n 2, 1) := by decide +kernel
theorem dX4_row_149 : decode cX4_row 149 = .ok (.iconst 2, 1) := by decide +kernel
theorem dX4_row_150 : decode cX4_row 150 = .ok (.if_icmp .ne 8, 3) := by decide +kernel
theorem dX4_row_153 : decode cX4_row 153 = .ok (.iload 4, 2) := by decide +kernel
theorem dX4_row_155 : decode cX4_row 155 = .ok (.goto 14, 3) := by decide +kernel
theorem dX4_row_158 : decode cX4_row 158 = .ok (.iload_n 2, 1) := by decide +kernel
theorem dX4_row_159 : decode cX4_row 159 = .ok (.iconst 3, 1) := by decide +kernel
theorem dX4_row_160 : decode cX4_row 160 = .ok (.if_icmp .ne 8, 3) := by decide +kernel
theorem dX4_row_163 : decode cX4_row 163 = .ok (.iload 5, 2) := by decide +kernel
theorem dX4_row_165 : decode cX4_row 165 = .ok (.goto 4, 3) := by decide +kernel
theorem dX4_row_168 : decode cX4_row 168 = .ok (.iconst (-1), 1) := by decide +kernel
theorem dX4_row_169 : decode cX4_row 169 = .ok (.ireturn, 1) := by decide +kernel
theorem dX4_reason_0 : decode cX4_reason 0 = .ok (.aload_n 0, 1) := by decide +kernel
theorem dX4_reason_1 : decode cX4_reason 1 = .ok (.iload_n 1, 1) := by decide +kernel
theorem dX4_reason_2 : decode cX4_reason 2 = .ok (.iload_n 2, 1) := by decide +kernel
theorem dX4_reason_3 : decode cX4_reason 3 = .ok (.invokevirtual 94, 3) := by decide +kernel
theorem dX4_reason_6 : decode cX4_reason 6 = .ok (.ifCond .ne 18, 3) := by decide +kernel
theorem dX4_reason_9 : decode cX4_reason 9 = .ok (.aload_n 0, 1) := by decide +kernel
theorem dX4_reason_10 : decode cX4_reason 10 = .ok (.getfield 44, 3) := by decide +kernel
theorem dX4_reason_13 : decode cX4_reason 13 = .ok (.ifCond .le 7, 3) := by decide +kernel
theorem dX4_reason_16 : decode cX4_reason 16 = .ok (.lconst 0, 1) := by decide +kernel
theorem dX4_reason_17 : decode cX4_reason 17 = .ok (.goto 6, 3) := by decide +kernel
theorem dX4_reason_20 : decode cX4_reason 20 = .ok (.ldc2_w 97, 3) := by decide +kernel
theorem dX4_reason_23 : decode cX4_reason 23 = .ok (.lreturn, 1) := by decide +kernel
theorem dX4_reason_24 : decode cX4_reason 24 = .ok (.aload_n 0, 1) := by decide +kernel
theorem dX4_reason_25 : decode cX4_reason 25 = .ok (.invokevirtual 82, 3) := by decide +kernel
theorem dX4_reason_28 : decode cX4_reason 28 = .ok (.lstore_n 3, 1) := by decide +kernel
theorem dX4_reason_29 : decode cX4_reason 29 = .ok (.aload_n 0, 1) := by decide +kernel
theorem dX4_reason_30 : decode cX4_reason 30 = .ok (.getfield 63, 3) := by decide +kernel
theorem dX4_reason_33 : decode cX4_reason 33 = .ok (.iconst 1, 1) := by decide +kernel
theorem dX4_reason_34 : decode cX4_reason 34 = .ok (.isub, 1) := by decide +kernel
theorem dX4_reason_35 : decode cX4_reason 35 = .ok (.istore 5, 2) := by decide +kernel
theorem dX4_reason_37 : decode cX4_reason 37 = .ok (.iload 5, 2) := by decide +kernel
theorem dX4_reason_39 : decode cX4_reason 39 = .ok (.ifCond .lt 51, 3) := by decide +kernel
theorem dX4_reason_42 : decode cX4_reason 42 = .ok (.aload_n 0, 1) := by decide +kernel
theorem dX4_reason_43 : decode cX4_reason 43 = .ok (.lload_n 3, 1) := by decide +kernel
theorem dX4_reason_44 : decode cX4_reason 44 = .ok (.lconst 1, 1) := by decide +kernel
theorem dX4_reason_45 : decode cX4_reason 45 = .ok (.iload 5, 2) := by decide +kernel
theorem dX4_reason_47 : decode cX4_reason 47 = .ok (.lshl, 1) := by decide +kernel
theorem dX4_reason_48 : decode cX4_reason 48 = .ok (.ldc2_w 97, 3) := by decide +kernel
theorem dX4_reason_51 : decode cX4_reason 51 = .ok (.lxor, 1) := by decide +kernel
theorem dX4_reason_52 : decode cX4_reason 52 = .ok (.land, 1) := by decide +kernel
theorem dX4_reason_53 : decode cX4_reason 53 = .ok (.iload_n 1, 1) := by decide +kernel
theorem dX4_reason_54 : decode cX4_reason 54 = .ok (.iload_n 1, 1) := by decide +kernel
theorem dX4_reason_55 : decode cX4_reason 55 = .ok (.invokevirtual 86, 3) := by decide +kernel
theorem dX4_reason_58 : decode cX4_reason 58 = .ok (.aload_n 0, 1) := by decide +kernel
theorem dX4_reason_59 : decode cX4_reason 59 = .ok (.getfield 35, 3) := by decide +kernel
theorem dX4_reason_62 : decode cX4_reason 62 = .ok (.iload_n 1, 1) := by decide +kernel
theorem dX4_reason_63 : decode cX4_reason 63 = .ok (.iaload, 1) := by decide +kernel
theorem dX4_reason_64 : decode cX4_reason 64 = .ok (.aload_n 0, 1) := by decide +kernel
theorem dX4_reason_65 : decode cX4_reason 65 = .ok (.getfield 35, 3) := by decide +kernel
theorem dX4_reason_68 : decode cX4_reason 68 = .ok (.iload_n 2, 1) := by decide +kernel
theorem dX4_reason_69 : decode cX4_reason 69 = .ok (.iaload, 1) := by decide +kernel
theorem dX4_reason_70 : decode cX4_reason 70 = .ok (.if_icmp .ne 14, 3) := by decide +kernel
theorem dX4_reason_73 : decode cX4_reason 73 = .ok (.lload_n 3, 1) := by decide +kernel
theorem dX4_reason_74 : decode cX4_reason 74 = .ok (.lconst 1, 1) := by decide +kernel
theorem dX4_reason_75 : decode cX4_reason 75 = .ok (.iload 5, 2) := by decide +kernel
theorem dX4_reason_77 : decode cX4_reason 77 = .ok (.lshl, 1) := by decide +kernel
theorem dX4_reason_78 : decode cX4_reason 78 = .ok (.ldc2_w 97, 3) := by decide +kernel
theorem dX4_reason_81 : decode cX4_reason 81 = .ok (.lxor, 1) := by decide +kernel
theorem dX4_reason_82 : decode cX4_reason 82 = .ok (.land, 1) := by decide +kernel
theorem dX4_reason_83 : decode cX4_reason 83 = .ok (.lstore_n 3, 1) := by decide +kernel
theorem dX4_reason_84 : decode cX4_reason 84 = .ok (.iinc 5 (-1), 3) := by decide +kernel
theorem dX4_reason_87 : decode cX4_reason 87 = .ok (.goto (-50), 3) := by decide +kernel
theorem dX4_reason_90 : decode cX4_reason 90 = .ok (.lload_n 3, 1) := by decide +kernel
theorem dX4_reason_91 : decode cX4_reason 91 = .ok (.lreturn, 1) := by decide +kernel
theorem dX4_clash_0 : decode cX4_clash 0 = .ok (.aload_n 0, 1) := by decide +kernel
theorem dX4_clash_1 : decode cX4_clash 1 = .ok (.invokevirtual 99, 3) := by decide +kernel
theorem dX4_clash_4 : decode cX4_clash 4 = .ok (.ifCond .ne 7, 3) := by decide +kernel
theorem dX4_clash_7 : decode cX4_clash 7 = .ok (.ldc2_w 97, 3) := by decide +kernel
theorem dX4_clash_10 : decode cX4_clash 10 = .ok (.lreturn, 1) := by decide +kernel
theorem dX4_clash_11 : decode cX4_clash 11 = .ok (.aload_n 0, 1) := by decide +kernel
theorem dX4_clash_12 : decode cX4_clash 12 = .ok (.invokevirtual 82, 3) := by decide +kernel
theorem dX4_clash_15 : decode cX4_clash 15 = .ok (.lstore_n 1, 1) := by decide +kernel
theorem dX4_clash_16 : decode cX4_clash 16 = .ok (.aload_n 0, 1) := by decide +kernel
theorem dX4_clash_17 : decode cX4_clash 17 = .ok (.getfield 63, 3) := by decide +kernel
theorem dX4_clash_20 : decode cX4_clash 20 = .ok (.iconst 1, 1) := by decide +kernel
theorem dX4_clash_21 : decode cX4_clash 21 = .ok (.isub, 1) := by decide +kernel
theorem dX4_clash_22 : decode cX4_clash 22 = .ok (.istore_n 3, 1) := by decide +kernel
theorem dX4_clash_23 : decode cX4_clash 23 = .ok (.iload_n 3, 1) := by decide +kernel
theorem dX4_clash_24 : decode cX4_clash 24 = .ok (.ifCond .lt 40, 3) := by decide +kernel
theorem dX4_clash_27 : decode cX4_clash 27 = .ok (.lload_n 1, 1) := by decide +kernel
theorem dX4_clash_28 : decode cX4_clash 28 = .ok (.lconst 1, 1) := by decide +kernel
theorem dX4_clash_29 : decode cX4_clash 29 = .ok (.iload_n 3, 1) := by decide +kernel
theorem dX4_clash_30 : decode cX4_clash 30 = .ok (.lshl, 1) := by decide +kernel
theorem dX4_clash_31 : decode cX4_clash 31 = .ok (.ldc2_w 97, 3) := by decide +kernel
theorem dX4_clash_34 : decode cX4_clash 34 = .ok (.lxor, 1) := by decide +kernel
theorem dX4_clash_35 : decode cX4_clash 35 = .ok (.land, 1) := by decide +kernel
theorem dX4_clash_36 : decode cX4_clash 36 = .ok (.lstore 4, 2) := by decide +kernel
theorem dX4_clash_38 : decode cX4_clash 38 = .ok (.aload_n 0, 1) := by decide +kernel
theorem dX4_clash_39 : decode cX4_clash 39 = .ok (.lload 4, 2) := by decide +kernel
theorem dX4_clash_41 : decode cX4_clash 41 = .ok (.iconst 0, 1) := by decide +kernel
theorem dX4_clash_42 : decode cX4_clash 42 = .ok (.iconst 0, 1) := by decide +kernel
theorem dX4_clash_43 : decode cX4_clash 43 = .ok (.invokevirtual 86, 3) := by decide +kernel
theorem dX4_clash_46 : decode cX4_clash 46 = .ok (.aload_n 0, 1) := by decide +kernel
theorem dX4_clash_47 : decode cX4_clash 47 = .ok (.lload 4, 2) := by decide +kernel
theorem dX4_clash_49 : decode cX4_clash 49 = .ok (.invokevirtual 90, 3) := by decide +kernel
theorem dX4_clash_52 : decode cX4_clash 52 = .ok (.ifCond .eq 6, 3) := by decide +kernel
theorem dX4_clash_55 : decode cX4_clash 55 = .ok (.lload 4, 2) := by decide +kernel
theorem dX4_clash_57 : decode cX4_clash 57 = .ok (.lstore_n 1, 1) := by decide +kernel
theorem dX4_clash_58 : decode cX4_clash 58 = .ok (.iinc 3 (-1), 3) := by decide +kernel
theorem dX4_clash_61 : decode cX4_clash 61 = .ok (.goto (-38), 3) := by decide +kernel
theorem dX4_clash_64 : decode cX4_clash 64 = .ok (.lload_n 1, 1) := by decide +kernel
theorem dX4_clash_65 : decode cX4_clash 65 = .ok (.lreturn, 1) := by decide +kernel
theorem dX4_idle_0 : decode cX4_idle 0 = .ok (.aload_n 0, 1) := by decide +kernel
theorem dX4_idle_1 : decode cX4_idle 1 = .ok (.iconst 0, 1) := by decide +kernel
theorem dX4_idle_2 : decode cX4_idle 2 = .ok (.putfield 44, 3) := by decide +kernel
theorem dX4_idle_5 : decode cX4_idle 5 = .ok (.lconst 0, 1) := by decide +kernel
theorem dX4_idle_6 : decode cX4_idle 6 = .ok (.lstore_n 1, 1) := by decide +kernel
theorem dX4_idle_7 : decode cX4_idle 7 = .ok (.iconst 0, 1) := by decide +kernel
theorem dX4_idle_8 : decode cX4_idle 8 = .ok (.istore_n 3, 1) := by decide +kernel
theorem dX4_idle_9 : decode cX4_idle 9 = .ok (.iload_n 3, 1) := by decide +kernel
theorem dX4_idle_10 : decode cX4_idle 10 = .ok (.aload_n 0, 1) := by decide +kernel
theorem dX4_idle_11 : decode cX4_idle 11 = .ok (.getfield 63, 3) := by decide +kernel
theorem dX4_idle_14 : decode cX4_idle 14 = .ok (.if_icmp .ge 60, 3) := by decide +kernel
theorem dX4_idle_17 : decode cX4_idle 17 = .ok (.aload_n 0, 1) := by decide +kernel
theorem dX4_idle_18 : decode cX4_idle 18 = .ok (.lconst 1, 1) := by decide +kernel
theorem dX4_idle_19 : decode cX4_idle 19 = .ok (.iload_n 3, 1) := by decide +kernel
theorem dX4_idle_20 : decode cX4_idle 20 = .ok (.lshl, 1) := by decide +kernel
theorem dX4_idle_21 : decode cX4_idle 21 = .ok (.lconst 1, 1) := by decide +kernel
theorem dX4_idle_22 : decode cX4_idle 22 = .ok (.lsub, 1) := by decide +kernel
theorem dX4_idle_23 : decode cX4_idle 23 = .ok (.iconst 0, 1) := by decide +kernel
theorem dX4_idle_24 : decode cX4_idle 24 = .ok (.iconst 0, 1) := by decide +kernel
theorem dX4_idle_25 : decode cX4_idle 25 = .ok (.invokevirtual 86, 3) := by decide +kernel
theorem dX4_idle_28 : decode cX4_idle 28 = .ok (.aload_n 0, 1) := by decide +kernel
theorem dX4_idle_29 : decode cX4_idle 29 = .ok (.getfield 32, 3) := by decide +kernel
theorem dX4_idle_32 : decode cX4_idle 32 = .ok (.iload_n 3, 1) := by decide +kernel
theorem dX4_idle_33 : decode cX4_idle 33 = .ok (.baload, 1) := by decide +kernel
theorem dX4_idle_34 : decode cX4_idle 34 = .ok (.ifCond .eq 34, 3) := by decide +kernel
theorem dX4_idle_37 : decode cX4_idle 37 = .ok (.aload_n 0, 1) := by decide +kernel
theorem dX4_idle_38 : decode cX4_idle 38 = .ok (.getfield 35, 3) := by decide +kernel
theorem dX4_idle_41 : decode cX4_idle 41 = .ok (.aload_n 0, 1) := by decide +kernel
theorem dX4_idle_42 : decode cX4_idle 42 = .ok (.getfield 26, 3) := by decide +kernel
theorem dX4_idle_45 : decode cX4_idle 45 = .ok (.iload_n 3, 1) := by decide +kernel
theorem dX4_idle_46 : decode cX4_idle 46 = .ok (.iaload, 1) := by decide +kernel
theorem dX4_idle_47 : decode cX4_idle 47 = .ok (.iaload, 1) := by decide +kernel
theorem dX4_idle_48 : decode cX4_idle 48 = .ok (.aload_n 0, 1) := by decide +kernel
theorem dX4_idle_49 : decode cX4_idle 49 = .ok (.getfield 35, 3) := by decide +kernel
theorem dX4_idle_52 : decode cX4_idle 52 = .ok (.aload_n 0, 1) := by decide +kernel
theorem dX4_idle_53 : decode cX4_idle 53 = .ok (.getfield 29, 3) := by decide +kernel
theorem dX4_idle_56 : decode cX4_idle 56 = .ok (.iload_n 3, 1) := by decide +kernel
theorem dX4_idle_57 : decode cX4_idle 57 = .ok (.iaload, 1) := by decide +kernel
theorem dX4_idle_58 : decode cX4_idle 58 = .ok (.iaload, 1) := by decide +kernel
theorem dX4_idle_59 : decode cX4_idle 59 = .ok (.if_icmp .ne 9, 3) := by decide +kernel
theorem dX4_idle_62 : decode cX4_idle 62 = .ok (.lload_n 1, 1) := by decide +kernel
theorem dX4_idle_63 : decode cX4_idle 63 = .ok (.lconst 1, 1) := by decide +kernel
theorem dX4_idle_64 : decode cX4_idle 64 = .ok (.iload_n 3, 1) := by decide +kernel
theorem dX4_idle_65 : decode cX4_idle 65 = .ok (.lshl, 1) := by decide +kernel
theorem dX4_idle_66 : decode cX4_idle 66 = .ok (.lor, 1) := by decide +kernel
theorem dX4_idle_67 : decode cX4_idle 67 = .ok (.lstore_n 1, 1) := by decide +kernel
theorem dX4_idle_68 : decode cX4_idle 68 = .ok (.iinc 3 1, 3) := by decide +kernel
theorem dX4_idle_71 : decode cX4_idle 71 = .ok (.goto (-62), 3) := by decide +kernel
theorem dX4_idle_74 : decode cX4_idle 74 = .ok (.lload_n 1, 1) := by decide +kernel
theorem dX4_idle_75 : decode cX4_idle 75 = .ok (.lreturn, 1) := by decide +kernel
theorem dX4_about_0 : decode cX4_about 0 = .ok (.aload_n 0, 1) := by decide +kernel
theorem dX4_about_1 : decode cX4_about 1 = .ok (.iconst 0, 1) := by decide +kernel
theorem dX4_about_2 : decode cX4_about 2 = .ok (.putfield 44, 3) := by decide +kernel
theorem dX4_about_5 : decode cX4_about 5 = .ok (.iconst 0, 1) := by decide +kernel
theorem dX4_about_6 : decode cX4_about 6 = .ok (.istore_n 2, 1) := by decide +kernel
theorem dX4_about_7 : decode cX4_about 7 = .ok (.iconst 0, 1) := by decide +kernel
theorem dX4_about_8 : decode cX4_about 8 = .ok (.istore_n 3, 1) := by decide +kernel
theorem dX4_about_9 : decode cX4_about 9 = .ok (.iload_n 3, 1) := by decide +kernel
theorem dX4_about_10 : decode cX4_about 10 = .ok (.bipush 16, 2) := by decide +kernel
theorem dX4_about_12 : decode cX4_about 12 = .ok (.if_icmp .ge 26, 3) := by decide +kernel
theorem dX4_about_15 : decode cX4_about 15 = .ok (.iload_n 2, 1) := by decide +kernel
theorem dX4_about_16 : decode cX4_about 16 = .ok (.aload_n 0, 1) := by decide +kernel
theorem dX4_about_17 : decode cX4_about 17 = .ok (.getfield 13, 3) := by decide +kernel
theorem dX4_about_20 : decode cX4_about 20 = .ok (.iload_n 3, 1) := by decide +kernel
theorem dX4_about_21 : decode cX4_about 21 = .ok (.baload, 1) := by decide +kernel
theorem dX4_about_22 : decode cX4_about 22 = .ok (.ifCond .eq 7, 3) := by decide +kernel
theorem dX4_about_25 : decode cX4_about 25 = .ok (.iconst 1, 1) := by decide +kernel
theorem dX4_about_26 : decode cX4_about 26 = .ok (.goto 4, 3) := by decide +kernel
theorem dX4_about_29 : decode cX4_about 29 = .ok (.iconst 0, 1) := by decide +kernel
theorem dX4_about_30 : decode cX4_about 30 = .ok (.iadd, 1) := by decide +kernel
theorem dX4_about_31 : decode cX4_about 31 = .ok (.istore_n 2, 1) := by decide +kernel
theorem dX4_about_32 : decode cX4_about 32 = .ok (.iinc 3 1, 3) := by decide +kernel
theorem dX4_about_35 : decode cX4_about 35 = .ok (.goto (-26), 3) := by decide +kernel
theorem dX4_about_38 : decode cX4_about 38 = .ok (.iload_n 1, 1) := by decide +kernel
theorem dX4_about_39 : decode cX4_about 39 = .ok (.ifCond .ne 10, 3) := by decide +kernel
theorem dX4_about_42 : decode cX4_about 42 = .ok (.aload_n 0, 1) := by decide +kernel
theorem dX4_about_43 : decode cX4_about 43 = .ok (.getfield 48, 3) := by decide +kernel
theorem dX4_about_46 : decode cX4_about 46 = .ok (.goto 25, 3) := by decide +kernel
theorem dX4_about_49 : decode cX4_about 49 = .ok (.iload_n 1, 1) := by decide +kernel
theorem dX4_about_50 : decode cX4_about 50 = .ok (.iconst 1, 1) := by decide +kernel
theorem dX4_about_51 : decode cX4_about 51 = .ok (.if_icmp .ne 10, 3) := by decide +kernel
theorem dX4_about_54 : decode cX4_about 54 = .ok (.aload_n 0, 1) := by decide +kernel
theorem dX4_about_55 : decode cX4_about 55 = .ok (.getfield 63, 3) := by decide +kernel
theorem dX4_about_58 : decode cX4_about 58 = .ok (.goto 13, 3) := by decide +kernel
theorem dX4_about_61 : decode cX4_about 61 = .ok (.iload_n 1, 1) := by decide +kernel
theorem dX4_about_62 : decode cX4_about 62 = .ok (.iconst 2, 1) := by decide +kernel
theorem dX4_about_63 : decode cX4_about 63 = .ok (.if_icmp .ne 7, 3) := by decide +kernel
theorem dX4_about_66 : decode cX4_about 66 = .ok (.iload_n 2, 1) := by decide +kernel
theorem dX4_about_67 : decode cX4_about 67 = .ok (.goto 4, 3) := by decide +kernel
theorem dX4_about_70 : decode cX4_about 70 = .ok (.iconst (-1), 1) := by decide +kernel
theorem dX4_about_71 : decode cX4_about 71 = .ok (.ireturn, 1) := by decide +kernel
