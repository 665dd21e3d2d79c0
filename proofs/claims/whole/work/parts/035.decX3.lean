theorem dX3_init_0 : decode cX3_init 0 = .ok (.aload_n 0, 1) := by decide +kernel
theorem dX3_init_1 : decode cX3_init 1 = .ok (.invokespecial 3, 3) := by decide +kernel
theorem dX3_init_4 : decode cX3_init 4 = .ok (.aload_n 0, 1) := by decide +kernel
theorem dX3_init_5 : decode cX3_init 5 = .ok (.iconst 0, 1) := by decide +kernel
theorem dX3_init_6 : decode cX3_init 6 = .ok (.putfield 9, 3) := by decide +kernel
theorem dX3_init_9 : decode cX3_init 9 = .ok (.aload_n 0, 1) := by decide +kernel
theorem dX3_init_10 : decode cX3_init 10 = .ok (.iconst 0, 1) := by decide +kernel
theorem dX3_init_11 : decode cX3_init 11 = .ok (.putfield 15, 3) := by decide +kernel
theorem dX3_init_14 : decode cX3_init 14 = .ok (.aload_n 0, 1) := by decide +kernel
theorem dX3_init_15 : decode cX3_init 15 = .ok (.iconst 0, 1) := by decide +kernel
theorem dX3_init_16 : decode cX3_init 16 = .ok (.putfield 19, 3) := by decide +kernel
theorem dX3_init_19 : decode cX3_init 19 = .ok (.aload_n 0, 1) := by decide +kernel
theorem dX3_init_20 : decode cX3_init 20 = .ok (.bipush 64, 2) := by decide +kernel
theorem dX3_init_22 : decode cX3_init 22 = .ok (.newarray .int, 2) := by decide +kernel
theorem dX3_init_24 : decode cX3_init 24 = .ok (.putfield 22, 3) := by decide +kernel
theorem dX3_init_27 : decode cX3_init 27 = .ok (.aload_n 0, 1) := by decide +kernel
theorem dX3_init_28 : decode cX3_init 28 = .ok (.bipush 64, 2) := by decide +kernel
theorem dX3_init_30 : decode cX3_init 30 = .ok (.newarray .int, 2) := by decide +kernel
theorem dX3_init_32 : decode cX3_init 32 = .ok (.putfield 26, 3) := by decide +kernel
theorem dX3_init_35 : decode cX3_init 35 = .ok (.aload_n 0, 1) := by decide +kernel
theorem dX3_init_36 : decode cX3_init 36 = .ok (.bipush 64, 2) := by decide +kernel
theorem dX3_init_38 : decode cX3_init 38 = .ok (.newarray .long, 2) := by decide +kernel
theorem dX3_init_40 : decode cX3_init 40 = .ok (.putfield 29, 3) := by decide +kernel
theorem dX3_init_43 : decode cX3_init 43 = .ok (.return_, 1) := by decide +kernel
theorem dX3_clear_0 : decode cX3_clear 0 = .ok (.aload_n 0, 1) := by decide +kernel
theorem dX3_clear_1 : decode cX3_clear 1 = .ok (.iconst 0, 1) := by decide +kernel
theorem dX3_clear_2 : decode cX3_clear 2 = .ok (.putfield 9, 3) := by decide +kernel
theorem dX3_clear_5 : decode cX3_clear 5 = .ok (.aload_n 0, 1) := by decide +kernel
theorem dX3_clear_6 : decode cX3_clear 6 = .ok (.iconst 0, 1) := by decide +kernel
theorem dX3_clear_7 : decode cX3_clear 7 = .ok (.putfield 15, 3) := by decide +kernel
theorem dX3_clear_10 : decode cX3_clear 10 = .ok (.aload_n 0, 1) := by decide +kernel
theorem dX3_clear_11 : decode cX3_clear 11 = .ok (.iconst 0, 1) := by decide +kernel
theorem dX3_clear_12 : decode cX3_clear 12 = .ok (.putfield 19, 3) := by decide +kernel
theorem dX3_clear_15 : decode cX3_clear 15 = .ok (.return_, 1) := by decide +kernel
theorem dX3_add_0 : decode cX3_add 0 = .ok (.aload_n 0, 1) := by decide +kernel
theorem dX3_add_1 : decode cX3_add 1 = .ok (.getfield 15, 3) := by decide +kernel
theorem dX3_add_4 : decode cX3_add 4 = .ok (.aload_n 0, 1) := by decide +kernel
theorem dX3_add_5 : decode cX3_add 5 = .ok (.getfield 22, 3) := by decide +kernel
theorem dX3_add_8 : decode cX3_add 8 = .ok (.arraylength, 1) := by decide +kernel
theorem dX3_add_9 : decode cX3_add 9 = .ok (.if_icmp .ge 15, 3) := by decide +kernel
theorem dX3_add_12 : decode cX3_add 12 = .ok (.aload_n 0, 1) := by decide +kernel
theorem dX3_add_13 : decode cX3_add 13 = .ok (.getfield 15, 3) := by decide +kernel
theorem dX3_add_16 : decode cX3_add 16 = .ok (.aload_n 0, 1) := by decide +kernel
theorem dX3_add_17 : decode cX3_add 17 = .ok (.getfield 26, 3) := by decide +kernel
theorem dX3_add_20 : decode cX3_add 20 = .ok (.arraylength, 1) := by decide +kernel
theorem dX3_add_21 : decode cX3_add 21 = .ok (.if_icmp .lt 4, 3) := by decide +kernel
theorem dX3_add_24 : decode cX3_add 24 = .ok (.return_, 1) := by decide +kernel
theorem dX3_add_25 : decode cX3_add 25 = .ok (.aload_n 0, 1) := by decide +kernel
theorem dX3_add_26 : decode cX3_add 26 = .ok (.getfield 22, 3) := by decide +kernel
theorem dX3_add_29 : decode cX3_add 29 = .ok (.aload_n 0, 1) := by decide +kernel
theorem dX3_add_30 : decode cX3_add 30 = .ok (.getfield 15, 3) := by decide +kernel
theorem dX3_add_33 : decode cX3_add 33 = .ok (.iload_n 1, 1) := by decide +kernel
theorem dX3_add_34 : decode cX3_add 34 = .ok (.iastore, 1) := by decide +kernel
theorem dX3_add_35 : decode cX3_add 35 = .ok (.aload_n 0, 1) := by decide +kernel
theorem dX3_add_36 : decode cX3_add 36 = .ok (.getfield 26, 3) := by decide +kernel
theorem dX3_add_39 : decode cX3_add 39 = .ok (.aload_n 0, 1) := by decide +kernel
theorem dX3_add_40 : decode cX3_add 40 = .ok (.getfield 15, 3) := by decide +kernel
theorem dX3_add_43 : decode cX3_add 43 = .ok (.iload_n 2, 1) := by decide +kernel
theorem dX3_add_44 : decode cX3_add 44 = .ok (.iastore, 1) := by decide +kernel
theorem dX3_add_45 : decode cX3_add 45 = .ok (.aload_n 0, 1) := by decide +kernel
theorem dX3_add_46 : decode cX3_add 46 = .ok (.dup, 1) := by decide +kernel
theorem dX3_add_47 : decode cX3_add 47 = .ok (.getfield 15, 3) := by decide +kernel
theorem dX3_add_50 : decode cX3_add 50 = .ok (.iconst 1, 1) := by decide +kernel
theorem dX3_add_51 : decode cX3_add 51 = .ok (.iadd, 1) := by decide +kernel
theorem dX3_add_52 : decode cX3_add 52 = .ok (.putfield 15, 3) := by decide +kernel
theorem dX3_add_55 : decode cX3_add 55 = .ok (.iload_n 1, 1) := by decide +kernel
theorem dX3_add_56 : decode cX3_add 56 = .ok (.bipush 13, 2) := by decide +kernel
theorem dX3_add_58 : decode cX3_add 58 = .ok (.if_icmp .lt 24, 3) := by decide +kernel
theorem dX3_add_61 : decode cX3_add 61 = .ok (.iload_n 1, 1) := by decide +kernel
theorem dX3_add_62 : decode cX3_add 62 = .ok (.bipush 19, 2) := by decide +kernel
theorem dX3_add_64 : decode cX3_add 64 = .ok (.if_icmp .gt 18, 3) := by decide +kernel
theorem dX3_add_67 : decode cX3_add 67 = .ok (.aload_n 0, 1) := by decide +kernel
theorem dX3_add_68 : decode cX3_add 68 = .ok (.dup, 1) := by decide +kernel
theorem dX3_add_69 : decode cX3_add 69 = .ok (.getfield 19, 3) := by decide +kernel
theorem dX3_add_72 : decode cX3_add 72 = .ok (.iconst 1, 1) := by decide +kernel
theorem dX3_add_73 : decode cX3_add 73 = .ok (.iload_n 1, 1) := by decide +kernel
theorem dX3_add_74 : decode cX3_add 74 = .ok (.bipush 13, 2) := by decide +kernel
theorem dX3_add_76 : decode cX3_add 76 = .ok (.isub, 1) := by decide +kernel
theorem dX3_add_77 : decode cX3_add 77 = .ok (.ishl, 1) := by decide +kernel
theorem dX3_add_78 : decode cX3_add 78 = .ok (.ior, 1) := by decide +kernel
theorem dX3_add_79 : decode cX3_add 79 = .ok (.putfield 19, 3) := by decide +kernel
theorem dX3_add_82 : decode cX3_add 82 = .ok (.return_, 1) := by decide +kernel
theorem dX3_looksAt_0 : decode cX3_looksAt 0 = .ok (.aload_n 0, 1) := by decide +kernel
theorem dX3_looksAt_1 : decode cX3_looksAt 1 = .ok (.getfield 19, 3) := by decide +kernel
theorem dX3_looksAt_4 : decode cX3_looksAt 4 = .ok (.iconst 1, 1) := by decide +kernel
theorem dX3_looksAt_5 : decode cX3_looksAt 5 = .ok (.iload_n 1, 1) := by decide +kernel
theorem dX3_looksAt_6 : decode cX3_looksAt 6 = .ok (.ishl, 1) := by decide +kernel
theorem dX3_looksAt_7 : decode cX3_looksAt 7 = .ok (.iand, 1) := by decide +kernel
theorem dX3_looksAt_8 : decode cX3_looksAt 8 = .ok (.ifCond .eq 7, 3) := by decide +kernel
theorem dX3_looksAt_11 : decode cX3_looksAt 11 = .ok (.iconst 1, 1) := by decide +kernel
theorem dX3_looksAt_12 : decode cX3_looksAt 12 = .ok (.goto 4, 3) := by decide +kernel
theorem dX3_looksAt_15 : decode cX3_looksAt 15 = .ok (.iconst 0, 1) := by decide +kernel
theorem dX3_looksAt_16 : decode cX3_looksAt 16 = .ok (.ireturn, 1) := by decide +kernel
theorem dX3_work_0 : decode cX3_work 0 = .ok (.iconst 0, 1) := by decide +kernel
theorem dX3_work_1 : decode cX3_work 1 = .ok (.istore_n 2, 1) := by decide +kernel
theorem dX3_work_2 : decode cX3_work 2 = .ok (.iconst 0, 1) := by decide +kernel
theorem dX3_work_3 : decode cX3_work 3 = .ok (.istore_n 3, 1) := by decide +kernel
theorem dX3_work_4 : decode cX3_work 4 = .ok (.iload_n 3, 1) := by decide +kernel
theorem dX3_work_5 : decode cX3_work 5 = .ok (.aload_n 0, 1) := by decide +kernel
theorem dX3_work_6 : decode cX3_work 6 = .ok (.getfield 15, 3) := by decide +kernel
theorem dX3_work_9 : decode cX3_work 9 = .ok (.if_icmp .ge 249, 3) := by decide +kernel
theorem dX3_work_12 : decode cX3_work 12 = .ok (.aload_n 0, 1) := by decide +kernel
theorem dX3_work_13 : decode cX3_work 13 = .ok (.getfield 22, 3) := by decide +kernel
theorem dX3_work_16 : decode cX3_work 16 = .ok (.iload_n 3, 1) := by decide +kernel
theorem dX3_work_17 : decode cX3_work 17 = .ok (.iaload, 1) := by decide +kernel
theorem dX3_work_18 : decode cX3_work 18 = .ok (.istore 4, 2) := by decide +kernel
theorem dX3_work_20 : decode cX3_work 20 = .ok (.iload 4, 2) := by decide +kernel
theorem dX3_work_22 : decode cX3_work 22 = .ok (.bipush 21, 2) := by decide +kernel
theorem dX3_work_24 : decode cX3_work 24 = .ok (.if_icmp .eq 17, 3) := by decide +kernel
theorem dX3_work_27 : decode cX3_work 27 = .ok (.iload 4, 2) := by decide +kernel
theorem dX3_work_29 : decode cX3_work 29 = .ok (.bipush 13, 2) := by decide +kernel
theorem dX3_work_31 : decode cX3_work 31 = .ok (.if_icmp .lt 14, 3) := by decide +kernel
theorem dX3_work_34 : decode cX3_work 34 = .ok (.iload 4, 2) := by decide +kernel
theorem dX3_work_36 : decode cX3_work 36 = .ok (.bipush 19, 2) := by decide +kernel
theorem dX3_work_38 : decode cX3_work 38 = .ok (.if_icmp .gt 7, 3) := by decide +kernel
theorem dX3_work_41 : decode cX3_work 41 = .ok (.iconst 0, 1) := by decide +kernel
theorem dX3_work_42 : decode cX3_work 42 = .ok (.goto 15, 3) := by decide +kernel
theorem dX3_work_45 : decode cX3_work 45 = .ok (.iload 4, 2) := by decide +kernel
theorem dX3_work_47 : decode cX3_work 47 = .ok (.bipush 12, 2) := by decide +kernel
theorem dX3_work_49 : decode cX3_work 49 = .ok (.if_icmp .ne 7, 3) := by decide +kernel
theorem dX3_work_52 : decode cX3_work 52 = .ok (.iconst 1, 1) := by decide +kernel
theorem dX3_work_53 : decode cX3_work 53 = .ok (.goto 4, 3) := by decide +kernel
theorem dX3_work_56 : decode cX3_work 56 = .ok (.iconst 2, 1) := by decide +kernel
theorem dX3_work_57 : decode cX3_work 57 = .ok (.istore 5, 2) := by decide +kernel
theorem dX3_work_59 : decode cX3_work 59 = .ok (.iload_n 2, 1) := by decide +kernel
theorem dX3_work_60 : decode cX3_work 60 = .ok (.iload 5, 2) := by decide +kernel
theorem dX3_work_62 : decode cX3_work 62 = .ok (.if_icmp .lt 15, 3) := by decide +kernel
theorem dX3_work_65 : decode cX3_work 65 = .ok (.iload_n 2, 1) := by decide +kernel
theorem dX3_work_66 : decode cX3_work 66 = .ok (.iload 5, 2) := by decide +kernel
theorem dX3_work_68 : decode cX3_work 68 = .ok (.isub, 1) := by decide +kernel
theorem dX3_work_69 : decode cX3_work 69 = .ok (.aload_n 0, 1) := by decide +kernel
theorem dX3_work_70 : decode cX3_work 70 = .ok (.getfield 29, 3) := by decide +kernel
theorem dX3_work_73 : decode cX3_work 73 = .ok (.arraylength, 1) := by decide +kernel
theorem dX3_work_74 : decode cX3_work 74 = .ok (.if_icmp .lt 7, 3) := by decide +kernel
theorem dX3_work_77 : decode cX3_work 77 = .ok (.ldc2_w 33, 3) := by decide +kernel
theorem dX3_work_80 : decode cX3_work 80 = .ok (.lreturn, 1) := by decide +kernel
theorem dX3_work_81 : decode cX3_work 81 = .ok (.iload 4, 2) := by decide +kernel
theorem dX3_work_83 : decode cX3_work 83 = .ok (.bipush 21, 2) := by decide +kernel
theorem dX3_work_85 : decode cX3_work 85 = .ok (.if_icmp .ne 15, 3) := by decide +kernel
theorem dX3_work_88 : decode cX3_work 88 = .ok (.aload_n 0, 1) := by decide +kernel
theorem dX3_work_89 : decode cX3_work 89 = .ok (.getfield 26, 3) := by decide +kernel
theorem dX3_work_92 : decode cX3_work 92 = .ok (.iload_n 3, 1) := by decide +kernel
theorem dX3_work_93 : decode cX3_work 93 = .ok (.iaload, 1) := by decide +kernel
theorem dX3_work_94 : decode cX3_work 94 = .ok (.i2l, 1) := by decide +kernel
theorem dX3_work_95 : decode cX3_work 95 = .ok (.lstore 6, 2) := by decide +kernel
theorem dX3_work_97 : decode cX3_work 97 = .ok (.goto 117, 3) := by decide +kernel
theorem dX3_work_100 : decode cX3_work 100 = .ok (.iload 5, 2) := by decide +kernel
theorem dX3_work_102 : decode cX3_work 102 = .ok (.ifCond .ne 29, 3) := by decide +kernel
theorem dX3_work_105 : decode cX3_work 105 = .ok (.iload 4, 2) := by decide +kernel
theorem dX3_work_107 : decode cX3_work 107 = .ok (.bipush 13, 2) := by decide +kernel
theorem dX3_work_109 : decode cX3_work 109 = .ok (.isub, 1) := by decide +kernel
theorem dX3_work_110 : decode cX3_work 110 = .ok (.aload_n 1, 1) := by decide +kernel
theorem dX3_work_111 : decode cX3_work 111 = .ok (.arraylength, 1) := by decide +kernel
theorem dX3_work_112 : decode cX3_work 112 = .ok (.if_icmp .ge 13, 3) := by decide +kernel
theorem dX3_work_115 : decode cX3_work 115 = .ok (.aload_n 1, 1) := by decide +kernel
theorem dX3_work_116 : decode cX3_work 116 = .ok (.iload 4, 2) := by decide +kernel
theorem dX3_work_118 : decode cX3_work 118 = .ok (.bipush 13, 2) := by decide +kernel
theorem dX3_work_120 : decode cX3_work 120 = .ok (.isub, 1) := by decide +kernel
theorem dX3_work_121 : decode cX3_work 121 = .ok (.laload, 1) := by decide +kernel
theorem dX3_work_122 : decode cX3_work 122 = .ok (.goto 4, 3) := by decide +kernel
theorem dX3_work_125 : decode cX3_work 125 = .ok (.lconst 0, 1) := by decide +kernel
theorem dX3_work_126 : decode cX3_work 126 = .ok (.lstore 6, 2) := by decide +kernel
theorem dX3_work_128 : decode cX3_work 128 = .ok (.goto 86, 3) := by decide +kernel
theorem dX3_work_131 : decode cX3_work 131 = .ok (.iload 5, 2) := by decide +kernel
theorem dX3_work_133 : decode cX3_work 133 = .ok (.iconst 1, 1) := by decide +kernel
theorem dX3_work_134 : decode cX3_work 134 = .ok (.if_icmp .ne 26, 3) := by decide +kernel
theorem dX3_work_137 : decode cX3_work 137 = .ok (.aload_n 0, 1) := by decide +kernel
theorem dX3_work_138 : decode cX3_work 138 = .ok (.getfield 29, 3) := by decide +kernel
theorem dX3_work_141 : decode cX3_work 141 = .ok (.iload_n 2, 1) := by decide +kernel
theorem dX3_work_142 : decode cX3_work 142 = .ok (.iconst 1, 1) := by decide +kernel
theorem dX3_work_143 : decode cX3_work 143 = .ok (.isub, 1) := by decide +kernel
theorem dX3_work_144 : decode cX3_work 144 = .ok (.laload, 1) := by decide +kernel
theorem dX3_work_145 : decode cX3_work 145 = .ok (.lconst 0, 1) := by decide +kernel
theorem dX3_work_146 : decode cX3_work 146 = .ok (.lcmp, 1) := by decide +kernel
theorem dX3_work_147 : decode cX3_work 147 = .ok (.ifCond .ne 7, 3) := by decide +kernel
theorem dX3_work_150 : decode cX3_work 150 = .ok (.lconst 1, 1) := by decide +kernel
theorem dX3_work_151 : decode cX3_work 151 = .ok (.goto 4, 3) := by decide +kernel
theorem dX3_work_154 : decode cX3_work 154 = .ok (.lconst 0, 1) := by decide +kernel
theorem dX3_work_155 : decode cX3_work 155 = .ok (.lstore 6, 2) := by decide +kernel
theorem dX3_work_157 : decode cX3_work 157 = .ok (.goto 57, 3) := by decide +kernel
theorem dX3_work_160 : decode cX3_work 160 = .ok (.iload 4, 2) := by decide +kernel
theorem dX3_work_162 : decode cX3_work 162 = .ok (.bipush 35, 2) := by decide +kernel
theorem dX3_work_164 : decode cX3_work 164 = .ok (.if_icmp .ne 27, 3) := by decide +kernel
theorem dX3_work_167 : decode cX3_work 167 = .ok (.aload_n 0, 1) := by decide +kernel
theorem dX3_work_168 : decode cX3_work 168 = .ok (.getfield 29, 3) := by decide +kernel
theorem dX3_work_171 : decode cX3_work 171 = .ok (.iload_n 2, 1) := by decide +kernel
theorem dX3_work_172 : decode cX3_work 172 = .ok (.iconst 2, 1) := by decide +kernel
theorem dX3_work_173 : decode cX3_work 173 = .ok (.isub, 1) := by decide +kernel
theorem dX3_work_174 : decode cX3_work 174 = .ok (.laload, 1) := by decide +kernel
theorem dX3_work_175 : decode cX3_work 175 = .ok (.aload_n 0, 1) := by decide +kernel
theorem dX3_work_176 : decode cX3_work 176 = .ok (.getfield 29, 3) := by decide +kernel
theorem dX3_work_179 : decode cX3_work 179 = .ok (.iload_n 2, 1) := by decide +kernel
theorem dX3_work_180 : decode cX3_work 180 = .ok (.iconst 1, 1) := by decide +kernel
theorem dX3_work_181 : decode cX3_work 181 = .ok (.isub, 1) := by decide +kernel
theorem dX3_work_182 : decode cX3_work 182 = .ok (.laload, 1) := by decide +kernel
theorem dX3_work_183 : decode cX3_work 183 = .ok (.invokestatic 35, 3) := by decide +kernel
theorem dX3_work_186 : decode cX3_work 186 = .ok (.lstore 6, 2) := by decide +kernel
theorem dX3_work_188 : decode cX3_work 188 = .ok (.goto 26, 3) := by decide +kernel
theorem dX3_work_191 : decode cX3_work 191 = .ok (.iload 4, 2) := by decide +kernel
theorem dX3_work_193 : decode cX3_work 193 = .ok (.aload_n 0, 1) := by decide +kernel
theorem dX3_work_194 : decode cX3_work 194 = .ok (.getfield 29, 3) := by decide +kernel
theorem dX3_work_197 : decode cX3_work 197 = .ok (.iload_n 2, 1) := by decide +kernel
theorem dX3_work_198 : decode cX3_work 198 = .ok (.iconst 2, 1) := by decide +kernel
theorem dX3_work_199 : decode cX3_work 199 = .ok (.isub, 1) := by decide +kernel
theorem dX3_work_200 : decode cX3_work 200 = .ok (.laload, 1) := by decide +kernel
theorem dX3_work_201 : decode cX3_work 201 = .ok (.aload_n 0, 1) := by decide +kernel
theorem dX3_work_202 : decode cX3_work 202 = .ok (.getfield 29, 3) := by decide +kernel
theorem dX3_work_205 : decode cX3_work 205 = .ok (.iload_n 2, 1) := by decide +kernel
theorem dX3_work_206 : decode cX3_work 206 = .ok (.iconst 1, 1) := by decide +kernel
theorem dX3_work_207 : decode cX3_work 207 = .ok (.isub, 1) := by decide +kernel
theorem dX3_work_208 : decode cX3_work 208 = .ok (.laload, 1) := by decide +kernel
theorem dX3_work_209 : decode cX3_work 209 = .ok (.invokestatic 39, 3) := by decide +kernel
theorem dX3_work_212 : decode cX3_work 212 = .ok (.lstore 6, 2) := by decide +kernel
theorem dX3_work_214 : decode cX3_work 214 = .ok (.lload 6, 2) := by decide +kernel
theorem dX3_work_216 : decode cX3_work 216 = .ok (.ldc2_w 43, 3) := by decide +kernel
theorem dX3_work_219 : decode cX3_work 219 = .ok (.lcmp, 1) := by decide +kernel
theorem dX3_work_220 : decode cX3_work 220 = .ok (.ifCond .gt 12, 3) := by decide +kernel
theorem dX3_work_223 : decode cX3_work 223 = .ok (.lload 6, 2) := by decide +kernel
theorem dX3_work_225 : decode cX3_work 225 = .ok (.ldc2_w 45, 3) := by decide +kernel
theorem dX3_work_228 : decode cX3_work 228 = .ok (.lcmp, 1) := by decide +kernel
theorem dX3_work_229 : decode cX3_work 229 = .ok (.ifCond .ge 7, 3) := by decide +kernel
theorem dX3_work_232 : decode cX3_work 232 = .ok (.ldc2_w 33, 3) := by decide +kernel
theorem dX3_work_235 : decode cX3_work 235 = .ok (.lreturn, 1) := by decide +kernel
theorem dX3_work_236 : decode cX3_work 236 = .ok (.iload_n 2, 1) := by decide +kernel
theorem dX3_work_237 : decode cX3_work 237 = .ok (.iload 5, 2) := by decide +kernel
theorem dX3_work_239 : decode cX3_work 239 = .ok (.isub, 1) := by decide +kernel
theorem dX3_work_240 : decode cX3_work 240 = .ok (.istore_n 2, 1) := by decide +kernel
theorem dX3_work_241 : decode cX3_work 241 = .ok (.aload_n 0, 1) := by decide +kernel
theorem dX3_work_242 : decode cX3_work 242 = .ok (.getfield 29, 3) := by decide +kernel
theorem dX3_work_245 : decode cX3_work 245 = .ok (.iload_n 2, 1) := by decide +kernel
theorem dX3_work_246 : decode cX3_work 246 = .ok (.lload 6, 2) := by decide +kernel
theorem dX3_work_248 : decode cX3_work 248 = .ok (.lastore, 1) := by decide +kernel
theorem dX3_work_249 : decode cX3_work 249 = .ok (.iinc 2 1, 3) := by decide +kernel
theorem dX3_work_252 : decode cX3_work 252 = .ok (.iinc 3 1, 3) := by decide +kernel
theorem dX3_work_255 : decode cX3_work 255 = .ok (.goto (-251), 3) := by decide +kernel
theorem dX3_work_258 : decode cX3_work 258 = .ok (.iload_n 2, 1) := by decide +kernel
theorem dX3_work_259 : decode cX3_work 259 = .ok (.iconst 1, 1) := by decide +kernel
theorem dX3_work_260 : decode cX3_work 260 = .ok (.if_icmp .ne 12, 3) := by decide +kernel
theorem dX3_work_263 : decode cX3_work 263 = .ok (.aload_n 0, 1) := by decide +kernel
theorem dX3_work_264 : decode cX3_work 264 = .ok (.getfield 29, 3) := by decide +kernel
theorem dX3_work_267 : decode cX3_work 267 = .ok (.iconst 0, 1) := by decide +kernel
theorem dX3_work_268 : decode cX3_work 268 = .ok (.laload, 1) := by decide +kernel
theorem dX3_work_269 : decode cX3_work 269 = .ok (.goto 6, 3) := by decide +kernel
theorem dX3_work_272 : decode cX3_work 272 = .ok (.ldc2_w 33, 3) := by decide +kernel
theorem dX3_work_275 : decode cX3_work 275 = .ok (.lreturn, 1) := by decide +kernel
theorem dX3_times_0 : decode cX3_times 0 = .ok (.lload_n 0, 1) := by decide +kernel
theorem dX3_times_1 : decode cX3_times 1 = .ok (.lconst 0, 1) := by decide +kernel
theorem dX3_times_2 : decode cX3_times 2 = .ok (.lcmp, 1) := by decide +kernel
theorem dX3_times_3 : decode cX3_times 3 = .ok (.ifCond .ne 5, 3) := by decide +kernel
theorem dX3_times_6 : decode cX3_times 6 = .ok (.lconst 0, 1) := by decide +kernel
theorem dX3_times_7 : decode cX3_times 7 = .ok (.lreturn, 1) := by decide +kernel
theorem dX3_times_8 : decode cX3_times 8 = .ok (.ldc2_w 43, 3) := by decide +kernel
theorem dX3_times_11 : decode cX3_times 11 = .ok (.lload_n 0, 1) := by decide +kernel
theorem dX3_times_12 : decode cX3_times 12 = .ok (.lconst 0, 1) := by decide +kernel
theorem dX3_times_13 : decode cX3_times 13 = .ok (.lcmp, 1) := by decide +kernel
theorem dX3_times_14 : decode cX3_times 14 = .ok (.ifCond .ge 8, 3) := by decide +kernel
theorem dX3_times_17 : decode cX3_times 17 = .ok (.lload_n 0, 1) := by decide +kernel
theorem dX3_times_18 : decode cX3_times 18 = .ok (.lneg, 1) := by decide +kernel
theorem dX3_times_19 : decode cX3_times 19 = .ok (.goto 4, 3) := by decide +kernel
theorem dX3_times_22 : decode cX3_times 22 = .ok (.lload_n 0, 1) := by decide +kernel
theorem dX3_times_23 : decode cX3_times 23 = .ok (.ldiv, 1) := by decide +kernel
theorem dX3_times_24 : decode cX3_times 24 = .ok (.lstore 4, 2) := by decide +kernel
theorem dX3_times_26 : decode cX3_times 26 = .ok (.lload_n 2, 1) := by decide +kernel
theorem dX3_times_27 : decode cX3_times 27 = .ok (.lload 4, 2) := by decide +kernel
theorem dX3_times_29 : decode cX3_times 29 = .ok (.lcmp, 1) := by decide +kernel
theorem dX3_times_30 : decode cX3_times 30 = .ok (.ifCond .gt 11, 3) := by decide +kernel
theorem dX3_times_33 : decode cX3_times 33 = .ok (.lload_n 2, 1) := by decide +kernel
theorem dX3_times_34 : decode cX3_times 34 = .ok (.lload 4, 2) := by decide +kernel
theorem dX3_times_36 : decode cX3_times 36 = .ok (.lneg, 1) := by decide +kernel
theorem dX3_times_37 : decode cX3_times 37 = .ok (.lcmp, 1) := by decide +kernel
theorem dX3_times_38 : decode cX3_times 38 = .ok (.ifCond .ge 9, 3) := by decide +kernel
theorem dX3_times_41 : decode cX3_times 41 = .ok (.ldc2_w 33, 3) := by decide +kernel
theorem dX3_times_44 : decode cX3_times 44 = .ok (.goto 6, 3) := by decide +kernel
theorem dX3_times_47 : decode cX3_times 47 = .ok (.lload_n 0, 1) := by decide +kernel
theorem dX3_times_48 : decode cX3_times 48 = .ok (.lload_n 2, 1) := by decide +kernel
theorem dX3_times_49 : decode cX3_times 49 = .ok (.lmul, 1) := by decide +kernel
theorem dX3_times_50 : decode cX3_times 50 = .ok (.lreturn, 1) := by decide +kernel
theorem dX3_join_0 : decode cX3_join 0 = .ok (.iload_n 0, 1) := by decide +kernel
theorem dX3_join_1 : decode cX3_join 1 = .ok (.tableswitch 255 10 36 #[237, 219, 255, 255, 255, 255, 255, 255, 255, 255, 255, 255, 255, 255, 255, 255, 255, 147, 159, 171, 183, 195, 207, 123, 127, 255, 131], 123) := by decide +kernel
theorem dX3_join_124 : decode cX3_join 124 = .ok (.lload_n 1, 1) := by decide +kernel
theorem dX3_join_125 : decode cX3_join 125 = .ok (.lload_n 3, 1) := by decide +kernel
theorem dX3_join_126 : decode cX3_join 126 = .ok (.ladd, 1) := by decide +kernel
theorem dX3_join_127 : decode cX3_join 127 = .ok (.lreturn, 1) := by decide +kernel
theorem dX3_join_128 : decode cX3_join 128 = .ok (.lload_n 1, 1) := by decide +kernel
theorem dX3_join_129 : decode cX3_join 129 = .ok (.lload_n 3, 1) := by decide +kernel
theorem dX3_join_130 : decode cX3_join 130 = .ok (.lsub, 1) := by decide +kernel
theorem dX3_join_131 : decode cX3_join 131 = .ok (.lreturn, 1) := by decide +kernel
theorem dX3_join_132 : decode cX3_join 132 = .ok (.lload_n 3, 1) := by decide +kernel
theorem dX3_join_133 : decode cX3_join 133 = .ok (.lconst 0, 1) := by decide +kernel
theorem dX3_join_134 : decode cX3_join 134 = .ok (.lcmp, 1) := by decide +kernel
theorem dX3_join_135 : decode cX3_join 135 = .ok (.ifCond .ne 9, 3) := by decide +kernel
theorem dX3_join_138 : decode cX3_join 138 = .ok (.ldc2_w 33, 3) := by decide +kernel
theorem dX3_join_141 : decode cX3_join 141 = .ok (.goto 6, 3) := by decide +kernel
theorem dX3_join_144 : decode cX3_join 144 = .ok (.lload_n 1, 1) := by decide +kernel
theorem dX3_join_145 : decode cX3_join 145 = .ok (.lload_n 3, 1) := by decide +kernel
theorem dX3_join_146 : decode cX3_join 146 = .ok (.ldiv, 1) := by decide +kernel
theorem dX3_join_147 : decode cX3_join 147 = .ok (.lreturn, 1) := by decide +kernel
theorem dX3_join_148 : decode cX3_join 148 = .ok (.lload_n 1, 1) := by decide +kernel
theorem dX3_join_149 : decode cX3_join 149 = .ok (.lload_n 3, 1) := by decide +kernel
theorem dX3_join_150 : decode cX3_join 150 = .ok (.lcmp, 1) := by decide +kernel
theorem dX3_join_151 : decode cX3_join 151 = .ok (.ifCond .ge 7, 3) := by decide +kernel
theorem dX3_join_154 : decode cX3_join 154 = .ok (.lconst 1, 1) := by decide +kernel
theorem dX3_join_155 : decode cX3_join 155 = .ok (.goto 4, 3) := by decide +kernel
theorem dX3_join_158 : decode cX3_join 158 = .ok (.lconst 0, 1) := by decide +kernel
theorem dX3_join_159 : decode cX3_join 159 = .ok (.lreturn, 1) := by decide +kernel
theorem dX3_join_160 : decode cX3_join 160 = .ok (.lload_n 1, 1) := by decide +kernel
theorem dX3_join_161 : decode cX3_join 161 = .ok (.lload_n 3, 1) := by decide +kernel
theorem dX3_join_162 : decode cX3_join 162 = .ok (.lcmp, 1) := by decide +kernel
theorem dX3_join_163 : decode cX3_join 163 = .ok (.ifCond .gt 7, 3) := by decide +kernel
theorem dX3_join_166 : decode cX3_join 166 = .ok (.lconst 1, 1) := by decide +kernel
theorem dX3_join_167 : decode cX3_join 167 = .ok (.goto 4, 3) := by decide +kernel
theorem dX3_join_170 : decode cX3_join 170 = .ok (.lconst 0, 1) := by decide +kernel
theorem dX3_join_171 : decode cX3_join 171 = .ok (.lreturn, 1) := by decide +kernel
theorem dX3_join_172 : decode cX3_join 172 = .ok (.lload_n 1, 1) := by decide +kernel
theorem dX3_join_173 : decode cX3_join 173 = .ok (.lload_n 3, 1) := by decide +kernel
theorem dX3_join_174 : decode cX3_join 174 = .ok (.lcmp, 1) := by decide +kernel
theorem dX3_join_175 : decode cX3_join 175 = .ok (.ifCond .ne 7, 3) := by decide +kernel
theorem dX3_join_178 : decode cX3_join 178 = .ok (.lconst 1, 1) := by decide +kernel
theorem dX3_join_179 : decode cX3_join 179 = .ok (.goto 4, 3) := by decide +kernel
theorem dX3_join_182 : decode cX3_join 182 = .ok (.lconst 0, 1) := by decide +kernel
theorem dX3_join_183 : decode cX3_join 183 = .ok (.lreturn, 1) := by decide +kernel
theorem dX3_join_184 : decode cX3_join 184 = .ok (.lload_n 1, 1) := by decide +kernel
theorem dX3_join_185 : decode cX3_join 185 = .ok (.lload_n 3, 1) := by decide +kernel
theorem dX3_join_186 : decode cX3_join 186 = .ok (.lcmp, 1) := by decide +kernel
theorem dX3_join_187 : decode cX3_join 187 = .ok (.ifCond .eq 7, 3) := by decide +kernel
theorem dX3_join_190 : decode cX3_join 190 = .ok (.lconst 1, 1) := by decide +kernel
theorem dX3_join_191 : decode cX3_join 191 = .ok (.goto 4, 3) := by decide +kernel
theorem dX3_join_194 : decode cX3_join 194 = .ok (.lconst 0, 1) := by decide +kernel
theorem dX3_join_195 : decode cX3_join 195 = .ok (.lreturn, 1) := by decide +kernel
theorem dX3_join_196 : decode cX3_join 196 = .ok (.lload_n 1, 1) := by decide +kernel
theorem dX3_join_197 : decode cX3_join 197 = .ok (.lload_n 3, 1) := by decide +kernel
theorem dX3_join_198 : decode cX3_join 198 = .ok (.lcmp, 1) := by decide +kernel
theorem dX3_join_199 : decode cX3_join 199 = .ok (.ifCond .lt 7, 3) := by decide +kernel
theorem dX3_join_202 : decode cX3_join 202 = .ok (.lconst 1, 1) := by decide +kernel
theorem dX3_join_203 : decode cX3_join 203 = .ok (.goto 4, 3) := by decide +kernel
theorem dX3_join_206 : decode cX3_join 206 = .ok (.lconst 0, 1) := by decide +kernel
theorem dX3_join_207 : decode cX3_join 207 = .ok (.lreturn, 1) := by decide +kernel
theorem dX3_join_208 : decode cX3_join 208 = .ok (.lload_n 1, 1) := by decide +kernel
theorem dX3_join_209 : decode cX3_join 209 = .ok (.lload_n 3, 1) := by decide +kernel
theorem dX3_join_210 : decode cX3_join 210 = .ok (.lcmp, 1) := by decide +kernel
theorem dX3_join_211 : decode cX3_join 211 = .ok (.ifCond .le 7, 3) := by decide +kernel
theorem dX3_join_214 : decode cX3_join 214 = .ok (.lconst 1, 1) := by decide +kernel
theorem dX3_join_215 : decode cX3_join 215 = .ok (.goto 4, 3) := by decide +kernel
theorem dX3_join_218 : decode cX3_join 218 = .ok (.lconst 0, 1) := by decide +kernel
theorem dX3_join_219 : decode cX3_join 219 = .ok (.lreturn, 1) := by decide +kernel
theorem dX3_join_220 : decode cX3_join 220 = .ok (.lload_n 1, 1) := by decide +kernel
theorem dX3_join_221 : decode cX3_join 221 = .ok (.lconst 0, 1) := by decide +kernel
theorem dX3_join_222 : decode cX3_join 222 = .ok (.lcmp, 1) := by decide +kernel
theorem dX3_join_223 : decode cX3_join 223 = .ok (.ifCond .eq 13, 3) := by decide +kernel
theorem dX3_join_226 : decode cX3_join 226 = .ok (.lload_n 3, 1) := by decide +kernel
theorem dX3_join_227 : decode cX3_join 227 = .ok (.lconst 0, 1) := by decide +kernel
theorem dX3_join_228 : decode cX3_join 228 = .ok (.lcmp, 1) := by decide +kernel
theorem dX3_join_229 : decode cX3_join 229 = .ok (.ifCond .eq 7, 3) := by decide +kernel
theorem dX3_join_232 : decode cX3_join 232 = .ok (.lconst 1, 1) := by decide +kernel
theorem dX3_join_233 : decode cX3_join 233 = .ok (.goto 4, 3) := by decide +kernel
theorem dX3_join_236 : decode cX3_join 236 = .ok (.lconst 0, 1) := by decide +kernel
theorem dX3_join_237 : decode cX3_join 237 = .ok (.lreturn, 1) := by decide +kernel
theorem dX3_join_238 : decode cX3_join 238 = .ok (.lload_n 1, 1) := by decide +kernel
theorem dX3_join_239 : decode cX3_join 239 = .ok (.lconst 0, 1) := by decide +kernel
theorem dX3_join_240 : decode cX3_join 240 = .ok (.lcmp, 1) := by decide +kernel
theorem dX3_join_241 : decode cX3_join 241 = .ok (.ifCond .ne 9, 3) := by decide +kernel
theorem dX3_join_244 : decode cX3_join 244 = .ok (.lload_n 3, 1) := by decide +kernel
theorem dX3_join_245 : decode cX3_join 245 = .ok (.lconst 0, 1) := by decide +kernel
theorem dX3_join_246 : decode cX3_join 246 = .ok (.lcmp, 1) := by decide +kernel
theorem dX3_join_247 : decode cX3_join 247 = .ok (.ifCond .eq 7, 3) := by decide +kernel
theorem dX3_join_250 : decode cX3_join 250 = .ok (.lconst 1, 1) := by decide +kernel
theorem dX3_join_251 : decode cX3_join 251 = .ok (.goto 4, 3) := by decide +kernel
theorem dX3_join_254 : decode cX3_join 254 = .ok (.lconst 0, 1) := by decide +kernel
theorem dX3_join_255 : decode cX3_join 255 = .ok (.lreturn, 1) := by decide +kernel
theorem dX3_join_256 : decode cX3_join 256 = .ok (.ldc2_w 33, 3) := by decide +kernel
theorem dX3_join_259 : decode cX3_join 259 = .ok (.lreturn, 1) := by decide +kernel
