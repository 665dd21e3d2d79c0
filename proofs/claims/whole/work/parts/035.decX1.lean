theorem dX1_init_0 : decode cX1_init 0 = .ok (.aload_n 0, 1) := by decide +kernel
theorem dX1_init_1 : decode cX1_init 1 = .ok (.invokespecial 3, 3) := by decide +kernel
theorem dX1_init_4 : decode cX1_init 4 = .ok (.aload_n 0, 1) := by decide +kernel
theorem dX1_init_5 : decode cX1_init 5 = .ok (.iconst 4, 1) := by decide +kernel
theorem dX1_init_6 : decode cX1_init 6 = .ok (.newarray .int, 2) := by decide +kernel
theorem dX1_init_8 : decode cX1_init 8 = .ok (.putfield 11, 3) := by decide +kernel
theorem dX1_init_11 : decode cX1_init 11 = .ok (.aload_n 0, 1) := by decide +kernel
theorem dX1_init_12 : decode cX1_init 12 = .ok (.iconst 0, 1) := by decide +kernel
theorem dX1_init_13 : decode cX1_init 13 = .ok (.putfield 15, 3) := by decide +kernel
theorem dX1_init_16 : decode cX1_init 16 = .ok (.aload_n 0, 1) := by decide +kernel
theorem dX1_init_17 : decode cX1_init 17 = .ok (.iconst 0, 1) := by decide +kernel
theorem dX1_init_18 : decode cX1_init 18 = .ok (.putfield 19, 3) := by decide +kernel
theorem dX1_init_21 : decode cX1_init 21 = .ok (.aload_n 0, 1) := by decide +kernel
theorem dX1_init_22 : decode cX1_init 22 = .ok (.iconst 0, 1) := by decide +kernel
theorem dX1_init_23 : decode cX1_init 23 = .ok (.putfield 22, 3) := by decide +kernel
theorem dX1_init_26 : decode cX1_init 26 = .ok (.aload_n 0, 1) := by decide +kernel
theorem dX1_init_27 : decode cX1_init 27 = .ok (.iconst 0, 1) := by decide +kernel
theorem dX1_init_28 : decode cX1_init 28 = .ok (.putfield 25, 3) := by decide +kernel
theorem dX1_init_31 : decode cX1_init 31 = .ok (.aload_n 0, 1) := by decide +kernel
theorem dX1_init_32 : decode cX1_init 32 = .ok (.iconst 0, 1) := by decide +kernel
theorem dX1_init_33 : decode cX1_init 33 = .ok (.putfield 28, 3) := by decide +kernel
theorem dX1_init_36 : decode cX1_init 36 = .ok (.aload_n 0, 1) := by decide +kernel
theorem dX1_init_37 : decode cX1_init 37 = .ok (.iconst 4, 1) := by decide +kernel
theorem dX1_init_38 : decode cX1_init 38 = .ok (.newarray .int, 2) := by decide +kernel
theorem dX1_init_40 : decode cX1_init 40 = .ok (.putfield 31, 3) := by decide +kernel
theorem dX1_init_43 : decode cX1_init 43 = .ok (.aload_n 0, 1) := by decide +kernel
theorem dX1_init_44 : decode cX1_init 44 = .ok (.bipush 24, 2) := by decide +kernel
theorem dX1_init_46 : decode cX1_init 46 = .ok (.bipush 6, 2) := by decide +kernel
theorem dX1_init_48 : decode cX1_init 48 = .ok (.multianewarray 34 2, 4) := by decide +kernel
theorem dX1_init_52 : decode cX1_init 52 = .ok (.putfield 36, 3) := by decide +kernel
theorem dX1_init_55 : decode cX1_init 55 = .ok (.aload_n 0, 1) := by decide +kernel
theorem dX1_init_56 : decode cX1_init 56 = .ok (.bipush 6, 2) := by decide +kernel
theorem dX1_init_58 : decode cX1_init 58 = .ok (.bipush 6, 2) := by decide +kernel
theorem dX1_init_60 : decode cX1_init 60 = .ok (.multianewarray 34 2, 4) := by decide +kernel
theorem dX1_init_64 : decode cX1_init 64 = .ok (.putfield 39, 3) := by decide +kernel
theorem dX1_init_67 : decode cX1_init 67 = .ok (.aload_n 0, 1) := by decide +kernel
theorem dX1_init_68 : decode cX1_init 68 = .ok (.iconst 5, 1) := by decide +kernel
theorem dX1_init_69 : decode cX1_init 69 = .ok (.bipush 6, 2) := by decide +kernel
theorem dX1_init_71 : decode cX1_init 71 = .ok (.multianewarray 34 2, 4) := by decide +kernel
theorem dX1_init_75 : decode cX1_init 75 = .ok (.putfield 42, 3) := by decide +kernel
theorem dX1_init_78 : decode cX1_init 78 = .ok (.return_, 1) := by decide +kernel
theorem dX1_work_0 : decode cX1_work 0 = .ok (.aload_n 0, 1) := by decide +kernel
theorem dX1_work_1 : decode cX1_work 1 = .ok (.iconst 4, 1) := by decide +kernel
theorem dX1_work_2 : decode cX1_work 2 = .ok (.aload_n 1, 1) := by decide +kernel
theorem dX1_work_3 : decode cX1_work 3 = .ok (.iconst 2, 1) := by decide +kernel
theorem dX1_work_4 : decode cX1_work 4 = .ok (.invokevirtual 45, 3) := by decide +kernel
theorem dX1_work_7 : decode cX1_work 7 = .ok (.invokestatic 51, 3) := by decide +kernel
theorem dX1_work_10 : decode cX1_work 10 = .ok (.putfield 19, 3) := by decide +kernel
theorem dX1_work_13 : decode cX1_work 13 = .ok (.aload_n 0, 1) := by decide +kernel
theorem dX1_work_14 : decode cX1_work 14 = .ok (.bipush 6, 2) := by decide +kernel
theorem dX1_work_16 : decode cX1_work 16 = .ok (.aload_n 1, 1) := by decide +kernel
theorem dX1_work_17 : decode cX1_work 17 = .ok (.iconst 0, 1) := by decide +kernel
theorem dX1_work_18 : decode cX1_work 18 = .ok (.invokevirtual 45, 3) := by decide +kernel
theorem dX1_work_21 : decode cX1_work 21 = .ok (.invokestatic 51, 3) := by decide +kernel
theorem dX1_work_24 : decode cX1_work 24 = .ok (.putfield 22, 3) := by decide +kernel
theorem dX1_work_27 : decode cX1_work 27 = .ok (.aload_n 0, 1) := by decide +kernel
theorem dX1_work_28 : decode cX1_work 28 = .ok (.bipush 6, 2) := by decide +kernel
theorem dX1_work_30 : decode cX1_work 30 = .ok (.aload_n 1, 1) := by decide +kernel
theorem dX1_work_31 : decode cX1_work 31 = .ok (.iconst 3, 1) := by decide +kernel
theorem dX1_work_32 : decode cX1_work 32 = .ok (.invokevirtual 45, 3) := by decide +kernel
theorem dX1_work_35 : decode cX1_work 35 = .ok (.invokestatic 51, 3) := by decide +kernel
theorem dX1_work_38 : decode cX1_work 38 = .ok (.putfield 25, 3) := by decide +kernel
theorem dX1_work_41 : decode cX1_work 41 = .ok (.aload_n 0, 1) := by decide +kernel
theorem dX1_work_42 : decode cX1_work 42 = .ok (.aload_n 2, 1) := by decide +kernel
theorem dX1_work_43 : decode cX1_work 43 = .ok (.getfield 57, 3) := by decide +kernel
theorem dX1_work_46 : decode cX1_work 46 = .ok (.putfield 28, 3) := by decide +kernel
theorem dX1_work_49 : decode cX1_work 49 = .ok (.iconst 0, 1) := by decide +kernel
theorem dX1_work_50 : decode cX1_work 50 = .ok (.istore 4, 2) := by decide +kernel
theorem dX1_work_52 : decode cX1_work 52 = .ok (.iload 4, 2) := by decide +kernel
theorem dX1_work_54 : decode cX1_work 54 = .ok (.aload_n 0, 1) := by decide +kernel
theorem dX1_work_55 : decode cX1_work 55 = .ok (.getfield 25, 3) := by decide +kernel
theorem dX1_work_58 : decode cX1_work 58 = .ok (.if_icmp .ge 18, 3) := by decide +kernel
theorem dX1_work_61 : decode cX1_work 61 = .ok (.aload_n 0, 1) := by decide +kernel
theorem dX1_work_62 : decode cX1_work 62 = .ok (.iload 4, 2) := by decide +kernel
theorem dX1_work_64 : decode cX1_work 64 = .ok (.aload_n 1, 1) := by decide +kernel
theorem dX1_work_65 : decode cX1_work 65 = .ok (.aload_n 2, 1) := by decide +kernel
theorem dX1_work_66 : decode cX1_work 66 = .ok (.aload_n 3, 1) := by decide +kernel
theorem dX1_work_67 : decode cX1_work 67 = .ok (.invokevirtual 60, 3) := by decide +kernel
theorem dX1_work_70 : decode cX1_work 70 = .ok (.iinc 4 1, 3) := by decide +kernel
theorem dX1_work_73 : decode cX1_work 73 = .ok (.goto (-21), 3) := by decide +kernel
theorem dX1_work_76 : decode cX1_work 76 = .ok (.aload_n 0, 1) := by decide +kernel
theorem dX1_work_77 : decode cX1_work 77 = .ok (.iconst (-1), 1) := by decide +kernel
theorem dX1_work_78 : decode cX1_work 78 = .ok (.putfield 15, 3) := by decide +kernel
theorem dX1_work_81 : decode cX1_work 81 = .ok (.aload_n 0, 1) := by decide +kernel
theorem dX1_work_82 : decode cX1_work 82 = .ok (.iconst 0, 1) := by decide +kernel
theorem dX1_work_83 : decode cX1_work 83 = .ok (.invokevirtual 64, 3) := by decide +kernel
theorem dX1_work_86 : decode cX1_work 86 = .ok (.return_, 1) := by decide +kernel
theorem dX1_weigh_0 : decode cX1_weigh 0 = .ok (.aload_n 0, 1) := by decide +kernel
theorem dX1_weigh_1 : decode cX1_weigh 1 = .ok (.getfield 39, 3) := by decide +kernel
theorem dX1_weigh_4 : decode cX1_weigh 4 = .ok (.iload_n 1, 1) := by decide +kernel
theorem dX1_weigh_5 : decode cX1_weigh 5 = .ok (.aaload, 1) := by decide +kernel
theorem dX1_weigh_6 : decode cX1_weigh 6 = .ok (.iconst 0, 1) := by decide +kernel
theorem dX1_weigh_7 : decode cX1_weigh 7 = .ok (.invokestatic 68, 3) := by decide +kernel
theorem dX1_weigh_10 : decode cX1_weigh 10 = .ok (.aload_n 0, 1) := by decide +kernel
theorem dX1_weigh_11 : decode cX1_weigh 11 = .ok (.getfield 19, 3) := by decide +kernel
theorem dX1_weigh_14 : decode cX1_weigh 14 = .ok (.istore 5, 2) := by decide +kernel
theorem dX1_weigh_16 : decode cX1_weigh 16 = .ok (.iload 5, 2) := by decide +kernel
theorem dX1_weigh_18 : decode cX1_weigh 18 = .ok (.aload_n 2, 1) := by decide +kernel
theorem dX1_weigh_19 : decode cX1_weigh 19 = .ok (.iconst 2, 1) := by decide +kernel
theorem dX1_weigh_20 : decode cX1_weigh 20 = .ok (.invokevirtual 45, 3) := by decide +kernel
theorem dX1_weigh_23 : decode cX1_weigh 23 = .ok (.if_icmp .ge 50, 3) := by decide +kernel
theorem dX1_weigh_26 : decode cX1_weigh 26 = .ok (.aload_n 3, 1) := by decide +kernel
theorem dX1_weigh_27 : decode cX1_weigh 27 = .ok (.getfield 74, 3) := by decide +kernel
theorem dX1_weigh_30 : decode cX1_weigh 30 = .ok (.iload 5, 2) := by decide +kernel
theorem dX1_weigh_32 : decode cX1_weigh 32 = .ok (.iaload, 1) := by decide +kernel
theorem dX1_weigh_33 : decode cX1_weigh 33 = .ok (.istore 6, 2) := by decide +kernel
theorem dX1_weigh_35 : decode cX1_weigh 35 = .ok (.aload_n 2, 1) := by decide +kernel
theorem dX1_weigh_36 : decode cX1_weigh 36 = .ok (.iconst 0, 1) := by decide +kernel
theorem dX1_weigh_37 : decode cX1_weigh 37 = .ok (.iload 6, 2) := by decide +kernel
theorem dX1_weigh_39 : decode cX1_weigh 39 = .ok (.invokevirtual 77, 3) := by decide +kernel
theorem dX1_weigh_42 : decode cX1_weigh 42 = .ok (.ifCond .eq 25, 3) := by decide +kernel
theorem dX1_weigh_45 : decode cX1_weigh 45 = .ok (.aload_n 0, 1) := by decide +kernel
theorem dX1_weigh_46 : decode cX1_weigh 46 = .ok (.getfield 39, 3) := by decide +kernel
theorem dX1_weigh_49 : decode cX1_weigh 49 = .ok (.iload_n 1, 1) := by decide +kernel
theorem dX1_weigh_50 : decode cX1_weigh 50 = .ok (.aaload, 1) := by decide +kernel
theorem dX1_weigh_51 : decode cX1_weigh 51 = .ok (.iload 6, 2) := by decide +kernel
theorem dX1_weigh_53 : decode cX1_weigh 53 = .ok (.dup2, 1) := by decide +kernel
theorem dX1_weigh_54 : decode cX1_weigh 54 = .ok (.iaload, 1) := by decide +kernel
theorem dX1_weigh_55 : decode cX1_weigh 55 = .ok (.aload 4, 2) := by decide +kernel
theorem dX1_weigh_57 : decode cX1_weigh 57 = .ok (.iload_n 1, 1) := by decide +kernel
theorem dX1_weigh_58 : decode cX1_weigh 58 = .ok (.iload 5, 2) := by decide +kernel
theorem dX1_weigh_60 : decode cX1_weigh 60 = .ok (.iload 6, 2) := by decide +kernel
theorem dX1_weigh_62 : decode cX1_weigh 62 = .ok (.invokevirtual 81, 3) := by decide +kernel
theorem dX1_weigh_65 : decode cX1_weigh 65 = .ok (.iadd, 1) := by decide +kernel
theorem dX1_weigh_66 : decode cX1_weigh 66 = .ok (.iastore, 1) := by decide +kernel
theorem dX1_weigh_67 : decode cX1_weigh 67 = .ok (.iinc 5 1, 3) := by decide +kernel
theorem dX1_weigh_70 : decode cX1_weigh 70 = .ok (.goto (-54), 3) := by decide +kernel
theorem dX1_weigh_73 : decode cX1_weigh 73 = .ok (.iconst 0, 1) := by decide +kernel
theorem dX1_weigh_74 : decode cX1_weigh 74 = .ok (.istore 5, 2) := by decide +kernel
theorem dX1_weigh_76 : decode cX1_weigh 76 = .ok (.iload 5, 2) := by decide +kernel
theorem dX1_weigh_78 : decode cX1_weigh 78 = .ok (.aload_n 0, 1) := by decide +kernel
theorem dX1_weigh_79 : decode cX1_weigh 79 = .ok (.getfield 19, 3) := by decide +kernel
theorem dX1_weigh_82 : decode cX1_weigh 82 = .ok (.if_icmp .ge 52, 3) := by decide +kernel
theorem dX1_weigh_85 : decode cX1_weigh 85 = .ok (.iconst 0, 1) := by decide +kernel
theorem dX1_weigh_86 : decode cX1_weigh 86 = .ok (.istore 6, 2) := by decide +kernel
theorem dX1_weigh_88 : decode cX1_weigh 88 = .ok (.iload 6, 2) := by decide +kernel
theorem dX1_weigh_90 : decode cX1_weigh 90 = .ok (.aload_n 0, 1) := by decide +kernel
theorem dX1_weigh_91 : decode cX1_weigh 91 = .ok (.getfield 22, 3) := by decide +kernel
theorem dX1_weigh_94 : decode cX1_weigh 94 = .ok (.if_icmp .ge 34, 3) := by decide +kernel
theorem dX1_weigh_97 : decode cX1_weigh 97 = .ok (.aload_n 0, 1) := by decide +kernel
theorem dX1_weigh_98 : decode cX1_weigh 98 = .ok (.getfield 36, 3) := by decide +kernel
theorem dX1_weigh_101 : decode cX1_weigh 101 = .ok (.iload 5, 2) := by decide +kernel
theorem dX1_weigh_103 : decode cX1_weigh 103 = .ok (.bipush 6, 2) := by decide +kernel
theorem dX1_weigh_105 : decode cX1_weigh 105 = .ok (.imul, 1) := by decide +kernel
theorem dX1_weigh_106 : decode cX1_weigh 106 = .ok (.iload_n 1, 1) := by decide +kernel
theorem dX1_weigh_107 : decode cX1_weigh 107 = .ok (.iadd, 1) := by decide +kernel
theorem dX1_weigh_108 : decode cX1_weigh 108 = .ok (.aaload, 1) := by decide +kernel
theorem dX1_weigh_109 : decode cX1_weigh 109 = .ok (.iload 6, 2) := by decide +kernel
theorem dX1_weigh_111 : decode cX1_weigh 111 = .ok (.aload 4, 2) := by decide +kernel
theorem dX1_weigh_113 : decode cX1_weigh 113 = .ok (.iload_n 1, 1) := by decide +kernel
theorem dX1_weigh_114 : decode cX1_weigh 114 = .ok (.iload 5, 2) := by decide +kernel
theorem dX1_weigh_116 : decode cX1_weigh 116 = .ok (.iload 6, 2) := by decide +kernel
theorem dX1_weigh_118 : decode cX1_weigh 118 = .ok (.invokevirtual 81, 3) := by decide +kernel
theorem dX1_weigh_121 : decode cX1_weigh 121 = .ok (.iastore, 1) := by decide +kernel
theorem dX1_weigh_122 : decode cX1_weigh 122 = .ok (.iinc 6 1, 3) := by decide +kernel
theorem dX1_weigh_125 : decode cX1_weigh 125 = .ok (.goto (-37), 3) := by decide +kernel
theorem dX1_weigh_128 : decode cX1_weigh 128 = .ok (.iinc 5 1, 3) := by decide +kernel
theorem dX1_weigh_131 : decode cX1_weigh 131 = .ok (.goto (-55), 3) := by decide +kernel
theorem dX1_weigh_134 : decode cX1_weigh 134 = .ok (.aload_n 0, 1) := by decide +kernel
theorem dX1_weigh_135 : decode cX1_weigh 135 = .ok (.getfield 42, 3) := by decide +kernel
theorem dX1_weigh_138 : decode cX1_weigh 138 = .ok (.iconst 0, 1) := by decide +kernel
theorem dX1_weigh_139 : decode cX1_weigh 139 = .ok (.aaload, 1) := by decide +kernel
theorem dX1_weigh_140 : decode cX1_weigh 140 = .ok (.iload_n 1, 1) := by decide +kernel
theorem dX1_weigh_141 : decode cX1_weigh 141 = .ok (.iconst 0, 1) := by decide +kernel
theorem dX1_weigh_142 : decode cX1_weigh 142 = .ok (.iastore, 1) := by decide +kernel
theorem dX1_weigh_143 : decode cX1_weigh 143 = .ok (.iconst 0, 1) := by decide +kernel
theorem dX1_weigh_144 : decode cX1_weigh 144 = .ok (.istore 5, 2) := by decide +kernel
theorem dX1_weigh_146 : decode cX1_weigh 146 = .ok (.iload 5, 2) := by decide +kernel
theorem dX1_weigh_148 : decode cX1_weigh 148 = .ok (.aload_n 0, 1) := by decide +kernel
theorem dX1_weigh_149 : decode cX1_weigh 149 = .ok (.getfield 22, 3) := by decide +kernel
theorem dX1_weigh_152 : decode cX1_weigh 152 = .ok (.if_icmp .ge 49, 3) := by decide +kernel
theorem dX1_weigh_155 : decode cX1_weigh 155 = .ok (.aload_n 0, 1) := by decide +kernel
theorem dX1_weigh_156 : decode cX1_weigh 156 = .ok (.getfield 28, 3) := by decide +kernel
theorem dX1_weigh_159 : decode cX1_weigh 159 = .ok (.iconst 1, 1) := by decide +kernel
theorem dX1_weigh_160 : decode cX1_weigh 160 = .ok (.iload 5, 2) := by decide +kernel
theorem dX1_weigh_162 : decode cX1_weigh 162 = .ok (.ishl, 1) := by decide +kernel
theorem dX1_weigh_163 : decode cX1_weigh 163 = .ok (.iand, 1) := by decide +kernel
theorem dX1_weigh_164 : decode cX1_weigh 164 = .ok (.ifCond .ne 31, 3) := by decide +kernel
theorem dX1_weigh_167 : decode cX1_weigh 167 = .ok (.aload_n 0, 1) := by decide +kernel
theorem dX1_weigh_168 : decode cX1_weigh 168 = .ok (.getfield 42, 3) := by decide +kernel
theorem dX1_weigh_171 : decode cX1_weigh 171 = .ok (.iconst 0, 1) := by decide +kernel
theorem dX1_weigh_172 : decode cX1_weigh 172 = .ok (.aaload, 1) := by decide +kernel
theorem dX1_weigh_173 : decode cX1_weigh 173 = .ok (.iload_n 1, 1) := by decide +kernel
theorem dX1_weigh_174 : decode cX1_weigh 174 = .ok (.aload_n 0, 1) := by decide +kernel
theorem dX1_weigh_175 : decode cX1_weigh 175 = .ok (.getfield 42, 3) := by decide +kernel
theorem dX1_weigh_178 : decode cX1_weigh 178 = .ok (.iconst 0, 1) := by decide +kernel
theorem dX1_weigh_179 : decode cX1_weigh 179 = .ok (.aaload, 1) := by decide +kernel
theorem dX1_weigh_180 : decode cX1_weigh 180 = .ok (.iload_n 1, 1) := by decide +kernel
theorem dX1_weigh_181 : decode cX1_weigh 181 = .ok (.iaload, 1) := by decide +kernel
theorem dX1_weigh_182 : decode cX1_weigh 182 = .ok (.aload_n 0, 1) := by decide +kernel
theorem dX1_weigh_183 : decode cX1_weigh 183 = .ok (.getfield 39, 3) := by decide +kernel
theorem dX1_weigh_186 : decode cX1_weigh 186 = .ok (.iload_n 1, 1) := by decide +kernel
theorem dX1_weigh_187 : decode cX1_weigh 187 = .ok (.aaload, 1) := by decide +kernel
theorem dX1_weigh_188 : decode cX1_weigh 188 = .ok (.iload 5, 2) := by decide +kernel
theorem dX1_weigh_190 : decode cX1_weigh 190 = .ok (.iaload, 1) := by decide +kernel
theorem dX1_weigh_191 : decode cX1_weigh 191 = .ok (.invokestatic 87, 3) := by decide +kernel
theorem dX1_weigh_194 : decode cX1_weigh 194 = .ok (.iastore, 1) := by decide +kernel
theorem dX1_weigh_195 : decode cX1_weigh 195 = .ok (.iinc 5 1, 3) := by decide +kernel
theorem dX1_weigh_198 : decode cX1_weigh 198 = .ok (.goto (-52), 3) := by decide +kernel
theorem dX1_weigh_201 : decode cX1_weigh 201 = .ok (.return_, 1) := by decide +kernel
theorem dX1_hangFrom_0 : decode cX1_hangFrom 0 = .ok (.iload_n 1, 1) := by decide +kernel
theorem dX1_hangFrom_1 : decode cX1_hangFrom 1 = .ok (.aload_n 0, 1) := by decide +kernel
theorem dX1_hangFrom_2 : decode cX1_hangFrom 2 = .ok (.getfield 19, 3) := by decide +kernel
theorem dX1_hangFrom_5 : decode cX1_hangFrom 5 = .ok (.if_icmp .ge 8, 3) := by decide +kernel
theorem dX1_hangFrom_8 : decode cX1_hangFrom 8 = .ok (.iload_n 1, 1) := by decide +kernel
theorem dX1_hangFrom_9 : decode cX1_hangFrom 9 = .ok (.iconst 4, 1) := by decide +kernel
theorem dX1_hangFrom_10 : decode cX1_hangFrom 10 = .ok (.if_icmp .lt 8, 3) := by decide +kernel
theorem dX1_hangFrom_13 : decode cX1_hangFrom 13 = .ok (.aload_n 0, 1) := by decide +kernel
theorem dX1_hangFrom_14 : decode cX1_hangFrom 14 = .ok (.invokevirtual 90, 3) := by decide +kernel
theorem dX1_hangFrom_17 : decode cX1_hangFrom 17 = .ok (.return_, 1) := by decide +kernel
theorem dX1_hangFrom_18 : decode cX1_hangFrom 18 = .ok (.iconst 0, 1) := by decide +kernel
theorem dX1_hangFrom_19 : decode cX1_hangFrom 19 = .ok (.istore_n 2, 1) := by decide +kernel
theorem dX1_hangFrom_20 : decode cX1_hangFrom 20 = .ok (.iload_n 2, 1) := by decide +kernel
theorem dX1_hangFrom_21 : decode cX1_hangFrom 21 = .ok (.aload_n 0, 1) := by decide +kernel
theorem dX1_hangFrom_22 : decode cX1_hangFrom 22 = .ok (.getfield 22, 3) := by decide +kernel
theorem dX1_hangFrom_25 : decode cX1_hangFrom 25 = .ok (.if_icmp .ge 69, 3) := by decide +kernel
theorem dX1_hangFrom_28 : decode cX1_hangFrom 28 = .ok (.aload_n 0, 1) := by decide +kernel
theorem dX1_hangFrom_29 : decode cX1_hangFrom 29 = .ok (.getfield 31, 3) := by decide +kernel
theorem dX1_hangFrom_32 : decode cX1_hangFrom 32 = .ok (.iload_n 1, 1) := by decide +kernel
theorem dX1_hangFrom_33 : decode cX1_hangFrom 33 = .ok (.iload_n 2, 1) := by decide +kernel
theorem dX1_hangFrom_34 : decode cX1_hangFrom 34 = .ok (.iastore, 1) := by decide +kernel
theorem dX1_hangFrom_35 : decode cX1_hangFrom 35 = .ok (.aload_n 0, 1) := by decide +kernel
theorem dX1_hangFrom_36 : decode cX1_hangFrom 36 = .ok (.iload_n 1, 1) := by decide +kernel
theorem dX1_hangFrom_37 : decode cX1_hangFrom 37 = .ok (.iload_n 2, 1) := by decide +kernel
theorem dX1_hangFrom_38 : decode cX1_hangFrom 38 = .ok (.invokevirtual 93, 3) := by decide +kernel
theorem dX1_hangFrom_41 : decode cX1_hangFrom 41 = .ok (.aload_n 0, 1) := by decide +kernel
theorem dX1_hangFrom_42 : decode cX1_hangFrom 42 = .ok (.iload_n 1, 1) := by decide +kernel
theorem dX1_hangFrom_43 : decode cX1_hangFrom 43 = .ok (.iconst 1, 1) := by decide +kernel
theorem dX1_hangFrom_44 : decode cX1_hangFrom 44 = .ok (.iadd, 1) := by decide +kernel
theorem dX1_hangFrom_45 : decode cX1_hangFrom 45 = .ok (.invokevirtual 64, 3) := by decide +kernel
theorem dX1_hangFrom_48 : decode cX1_hangFrom 48 = .ok (.iconst 0, 1) := by decide +kernel
theorem dX1_hangFrom_49 : decode cX1_hangFrom 49 = .ok (.istore_n 3, 1) := by decide +kernel
theorem dX1_hangFrom_50 : decode cX1_hangFrom 50 = .ok (.iload_n 3, 1) := by decide +kernel
theorem dX1_hangFrom_51 : decode cX1_hangFrom 51 = .ok (.aload_n 0, 1) := by decide +kernel
theorem dX1_hangFrom_52 : decode cX1_hangFrom 52 = .ok (.getfield 25, 3) := by decide +kernel
theorem dX1_hangFrom_55 : decode cX1_hangFrom 55 = .ok (.if_icmp .ge 33, 3) := by decide +kernel
theorem dX1_hangFrom_58 : decode cX1_hangFrom 58 = .ok (.aload_n 0, 1) := by decide +kernel
theorem dX1_hangFrom_59 : decode cX1_hangFrom 59 = .ok (.getfield 39, 3) := by decide +kernel
theorem dX1_hangFrom_62 : decode cX1_hangFrom 62 = .ok (.iload_n 3, 1) := by decide +kernel
theorem dX1_hangFrom_63 : decode cX1_hangFrom 63 = .ok (.aaload, 1) := by decide +kernel
theorem dX1_hangFrom_64 : decode cX1_hangFrom 64 = .ok (.iload_n 2, 1) := by decide +kernel
theorem dX1_hangFrom_65 : decode cX1_hangFrom 65 = .ok (.dup2, 1) := by decide +kernel
theorem dX1_hangFrom_66 : decode cX1_hangFrom 66 = .ok (.iaload, 1) := by decide +kernel
theorem dX1_hangFrom_67 : decode cX1_hangFrom 67 = .ok (.aload_n 0, 1) := by decide +kernel
theorem dX1_hangFrom_68 : decode cX1_hangFrom 68 = .ok (.getfield 36, 3) := by decide +kernel
theorem dX1_hangFrom_71 : decode cX1_hangFrom 71 = .ok (.iload_n 1, 1) := by decide +kernel
theorem dX1_hangFrom_72 : decode cX1_hangFrom 72 = .ok (.bipush 6, 2) := by decide +kernel
theorem dX1_hangFrom_74 : decode cX1_hangFrom 74 = .ok (.imul, 1) := by decide +kernel
theorem dX1_hangFrom_75 : decode cX1_hangFrom 75 = .ok (.iload_n 3, 1) := by decide +kernel
theorem dX1_hangFrom_76 : decode cX1_hangFrom 76 = .ok (.iadd, 1) := by decide +kernel
theorem dX1_hangFrom_77 : decode cX1_hangFrom 77 = .ok (.aaload, 1) := by decide +kernel
theorem dX1_hangFrom_78 : decode cX1_hangFrom 78 = .ok (.iload_n 2, 1) := by decide +kernel
theorem dX1_hangFrom_79 : decode cX1_hangFrom 79 = .ok (.iaload, 1) := by decide +kernel
theorem dX1_hangFrom_80 : decode cX1_hangFrom 80 = .ok (.isub, 1) := by decide +kernel
theorem dX1_hangFrom_81 : decode cX1_hangFrom 81 = .ok (.iastore, 1) := by decide +kernel
theorem dX1_hangFrom_82 : decode cX1_hangFrom 82 = .ok (.iinc 3 1, 3) := by decide +kernel
theorem dX1_hangFrom_85 : decode cX1_hangFrom 85 = .ok (.goto (-35), 3) := by decide +kernel
theorem dX1_hangFrom_88 : decode cX1_hangFrom 88 = .ok (.iinc 2 1, 3) := by decide +kernel
theorem dX1_hangFrom_91 : decode cX1_hangFrom 91 = .ok (.goto (-71), 3) := by decide +kernel
theorem dX1_hangFrom_94 : decode cX1_hangFrom 94 = .ok (.return_, 1) := by decide +kernel
theorem dX1_put_0 : decode cX1_put 0 = .ok (.aload_n 0, 1) := by decide +kernel
theorem dX1_put_1 : decode cX1_put 1 = .ok (.getfield 28, 3) := by decide +kernel
theorem dX1_put_4 : decode cX1_put 4 = .ok (.iconst 1, 1) := by decide +kernel
theorem dX1_put_5 : decode cX1_put 5 = .ok (.iload_n 2, 1) := by decide +kernel
theorem dX1_put_6 : decode cX1_put 6 = .ok (.ishl, 1) := by decide +kernel
theorem dX1_put_7 : decode cX1_put 7 = .ok (.iand, 1) := by decide +kernel
theorem dX1_put_8 : decode cX1_put 8 = .ok (.ifCond .ne 7, 3) := by decide +kernel
theorem dX1_put_11 : decode cX1_put 11 = .ok (.iconst 1, 1) := by decide +kernel
theorem dX1_put_12 : decode cX1_put 12 = .ok (.goto 4, 3) := by decide +kernel
theorem dX1_put_15 : decode cX1_put 15 = .ok (.iconst 0, 1) := by decide +kernel
theorem dX1_put_16 : decode cX1_put 16 = .ok (.istore_n 3, 1) := by decide +kernel
theorem dX1_put_17 : decode cX1_put 17 = .ok (.iconst 0, 1) := by decide +kernel
theorem dX1_put_18 : decode cX1_put 18 = .ok (.istore 4, 2) := by decide +kernel
theorem dX1_put_20 : decode cX1_put 20 = .ok (.iload 4, 2) := by decide +kernel
theorem dX1_put_22 : decode cX1_put 22 = .ok (.aload_n 0, 1) := by decide +kernel
theorem dX1_put_23 : decode cX1_put 23 = .ok (.getfield 25, 3) := by decide +kernel
theorem dX1_put_26 : decode cX1_put 26 = .ok (.if_icmp .ge 83, 3) := by decide +kernel
theorem dX1_put_29 : decode cX1_put 29 = .ok (.aload_n 0, 1) := by decide +kernel
theorem dX1_put_30 : decode cX1_put 30 = .ok (.getfield 39, 3) := by decide +kernel
theorem dX1_put_33 : decode cX1_put 33 = .ok (.iload 4, 2) := by decide +kernel
theorem dX1_put_35 : decode cX1_put 35 = .ok (.aaload, 1) := by decide +kernel
theorem dX1_put_36 : decode cX1_put 36 = .ok (.iload_n 2, 1) := by decide +kernel
theorem dX1_put_37 : decode cX1_put 37 = .ok (.dup2, 1) := by decide +kernel
theorem dX1_put_38 : decode cX1_put 38 = .ok (.iaload, 1) := by decide +kernel
theorem dX1_put_39 : decode cX1_put 39 = .ok (.aload_n 0, 1) := by decide +kernel
theorem dX1_put_40 : decode cX1_put 40 = .ok (.getfield 36, 3) := by decide +kernel
theorem dX1_put_43 : decode cX1_put 43 = .ok (.iload_n 1, 1) := by decide +kernel
theorem dX1_put_44 : decode cX1_put 44 = .ok (.bipush 6, 2) := by decide +kernel
theorem dX1_put_46 : decode cX1_put 46 = .ok (.imul, 1) := by decide +kernel
theorem dX1_put_47 : decode cX1_put 47 = .ok (.iload 4, 2) := by decide +kernel
theorem dX1_put_49 : decode cX1_put 49 = .ok (.iadd, 1) := by decide +kernel
theorem dX1_put_50 : decode cX1_put 50 = .ok (.aaload, 1) := by decide +kernel
theorem dX1_put_51 : decode cX1_put 51 = .ok (.iload_n 2, 1) := by decide +kernel
theorem dX1_put_52 : decode cX1_put 52 = .ok (.iaload, 1) := by decide +kernel
theorem dX1_put_53 : decode cX1_put 53 = .ok (.iadd, 1) := by decide +kernel
theorem dX1_put_54 : decode cX1_put 54 = .ok (.iastore, 1) := by decide +kernel
theorem dX1_put_55 : decode cX1_put 55 = .ok (.aload_n 0, 1) := by decide +kernel
theorem dX1_put_56 : decode cX1_put 56 = .ok (.getfield 42, 3) := by decide +kernel
theorem dX1_put_59 : decode cX1_put 59 = .ok (.iload_n 1, 1) := by decide +kernel
theorem dX1_put_60 : decode cX1_put 60 = .ok (.iconst 1, 1) := by decide +kernel
theorem dX1_put_61 : decode cX1_put 61 = .ok (.iadd, 1) := by decide +kernel
theorem dX1_put_62 : decode cX1_put 62 = .ok (.aaload, 1) := by decide +kernel
theorem dX1_put_63 : decode cX1_put 63 = .ok (.iload 4, 2) := by decide +kernel
theorem dX1_put_65 : decode cX1_put 65 = .ok (.iload_n 3, 1) := by decide +kernel
theorem dX1_put_66 : decode cX1_put 66 = .ok (.ifCond .eq 27, 3) := by decide +kernel
theorem dX1_put_69 : decode cX1_put 69 = .ok (.aload_n 0, 1) := by decide +kernel
theorem dX1_put_70 : decode cX1_put 70 = .ok (.getfield 42, 3) := by decide +kernel
theorem dX1_put_73 : decode cX1_put 73 = .ok (.iload_n 1, 1) := by decide +kernel
theorem dX1_put_74 : decode cX1_put 74 = .ok (.aaload, 1) := by decide +kernel
theorem dX1_put_75 : decode cX1_put 75 = .ok (.iload 4, 2) := by decide +kernel
theorem dX1_put_77 : decode cX1_put 77 = .ok (.iaload, 1) := by decide +kernel
theorem dX1_put_78 : decode cX1_put 78 = .ok (.aload_n 0, 1) := by decide +kernel
theorem dX1_put_79 : decode cX1_put 79 = .ok (.getfield 39, 3) := by decide +kernel
theorem dX1_put_82 : decode cX1_put 82 = .ok (.iload 4, 2) := by decide +kernel
theorem dX1_put_84 : decode cX1_put 84 = .ok (.aaload, 1) := by decide +kernel
theorem dX1_put_85 : decode cX1_put 85 = .ok (.iload_n 2, 1) := by decide +kernel
theorem dX1_put_86 : decode cX1_put 86 = .ok (.iaload, 1) := by decide +kernel
theorem dX1_put_87 : decode cX1_put 87 = .ok (.invokestatic 87, 3) := by decide +kernel
theorem dX1_put_90 : decode cX1_put 90 = .ok (.goto 12, 3) := by decide +kernel
theorem dX1_put_93 : decode cX1_put 93 = .ok (.aload_n 0, 1) := by decide +kernel
theorem dX1_put_94 : decode cX1_put 94 = .ok (.getfield 42, 3) := by decide +kernel
theorem dX1_put_97 : decode cX1_put 97 = .ok (.iload_n 1, 1) := by decide +kernel
theorem dX1_put_98 : decode cX1_put 98 = .ok (.aaload, 1) := by decide +kernel
theorem dX1_put_99 : decode cX1_put 99 = .ok (.iload 4, 2) := by decide +kernel
theorem dX1_put_101 : decode cX1_put 101 = .ok (.iaload, 1) := by decide +kernel
theorem dX1_put_102 : decode cX1_put 102 = .ok (.iastore, 1) := by decide +kernel
theorem dX1_put_103 : decode cX1_put 103 = .ok (.iinc 4 1, 3) := by decide +kernel
theorem dX1_put_106 : decode cX1_put 106 = .ok (.goto (-86), 3) := by decide +kernel
theorem dX1_put_109 : decode cX1_put 109 = .ok (.return_, 1) := by decide +kernel
theorem dX1_compare_0 : decode cX1_compare 0 = .ok (.iconst 0, 1) := by decide +kernel
theorem dX1_compare_1 : decode cX1_compare 1 = .ok (.istore_n 1, 1) := by decide +kernel
theorem dX1_compare_2 : decode cX1_compare 2 = .ok (.iconst 0, 1) := by decide +kernel
theorem dX1_compare_3 : decode cX1_compare 3 = .ok (.istore_n 2, 1) := by decide +kernel
theorem dX1_compare_4 : decode cX1_compare 4 = .ok (.iload_n 2, 1) := by decide +kernel
theorem dX1_compare_5 : decode cX1_compare 5 = .ok (.aload_n 0, 1) := by decide +kernel
theorem dX1_compare_6 : decode cX1_compare 6 = .ok (.getfield 25, 3) := by decide +kernel
theorem dX1_compare_9 : decode cX1_compare 9 = .ok (.if_icmp .ge 23, 3) := by decide +kernel
theorem dX1_compare_12 : decode cX1_compare 12 = .ok (.iload_n 1, 1) := by decide +kernel
theorem dX1_compare_13 : decode cX1_compare 13 = .ok (.aload_n 0, 1) := by decide +kernel
theorem dX1_compare_14 : decode cX1_compare 14 = .ok (.getfield 42, 3) := by decide +kernel
theorem dX1_compare_17 : decode cX1_compare 17 = .ok (.aload_n 0, 1) := by decide +kernel
theorem dX1_compare_18 : decode cX1_compare 18 = .ok (.getfield 19, 3) := by decide +kernel
theorem dX1_compare_21 : decode cX1_compare 21 = .ok (.aaload, 1) := by decide +kernel
theorem dX1_compare_22 : decode cX1_compare 22 = .ok (.iload_n 2, 1) := by decide +kernel
theorem dX1_compare_23 : decode cX1_compare 23 = .ok (.iaload, 1) := by decide +kernel
theorem dX1_compare_24 : decode cX1_compare 24 = .ok (.iadd, 1) := by decide +kernel
theorem dX1_compare_25 : decode cX1_compare 25 = .ok (.istore_n 1, 1) := by decide +kernel
theorem dX1_compare_26 : decode cX1_compare 26 = .ok (.iinc 2 1, 3) := by decide +kernel
theorem dX1_compare_29 : decode cX1_compare 29 = .ok (.goto (-25), 3) := by decide +kernel
theorem dX1_compare_32 : decode cX1_compare 32 = .ok (.iload_n 1, 1) := by decide +kernel
theorem dX1_compare_33 : decode cX1_compare 33 = .ok (.aload_n 0, 1) := by decide +kernel
theorem dX1_compare_34 : decode cX1_compare 34 = .ok (.getfield 15, 3) := by decide +kernel
theorem dX1_compare_37 : decode cX1_compare 37 = .ok (.if_icmp .le 22, 3) := by decide +kernel
theorem dX1_compare_40 : decode cX1_compare 40 = .ok (.aload_n 0, 1) := by decide +kernel
theorem dX1_compare_41 : decode cX1_compare 41 = .ok (.iload_n 1, 1) := by decide +kernel
theorem dX1_compare_42 : decode cX1_compare 42 = .ok (.putfield 15, 3) := by decide +kernel
theorem dX1_compare_45 : decode cX1_compare 45 = .ok (.aload_n 0, 1) := by decide +kernel
theorem dX1_compare_46 : decode cX1_compare 46 = .ok (.getfield 31, 3) := by decide +kernel
theorem dX1_compare_49 : decode cX1_compare 49 = .ok (.iconst 0, 1) := by decide +kernel
theorem dX1_compare_50 : decode cX1_compare 50 = .ok (.aload_n 0, 1) := by decide +kernel
theorem dX1_compare_51 : decode cX1_compare 51 = .ok (.getfield 11, 3) := by decide +kernel
theorem dX1_compare_54 : decode cX1_compare 54 = .ok (.iconst 0, 1) := by decide +kernel
theorem dX1_compare_55 : decode cX1_compare 55 = .ok (.iconst 4, 1) := by decide +kernel
theorem dX1_compare_56 : decode cX1_compare 56 = .ok (.invokestatic 97, 3) := by decide +kernel
theorem dX1_compare_59 : decode cX1_compare 59 = .ok (.return_, 1) := by decide +kernel
