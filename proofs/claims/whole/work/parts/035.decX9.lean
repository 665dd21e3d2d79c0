theorem dX9_init_0 : decode cX9_init 0 = .ok (.aload_n 0, 1) := by decide +kernel
theorem dX9_init_1 : decode cX9_init 1 = .ok (.invokespecial 3, 3) := by decide +kernel
theorem dX9_init_4 : decode cX9_init 4 = .ok (.aload_n 0, 1) := by decide +kernel
theorem dX9_init_5 : decode cX9_init 5 = .ok (.bipush 22, 2) := by decide +kernel
theorem dX9_init_7 : decode cX9_init 7 = .ok (.putfield 9, 3) := by decide +kernel
theorem dX9_init_10 : decode cX9_init 10 = .ok (.aload_n 0, 1) := by decide +kernel
theorem dX9_init_11 : decode cX9_init 11 = .ok (.iconst 0, 1) := by decide +kernel
theorem dX9_init_12 : decode cX9_init 12 = .ok (.putfield 15, 3) := by decide +kernel
theorem dX9_init_15 : decode cX9_init 15 = .ok (.aload_n 0, 1) := by decide +kernel
theorem dX9_init_16 : decode cX9_init 16 = .ok (.iconst 0, 1) := by decide +kernel
theorem dX9_init_17 : decode cX9_init 17 = .ok (.putfield 18, 3) := by decide +kernel
theorem dX9_init_20 : decode cX9_init 20 = .ok (.aload_n 0, 1) := by decide +kernel
theorem dX9_init_21 : decode cX9_init 21 = .ok (.bipush 20, 2) := by decide +kernel
theorem dX9_init_23 : decode cX9_init 23 = .ok (.newarray .int, 2) := by decide +kernel
theorem dX9_init_25 : decode cX9_init 25 = .ok (.putfield 21, 3) := by decide +kernel
theorem dX9_init_28 : decode cX9_init 28 = .ok (.aload_n 0, 1) := by decide +kernel
theorem dX9_init_29 : decode cX9_init 29 = .ok (.sipush 701, 3) := by decide +kernel
theorem dX9_init_32 : decode cX9_init 32 = .ok (.newarray .int, 2) := by decide +kernel
theorem dX9_init_34 : decode cX9_init 34 = .ok (.putfield 25, 3) := by decide +kernel
theorem dX9_init_37 : decode cX9_init 37 = .ok (.aload_n 0, 1) := by decide +kernel
theorem dX9_init_38 : decode cX9_init 38 = .ok (.sipush 701, 3) := by decide +kernel
theorem dX9_init_41 : decode cX9_init 41 = .ok (.newarray .int, 2) := by decide +kernel
theorem dX9_init_43 : decode cX9_init 43 = .ok (.putfield 28, 3) := by decide +kernel
theorem dX9_init_46 : decode cX9_init 46 = .ok (.aload_n 0, 1) := by decide +kernel
theorem dX9_init_47 : decode cX9_init 47 = .ok (.sipush 701, 3) := by decide +kernel
theorem dX9_init_50 : decode cX9_init 50 = .ok (.newarray .int, 2) := by decide +kernel
theorem dX9_init_52 : decode cX9_init 52 = .ok (.putfield 31, 3) := by decide +kernel
theorem dX9_init_55 : decode cX9_init 55 = .ok (.aload_n 0, 1) := by decide +kernel
theorem dX9_init_56 : decode cX9_init 56 = .ok (.iconst 0, 1) := by decide +kernel
theorem dX9_init_57 : decode cX9_init 57 = .ok (.putfield 34, 3) := by decide +kernel
theorem dX9_init_60 : decode cX9_init 60 = .ok (.aload_n 0, 1) := by decide +kernel
theorem dX9_init_61 : decode cX9_init 61 = .ok (.sipush 700, 3) := by decide +kernel
theorem dX9_init_64 : decode cX9_init 64 = .ok (.newarray .int, 2) := by decide +kernel
theorem dX9_init_66 : decode cX9_init 66 = .ok (.putfield 37, 3) := by decide +kernel
theorem dX9_init_69 : decode cX9_init 69 = .ok (.aload_n 0, 1) := by decide +kernel
theorem dX9_init_70 : decode cX9_init 70 = .ok (.iconst 0, 1) := by decide +kernel
theorem dX9_init_71 : decode cX9_init 71 = .ok (.putfield 40, 3) := by decide +kernel
theorem dX9_init_74 : decode cX9_init 74 = .ok (.aload_n 0, 1) := by decide +kernel
theorem dX9_init_75 : decode cX9_init 75 = .ok (.iconst 0, 1) := by decide +kernel
theorem dX9_init_76 : decode cX9_init 76 = .ok (.putfield 43, 3) := by decide +kernel
theorem dX9_init_79 : decode cX9_init 79 = .ok (.iconst 0, 1) := by decide +kernel
theorem dX9_init_80 : decode cX9_init 80 = .ok (.istore_n 1, 1) := by decide +kernel
theorem dX9_init_81 : decode cX9_init 81 = .ok (.iload_n 1, 1) := by decide +kernel
theorem dX9_init_82 : decode cX9_init 82 = .ok (.aload_n 0, 1) := by decide +kernel
theorem dX9_init_83 : decode cX9_init 83 = .ok (.getfield 21, 3) := by decide +kernel
theorem dX9_init_86 : decode cX9_init 86 = .ok (.arraylength, 1) := by decide +kernel
theorem dX9_init_87 : decode cX9_init 87 = .ok (.if_icmp .ge 63, 3) := by decide +kernel
theorem dX9_init_90 : decode cX9_init 90 = .ok (.iconst 0, 1) := by decide +kernel
theorem dX9_init_91 : decode cX9_init 91 = .ok (.istore_n 2, 1) := by decide +kernel
theorem dX9_init_92 : decode cX9_init 92 = .ok (.iload_n 1, 1) := by decide +kernel
theorem dX9_init_93 : decode cX9_init 93 = .ok (.bipush 6, 2) := by decide +kernel
theorem dX9_init_95 : decode cX9_init 95 = .ok (.imul, 1) := by decide +kernel
theorem dX9_init_96 : decode cX9_init 96 = .ok (.istore_n 3, 1) := by decide +kernel
theorem dX9_init_97 : decode cX9_init 97 = .ok (.iload_n 3, 1) := by decide +kernel
theorem dX9_init_98 : decode cX9_init 98 = .ok (.iload_n 1, 1) := by decide +kernel
theorem dX9_init_99 : decode cX9_init 99 = .ok (.iconst 1, 1) := by decide +kernel
theorem dX9_init_100 : decode cX9_init 100 = .ok (.iadd, 1) := by decide +kernel
theorem dX9_init_101 : decode cX9_init 101 = .ok (.bipush 6, 2) := by decide +kernel
theorem dX9_init_103 : decode cX9_init 103 = .ok (.imul, 1) := by decide +kernel
theorem dX9_init_104 : decode cX9_init 104 = .ok (.if_icmp .ge 33, 3) := by decide +kernel
theorem dX9_init_107 : decode cX9_init 107 = .ok (.iload_n 3, 1) := by decide +kernel
theorem dX9_init_108 : decode cX9_init 108 = .ok (.ldc 46, 2) := by decide +kernel
theorem dX9_init_110 : decode cX9_init 110 = .ok (.invokevirtual 48, 3) := by decide +kernel
theorem dX9_init_113 : decode cX9_init 113 = .ok (.if_icmp .ge 24, 3) := by decide +kernel
theorem dX9_init_116 : decode cX9_init 116 = .ok (.iload_n 2, 1) := by decide +kernel
theorem dX9_init_117 : decode cX9_init 117 = .ok (.bipush 32, 2) := by decide +kernel
theorem dX9_init_119 : decode cX9_init 119 = .ok (.imul, 1) := by decide +kernel
theorem dX9_init_120 : decode cX9_init 120 = .ok (.ldc 46, 2) := by decide +kernel
theorem dX9_init_122 : decode cX9_init 122 = .ok (.iload_n 3, 1) := by decide +kernel
theorem dX9_init_123 : decode cX9_init 123 = .ok (.invokevirtual 54, 3) := by decide +kernel
theorem dX9_init_126 : decode cX9_init 126 = .ok (.bipush 31, 2) := by decide +kernel
theorem dX9_init_128 : decode cX9_init 128 = .ok (.iand, 1) := by decide +kernel
theorem dX9_init_129 : decode cX9_init 129 = .ok (.iadd, 1) := by decide +kernel
theorem dX9_init_130 : decode cX9_init 130 = .ok (.istore_n 2, 1) := by decide +kernel
theorem dX9_init_131 : decode cX9_init 131 = .ok (.iinc 3 1, 3) := by decide +kernel
theorem dX9_init_134 : decode cX9_init 134 = .ok (.goto (-37), 3) := by decide +kernel
theorem dX9_init_137 : decode cX9_init 137 = .ok (.aload_n 0, 1) := by decide +kernel
theorem dX9_init_138 : decode cX9_init 138 = .ok (.getfield 21, 3) := by decide +kernel
theorem dX9_init_141 : decode cX9_init 141 = .ok (.iload_n 1, 1) := by decide +kernel
theorem dX9_init_142 : decode cX9_init 142 = .ok (.iload_n 2, 1) := by decide +kernel
theorem dX9_init_143 : decode cX9_init 143 = .ok (.iastore, 1) := by decide +kernel
theorem dX9_init_144 : decode cX9_init 144 = .ok (.iinc 1 1, 3) := by decide +kernel
theorem dX9_init_147 : decode cX9_init 147 = .ok (.goto (-66), 3) := by decide +kernel
theorem dX9_init_150 : decode cX9_init 150 = .ok (.return_, 1) := by decide +kernel
theorem dX9_cut_0 : decode cX9_cut 0 = .ok (.aload_n 0, 1) := by decide +kernel
theorem dX9_cut_1 : decode cX9_cut 1 = .ok (.iconst 0, 1) := by decide +kernel
theorem dX9_cut_2 : decode cX9_cut 2 = .ok (.iload_n 2, 1) := by decide +kernel
theorem dX9_cut_3 : decode cX9_cut 3 = .ok (.aload_n 1, 1) := by decide +kernel
theorem dX9_cut_4 : decode cX9_cut 4 = .ok (.arraylength, 1) := by decide +kernel
theorem dX9_cut_5 : decode cX9_cut 5 = .ok (.aload_n 0, 1) := by decide +kernel
theorem dX9_cut_6 : decode cX9_cut 6 = .ok (.getfield 37, 3) := by decide +kernel
theorem dX9_cut_9 : decode cX9_cut 9 = .ok (.arraylength, 1) := by decide +kernel
theorem dX9_cut_10 : decode cX9_cut 10 = .ok (.invokestatic 58, 3) := by decide +kernel
theorem dX9_cut_13 : decode cX9_cut 13 = .ok (.invokestatic 58, 3) := by decide +kernel
theorem dX9_cut_16 : decode cX9_cut 16 = .ok (.invokestatic 64, 3) := by decide +kernel
theorem dX9_cut_19 : decode cX9_cut 19 = .ok (.putfield 40, 3) := by decide +kernel
theorem dX9_cut_22 : decode cX9_cut 22 = .ok (.aload_n 1, 1) := by decide +kernel
theorem dX9_cut_23 : decode cX9_cut 23 = .ok (.iconst 0, 1) := by decide +kernel
theorem dX9_cut_24 : decode cX9_cut 24 = .ok (.aload_n 0, 1) := by decide +kernel
theorem dX9_cut_25 : decode cX9_cut 25 = .ok (.getfield 37, 3) := by decide +kernel
theorem dX9_cut_28 : decode cX9_cut 28 = .ok (.iconst 0, 1) := by decide +kernel
theorem dX9_cut_29 : decode cX9_cut 29 = .ok (.aload_n 0, 1) := by decide +kernel
theorem dX9_cut_30 : decode cX9_cut 30 = .ok (.getfield 40, 3) := by decide +kernel
theorem dX9_cut_33 : decode cX9_cut 33 = .ok (.invokestatic 67, 3) := by decide +kernel
theorem dX9_cut_36 : decode cX9_cut 36 = .ok (.aload_n 0, 1) := by decide +kernel
theorem dX9_cut_37 : decode cX9_cut 37 = .ok (.iconst 0, 1) := by decide +kernel
theorem dX9_cut_38 : decode cX9_cut 38 = .ok (.putfield 43, 3) := by decide +kernel
theorem dX9_cut_41 : decode cX9_cut 41 = .ok (.aload_n 0, 1) := by decide +kernel
theorem dX9_cut_42 : decode cX9_cut 42 = .ok (.bipush 23, 2) := by decide +kernel
theorem dX9_cut_44 : decode cX9_cut 44 = .ok (.putfield 9, 3) := by decide +kernel
theorem dX9_cut_47 : decode cX9_cut 47 = .ok (.iconst 0, 1) := by decide +kernel
theorem dX9_cut_48 : decode cX9_cut 48 = .ok (.istore_n 3, 1) := by decide +kernel
theorem dX9_cut_49 : decode cX9_cut 49 = .ok (.iload_n 3, 1) := by decide +kernel
theorem dX9_cut_50 : decode cX9_cut 50 = .ok (.aload_n 0, 1) := by decide +kernel
theorem dX9_cut_51 : decode cX9_cut 51 = .ok (.getfield 25, 3) := by decide +kernel
theorem dX9_cut_54 : decode cX9_cut 54 = .ok (.arraylength, 1) := by decide +kernel
theorem dX9_cut_55 : decode cX9_cut 55 = .ok (.if_icmp .ge 52, 3) := by decide +kernel
theorem dX9_cut_58 : decode cX9_cut 58 = .ok (.aload_n 0, 1) := by decide +kernel
theorem dX9_cut_59 : decode cX9_cut 59 = .ok (.getfield 9, 3) := by decide +kernel
theorem dX9_cut_62 : decode cX9_cut 62 = .ok (.bipush 22, 2) := by decide +kernel
theorem dX9_cut_64 : decode cX9_cut 64 = .ok (.if_icmp .eq 43, 3) := by decide +kernel
theorem dX9_cut_67 : decode cX9_cut 67 = .ok (.aload_n 0, 1) := by decide +kernel
theorem dX9_cut_68 : decode cX9_cut 68 = .ok (.invokevirtual 73, 3) := by decide +kernel
theorem dX9_cut_71 : decode cX9_cut 71 = .ok (.aload_n 0, 1) := by decide +kernel
theorem dX9_cut_72 : decode cX9_cut 72 = .ok (.getfield 25, 3) := by decide +kernel
theorem dX9_cut_75 : decode cX9_cut 75 = .ok (.iload_n 3, 1) := by decide +kernel
theorem dX9_cut_76 : decode cX9_cut 76 = .ok (.aload_n 0, 1) := by decide +kernel
theorem dX9_cut_77 : decode cX9_cut 77 = .ok (.getfield 9, 3) := by decide +kernel
theorem dX9_cut_80 : decode cX9_cut 80 = .ok (.iastore, 1) := by decide +kernel
theorem dX9_cut_81 : decode cX9_cut 81 = .ok (.aload_n 0, 1) := by decide +kernel
theorem dX9_cut_82 : decode cX9_cut 82 = .ok (.getfield 28, 3) := by decide +kernel
theorem dX9_cut_85 : decode cX9_cut 85 = .ok (.iload_n 3, 1) := by decide +kernel
theorem dX9_cut_86 : decode cX9_cut 86 = .ok (.aload_n 0, 1) := by decide +kernel
theorem dX9_cut_87 : decode cX9_cut 87 = .ok (.getfield 15, 3) := by decide +kernel
theorem dX9_cut_90 : decode cX9_cut 90 = .ok (.iastore, 1) := by decide +kernel
theorem dX9_cut_91 : decode cX9_cut 91 = .ok (.aload_n 0, 1) := by decide +kernel
theorem dX9_cut_92 : decode cX9_cut 92 = .ok (.getfield 31, 3) := by decide +kernel
theorem dX9_cut_95 : decode cX9_cut 95 = .ok (.iload_n 3, 1) := by decide +kernel
theorem dX9_cut_96 : decode cX9_cut 96 = .ok (.aload_n 0, 1) := by decide +kernel
theorem dX9_cut_97 : decode cX9_cut 97 = .ok (.getfield 18, 3) := by decide +kernel
theorem dX9_cut_100 : decode cX9_cut 100 = .ok (.iastore, 1) := by decide +kernel
theorem dX9_cut_101 : decode cX9_cut 101 = .ok (.iinc 3 1, 3) := by decide +kernel
theorem dX9_cut_104 : decode cX9_cut 104 = .ok (.goto (-55), 3) := by decide +kernel
theorem dX9_cut_107 : decode cX9_cut 107 = .ok (.aload_n 0, 1) := by decide +kernel
theorem dX9_cut_108 : decode cX9_cut 108 = .ok (.iconst (-1), 1) := by decide +kernel
theorem dX9_cut_109 : decode cX9_cut 109 = .ok (.putfield 34, 3) := by decide +kernel
theorem dX9_cut_112 : decode cX9_cut 112 = .ok (.aload_n 0, 1) := by decide +kernel
theorem dX9_cut_113 : decode cX9_cut 113 = .ok (.invokevirtual 76, 3) := by decide +kernel
theorem dX9_cut_116 : decode cX9_cut 116 = .ok (.return_, 1) := by decide +kernel
theorem dX9_next_0 : decode cX9_next 0 = .ok (.aload_n 0, 1) := by decide +kernel
theorem dX9_next_1 : decode cX9_next 1 = .ok (.getfield 34, 3) := by decide +kernel
theorem dX9_next_4 : decode cX9_next 4 = .ok (.aload_n 0, 1) := by decide +kernel
theorem dX9_next_5 : decode cX9_next 5 = .ok (.getfield 25, 3) := by decide +kernel
theorem dX9_next_8 : decode cX9_next 8 = .ok (.arraylength, 1) := by decide +kernel
theorem dX9_next_9 : decode cX9_next 9 = .ok (.iconst 1, 1) := by decide +kernel
theorem dX9_next_10 : decode cX9_next 10 = .ok (.isub, 1) := by decide +kernel
theorem dX9_next_11 : decode cX9_next 11 = .ok (.if_icmp .lt 4, 3) := by decide +kernel
theorem dX9_next_14 : decode cX9_next 14 = .ok (.return_, 1) := by decide +kernel
theorem dX9_next_15 : decode cX9_next 15 = .ok (.aload_n 0, 1) := by decide +kernel
theorem dX9_next_16 : decode cX9_next 16 = .ok (.dup, 1) := by decide +kernel
theorem dX9_next_17 : decode cX9_next 17 = .ok (.getfield 34, 3) := by decide +kernel
theorem dX9_next_20 : decode cX9_next 20 = .ok (.iconst 1, 1) := by decide +kernel
theorem dX9_next_21 : decode cX9_next 21 = .ok (.iadd, 1) := by decide +kernel
theorem dX9_next_22 : decode cX9_next 22 = .ok (.putfield 34, 3) := by decide +kernel
theorem dX9_next_25 : decode cX9_next 25 = .ok (.aload_n 0, 1) := by decide +kernel
theorem dX9_next_26 : decode cX9_next 26 = .ok (.aload_n 0, 1) := by decide +kernel
theorem dX9_next_27 : decode cX9_next 27 = .ok (.getfield 25, 3) := by decide +kernel
theorem dX9_next_30 : decode cX9_next 30 = .ok (.aload_n 0, 1) := by decide +kernel
theorem dX9_next_31 : decode cX9_next 31 = .ok (.getfield 34, 3) := by decide +kernel
theorem dX9_next_34 : decode cX9_next 34 = .ok (.iaload, 1) := by decide +kernel
theorem dX9_next_35 : decode cX9_next 35 = .ok (.putfield 9, 3) := by decide +kernel
theorem dX9_next_38 : decode cX9_next 38 = .ok (.aload_n 0, 1) := by decide +kernel
theorem dX9_next_39 : decode cX9_next 39 = .ok (.aload_n 0, 1) := by decide +kernel
theorem dX9_next_40 : decode cX9_next 40 = .ok (.getfield 28, 3) := by decide +kernel
theorem dX9_next_43 : decode cX9_next 43 = .ok (.aload_n 0, 1) := by decide +kernel
theorem dX9_next_44 : decode cX9_next 44 = .ok (.getfield 34, 3) := by decide +kernel
theorem dX9_next_47 : decode cX9_next 47 = .ok (.iaload, 1) := by decide +kernel
theorem dX9_next_48 : decode cX9_next 48 = .ok (.putfield 15, 3) := by decide +kernel
theorem dX9_next_51 : decode cX9_next 51 = .ok (.aload_n 0, 1) := by decide +kernel
theorem dX9_next_52 : decode cX9_next 52 = .ok (.aload_n 0, 1) := by decide +kernel
theorem dX9_next_53 : decode cX9_next 53 = .ok (.getfield 31, 3) := by decide +kernel
theorem dX9_next_56 : decode cX9_next 56 = .ok (.aload_n 0, 1) := by decide +kernel
theorem dX9_next_57 : decode cX9_next 57 = .ok (.getfield 34, 3) := by decide +kernel
theorem dX9_next_60 : decode cX9_next 60 = .ok (.iaload, 1) := by decide +kernel
theorem dX9_next_61 : decode cX9_next 61 = .ok (.putfield 18, 3) := by decide +kernel
theorem dX9_next_64 : decode cX9_next 64 = .ok (.return_, 1) := by decide +kernel
theorem dX9_cutOne_0 : decode cX9_cutOne 0 = .ok (.aload_n 0, 1) := by decide +kernel
theorem dX9_cutOne_1 : decode cX9_cutOne 1 = .ok (.getfield 43, 3) := by decide +kernel
theorem dX9_cutOne_4 : decode cX9_cutOne 4 = .ok (.aload_n 0, 1) := by decide +kernel
theorem dX9_cutOne_5 : decode cX9_cutOne 5 = .ok (.getfield 40, 3) := by decide +kernel
theorem dX9_cutOne_8 : decode cX9_cutOne 8 = .ok (.if_icmp .ge 42, 3) := by decide +kernel
theorem dX9_cutOne_11 : decode cX9_cutOne 11 = .ok (.aload_n 0, 1) := by decide +kernel
theorem dX9_cutOne_12 : decode cX9_cutOne 12 = .ok (.aload_n 0, 1) := by decide +kernel
theorem dX9_cutOne_13 : decode cX9_cutOne 13 = .ok (.getfield 43, 3) := by decide +kernel
theorem dX9_cutOne_16 : decode cX9_cutOne 16 = .ok (.invokevirtual 79, 3) := by decide +kernel
theorem dX9_cutOne_19 : decode cX9_cutOne 19 = .ok (.bipush 10, 2) := by decide +kernel
theorem dX9_cutOne_21 : decode cX9_cutOne 21 = .ok (.if_icmp .eq 16, 3) := by decide +kernel
theorem dX9_cutOne_24 : decode cX9_cutOne 24 = .ok (.aload_n 0, 1) := by decide +kernel
theorem dX9_cutOne_25 : decode cX9_cutOne 25 = .ok (.aload_n 0, 1) := by decide +kernel
theorem dX9_cutOne_26 : decode cX9_cutOne 26 = .ok (.getfield 43, 3) := by decide +kernel
theorem dX9_cutOne_29 : decode cX9_cutOne 29 = .ok (.invokevirtual 79, 3) := by decide +kernel
theorem dX9_cutOne_32 : decode cX9_cutOne 32 = .ok (.bipush 32, 2) := by decide +kernel
theorem dX9_cutOne_34 : decode cX9_cutOne 34 = .ok (.if_icmp .ne 16, 3) := by decide +kernel
theorem dX9_cutOne_37 : decode cX9_cutOne 37 = .ok (.aload_n 0, 1) := by decide +kernel
theorem dX9_cutOne_38 : decode cX9_cutOne 38 = .ok (.dup, 1) := by decide +kernel
theorem dX9_cutOne_39 : decode cX9_cutOne 39 = .ok (.getfield 43, 3) := by decide +kernel
theorem dX9_cutOne_42 : decode cX9_cutOne 42 = .ok (.iconst 1, 1) := by decide +kernel
theorem dX9_cutOne_43 : decode cX9_cutOne 43 = .ok (.iadd, 1) := by decide +kernel
theorem dX9_cutOne_44 : decode cX9_cutOne 44 = .ok (.putfield 43, 3) := by decide +kernel
theorem dX9_cutOne_47 : decode cX9_cutOne 47 = .ok (.goto (-47), 3) := by decide +kernel
theorem dX9_cutOne_50 : decode cX9_cutOne 50 = .ok (.aload_n 0, 1) := by decide +kernel
theorem dX9_cutOne_51 : decode cX9_cutOne 51 = .ok (.aload_n 0, 1) := by decide +kernel
theorem dX9_cutOne_52 : decode cX9_cutOne 52 = .ok (.getfield 43, 3) := by decide +kernel
theorem dX9_cutOne_55 : decode cX9_cutOne 55 = .ok (.putfield 15, 3) := by decide +kernel
theorem dX9_cutOne_58 : decode cX9_cutOne 58 = .ok (.aload_n 0, 1) := by decide +kernel
theorem dX9_cutOne_59 : decode cX9_cutOne 59 = .ok (.iconst 0, 1) := by decide +kernel
theorem dX9_cutOne_60 : decode cX9_cutOne 60 = .ok (.putfield 18, 3) := by decide +kernel
theorem dX9_cutOne_63 : decode cX9_cutOne 63 = .ok (.aload_n 0, 1) := by decide +kernel
theorem dX9_cutOne_64 : decode cX9_cutOne 64 = .ok (.aload_n 0, 1) := by decide +kernel
theorem dX9_cutOne_65 : decode cX9_cutOne 65 = .ok (.getfield 43, 3) := by decide +kernel
theorem dX9_cutOne_68 : decode cX9_cutOne 68 = .ok (.invokevirtual 79, 3) := by decide +kernel
theorem dX9_cutOne_71 : decode cX9_cutOne 71 = .ok (.istore_n 1, 1) := by decide +kernel
theorem dX9_cutOne_72 : decode cX9_cutOne 72 = .ok (.aload_n 0, 1) := by decide +kernel
theorem dX9_cutOne_73 : decode cX9_cutOne 73 = .ok (.getfield 43, 3) := by decide +kernel
theorem dX9_cutOne_76 : decode cX9_cutOne 76 = .ok (.aload_n 0, 1) := by decide +kernel
theorem dX9_cutOne_77 : decode cX9_cutOne 77 = .ok (.getfield 40, 3) := by decide +kernel
theorem dX9_cutOne_80 : decode cX9_cutOne 80 = .ok (.if_icmp .lt 12, 3) := by decide +kernel
theorem dX9_cutOne_83 : decode cX9_cutOne 83 = .ok (.aload_n 0, 1) := by decide +kernel
theorem dX9_cutOne_84 : decode cX9_cutOne 84 = .ok (.bipush 22, 2) := by decide +kernel
theorem dX9_cutOne_86 : decode cX9_cutOne 86 = .ok (.putfield 9, 3) := by decide +kernel
theorem dX9_cutOne_89 : decode cX9_cutOne 89 = .ok (.goto 36, 3) := by decide +kernel
theorem dX9_cutOne_92 : decode cX9_cutOne 92 = .ok (.iload_n 1, 1) := by decide +kernel
theorem dX9_cutOne_93 : decode cX9_cutOne 93 = .ok (.invokestatic 83, 3) := by decide +kernel
theorem dX9_cutOne_96 : decode cX9_cutOne 96 = .ok (.ifCond .eq 10, 3) := by decide +kernel
theorem dX9_cutOne_99 : decode cX9_cutOne 99 = .ok (.aload_n 0, 1) := by decide +kernel
theorem dX9_cutOne_100 : decode cX9_cutOne 100 = .ok (.invokevirtual 87, 3) := by decide +kernel
theorem dX9_cutOne_103 : decode cX9_cutOne 103 = .ok (.goto 22, 3) := by decide +kernel
theorem dX9_cutOne_106 : decode cX9_cutOne 106 = .ok (.iload_n 1, 1) := by decide +kernel
theorem dX9_cutOne_107 : decode cX9_cutOne 107 = .ok (.invokestatic 90, 3) := by decide +kernel
theorem dX9_cutOne_110 : decode cX9_cutOne 110 = .ok (.ifCond .eq 10, 3) := by decide +kernel
theorem dX9_cutOne_113 : decode cX9_cutOne 113 = .ok (.aload_n 0, 1) := by decide +kernel
theorem dX9_cutOne_114 : decode cX9_cutOne 114 = .ok (.invokevirtual 93, 3) := by decide +kernel
theorem dX9_cutOne_117 : decode cX9_cutOne 117 = .ok (.goto 8, 3) := by decide +kernel
theorem dX9_cutOne_120 : decode cX9_cutOne 120 = .ok (.aload_n 0, 1) := by decide +kernel
theorem dX9_cutOne_121 : decode cX9_cutOne 121 = .ok (.iload_n 1, 1) := by decide +kernel
theorem dX9_cutOne_122 : decode cX9_cutOne 122 = .ok (.invokevirtual 96, 3) := by decide +kernel
theorem dX9_cutOne_125 : decode cX9_cutOne 125 = .ok (.return_, 1) := by decide +kernel
theorem dX9_signAt_0 : decode cX9_signAt 0 = .ok (.iload_n 1, 1) := by decide +kernel
theorem dX9_signAt_1 : decode cX9_signAt 1 = .ok (.ifCond .lt 29, 3) := by decide +kernel
theorem dX9_signAt_4 : decode cX9_signAt 4 = .ok (.iload_n 1, 1) := by decide +kernel
theorem dX9_signAt_5 : decode cX9_signAt 5 = .ok (.aload_n 0, 1) := by decide +kernel
theorem dX9_signAt_6 : decode cX9_signAt 6 = .ok (.getfield 40, 3) := by decide +kernel
theorem dX9_signAt_9 : decode cX9_signAt 9 = .ok (.if_icmp .ge 21, 3) := by decide +kernel
theorem dX9_signAt_12 : decode cX9_signAt 12 = .ok (.iload_n 1, 1) := by decide +kernel
theorem dX9_signAt_13 : decode cX9_signAt 13 = .ok (.aload_n 0, 1) := by decide +kernel
theorem dX9_signAt_14 : decode cX9_signAt 14 = .ok (.getfield 37, 3) := by decide +kernel
theorem dX9_signAt_17 : decode cX9_signAt 17 = .ok (.arraylength, 1) := by decide +kernel
theorem dX9_signAt_18 : decode cX9_signAt 18 = .ok (.if_icmp .ge 12, 3) := by decide +kernel
theorem dX9_signAt_21 : decode cX9_signAt 21 = .ok (.aload_n 0, 1) := by decide +kernel
theorem dX9_signAt_22 : decode cX9_signAt 22 = .ok (.getfield 37, 3) := by decide +kernel
theorem dX9_signAt_25 : decode cX9_signAt 25 = .ok (.iload_n 1, 1) := by decide +kernel
theorem dX9_signAt_26 : decode cX9_signAt 26 = .ok (.iaload, 1) := by decide +kernel
theorem dX9_signAt_27 : decode cX9_signAt 27 = .ok (.goto 4, 3) := by decide +kernel
theorem dX9_signAt_30 : decode cX9_signAt 30 = .ok (.iconst 0, 1) := by decide +kernel
theorem dX9_signAt_31 : decode cX9_signAt 31 = .ok (.ireturn, 1) := by decide +kernel
theorem dX9_isLetter_0 : decode cX9_isLetter 0 = .ok (.iload_n 0, 1) := by decide +kernel
theorem dX9_isLetter_1 : decode cX9_isLetter 1 = .ok (.bipush 97, 2) := by decide +kernel
theorem dX9_isLetter_3 : decode cX9_isLetter 3 = .ok (.if_icmp .lt 13, 3) := by decide +kernel
theorem dX9_isLetter_6 : decode cX9_isLetter 6 = .ok (.iload_n 0, 1) := by decide +kernel
theorem dX9_isLetter_7 : decode cX9_isLetter 7 = .ok (.bipush 122, 2) := by decide +kernel
theorem dX9_isLetter_9 : decode cX9_isLetter 9 = .ok (.if_icmp .gt 7, 3) := by decide +kernel
theorem dX9_isLetter_12 : decode cX9_isLetter 12 = .ok (.iconst 1, 1) := by decide +kernel
theorem dX9_isLetter_13 : decode cX9_isLetter 13 = .ok (.goto 4, 3) := by decide +kernel
theorem dX9_isLetter_16 : decode cX9_isLetter 16 = .ok (.iconst 0, 1) := by decide +kernel
theorem dX9_isLetter_17 : decode cX9_isLetter 17 = .ok (.ireturn, 1) := by decide +kernel
theorem dX9_isDigit_0 : decode cX9_isDigit 0 = .ok (.iload_n 0, 1) := by decide +kernel
theorem dX9_isDigit_1 : decode cX9_isDigit 1 = .ok (.bipush 48, 2) := by decide +kernel
theorem dX9_isDigit_3 : decode cX9_isDigit 3 = .ok (.if_icmp .lt 13, 3) := by decide +kernel
theorem dX9_isDigit_6 : decode cX9_isDigit 6 = .ok (.iload_n 0, 1) := by decide +kernel
theorem dX9_isDigit_7 : decode cX9_isDigit 7 = .ok (.bipush 57, 2) := by decide +kernel
theorem dX9_isDigit_9 : decode cX9_isDigit 9 = .ok (.if_icmp .gt 7, 3) := by decide +kernel
theorem dX9_isDigit_12 : decode cX9_isDigit 12 = .ok (.iconst 1, 1) := by decide +kernel
theorem dX9_isDigit_13 : decode cX9_isDigit 13 = .ok (.goto 4, 3) := by decide +kernel
theorem dX9_isDigit_16 : decode cX9_isDigit 16 = .ok (.iconst 0, 1) := by decide +kernel
theorem dX9_isDigit_17 : decode cX9_isDigit 17 = .ok (.ireturn, 1) := by decide +kernel
theorem dX9_cutWord_0 : decode cX9_cutWord 0 = .ok (.aload_n 0, 1) := by decide +kernel
theorem dX9_cutWord_1 : decode cX9_cutWord 1 = .ok (.getfield 43, 3) := by decide +kernel
theorem dX9_cutWord_4 : decode cX9_cutWord 4 = .ok (.aload_n 0, 1) := by decide +kernel
theorem dX9_cutWord_5 : decode cX9_cutWord 5 = .ok (.getfield 40, 3) := by decide +kernel
theorem dX9_cutWord_8 : decode cX9_cutWord 8 = .ok (.if_icmp .ge 67, 3) := by decide +kernel
theorem dX9_cutWord_11 : decode cX9_cutWord 11 = .ok (.aload_n 0, 1) := by decide +kernel
theorem dX9_cutWord_12 : decode cX9_cutWord 12 = .ok (.aload_n 0, 1) := by decide +kernel
theorem dX9_cutWord_13 : decode cX9_cutWord 13 = .ok (.getfield 43, 3) := by decide +kernel
theorem dX9_cutWord_16 : decode cX9_cutWord 16 = .ok (.invokevirtual 79, 3) := by decide +kernel
theorem dX9_cutWord_19 : decode cX9_cutWord 19 = .ok (.invokestatic 83, 3) := by decide +kernel
theorem dX9_cutWord_22 : decode cX9_cutWord 22 = .ok (.ifCond .eq 53, 3) := by decide +kernel
theorem dX9_cutWord_25 : decode cX9_cutWord 25 = .ok (.aload_n 0, 1) := by decide +kernel
theorem dX9_cutWord_26 : decode cX9_cutWord 26 = .ok (.getfield 43, 3) := by decide +kernel
theorem dX9_cutWord_29 : decode cX9_cutWord 29 = .ok (.aload_n 0, 1) := by decide +kernel
theorem dX9_cutWord_30 : decode cX9_cutWord 30 = .ok (.getfield 15, 3) := by decide +kernel
theorem dX9_cutWord_33 : decode cX9_cutWord 33 = .ok (.isub, 1) := by decide +kernel
theorem dX9_cutWord_34 : decode cX9_cutWord 34 = .ok (.bipush 6, 2) := by decide +kernel
theorem dX9_cutWord_36 : decode cX9_cutWord 36 = .ok (.if_icmp .ge 26, 3) := by decide +kernel
theorem dX9_cutWord_39 : decode cX9_cutWord 39 = .ok (.aload_n 0, 1) := by decide +kernel
theorem dX9_cutWord_40 : decode cX9_cutWord 40 = .ok (.aload_n 0, 1) := by decide +kernel
theorem dX9_cutWord_41 : decode cX9_cutWord 41 = .ok (.getfield 18, 3) := by decide +kernel
theorem dX9_cutWord_44 : decode cX9_cutWord 44 = .ok (.bipush 32, 2) := by decide +kernel
theorem dX9_cutWord_46 : decode cX9_cutWord 46 = .ok (.imul, 1) := by decide +kernel
theorem dX9_cutWord_47 : decode cX9_cutWord 47 = .ok (.aload_n 0, 1) := by decide +kernel
theorem dX9_cutWord_48 : decode cX9_cutWord 48 = .ok (.aload_n 0, 1) := by decide +kernel
theorem dX9_cutWord_49 : decode cX9_cutWord 49 = .ok (.getfield 43, 3) := by decide +kernel
theorem dX9_cutWord_52 : decode cX9_cutWord 52 = .ok (.invokevirtual 79, 3) := by decide +kernel
theorem dX9_cutWord_55 : decode cX9_cutWord 55 = .ok (.bipush 31, 2) := by decide +kernel
theorem dX9_cutWord_57 : decode cX9_cutWord 57 = .ok (.iand, 1) := by decide +kernel
theorem dX9_cutWord_58 : decode cX9_cutWord 58 = .ok (.iadd, 1) := by decide +kernel
theorem dX9_cutWord_59 : decode cX9_cutWord 59 = .ok (.putfield 18, 3) := by decide +kernel
theorem dX9_cutWord_62 : decode cX9_cutWord 62 = .ok (.aload_n 0, 1) := by decide +kernel
theorem dX9_cutWord_63 : decode cX9_cutWord 63 = .ok (.dup, 1) := by decide +kernel
theorem dX9_cutWord_64 : decode cX9_cutWord 64 = .ok (.getfield 43, 3) := by decide +kernel
theorem dX9_cutWord_67 : decode cX9_cutWord 67 = .ok (.iconst 1, 1) := by decide +kernel
theorem dX9_cutWord_68 : decode cX9_cutWord 68 = .ok (.iadd, 1) := by decide +kernel
theorem dX9_cutWord_69 : decode cX9_cutWord 69 = .ok (.putfield 43, 3) := by decide +kernel
theorem dX9_cutWord_72 : decode cX9_cutWord 72 = .ok (.goto (-72), 3) := by decide +kernel
theorem dX9_cutWord_75 : decode cX9_cutWord 75 = .ok (.aload_n 0, 1) := by decide +kernel
theorem dX9_cutWord_76 : decode cX9_cutWord 76 = .ok (.getfield 43, 3) := by decide +kernel
theorem dX9_cutWord_79 : decode cX9_cutWord 79 = .ok (.aload_n 0, 1) := by decide +kernel
theorem dX9_cutWord_80 : decode cX9_cutWord 80 = .ok (.getfield 15, 3) := by decide +kernel
theorem dX9_cutWord_83 : decode cX9_cutWord 83 = .ok (.isub, 1) := by decide +kernel
theorem dX9_cutWord_84 : decode cX9_cutWord 84 = .ok (.istore_n 1, 1) := by decide +kernel
theorem dX9_cutWord_85 : decode cX9_cutWord 85 = .ok (.iload_n 1, 1) := by decide +kernel
theorem dX9_cutWord_86 : decode cX9_cutWord 86 = .ok (.istore_n 2, 1) := by decide +kernel
theorem dX9_cutWord_87 : decode cX9_cutWord 87 = .ok (.iload_n 2, 1) := by decide +kernel
theorem dX9_cutWord_88 : decode cX9_cutWord 88 = .ok (.bipush 6, 2) := by decide +kernel
theorem dX9_cutWord_90 : decode cX9_cutWord 90 = .ok (.if_icmp .ge 20, 3) := by decide +kernel
theorem dX9_cutWord_93 : decode cX9_cutWord 93 = .ok (.aload_n 0, 1) := by decide +kernel
theorem dX9_cutWord_94 : decode cX9_cutWord 94 = .ok (.dup, 1) := by decide +kernel
theorem dX9_cutWord_95 : decode cX9_cutWord 95 = .ok (.getfield 18, 3) := by decide +kernel
theorem dX9_cutWord_98 : decode cX9_cutWord 98 = .ok (.bipush 32, 2) := by decide +kernel
theorem dX9_cutWord_100 : decode cX9_cutWord 100 = .ok (.imul, 1) := by decide +kernel
theorem dX9_cutWord_101 : decode cX9_cutWord 101 = .ok (.putfield 18, 3) := by decide +kernel
theorem dX9_cutWord_104 : decode cX9_cutWord 104 = .ok (.iinc 2 1, 3) := by decide +kernel
theorem dX9_cutWord_107 : decode cX9_cutWord 107 = .ok (.goto (-20), 3) := by decide +kernel
theorem dX9_cutWord_110 : decode cX9_cutWord 110 = .ok (.aload_n 0, 1) := by decide +kernel
theorem dX9_cutWord_111 : decode cX9_cutWord 111 = .ok (.iload_n 1, 1) := by decide +kernel
theorem dX9_cutWord_112 : decode cX9_cutWord 112 = .ok (.bipush 6, 2) := by decide +kernel
theorem dX9_cutWord_114 : decode cX9_cutWord 114 = .ok (.if_icmp .le 8, 3) := by decide +kernel
theorem dX9_cutWord_117 : decode cX9_cutWord 117 = .ok (.bipush 23, 2) := by decide +kernel
theorem dX9_cutWord_119 : decode cX9_cutWord 119 = .ok (.goto 5, 3) := by decide +kernel
theorem dX9_cutWord_122 : decode cX9_cutWord 122 = .ok (.bipush 20, 2) := by decide +kernel
theorem dX9_cutWord_124 : decode cX9_cutWord 124 = .ok (.putfield 9, 3) := by decide +kernel
theorem dX9_cutWord_127 : decode cX9_cutWord 127 = .ok (.iconst 0, 1) := by decide +kernel
theorem dX9_cutWord_128 : decode cX9_cutWord 128 = .ok (.istore_n 2, 1) := by decide +kernel
theorem dX9_cutWord_129 : decode cX9_cutWord 129 = .ok (.iload_n 2, 1) := by decide +kernel
theorem dX9_cutWord_130 : decode cX9_cutWord 130 = .ok (.aload_n 0, 1) := by decide +kernel
theorem dX9_cutWord_131 : decode cX9_cutWord 131 = .ok (.getfield 21, 3) := by decide +kernel
theorem dX9_cutWord_134 : decode cX9_cutWord 134 = .ok (.arraylength, 1) := by decide +kernel
theorem dX9_cutWord_135 : decode cX9_cutWord 135 = .ok (.if_icmp .ge 36, 3) := by decide +kernel
theorem dX9_cutWord_138 : decode cX9_cutWord 138 = .ok (.aload_n 0, 1) := by decide +kernel
theorem dX9_cutWord_139 : decode cX9_cutWord 139 = .ok (.getfield 9, 3) := by decide +kernel
theorem dX9_cutWord_142 : decode cX9_cutWord 142 = .ok (.bipush 20, 2) := by decide +kernel
theorem dX9_cutWord_144 : decode cX9_cutWord 144 = .ok (.if_icmp .ne 21, 3) := by decide +kernel
theorem dX9_cutWord_147 : decode cX9_cutWord 147 = .ok (.aload_n 0, 1) := by decide +kernel
theorem dX9_cutWord_148 : decode cX9_cutWord 148 = .ok (.getfield 21, 3) := by decide +kernel
theorem dX9_cutWord_151 : decode cX9_cutWord 151 = .ok (.iload_n 2, 1) := by decide +kernel
theorem dX9_cutWord_152 : decode cX9_cutWord 152 = .ok (.iaload, 1) := by decide +kernel
theorem dX9_cutWord_153 : decode cX9_cutWord 153 = .ok (.aload_n 0, 1) := by decide +kernel
theorem dX9_cutWord_154 : decode cX9_cutWord 154 = .ok (.getfield 18, 3) := by decide +kernel
theorem dX9_cutWord_157 : decode cX9_cutWord 157 = .ok (.if_icmp .ne 8, 3) := by decide +kernel
theorem dX9_cutWord_160 : decode cX9_cutWord 160 = .ok (.aload_n 0, 1) := by decide +kernel
theorem dX9_cutWord_161 : decode cX9_cutWord 161 = .ok (.iload_n 2, 1) := by decide +kernel
theorem dX9_cutWord_162 : decode cX9_cutWord 162 = .ok (.putfield 9, 3) := by decide +kernel
theorem dX9_cutWord_165 : decode cX9_cutWord 165 = .ok (.iinc 2 1, 3) := by decide +kernel
theorem dX9_cutWord_168 : decode cX9_cutWord 168 = .ok (.goto (-39), 3) := by decide +kernel
theorem dX9_cutWord_171 : decode cX9_cutWord 171 = .ok (.return_, 1) := by decide +kernel
theorem dX9_cutNumber_0 : decode cX9_cutNumber 0 = .ok (.aload_n 0, 1) := by decide +kernel
theorem dX9_cutNumber_1 : decode cX9_cutNumber 1 = .ok (.getfield 43, 3) := by decide +kernel
theorem dX9_cutNumber_4 : decode cX9_cutNumber 4 = .ok (.aload_n 0, 1) := by decide +kernel
theorem dX9_cutNumber_5 : decode cX9_cutNumber 5 = .ok (.getfield 40, 3) := by decide +kernel
theorem dX9_cutNumber_8 : decode cX9_cutNumber 8 = .ok (.if_icmp .ge 58, 3) := by decide +kernel
theorem dX9_cutNumber_11 : decode cX9_cutNumber 11 = .ok (.aload_n 0, 1) := by decide +kernel
theorem dX9_cutNumber_12 : decode cX9_cutNumber 12 = .ok (.aload_n 0, 1) := by decide +kernel
theorem dX9_cutNumber_13 : decode cX9_cutNumber 13 = .ok (.getfield 43, 3) := by decide +kernel
theorem dX9_cutNumber_16 : decode cX9_cutNumber 16 = .ok (.invokevirtual 79, 3) := by decide +kernel
theorem dX9_cutNumber_19 : decode cX9_cutNumber 19 = .ok (.invokestatic 90, 3) := by decide +kernel
theorem dX9_cutNumber_22 : decode cX9_cutNumber 22 = .ok (.ifCond .eq 44, 3) := by decide +kernel
theorem dX9_cutNumber_25 : decode cX9_cutNumber 25 = .ok (.aload_n 0, 1) := by decide +kernel
theorem dX9_cutNumber_26 : decode cX9_cutNumber 26 = .ok (.aload_n 0, 1) := by decide +kernel
theorem dX9_cutNumber_27 : decode cX9_cutNumber 27 = .ok (.getfield 18, 3) := by decide +kernel
theorem dX9_cutNumber_30 : decode cX9_cutNumber 30 = .ok (.bipush 10, 2) := by decide +kernel
theorem dX9_cutNumber_32 : decode cX9_cutNumber 32 = .ok (.imul, 1) := by decide +kernel
theorem dX9_cutNumber_33 : decode cX9_cutNumber 33 = .ok (.aload_n 0, 1) := by decide +kernel
theorem dX9_cutNumber_34 : decode cX9_cutNumber 34 = .ok (.aload_n 0, 1) := by decide +kernel
theorem dX9_cutNumber_35 : decode cX9_cutNumber 35 = .ok (.getfield 43, 3) := by decide +kernel
theorem dX9_cutNumber_38 : decode cX9_cutNumber 38 = .ok (.invokevirtual 79, 3) := by decide +kernel
theorem dX9_cutNumber_41 : decode cX9_cutNumber 41 = .ok (.iadd, 1) := by decide +kernel
theorem dX9_cutNumber_42 : decode cX9_cutNumber 42 = .ok (.bipush 48, 2) := by decide +kernel
theorem dX9_cutNumber_44 : decode cX9_cutNumber 44 = .ok (.isub, 1) := by decide +kernel
theorem dX9_cutNumber_45 : decode cX9_cutNumber 45 = .ok (.ldc 100, 2) := by decide +kernel
theorem dX9_cutNumber_47 : decode cX9_cutNumber 47 = .ok (.invokestatic 58, 3) := by decide +kernel
theorem dX9_cutNumber_50 : decode cX9_cutNumber 50 = .ok (.putfield 18, 3) := by decide +kernel
theorem dX9_cutNumber_53 : decode cX9_cutNumber 53 = .ok (.aload_n 0, 1) := by decide +kernel
theorem dX9_cutNumber_54 : decode cX9_cutNumber 54 = .ok (.dup, 1) := by decide +kernel
theorem dX9_cutNumber_55 : decode cX9_cutNumber 55 = .ok (.getfield 43, 3) := by decide +kernel
theorem dX9_cutNumber_58 : decode cX9_cutNumber 58 = .ok (.iconst 1, 1) := by decide +kernel
theorem dX9_cutNumber_59 : decode cX9_cutNumber 59 = .ok (.iadd, 1) := by decide +kernel
theorem dX9_cutNumber_60 : decode cX9_cutNumber 60 = .ok (.putfield 43, 3) := by decide +kernel
theorem dX9_cutNumber_63 : decode cX9_cutNumber 63 = .ok (.goto (-63), 3) := by decide +kernel
theorem dX9_cutNumber_66 : decode cX9_cutNumber 66 = .ok (.aload_n 0, 1) := by decide +kernel
theorem dX9_cutNumber_67 : decode cX9_cutNumber 67 = .ok (.bipush 21, 2) := by decide +kernel
theorem dX9_cutNumber_69 : decode cX9_cutNumber 69 = .ok (.putfield 9, 3) := by decide +kernel
theorem dX9_cutNumber_72 : decode cX9_cutNumber 72 = .ok (.return_, 1) := by decide +kernel
theorem dX9_cutSign_0 : decode cX9_cutSign 0 = .ok (.aload_n 0, 1) := by decide +kernel
theorem dX9_cutSign_1 : decode cX9_cutSign 1 = .ok (.dup, 1) := by decide +kernel
theorem dX9_cutSign_2 : decode cX9_cutSign 2 = .ok (.getfield 43, 3) := by decide +kernel
theorem dX9_cutSign_5 : decode cX9_cutSign 5 = .ok (.iconst 1, 1) := by decide +kernel
theorem dX9_cutSign_6 : decode cX9_cutSign 6 = .ok (.iadd, 1) := by decide +kernel
theorem dX9_cutSign_7 : decode cX9_cutSign 7 = .ok (.putfield 43, 3) := by decide +kernel
theorem dX9_cutSign_10 : decode cX9_cutSign 10 = .ok (.iload_n 1, 1) := by decide +kernel
theorem dX9_cutSign_11 : decode cX9_cutSign 11 = .ok (.tableswitch 237 40 62 #[114, 123, 159, 141, 237, 150, 237, 168, 237, 237, 237, 237, 237, 237, 237, 237, 237, 237, 237, 105, 177, 132, 214], 105) := by decide +kernel
theorem dX9_cutSign_116 : decode cX9_cutSign 116 = .ok (.aload_n 0, 1) := by decide +kernel
theorem dX9_cutSign_117 : decode cX9_cutSign 117 = .ok (.bipush 24, 2) := by decide +kernel
theorem dX9_cutSign_119 : decode cX9_cutSign 119 = .ok (.putfield 9, 3) := by decide +kernel
theorem dX9_cutSign_122 : decode cX9_cutSign 122 = .ok (.goto 132, 3) := by decide +kernel
theorem dX9_cutSign_125 : decode cX9_cutSign 125 = .ok (.aload_n 0, 1) := by decide +kernel
theorem dX9_cutSign_126 : decode cX9_cutSign 126 = .ok (.bipush 25, 2) := by decide +kernel
theorem dX9_cutSign_128 : decode cX9_cutSign 128 = .ok (.putfield 9, 3) := by decide +kernel
theorem dX9_cutSign_131 : decode cX9_cutSign 131 = .ok (.goto 123, 3) := by decide +kernel
theorem dX9_cutSign_134 : decode cX9_cutSign 134 = .ok (.aload_n 0, 1) := by decide +kernel
theorem dX9_cutSign_135 : decode cX9_cutSign 135 = .ok (.bipush 26, 2) := by decide +kernel
theorem dX9_cutSign_137 : decode cX9_cutSign 137 = .ok (.putfield 9, 3) := by decide +kernel
theorem dX9_cutSign_140 : decode cX9_cutSign 140 = .ok (.goto 114, 3) := by decide +kernel
theorem dX9_cutSign_143 : decode cX9_cutSign 143 = .ok (.aload_n 0, 1) := by decide +kernel
theorem dX9_cutSign_144 : decode cX9_cutSign 144 = .ok (.bipush 29, 2) := by decide +kernel
theorem dX9_cutSign_146 : decode cX9_cutSign 146 = .ok (.putfield 9, 3) := by decide +kernel
theorem dX9_cutSign_149 : decode cX9_cutSign 149 = .ok (.goto 105, 3) := by decide +kernel
theorem dX9_cutSign_152 : decode cX9_cutSign 152 = .ok (.aload_n 0, 1) := by decide +kernel
theorem dX9_cutSign_153 : decode cX9_cutSign 153 = .ok (.bipush 33, 2) := by decide +kernel
theorem dX9_cutSign_155 : decode cX9_cutSign 155 = .ok (.putfield 9, 3) := by decide +kernel
theorem dX9_cutSign_158 : decode cX9_cutSign 158 = .ok (.goto 96, 3) := by decide +kernel
theorem dX9_cutSign_161 : decode cX9_cutSign 161 = .ok (.aload_n 0, 1) := by decide +kernel
theorem dX9_cutSign_162 : decode cX9_cutSign 162 = .ok (.bipush 34, 2) := by decide +kernel
theorem dX9_cutSign_164 : decode cX9_cutSign 164 = .ok (.putfield 9, 3) := by decide +kernel
theorem dX9_cutSign_167 : decode cX9_cutSign 167 = .ok (.goto 87, 3) := by decide +kernel
theorem dX9_cutSign_170 : decode cX9_cutSign 170 = .ok (.aload_n 0, 1) := by decide +kernel
theorem dX9_cutSign_171 : decode cX9_cutSign 171 = .ok (.bipush 35, 2) := by decide +kernel
theorem dX9_cutSign_173 : decode cX9_cutSign 173 = .ok (.putfield 9, 3) := by decide +kernel
theorem dX9_cutSign_176 : decode cX9_cutSign 176 = .ok (.goto 78, 3) := by decide +kernel
theorem dX9_cutSign_179 : decode cX9_cutSign 179 = .ok (.aload_n 0, 1) := by decide +kernel
theorem dX9_cutSign_180 : decode cX9_cutSign 180 = .ok (.bipush 36, 2) := by decide +kernel
theorem dX9_cutSign_182 : decode cX9_cutSign 182 = .ok (.putfield 9, 3) := by decide +kernel
theorem dX9_cutSign_185 : decode cX9_cutSign 185 = .ok (.goto 69, 3) := by decide +kernel
theorem dX9_cutSign_188 : decode cX9_cutSign 188 = .ok (.aload_n 0, 1) := by decide +kernel
theorem dX9_cutSign_189 : decode cX9_cutSign 189 = .ok (.aload_n 0, 1) := by decide +kernel
theorem dX9_cutSign_190 : decode cX9_cutSign 190 = .ok (.bipush 61, 2) := by decide +kernel
theorem dX9_cutSign_192 : decode cX9_cutSign 192 = .ok (.invokevirtual 101, 3) := by decide +kernel
theorem dX9_cutSign_195 : decode cX9_cutSign 195 = .ok (.ifCond .eq 8, 3) := by decide +kernel
theorem dX9_cutSign_198 : decode cX9_cutSign 198 = .ok (.bipush 28, 2) := by decide +kernel
theorem dX9_cutSign_200 : decode cX9_cutSign 200 = .ok (.goto 19, 3) := by decide +kernel
theorem dX9_cutSign_203 : decode cX9_cutSign 203 = .ok (.aload_n 0, 1) := by decide +kernel
theorem dX9_cutSign_204 : decode cX9_cutSign 204 = .ok (.bipush 62, 2) := by decide +kernel
theorem dX9_cutSign_206 : decode cX9_cutSign 206 = .ok (.invokevirtual 101, 3) := by decide +kernel
theorem dX9_cutSign_209 : decode cX9_cutSign 209 = .ok (.ifCond .eq 8, 3) := by decide +kernel
theorem dX9_cutSign_212 : decode cX9_cutSign 212 = .ok (.bipush 30, 2) := by decide +kernel
theorem dX9_cutSign_214 : decode cX9_cutSign 214 = .ok (.goto 5, 3) := by decide +kernel
theorem dX9_cutSign_217 : decode cX9_cutSign 217 = .ok (.bipush 27, 2) := by decide +kernel
theorem dX9_cutSign_219 : decode cX9_cutSign 219 = .ok (.putfield 9, 3) := by decide +kernel
theorem dX9_cutSign_222 : decode cX9_cutSign 222 = .ok (.goto 32, 3) := by decide +kernel
theorem dX9_cutSign_225 : decode cX9_cutSign 225 = .ok (.aload_n 0, 1) := by decide +kernel
theorem dX9_cutSign_226 : decode cX9_cutSign 226 = .ok (.aload_n 0, 1) := by decide +kernel
theorem dX9_cutSign_227 : decode cX9_cutSign 227 = .ok (.bipush 61, 2) := by decide +kernel
theorem dX9_cutSign_229 : decode cX9_cutSign 229 = .ok (.invokevirtual 101, 3) := by decide +kernel
theorem dX9_cutSign_232 : decode cX9_cutSign 232 = .ok (.ifCond .eq 8, 3) := by decide +kernel
theorem dX9_cutSign_235 : decode cX9_cutSign 235 = .ok (.bipush 31, 2) := by decide +kernel
theorem dX9_cutSign_237 : decode cX9_cutSign 237 = .ok (.goto 5, 3) := by decide +kernel
theorem dX9_cutSign_240 : decode cX9_cutSign 240 = .ok (.bipush 32, 2) := by decide +kernel
theorem dX9_cutSign_242 : decode cX9_cutSign 242 = .ok (.putfield 9, 3) := by decide +kernel
theorem dX9_cutSign_245 : decode cX9_cutSign 245 = .ok (.goto 9, 3) := by decide +kernel
theorem dX9_cutSign_248 : decode cX9_cutSign 248 = .ok (.aload_n 0, 1) := by decide +kernel
theorem dX9_cutSign_249 : decode cX9_cutSign 249 = .ok (.bipush 23, 2) := by decide +kernel
theorem dX9_cutSign_251 : decode cX9_cutSign 251 = .ok (.putfield 9, 3) := by decide +kernel
theorem dX9_cutSign_254 : decode cX9_cutSign 254 = .ok (.return_, 1) := by decide +kernel
theorem dX9_joins_0 : decode cX9_joins 0 = .ok (.aload_n 0, 1) := by decide +kernel
theorem dX9_joins_1 : decode cX9_joins 1 = .ok (.aload_n 0, 1) := by decide +kernel
theorem dX9_joins_2 : decode cX9_joins 2 = .ok (.getfield 43, 3) := by decide +kernel
theorem dX9_joins_5 : decode cX9_joins 5 = .ok (.invokevirtual 79, 3) := by decide +kernel
theorem dX9_joins_8 : decode cX9_joins 8 = .ok (.iload_n 1, 1) := by decide +kernel
theorem dX9_joins_9 : decode cX9_joins 9 = .ok (.if_icmp .eq 5, 3) := by decide +kernel
theorem dX9_joins_12 : decode cX9_joins 12 = .ok (.iconst 0, 1) := by decide +kernel
theorem dX9_joins_13 : decode cX9_joins 13 = .ok (.ireturn, 1) := by decide +kernel
theorem dX9_joins_14 : decode cX9_joins 14 = .ok (.aload_n 0, 1) := by decide +kernel
theorem dX9_joins_15 : decode cX9_joins 15 = .ok (.dup, 1) := by decide +kernel
theorem dX9_joins_16 : decode cX9_joins 16 = .ok (.getfield 43, 3) := by decide +kernel
theorem dX9_joins_19 : decode cX9_joins 19 = .ok (.iconst 1, 1) := by decide +kernel
theorem dX9_joins_20 : decode cX9_joins 20 = .ok (.iadd, 1) := by decide +kernel
theorem dX9_joins_21 : decode cX9_joins 21 = .ok (.putfield 43, 3) := by decide +kernel
theorem dX9_joins_24 : decode cX9_joins 24 = .ok (.iconst 1, 1) := by decide +kernel
theorem dX9_joins_25 : decode cX9_joins 25 = .ok (.ireturn, 1) := by decide +kernel
