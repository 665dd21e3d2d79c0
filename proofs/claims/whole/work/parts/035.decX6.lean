theorem dX6_init_0 : decode cX6_init 0 = .ok (.aload_n 0, 1) := by decide +kernel
theorem dX6_init_1 : decode cX6_init 1 = .ok (.invokespecial 3, 3) := by decide +kernel
theorem dX6_init_4 : decode cX6_init 4 = .ok (.aload_n 0, 1) := by decide +kernel
theorem dX6_init_5 : decode cX6_init 5 = .ok (.iconst 0, 1) := by decide +kernel
theorem dX6_init_6 : decode cX6_init 6 = .ok (.putfield 9, 3) := by decide +kernel
theorem dX6_init_9 : decode cX6_init 9 = .ok (.aload_n 0, 1) := by decide +kernel
theorem dX6_init_10 : decode cX6_init 10 = .ok (.bipush 36, 2) := by decide +kernel
theorem dX6_init_12 : decode cX6_init 12 = .ok (.newarray .int, 2) := by decide +kernel
theorem dX6_init_14 : decode cX6_init 14 = .ok (.putfield 15, 3) := by decide +kernel
theorem dX6_init_17 : decode cX6_init 17 = .ok (.aload_n 0, 1) := by decide +kernel
theorem dX6_init_18 : decode cX6_init 18 = .ok (.iconst 0, 1) := by decide +kernel
theorem dX6_init_19 : decode cX6_init 19 = .ok (.putfield 19, 3) := by decide +kernel
theorem dX6_init_22 : decode cX6_init 22 = .ok (.aload_n 0, 1) := by decide +kernel
theorem dX6_init_23 : decode cX6_init 23 = .ok (.iconst 2, 1) := by decide +kernel
theorem dX6_init_24 : decode cX6_init 24 = .ok (.bipush 6, 2) := by decide +kernel
theorem dX6_init_26 : decode cX6_init 26 = .ok (.multianewarray 22 2, 4) := by decide +kernel
theorem dX6_init_30 : decode cX6_init 30 = .ok (.putfield 24, 3) := by decide +kernel
theorem dX6_init_33 : decode cX6_init 33 = .ok (.aload_n 0, 1) := by decide +kernel
theorem dX6_init_34 : decode cX6_init 34 = .ok (.bipush 6, 2) := by decide +kernel
theorem dX6_init_36 : decode cX6_init 36 = .ok (.newarray .int, 2) := by decide +kernel
theorem dX6_init_38 : decode cX6_init 38 = .ok (.putfield 27, 3) := by decide +kernel
theorem dX6_init_41 : decode cX6_init 41 = .ok (.return_, 1) := by decide +kernel
theorem dX6_work_0 : decode cX6_work 0 = .ok (.aload_n 0, 1) := by decide +kernel
theorem dX6_work_1 : decode cX6_work 1 = .ok (.bipush 6, 2) := by decide +kernel
theorem dX6_work_3 : decode cX6_work 3 = .ok (.aload_n 1, 1) := by decide +kernel
theorem dX6_work_4 : decode cX6_work 4 = .ok (.iconst 0, 1) := by decide +kernel
theorem dX6_work_5 : decode cX6_work 5 = .ok (.invokevirtual 30, 3) := by decide +kernel
theorem dX6_work_8 : decode cX6_work 8 = .ok (.invokestatic 36, 3) := by decide +kernel
theorem dX6_work_11 : decode cX6_work 11 = .ok (.putfield 19, 3) := by decide +kernel
theorem dX6_work_14 : decode cX6_work 14 = .ok (.aload_n 0, 1) := by decide +kernel
theorem dX6_work_15 : decode cX6_work 15 = .ok (.aload_n 1, 1) := by decide +kernel
theorem dX6_work_16 : decode cX6_work 16 = .ok (.aload_n 2, 1) := by decide +kernel
theorem dX6_work_17 : decode cX6_work 17 = .ok (.aload_n 3, 1) := by decide +kernel
theorem dX6_work_18 : decode cX6_work 18 = .ok (.invokevirtual 42, 3) := by decide +kernel
theorem dX6_work_21 : decode cX6_work 21 = .ok (.aload_n 0, 1) := by decide +kernel
theorem dX6_work_22 : decode cX6_work 22 = .ok (.iconst 0, 1) := by decide +kernel
theorem dX6_work_23 : decode cX6_work 23 = .ok (.putfield 9, 3) := by decide +kernel
theorem dX6_work_26 : decode cX6_work 26 = .ok (.iconst 0, 1) := by decide +kernel
theorem dX6_work_27 : decode cX6_work 27 = .ok (.istore 4, 2) := by decide +kernel
theorem dX6_work_29 : decode cX6_work 29 = .ok (.iload 4, 2) := by decide +kernel
theorem dX6_work_31 : decode cX6_work 31 = .ok (.aload_n 0, 1) := by decide +kernel
theorem dX6_work_32 : decode cX6_work 32 = .ok (.getfield 19, 3) := by decide +kernel
theorem dX6_work_35 : decode cX6_work 35 = .ok (.if_icmp .ge 90, 3) := by decide +kernel
theorem dX6_work_38 : decode cX6_work 38 = .ok (.iconst 0, 1) := by decide +kernel
theorem dX6_work_39 : decode cX6_work 39 = .ok (.istore 5, 2) := by decide +kernel
theorem dX6_work_41 : decode cX6_work 41 = .ok (.iload 5, 2) := by decide +kernel
theorem dX6_work_43 : decode cX6_work 43 = .ok (.aload_n 0, 1) := by decide +kernel
theorem dX6_work_44 : decode cX6_work 44 = .ok (.getfield 19, 3) := by decide +kernel
theorem dX6_work_47 : decode cX6_work 47 = .ok (.if_icmp .ge 72, 3) := by decide +kernel
theorem dX6_work_50 : decode cX6_work 50 = .ok (.aload_n 0, 1) := by decide +kernel
theorem dX6_work_51 : decode cX6_work 51 = .ok (.iconst 0, 1) := by decide +kernel
theorem dX6_work_52 : decode cX6_work 52 = .ok (.iload 4, 2) := by decide +kernel
theorem dX6_work_54 : decode cX6_work 54 = .ok (.iload 5, 2) := by decide +kernel
theorem dX6_work_56 : decode cX6_work 56 = .ok (.invokevirtual 46, 3) := by decide +kernel
theorem dX6_work_59 : decode cX6_work 59 = .ok (.ifCond .eq 54, 3) := by decide +kernel
theorem dX6_work_62 : decode cX6_work 62 = .ok (.aload_n 0, 1) := by decide +kernel
theorem dX6_work_63 : decode cX6_work 63 = .ok (.iconst 1, 1) := by decide +kernel
theorem dX6_work_64 : decode cX6_work 64 = .ok (.iload 5, 2) := by decide +kernel
theorem dX6_work_66 : decode cX6_work 66 = .ok (.iload 4, 2) := by decide +kernel
theorem dX6_work_68 : decode cX6_work 68 = .ok (.invokevirtual 46, 3) := by decide +kernel
theorem dX6_work_71 : decode cX6_work 71 = .ok (.ifCond .eq 42, 3) := by decide +kernel
theorem dX6_work_74 : decode cX6_work 74 = .ok (.aload_n 0, 1) := by decide +kernel
theorem dX6_work_75 : decode cX6_work 75 = .ok (.getfield 9, 3) := by decide +kernel
theorem dX6_work_78 : decode cX6_work 78 = .ok (.aload_n 0, 1) := by decide +kernel
theorem dX6_work_79 : decode cX6_work 79 = .ok (.getfield 15, 3) := by decide +kernel
theorem dX6_work_82 : decode cX6_work 82 = .ok (.arraylength, 1) := by decide +kernel
theorem dX6_work_83 : decode cX6_work 83 = .ok (.if_icmp .ge 30, 3) := by decide +kernel
theorem dX6_work_86 : decode cX6_work 86 = .ok (.aload_n 0, 1) := by decide +kernel
theorem dX6_work_87 : decode cX6_work 87 = .ok (.getfield 15, 3) := by decide +kernel
theorem dX6_work_90 : decode cX6_work 90 = .ok (.aload_n 0, 1) := by decide +kernel
theorem dX6_work_91 : decode cX6_work 91 = .ok (.getfield 9, 3) := by decide +kernel
theorem dX6_work_94 : decode cX6_work 94 = .ok (.bipush 10, 2) := by decide +kernel
theorem dX6_work_96 : decode cX6_work 96 = .ok (.iload 4, 2) := by decide +kernel
theorem dX6_work_98 : decode cX6_work 98 = .ok (.imul, 1) := by decide +kernel
theorem dX6_work_99 : decode cX6_work 99 = .ok (.iload 5, 2) := by decide +kernel
theorem dX6_work_101 : decode cX6_work 101 = .ok (.iadd, 1) := by decide +kernel
theorem dX6_work_102 : decode cX6_work 102 = .ok (.iastore, 1) := by decide +kernel
theorem dX6_work_103 : decode cX6_work 103 = .ok (.aload_n 0, 1) := by decide +kernel
theorem dX6_work_104 : decode cX6_work 104 = .ok (.dup, 1) := by decide +kernel
theorem dX6_work_105 : decode cX6_work 105 = .ok (.getfield 9, 3) := by decide +kernel
theorem dX6_work_108 : decode cX6_work 108 = .ok (.iconst 1, 1) := by decide +kernel
theorem dX6_work_109 : decode cX6_work 109 = .ok (.iadd, 1) := by decide +kernel
theorem dX6_work_110 : decode cX6_work 110 = .ok (.putfield 9, 3) := by decide +kernel
theorem dX6_work_113 : decode cX6_work 113 = .ok (.iinc 5 1, 3) := by decide +kernel
theorem dX6_work_116 : decode cX6_work 116 = .ok (.goto (-75), 3) := by decide +kernel
theorem dX6_work_119 : decode cX6_work 119 = .ok (.iinc 4 1, 3) := by decide +kernel
theorem dX6_work_122 : decode cX6_work 122 = .ok (.goto (-93), 3) := by decide +kernel
theorem dX6_work_125 : decode cX6_work 125 = .ok (.return_, 1) := by decide +kernel
theorem dX6_weigh_0 : decode cX6_weigh 0 = .ok (.aload_n 0, 1) := by decide +kernel
theorem dX6_weigh_1 : decode cX6_weigh 1 = .ok (.getfield 24, 3) := by decide +kernel
theorem dX6_weigh_4 : decode cX6_weigh 4 = .ok (.iconst 0, 1) := by decide +kernel
theorem dX6_weigh_5 : decode cX6_weigh 5 = .ok (.aaload, 1) := by decide +kernel
theorem dX6_weigh_6 : decode cX6_weigh 6 = .ok (.iconst 0, 1) := by decide +kernel
theorem dX6_weigh_7 : decode cX6_weigh 7 = .ok (.invokestatic 50, 3) := by decide +kernel
theorem dX6_weigh_10 : decode cX6_weigh 10 = .ok (.aload_n 0, 1) := by decide +kernel
theorem dX6_weigh_11 : decode cX6_weigh 11 = .ok (.getfield 24, 3) := by decide +kernel
theorem dX6_weigh_14 : decode cX6_weigh 14 = .ok (.iconst 1, 1) := by decide +kernel
theorem dX6_weigh_15 : decode cX6_weigh 15 = .ok (.aaload, 1) := by decide +kernel
theorem dX6_weigh_16 : decode cX6_weigh 16 = .ok (.iconst 0, 1) := by decide +kernel
theorem dX6_weigh_17 : decode cX6_weigh 17 = .ok (.invokestatic 50, 3) := by decide +kernel
theorem dX6_weigh_20 : decode cX6_weigh 20 = .ok (.aload_n 0, 1) := by decide +kernel
theorem dX6_weigh_21 : decode cX6_weigh 21 = .ok (.getfield 27, 3) := by decide +kernel
theorem dX6_weigh_24 : decode cX6_weigh 24 = .ok (.iconst 0, 1) := by decide +kernel
theorem dX6_weigh_25 : decode cX6_weigh 25 = .ok (.invokestatic 50, 3) := by decide +kernel
theorem dX6_weigh_28 : decode cX6_weigh 28 = .ok (.iconst 0, 1) := by decide +kernel
theorem dX6_weigh_29 : decode cX6_weigh 29 = .ok (.istore 4, 2) := by decide +kernel
theorem dX6_weigh_31 : decode cX6_weigh 31 = .ok (.iload 4, 2) := by decide +kernel
theorem dX6_weigh_33 : decode cX6_weigh 33 = .ok (.aload_n 1, 1) := by decide +kernel
theorem dX6_weigh_34 : decode cX6_weigh 34 = .ok (.iconst 2, 1) := by decide +kernel
theorem dX6_weigh_35 : decode cX6_weigh 35 = .ok (.invokevirtual 30, 3) := by decide +kernel
theorem dX6_weigh_38 : decode cX6_weigh 38 = .ok (.if_icmp .ge 98, 3) := by decide +kernel
theorem dX6_weigh_41 : decode cX6_weigh 41 = .ok (.aload_n 2, 1) := by decide +kernel
theorem dX6_weigh_42 : decode cX6_weigh 42 = .ok (.getfield 56, 3) := by decide +kernel
theorem dX6_weigh_45 : decode cX6_weigh 45 = .ok (.iload 4, 2) := by decide +kernel
theorem dX6_weigh_47 : decode cX6_weigh 47 = .ok (.iaload, 1) := by decide +kernel
theorem dX6_weigh_48 : decode cX6_weigh 48 = .ok (.istore 5, 2) := by decide +kernel
theorem dX6_weigh_50 : decode cX6_weigh 50 = .ok (.aload_n 1, 1) := by decide +kernel
theorem dX6_weigh_51 : decode cX6_weigh 51 = .ok (.iconst 0, 1) := by decide +kernel
theorem dX6_weigh_52 : decode cX6_weigh 52 = .ok (.iload 5, 2) := by decide +kernel
theorem dX6_weigh_54 : decode cX6_weigh 54 = .ok (.invokevirtual 61, 3) := by decide +kernel
theorem dX6_weigh_57 : decode cX6_weigh 57 = .ok (.ifCond .ne 6, 3) := by decide +kernel
theorem dX6_weigh_60 : decode cX6_weigh 60 = .ok (.goto 70, 3) := by decide +kernel
theorem dX6_weigh_63 : decode cX6_weigh 63 = .ok (.aload_n 0, 1) := by decide +kernel
theorem dX6_weigh_64 : decode cX6_weigh 64 = .ok (.getfield 27, 3) := by decide +kernel
theorem dX6_weigh_67 : decode cX6_weigh 67 = .ok (.iload 5, 2) := by decide +kernel
theorem dX6_weigh_69 : decode cX6_weigh 69 = .ok (.dup2, 1) := by decide +kernel
theorem dX6_weigh_70 : decode cX6_weigh 70 = .ok (.iaload, 1) := by decide +kernel
theorem dX6_weigh_71 : decode cX6_weigh 71 = .ok (.bipush 10, 2) := by decide +kernel
theorem dX6_weigh_73 : decode cX6_weigh 73 = .ok (.iadd, 1) := by decide +kernel
theorem dX6_weigh_74 : decode cX6_weigh 74 = .ok (.iastore, 1) := by decide +kernel
theorem dX6_weigh_75 : decode cX6_weigh 75 = .ok (.iconst 0, 1) := by decide +kernel
theorem dX6_weigh_76 : decode cX6_weigh 76 = .ok (.istore 6, 2) := by decide +kernel
theorem dX6_weigh_78 : decode cX6_weigh 78 = .ok (.iload 6, 2) := by decide +kernel
theorem dX6_weigh_80 : decode cX6_weigh 80 = .ok (.aload_n 1, 1) := by decide +kernel
theorem dX6_weigh_81 : decode cX6_weigh 81 = .ok (.iconst 3, 1) := by decide +kernel
theorem dX6_weigh_82 : decode cX6_weigh 82 = .ok (.invokevirtual 30, 3) := by decide +kernel
theorem dX6_weigh_85 : decode cX6_weigh 85 = .ok (.if_icmp .ge 45, 3) := by decide +kernel
theorem dX6_weigh_88 : decode cX6_weigh 88 = .ok (.aload_n 0, 1) := by decide +kernel
theorem dX6_weigh_89 : decode cX6_weigh 89 = .ok (.getfield 24, 3) := by decide +kernel
theorem dX6_weigh_92 : decode cX6_weigh 92 = .ok (.aload_n 1, 1) := by decide +kernel
theorem dX6_weigh_93 : decode cX6_weigh 93 = .ok (.getfield 65, 3) := by decide +kernel
theorem dX6_weigh_96 : decode cX6_weigh 96 = .ok (.iload 6, 2) := by decide +kernel
theorem dX6_weigh_98 : decode cX6_weigh 98 = .ok (.iaload, 1) := by decide +kernel
theorem dX6_weigh_99 : decode cX6_weigh 99 = .ok (.ifCond .ne 7, 3) := by decide +kernel
theorem dX6_weigh_102 : decode cX6_weigh 102 = .ok (.iconst 0, 1) := by decide +kernel
theorem dX6_weigh_103 : decode cX6_weigh 103 = .ok (.goto 4, 3) := by decide +kernel
theorem dX6_weigh_106 : decode cX6_weigh 106 = .ok (.iconst 1, 1) := by decide +kernel
theorem dX6_weigh_107 : decode cX6_weigh 107 = .ok (.aaload, 1) := by decide +kernel
theorem dX6_weigh_108 : decode cX6_weigh 108 = .ok (.iload 5, 2) := by decide +kernel
theorem dX6_weigh_110 : decode cX6_weigh 110 = .ok (.dup2, 1) := by decide +kernel
theorem dX6_weigh_111 : decode cX6_weigh 111 = .ok (.iaload, 1) := by decide +kernel
theorem dX6_weigh_112 : decode cX6_weigh 112 = .ok (.aload_n 3, 1) := by decide +kernel
theorem dX6_weigh_113 : decode cX6_weigh 113 = .ok (.iload 6, 2) := by decide +kernel
theorem dX6_weigh_115 : decode cX6_weigh 115 = .ok (.iload 4, 2) := by decide +kernel
theorem dX6_weigh_117 : decode cX6_weigh 117 = .ok (.iload 5, 2) := by decide +kernel
theorem dX6_weigh_119 : decode cX6_weigh 119 = .ok (.invokevirtual 68, 3) := by decide +kernel
theorem dX6_weigh_122 : decode cX6_weigh 122 = .ok (.iadd, 1) := by decide +kernel
theorem dX6_weigh_123 : decode cX6_weigh 123 = .ok (.iastore, 1) := by decide +kernel
theorem dX6_weigh_124 : decode cX6_weigh 124 = .ok (.iinc 6 1, 3) := by decide +kernel
theorem dX6_weigh_127 : decode cX6_weigh 127 = .ok (.goto (-49), 3) := by decide +kernel
theorem dX6_weigh_130 : decode cX6_weigh 130 = .ok (.iinc 4 1, 3) := by decide +kernel
theorem dX6_weigh_133 : decode cX6_weigh 133 = .ok (.goto (-102), 3) := by decide +kernel
theorem dX6_weigh_136 : decode cX6_weigh 136 = .ok (.return_, 1) := by decide +kernel
theorem dX6_isBest_0 : decode cX6_isBest 0 = .ok (.aload_n 0, 1) := by decide +kernel
theorem dX6_isBest_1 : decode cX6_isBest 1 = .ok (.iload_n 1, 1) := by decide +kernel
theorem dX6_isBest_2 : decode cX6_isBest 2 = .ok (.iload_n 2, 1) := by decide +kernel
theorem dX6_isBest_3 : decode cX6_isBest 3 = .ok (.iload_n 3, 1) := by decide +kernel
theorem dX6_isBest_4 : decode cX6_isBest 4 = .ok (.invokevirtual 74, 3) := by decide +kernel
theorem dX6_isBest_7 : decode cX6_isBest 7 = .ok (.istore 4, 2) := by decide +kernel
theorem dX6_isBest_9 : decode cX6_isBest 9 = .ok (.iconst 0, 1) := by decide +kernel
theorem dX6_isBest_10 : decode cX6_isBest 10 = .ok (.istore 5, 2) := by decide +kernel
theorem dX6_isBest_12 : decode cX6_isBest 12 = .ok (.iload 5, 2) := by decide +kernel
theorem dX6_isBest_14 : decode cX6_isBest 14 = .ok (.aload_n 0, 1) := by decide +kernel
theorem dX6_isBest_15 : decode cX6_isBest 15 = .ok (.getfield 19, 3) := by decide +kernel
theorem dX6_isBest_18 : decode cX6_isBest 18 = .ok (.if_icmp .ge 24, 3) := by decide +kernel
theorem dX6_isBest_21 : decode cX6_isBest 21 = .ok (.aload_n 0, 1) := by decide +kernel
theorem dX6_isBest_22 : decode cX6_isBest 22 = .ok (.iload_n 1, 1) := by decide +kernel
theorem dX6_isBest_23 : decode cX6_isBest 23 = .ok (.iload 5, 2) := by decide +kernel
theorem dX6_isBest_25 : decode cX6_isBest 25 = .ok (.iload_n 3, 1) := by decide +kernel
theorem dX6_isBest_26 : decode cX6_isBest 26 = .ok (.invokevirtual 74, 3) := by decide +kernel
theorem dX6_isBest_29 : decode cX6_isBest 29 = .ok (.iload 4, 2) := by decide +kernel
theorem dX6_isBest_31 : decode cX6_isBest 31 = .ok (.if_icmp .le 5, 3) := by decide +kernel
theorem dX6_isBest_34 : decode cX6_isBest 34 = .ok (.iconst 0, 1) := by decide +kernel
theorem dX6_isBest_35 : decode cX6_isBest 35 = .ok (.ireturn, 1) := by decide +kernel
theorem dX6_isBest_36 : decode cX6_isBest 36 = .ok (.iinc 5 1, 3) := by decide +kernel
theorem dX6_isBest_39 : decode cX6_isBest 39 = .ok (.goto (-27), 3) := by decide +kernel
theorem dX6_isBest_42 : decode cX6_isBest 42 = .ok (.iconst 1, 1) := by decide +kernel
theorem dX6_isBest_43 : decode cX6_isBest 43 = .ok (.ireturn, 1) := by decide +kernel
theorem dX6_share_0 : decode cX6_share 0 = .ok (.aload_n 0, 1) := by decide +kernel
theorem dX6_share_1 : decode cX6_share 1 = .ok (.getfield 24, 3) := by decide +kernel
theorem dX6_share_4 : decode cX6_share 4 = .ok (.iload_n 1, 1) := by decide +kernel
theorem dX6_share_5 : decode cX6_share 5 = .ok (.aaload, 1) := by decide +kernel
theorem dX6_share_6 : decode cX6_share 6 = .ok (.iload_n 2, 1) := by decide +kernel
theorem dX6_share_7 : decode cX6_share 7 = .ok (.iaload, 1) := by decide +kernel
theorem dX6_share_8 : decode cX6_share 8 = .ok (.iload_n 2, 1) := by decide +kernel
theorem dX6_share_9 : decode cX6_share 9 = .ok (.iload_n 3, 1) := by decide +kernel
theorem dX6_share_10 : decode cX6_share 10 = .ok (.if_icmp .ne 12, 3) := by decide +kernel
theorem dX6_share_13 : decode cX6_share 13 = .ok (.aload_n 0, 1) := by decide +kernel
theorem dX6_share_14 : decode cX6_share 14 = .ok (.getfield 27, 3) := by decide +kernel
theorem dX6_share_17 : decode cX6_share 17 = .ok (.iload_n 2, 1) := by decide +kernel
theorem dX6_share_18 : decode cX6_share 18 = .ok (.iaload, 1) := by decide +kernel
theorem dX6_share_19 : decode cX6_share 19 = .ok (.goto 4, 3) := by decide +kernel
theorem dX6_share_22 : decode cX6_share 22 = .ok (.iconst 0, 1) := by decide +kernel
theorem dX6_share_23 : decode cX6_share 23 = .ok (.isub, 1) := by decide +kernel
theorem dX6_share_24 : decode cX6_share 24 = .ok (.ireturn, 1) := by decide +kernel
