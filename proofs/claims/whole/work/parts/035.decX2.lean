theorem dX2_init_0 : decode cX2_init 0 = .ok (.aload_n 0, 1) := by decide +kernel
theorem dX2_init_1 : decode cX2_init 1 = .ok (.invokespecial 3, 3) := by decide +kernel
theorem dX2_init_4 : decode cX2_init 4 = .ok (.aload_n 0, 1) := by decide +kernel
theorem dX2_init_5 : decode cX2_init 5 = .ok (.bipush 6, 2) := by decide +kernel
theorem dX2_init_7 : decode cX2_init 7 = .ok (.newarray .int, 2) := by decide +kernel
theorem dX2_init_9 : decode cX2_init 9 = .ok (.putfield 9, 3) := by decide +kernel
theorem dX2_init_12 : decode cX2_init 12 = .ok (.aload_n 0, 1) := by decide +kernel
theorem dX2_init_13 : decode cX2_init 13 = .ok (.iconst 0, 1) := by decide +kernel
theorem dX2_init_14 : decode cX2_init 14 = .ok (.putfield 15, 3) := by decide +kernel
theorem dX2_init_17 : decode cX2_init 17 = .ok (.aload_n 0, 1) := by decide +kernel
theorem dX2_init_18 : decode cX2_init 18 = .ok (.iconst 0, 1) := by decide +kernel
theorem dX2_init_19 : decode cX2_init 19 = .ok (.putfield 19, 3) := by decide +kernel
theorem dX2_init_22 : decode cX2_init 22 = .ok (.aload_n 0, 1) := by decide +kernel
theorem dX2_init_23 : decode cX2_init 23 = .ok (.iconst 4, 1) := by decide +kernel
theorem dX2_init_24 : decode cX2_init 24 = .ok (.bipush 8, 2) := by decide +kernel
theorem dX2_init_26 : decode cX2_init 26 = .ok (.multianewarray 22 2, 4) := by decide +kernel
theorem dX2_init_30 : decode cX2_init 30 = .ok (.putfield 24, 3) := by decide +kernel
theorem dX2_init_33 : decode cX2_init 33 = .ok (.aload_n 0, 1) := by decide +kernel
theorem dX2_init_34 : decode cX2_init 34 = .ok (.bipush 6, 2) := by decide +kernel
theorem dX2_init_36 : decode cX2_init 36 = .ok (.newarray .int, 2) := by decide +kernel
theorem dX2_init_38 : decode cX2_init 38 = .ok (.putfield 27, 3) := by decide +kernel
theorem dX2_init_41 : decode cX2_init 41 = .ok (.aload_n 0, 1) := by decide +kernel
theorem dX2_init_42 : decode cX2_init 42 = .ok (.bipush 8, 2) := by decide +kernel
theorem dX2_init_44 : decode cX2_init 44 = .ok (.newarray .int, 2) := by decide +kernel
theorem dX2_init_46 : decode cX2_init 46 = .ok (.putfield 30, 3) := by decide +kernel
theorem dX2_init_49 : decode cX2_init 49 = .ok (.aload_n 0, 1) := by decide +kernel
theorem dX2_init_50 : decode cX2_init 50 = .ok (.bipush 8, 2) := by decide +kernel
theorem dX2_init_52 : decode cX2_init 52 = .ok (.newarray .int, 2) := by decide +kernel
theorem dX2_init_54 : decode cX2_init 54 = .ok (.putfield 33, 3) := by decide +kernel
theorem dX2_init_57 : decode cX2_init 57 = .ok (.aload_n 0, 1) := by decide +kernel
theorem dX2_init_58 : decode cX2_init 58 = .ok (.bipush 8, 2) := by decide +kernel
theorem dX2_init_60 : decode cX2_init 60 = .ok (.newarray .int, 2) := by decide +kernel
theorem dX2_init_62 : decode cX2_init 62 = .ok (.putfield 36, 3) := by decide +kernel
theorem dX2_init_65 : decode cX2_init 65 = .ok (.aload_n 0, 1) := by decide +kernel
theorem dX2_init_66 : decode cX2_init 66 = .ok (.bipush 6, 2) := by decide +kernel
theorem dX2_init_68 : decode cX2_init 68 = .ok (.newarray .int, 2) := by decide +kernel
theorem dX2_init_70 : decode cX2_init 70 = .ok (.putfield 39, 3) := by decide +kernel
theorem dX2_init_73 : decode cX2_init 73 = .ok (.aload_n 0, 1) := by decide +kernel
theorem dX2_init_74 : decode cX2_init 74 = .ok (.bipush 6, 2) := by decide +kernel
theorem dX2_init_76 : decode cX2_init 76 = .ok (.newarray .int, 2) := by decide +kernel
theorem dX2_init_78 : decode cX2_init 78 = .ok (.putfield 42, 3) := by decide +kernel
theorem dX2_init_81 : decode cX2_init 81 = .ok (.aload_n 0, 1) := by decide +kernel
theorem dX2_init_82 : decode cX2_init 82 = .ok (.bipush 6, 2) := by decide +kernel
theorem dX2_init_84 : decode cX2_init 84 = .ok (.newarray .int, 2) := by decide +kernel
theorem dX2_init_86 : decode cX2_init 86 = .ok (.putfield 45, 3) := by decide +kernel
theorem dX2_init_89 : decode cX2_init 89 = .ok (.aload_n 0, 1) := by decide +kernel
theorem dX2_init_90 : decode cX2_init 90 = .ok (.bipush 6, 2) := by decide +kernel
theorem dX2_init_92 : decode cX2_init 92 = .ok (.newarray .int, 2) := by decide +kernel
theorem dX2_init_94 : decode cX2_init 94 = .ok (.putfield 48, 3) := by decide +kernel
theorem dX2_init_97 : decode cX2_init 97 = .ok (.aload_n 0, 1) := by decide +kernel
theorem dX2_init_98 : decode cX2_init 98 = .ok (.bipush 9, 2) := by decide +kernel
theorem dX2_init_100 : decode cX2_init 100 = .ok (.newarray .int, 2) := by decide +kernel
theorem dX2_init_102 : decode cX2_init 102 = .ok (.putfield 51, 3) := by decide +kernel
theorem dX2_init_105 : decode cX2_init 105 = .ok (.aload_n 0, 1) := by decide +kernel
theorem dX2_init_106 : decode cX2_init 106 = .ok (.new 54, 3) := by decide +kernel
theorem dX2_init_109 : decode cX2_init 109 = .ok (.dup, 1) := by decide +kernel
theorem dX2_init_110 : decode cX2_init 110 = .ok (.invokespecial 56, 3) := by decide +kernel
theorem dX2_init_113 : decode cX2_init 113 = .ok (.putfield 57, 3) := by decide +kernel
theorem dX2_init_116 : decode cX2_init 116 = .ok (.aload_n 0, 1) := by decide +kernel
theorem dX2_init_117 : decode cX2_init 117 = .ok (.new 54, 3) := by decide +kernel
theorem dX2_init_120 : decode cX2_init 120 = .ok (.dup, 1) := by decide +kernel
theorem dX2_init_121 : decode cX2_init 121 = .ok (.invokespecial 56, 3) := by decide +kernel
theorem dX2_init_124 : decode cX2_init 124 = .ok (.putfield 61, 3) := by decide +kernel
theorem dX2_init_127 : decode cX2_init 127 = .ok (.aload_n 0, 1) := by decide +kernel
theorem dX2_init_128 : decode cX2_init 128 = .ok (.new 54, 3) := by decide +kernel
theorem dX2_init_131 : decode cX2_init 131 = .ok (.dup, 1) := by decide +kernel
theorem dX2_init_132 : decode cX2_init 132 = .ok (.invokespecial 56, 3) := by decide +kernel
theorem dX2_init_135 : decode cX2_init 135 = .ok (.putfield 64, 3) := by decide +kernel
theorem dX2_init_138 : decode cX2_init 138 = .ok (.return_, 1) := by decide +kernel
theorem dX2_clear_0 : decode cX2_clear 0 = .ok (.aload_n 0, 1) := by decide +kernel
theorem dX2_clear_1 : decode cX2_clear 1 = .ok (.getfield 9, 3) := by decide +kernel
theorem dX2_clear_4 : decode cX2_clear 4 = .ok (.iconst 0, 1) := by decide +kernel
theorem dX2_clear_5 : decode cX2_clear 5 = .ok (.invokestatic 67, 3) := by decide +kernel
theorem dX2_clear_8 : decode cX2_clear 8 = .ok (.aload_n 0, 1) := by decide +kernel
theorem dX2_clear_9 : decode cX2_clear 9 = .ok (.getfield 27, 3) := by decide +kernel
theorem dX2_clear_12 : decode cX2_clear 12 = .ok (.iconst 0, 1) := by decide +kernel
theorem dX2_clear_13 : decode cX2_clear 13 = .ok (.invokestatic 67, 3) := by decide +kernel
theorem dX2_clear_16 : decode cX2_clear 16 = .ok (.aload_n 0, 1) := by decide +kernel
theorem dX2_clear_17 : decode cX2_clear 17 = .ok (.iconst 0, 1) := by decide +kernel
theorem dX2_clear_18 : decode cX2_clear 18 = .ok (.putfield 15, 3) := by decide +kernel
theorem dX2_clear_21 : decode cX2_clear 21 = .ok (.aload_n 0, 1) := by decide +kernel
theorem dX2_clear_22 : decode cX2_clear 22 = .ok (.iconst 0, 1) := by decide +kernel
theorem dX2_clear_23 : decode cX2_clear 23 = .ok (.putfield 19, 3) := by decide +kernel
theorem dX2_clear_26 : decode cX2_clear 26 = .ok (.aload_n 0, 1) := by decide +kernel
theorem dX2_clear_27 : decode cX2_clear 27 = .ok (.getfield 57, 3) := by decide +kernel
theorem dX2_clear_30 : decode cX2_clear 30 = .ok (.invokevirtual 73, 3) := by decide +kernel
theorem dX2_clear_33 : decode cX2_clear 33 = .ok (.aload_n 0, 1) := by decide +kernel
theorem dX2_clear_34 : decode cX2_clear 34 = .ok (.getfield 61, 3) := by decide +kernel
theorem dX2_clear_37 : decode cX2_clear 37 = .ok (.invokevirtual 73, 3) := by decide +kernel
theorem dX2_clear_40 : decode cX2_clear 40 = .ok (.aload_n 0, 1) := by decide +kernel
theorem dX2_clear_41 : decode cX2_clear 41 = .ok (.getfield 64, 3) := by decide +kernel
theorem dX2_clear_44 : decode cX2_clear 44 = .ok (.invokevirtual 73, 3) := by decide +kernel
theorem dX2_clear_47 : decode cX2_clear 47 = .ok (.return_, 1) := by decide +kernel
theorem dX2_told_0 : decode cX2_told 0 = .ok (.iload_n 1, 1) := by decide +kernel
theorem dX2_told_1 : decode cX2_told 1 = .ok (.ifCond .lt 21, 3) := by decide +kernel
theorem dX2_told_4 : decode cX2_told 4 = .ok (.iload_n 1, 1) := by decide +kernel
theorem dX2_told_5 : decode cX2_told 5 = .ok (.aload_n 0, 1) := by decide +kernel
theorem dX2_told_6 : decode cX2_told 6 = .ok (.getfield 9, 3) := by decide +kernel
theorem dX2_told_9 : decode cX2_told 9 = .ok (.arraylength, 1) := by decide +kernel
theorem dX2_told_10 : decode cX2_told 10 = .ok (.if_icmp .ge 12, 3) := by decide +kernel
theorem dX2_told_13 : decode cX2_told 13 = .ok (.aload_n 0, 1) := by decide +kernel
theorem dX2_told_14 : decode cX2_told 14 = .ok (.getfield 9, 3) := by decide +kernel
theorem dX2_told_17 : decode cX2_told 17 = .ok (.iload_n 1, 1) := by decide +kernel
theorem dX2_told_18 : decode cX2_told 18 = .ok (.iaload, 1) := by decide +kernel
theorem dX2_told_19 : decode cX2_told 19 = .ok (.goto 4, 3) := by decide +kernel
theorem dX2_told_22 : decode cX2_told 22 = .ok (.iconst 0, 1) := by decide +kernel
theorem dX2_told_23 : decode cX2_told 23 = .ok (.ireturn, 1) := by decide +kernel
theorem dX2_has_0 : decode cX2_has 0 = .ok (.iload_n 1, 1) := by decide +kernel
theorem dX2_has_1 : decode cX2_has 1 = .ok (.ifCond .lt 30, 3) := by decide +kernel
theorem dX2_has_4 : decode cX2_has 4 = .ok (.iload_n 1, 1) := by decide +kernel
theorem dX2_has_5 : decode cX2_has 5 = .ok (.aload_n 0, 1) := by decide +kernel
theorem dX2_has_6 : decode cX2_has 6 = .ok (.getfield 9, 3) := by decide +kernel
theorem dX2_has_9 : decode cX2_has 9 = .ok (.arraylength, 1) := by decide +kernel
theorem dX2_has_10 : decode cX2_has 10 = .ok (.if_icmp .ge 21, 3) := by decide +kernel
theorem dX2_has_13 : decode cX2_has 13 = .ok (.iload_n 2, 1) := by decide +kernel
theorem dX2_has_14 : decode cX2_has 14 = .ok (.ifCond .lt 17, 3) := by decide +kernel
theorem dX2_has_17 : decode cX2_has 17 = .ok (.iload_n 2, 1) := by decide +kernel
theorem dX2_has_18 : decode cX2_has 18 = .ok (.aload_n 0, 1) := by decide +kernel
theorem dX2_has_19 : decode cX2_has 19 = .ok (.getfield 9, 3) := by decide +kernel
theorem dX2_has_22 : decode cX2_has 22 = .ok (.iload_n 1, 1) := by decide +kernel
theorem dX2_has_23 : decode cX2_has 23 = .ok (.iaload, 1) := by decide +kernel
theorem dX2_has_24 : decode cX2_has 24 = .ok (.if_icmp .ge 7, 3) := by decide +kernel
theorem dX2_has_27 : decode cX2_has 27 = .ok (.iconst 1, 1) := by decide +kernel
theorem dX2_has_28 : decode cX2_has 28 = .ok (.goto 4, 3) := by decide +kernel
theorem dX2_has_31 : decode cX2_has 31 = .ok (.iconst 0, 1) := by decide +kernel
theorem dX2_has_32 : decode cX2_has 32 = .ok (.ireturn, 1) := by decide +kernel
theorem dX2_find_0 : decode cX2_find 0 = .ok (.iload_n 1, 1) := by decide +kernel
theorem dX2_find_1 : decode cX2_find 1 = .ok (.ifCond .lt 12, 3) := by decide +kernel
theorem dX2_find_4 : decode cX2_find 4 = .ok (.iload_n 1, 1) := by decide +kernel
theorem dX2_find_5 : decode cX2_find 5 = .ok (.aload_n 0, 1) := by decide +kernel
theorem dX2_find_6 : decode cX2_find 6 = .ok (.getfield 24, 3) := by decide +kernel
theorem dX2_find_9 : decode cX2_find 9 = .ok (.arraylength, 1) := by decide +kernel
theorem dX2_find_10 : decode cX2_find 10 = .ok (.if_icmp .lt 5, 3) := by decide +kernel
theorem dX2_find_13 : decode cX2_find 13 = .ok (.iconst (-1), 1) := by decide +kernel
theorem dX2_find_14 : decode cX2_find 14 = .ok (.ireturn, 1) := by decide +kernel
theorem dX2_find_15 : decode cX2_find 15 = .ok (.iconst 0, 1) := by decide +kernel
theorem dX2_find_16 : decode cX2_find 16 = .ok (.istore_n 3, 1) := by decide +kernel
theorem dX2_find_17 : decode cX2_find 17 = .ok (.iload_n 3, 1) := by decide +kernel
theorem dX2_find_18 : decode cX2_find 18 = .ok (.aload_n 0, 1) := by decide +kernel
theorem dX2_find_19 : decode cX2_find 19 = .ok (.iload_n 1, 1) := by decide +kernel
theorem dX2_find_20 : decode cX2_find 20 = .ok (.invokevirtual 76, 3) := by decide +kernel
theorem dX2_find_23 : decode cX2_find 23 = .ok (.if_icmp .ge 34, 3) := by decide +kernel
theorem dX2_find_26 : decode cX2_find 26 = .ok (.iload_n 3, 1) := by decide +kernel
theorem dX2_find_27 : decode cX2_find 27 = .ok (.aload_n 0, 1) := by decide +kernel
theorem dX2_find_28 : decode cX2_find 28 = .ok (.getfield 24, 3) := by decide +kernel
theorem dX2_find_31 : decode cX2_find 31 = .ok (.iload_n 1, 1) := by decide +kernel
theorem dX2_find_32 : decode cX2_find 32 = .ok (.aaload, 1) := by decide +kernel
theorem dX2_find_33 : decode cX2_find 33 = .ok (.arraylength, 1) := by decide +kernel
theorem dX2_find_34 : decode cX2_find 34 = .ok (.if_icmp .ge 23, 3) := by decide +kernel
theorem dX2_find_37 : decode cX2_find 37 = .ok (.aload_n 0, 1) := by decide +kernel
theorem dX2_find_38 : decode cX2_find 38 = .ok (.getfield 24, 3) := by decide +kernel
theorem dX2_find_41 : decode cX2_find 41 = .ok (.iload_n 1, 1) := by decide +kernel
theorem dX2_find_42 : decode cX2_find 42 = .ok (.aaload, 1) := by decide +kernel
theorem dX2_find_43 : decode cX2_find 43 = .ok (.iload_n 3, 1) := by decide +kernel
theorem dX2_find_44 : decode cX2_find 44 = .ok (.iaload, 1) := by decide +kernel
theorem dX2_find_45 : decode cX2_find 45 = .ok (.iload_n 2, 1) := by decide +kernel
theorem dX2_find_46 : decode cX2_find 46 = .ok (.if_icmp .ne 5, 3) := by decide +kernel
theorem dX2_find_49 : decode cX2_find 49 = .ok (.iload_n 3, 1) := by decide +kernel
theorem dX2_find_50 : decode cX2_find 50 = .ok (.ireturn, 1) := by decide +kernel
theorem dX2_find_51 : decode cX2_find 51 = .ok (.iinc 3 1, 3) := by decide +kernel
theorem dX2_find_54 : decode cX2_find 54 = .ok (.goto (-37), 3) := by decide +kernel
theorem dX2_find_57 : decode cX2_find 57 = .ok (.iconst (-1), 1) := by decide +kernel
theorem dX2_find_58 : decode cX2_find 58 = .ok (.ireturn, 1) := by decide +kernel
theorem dX2_lawOf_0 : decode cX2_lawOf 0 = .ok (.iload_n 1, 1) := by decide +kernel
theorem dX2_lawOf_1 : decode cX2_lawOf 1 = .ok (.ifCond .ne 10, 3) := by decide +kernel
theorem dX2_lawOf_4 : decode cX2_lawOf 4 = .ok (.aload_n 0, 1) := by decide +kernel
theorem dX2_lawOf_5 : decode cX2_lawOf 5 = .ok (.getfield 57, 3) := by decide +kernel
theorem dX2_lawOf_8 : decode cX2_lawOf 8 = .ok (.goto 19, 3) := by decide +kernel
theorem dX2_lawOf_11 : decode cX2_lawOf 11 = .ok (.iload_n 1, 1) := by decide +kernel
theorem dX2_lawOf_12 : decode cX2_lawOf 12 = .ok (.iconst 1, 1) := by decide +kernel
theorem dX2_lawOf_13 : decode cX2_lawOf 13 = .ok (.if_icmp .ne 10, 3) := by decide +kernel
theorem dX2_lawOf_16 : decode cX2_lawOf 16 = .ok (.aload_n 0, 1) := by decide +kernel
theorem dX2_lawOf_17 : decode cX2_lawOf 17 = .ok (.getfield 61, 3) := by decide +kernel
theorem dX2_lawOf_20 : decode cX2_lawOf 20 = .ok (.goto 7, 3) := by decide +kernel
theorem dX2_lawOf_23 : decode cX2_lawOf 23 = .ok (.aload_n 0, 1) := by decide +kernel
theorem dX2_lawOf_24 : decode cX2_lawOf 24 = .ok (.getfield 64, 3) := by decide +kernel
theorem dX2_lawOf_27 : decode cX2_lawOf 27 = .ok (.areturn, 1) := by decide +kernel
theorem dX2_leads_0 : decode cX2_leads 0 = .ok (.iload_n 1, 1) := by decide +kernel
theorem dX2_leads_1 : decode cX2_leads 1 = .ok (.ifCond .lt 29, 3) := by decide +kernel
theorem dX2_leads_4 : decode cX2_leads 4 = .ok (.iload_n 1, 1) := by decide +kernel
theorem dX2_leads_5 : decode cX2_leads 5 = .ok (.aload_n 0, 1) := by decide +kernel
theorem dX2_leads_6 : decode cX2_leads 6 = .ok (.getfield 27, 3) := by decide +kernel
theorem dX2_leads_9 : decode cX2_leads 9 = .ok (.arraylength, 1) := by decide +kernel
theorem dX2_leads_10 : decode cX2_leads 10 = .ok (.if_icmp .ge 20, 3) := by decide +kernel
theorem dX2_leads_13 : decode cX2_leads 13 = .ok (.aload_n 0, 1) := by decide +kernel
theorem dX2_leads_14 : decode cX2_leads 14 = .ok (.getfield 27, 3) := by decide +kernel
theorem dX2_leads_17 : decode cX2_leads 17 = .ok (.iload_n 1, 1) := by decide +kernel
theorem dX2_leads_18 : decode cX2_leads 18 = .ok (.iaload, 1) := by decide +kernel
theorem dX2_leads_19 : decode cX2_leads 19 = .ok (.iconst 1, 1) := by decide +kernel
theorem dX2_leads_20 : decode cX2_leads 20 = .ok (.iload_n 2, 1) := by decide +kernel
theorem dX2_leads_21 : decode cX2_leads 21 = .ok (.ishl, 1) := by decide +kernel
theorem dX2_leads_22 : decode cX2_leads 22 = .ok (.iand, 1) := by decide +kernel
theorem dX2_leads_23 : decode cX2_leads 23 = .ok (.ifCond .eq 7, 3) := by decide +kernel
theorem dX2_leads_26 : decode cX2_leads 26 = .ok (.iconst 1, 1) := by decide +kernel
theorem dX2_leads_27 : decode cX2_leads 27 = .ok (.goto 4, 3) := by decide +kernel
theorem dX2_leads_30 : decode cX2_leads 30 = .ok (.iconst 0, 1) := by decide +kernel
theorem dX2_leads_31 : decode cX2_leads 31 = .ok (.ireturn, 1) := by decide +kernel
theorem dX2_nextTo_0 : decode cX2_nextTo 0 = .ok (.iconst 0, 1) := by decide +kernel
theorem dX2_nextTo_1 : decode cX2_nextTo 1 = .ok (.istore_n 2, 1) := by decide +kernel
theorem dX2_nextTo_2 : decode cX2_nextTo 2 = .ok (.iconst 0, 1) := by decide +kernel
theorem dX2_nextTo_3 : decode cX2_nextTo 3 = .ok (.istore_n 3, 1) := by decide +kernel
theorem dX2_nextTo_4 : decode cX2_nextTo 4 = .ok (.iload_n 3, 1) := by decide +kernel
theorem dX2_nextTo_5 : decode cX2_nextTo 5 = .ok (.aload_n 0, 1) := by decide +kernel
theorem dX2_nextTo_6 : decode cX2_nextTo 6 = .ok (.getfield 27, 3) := by decide +kernel
theorem dX2_nextTo_9 : decode cX2_nextTo 9 = .ok (.arraylength, 1) := by decide +kernel
theorem dX2_nextTo_10 : decode cX2_nextTo 10 = .ok (.if_icmp .ge 26, 3) := by decide +kernel
theorem dX2_nextTo_13 : decode cX2_nextTo 13 = .ok (.iload_n 1, 1) := by decide +kernel
theorem dX2_nextTo_14 : decode cX2_nextTo 14 = .ok (.iconst 1, 1) := by decide +kernel
theorem dX2_nextTo_15 : decode cX2_nextTo 15 = .ok (.iload_n 3, 1) := by decide +kernel
theorem dX2_nextTo_16 : decode cX2_nextTo 16 = .ok (.ishl, 1) := by decide +kernel
theorem dX2_nextTo_17 : decode cX2_nextTo 17 = .ok (.iand, 1) := by decide +kernel
theorem dX2_nextTo_18 : decode cX2_nextTo 18 = .ok (.ifCond .eq 12, 3) := by decide +kernel
theorem dX2_nextTo_21 : decode cX2_nextTo 21 = .ok (.iload_n 2, 1) := by decide +kernel
theorem dX2_nextTo_22 : decode cX2_nextTo 22 = .ok (.aload_n 0, 1) := by decide +kernel
theorem dX2_nextTo_23 : decode cX2_nextTo 23 = .ok (.getfield 27, 3) := by decide +kernel
theorem dX2_nextTo_26 : decode cX2_nextTo 26 = .ok (.iload_n 3, 1) := by decide +kernel
theorem dX2_nextTo_27 : decode cX2_nextTo 27 = .ok (.iaload, 1) := by decide +kernel
theorem dX2_nextTo_28 : decode cX2_nextTo 28 = .ok (.ior, 1) := by decide +kernel
theorem dX2_nextTo_29 : decode cX2_nextTo 29 = .ok (.istore_n 2, 1) := by decide +kernel
theorem dX2_nextTo_30 : decode cX2_nextTo 30 = .ok (.iinc 3 1, 3) := by decide +kernel
theorem dX2_nextTo_33 : decode cX2_nextTo 33 = .ok (.goto (-29), 3) := by decide +kernel
theorem dX2_nextTo_36 : decode cX2_nextTo 36 = .ok (.iload_n 2, 1) := by decide +kernel
theorem dX2_nextTo_37 : decode cX2_nextTo 37 = .ok (.ireturn, 1) := by decide +kernel
theorem dX2_firstBehind_0 : decode cX2_firstBehind 0 = .ok (.iconst 0, 1) := by decide +kernel
theorem dX2_firstBehind_1 : decode cX2_firstBehind 1 = .ok (.istore_n 2, 1) := by decide +kernel
theorem dX2_firstBehind_2 : decode cX2_firstBehind 2 = .ok (.iload_n 2, 1) := by decide +kernel
theorem dX2_firstBehind_3 : decode cX2_firstBehind 3 = .ok (.aload_n 0, 1) := by decide +kernel
theorem dX2_firstBehind_4 : decode cX2_firstBehind 4 = .ok (.iconst 0, 1) := by decide +kernel
theorem dX2_firstBehind_5 : decode cX2_firstBehind 5 = .ok (.invokevirtual 76, 3) := by decide +kernel
theorem dX2_firstBehind_8 : decode cX2_firstBehind 8 = .ok (.if_icmp .ge 20, 3) := by decide +kernel
theorem dX2_firstBehind_11 : decode cX2_firstBehind 11 = .ok (.aload_n 0, 1) := by decide +kernel
theorem dX2_firstBehind_12 : decode cX2_firstBehind 12 = .ok (.iload_n 1, 1) := by decide +kernel
theorem dX2_firstBehind_13 : decode cX2_firstBehind 13 = .ok (.iload_n 2, 1) := by decide +kernel
theorem dX2_firstBehind_14 : decode cX2_firstBehind 14 = .ok (.invokevirtual 80, 3) := by decide +kernel
theorem dX2_firstBehind_17 : decode cX2_firstBehind 17 = .ok (.ifCond .eq 5, 3) := by decide +kernel
theorem dX2_firstBehind_20 : decode cX2_firstBehind 20 = .ok (.iload_n 2, 1) := by decide +kernel
theorem dX2_firstBehind_21 : decode cX2_firstBehind 21 = .ok (.ireturn, 1) := by decide +kernel
theorem dX2_firstBehind_22 : decode cX2_firstBehind 22 = .ok (.iinc 2 1, 3) := by decide +kernel
theorem dX2_firstBehind_25 : decode cX2_firstBehind 25 = .ok (.goto (-23), 3) := by decide +kernel
theorem dX2_firstBehind_28 : decode cX2_firstBehind 28 = .ok (.iconst (-1), 1) := by decide +kernel
theorem dX2_firstBehind_29 : decode cX2_firstBehind 29 = .ok (.ireturn, 1) := by decide +kernel
theorem dX2_glassOf_0 : decode cX2_glassOf 0 = .ok (.aload_n 0, 1) := by decide +kernel
theorem dX2_glassOf_1 : decode cX2_glassOf 1 = .ok (.iconst 4, 1) := by decide +kernel
theorem dX2_glassOf_2 : decode cX2_glassOf 2 = .ok (.invokevirtual 76, 3) := by decide +kernel
theorem dX2_glassOf_5 : decode cX2_glassOf 5 = .ok (.istore_n 2, 1) := by decide +kernel
theorem dX2_glassOf_6 : decode cX2_glassOf 6 = .ok (.iload_n 2, 1) := by decide +kernel
theorem dX2_glassOf_7 : decode cX2_glassOf 7 = .ok (.ifCond .le 16, 3) := by decide +kernel
theorem dX2_glassOf_10 : decode cX2_glassOf 10 = .ok (.iload_n 2, 1) := by decide +kernel
theorem dX2_glassOf_11 : decode cX2_glassOf 11 = .ok (.aload_n 0, 1) := by decide +kernel
theorem dX2_glassOf_12 : decode cX2_glassOf 12 = .ok (.getfield 51, 3) := by decide +kernel
theorem dX2_glassOf_15 : decode cX2_glassOf 15 = .ok (.arraylength, 1) := by decide +kernel
theorem dX2_glassOf_16 : decode cX2_glassOf 16 = .ok (.if_icmp .gt 7, 3) := by decide +kernel
theorem dX2_glassOf_19 : decode cX2_glassOf 19 = .ok (.iload_n 1, 1) := by decide +kernel
theorem dX2_glassOf_20 : decode cX2_glassOf 20 = .ok (.ifCond .ge 6, 3) := by decide +kernel
theorem dX2_glassOf_23 : decode cX2_glassOf 23 = .ok (.bipush 50, 2) := by decide +kernel
theorem dX2_glassOf_25 : decode cX2_glassOf 25 = .ok (.ireturn, 1) := by decide +kernel
theorem dX2_glassOf_26 : decode cX2_glassOf 26 = .ok (.aload_n 0, 1) := by decide +kernel
theorem dX2_glassOf_27 : decode cX2_glassOf 27 = .ok (.getfield 51, 3) := by decide +kernel
theorem dX2_glassOf_30 : decode cX2_glassOf 30 = .ok (.iload_n 1, 1) := by decide +kernel
theorem dX2_glassOf_31 : decode cX2_glassOf 31 = .ok (.iload_n 2, 1) := by decide +kernel
theorem dX2_glassOf_32 : decode cX2_glassOf 32 = .ok (.irem, 1) := by decide +kernel
theorem dX2_glassOf_33 : decode cX2_glassOf 33 = .ok (.iaload, 1) := by decide +kernel
theorem dX2_glassOf_34 : decode cX2_glassOf 34 = .ok (.ireturn, 1) := by decide +kernel
