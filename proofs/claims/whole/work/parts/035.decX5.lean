theorem dX5_init_0 : decode cX5_init 0 = .ok (.aload_n 0, 1) := by decide +kernel
theorem dX5_init_1 : decode cX5_init 1 = .ok (.invokespecial 3, 3) := by decide +kernel
theorem dX5_init_4 : decode cX5_init 4 = .ok (.aload_n 0, 1) := by decide +kernel
theorem dX5_init_5 : decode cX5_init 5 = .ok (.iconst 0, 1) := by decide +kernel
theorem dX5_init_6 : decode cX5_init 6 = .ok (.putfield 9, 3) := by decide +kernel
theorem dX5_init_9 : decode cX5_init 9 = .ok (.aload_n 0, 1) := by decide +kernel
theorem dX5_init_10 : decode cX5_init 10 = .ok (.iconst (-1), 1) := by decide +kernel
theorem dX5_init_11 : decode cX5_init 11 = .ok (.putfield 15, 3) := by decide +kernel
theorem dX5_init_14 : decode cX5_init 14 = .ok (.aload_n 0, 1) := by decide +kernel
theorem dX5_init_15 : decode cX5_init 15 = .ok (.new 18, 3) := by decide +kernel
theorem dX5_init_18 : decode cX5_init 18 = .ok (.dup, 1) := by decide +kernel
theorem dX5_init_19 : decode cX5_init 19 = .ok (.invokespecial 20, 3) := by decide +kernel
theorem dX5_init_22 : decode cX5_init 22 = .ok (.putfield 21, 3) := by decide +kernel
theorem dX5_init_25 : decode cX5_init 25 = .ok (.aload_n 0, 1) := by decide +kernel
theorem dX5_init_26 : decode cX5_init 26 = .ok (.new 25, 3) := by decide +kernel
theorem dX5_init_29 : decode cX5_init 29 = .ok (.dup, 1) := by decide +kernel
theorem dX5_init_30 : decode cX5_init 30 = .ok (.invokespecial 27, 3) := by decide +kernel
theorem dX5_init_33 : decode cX5_init 33 = .ok (.putfield 28, 3) := by decide +kernel
theorem dX5_init_36 : decode cX5_init 36 = .ok (.aload_n 0, 1) := by decide +kernel
theorem dX5_init_37 : decode cX5_init 37 = .ok (.iconst 0, 1) := by decide +kernel
theorem dX5_init_38 : decode cX5_init 38 = .ok (.putfield 32, 3) := by decide +kernel
theorem dX5_init_41 : decode cX5_init 41 = .ok (.aload_n 0, 1) := by decide +kernel
theorem dX5_init_42 : decode cX5_init 42 = .ok (.bipush 72, 2) := by decide +kernel
theorem dX5_init_44 : decode cX5_init 44 = .ok (.newarray .int, 2) := by decide +kernel
theorem dX5_init_46 : decode cX5_init 46 = .ok (.putfield 35, 3) := by decide +kernel
theorem dX5_init_49 : decode cX5_init 49 = .ok (.aload_n 0, 1) := by decide +kernel
theorem dX5_init_50 : decode cX5_init 50 = .ok (.iconst 0, 1) := by decide +kernel
theorem dX5_init_51 : decode cX5_init 51 = .ok (.putfield 39, 3) := by decide +kernel
theorem dX5_init_54 : decode cX5_init 54 = .ok (.aload_n 0, 1) := by decide +kernel
theorem dX5_init_55 : decode cX5_init 55 = .ok (.iconst 0, 1) := by decide +kernel
theorem dX5_init_56 : decode cX5_init 56 = .ok (.putfield 42, 3) := by decide +kernel
theorem dX5_init_59 : decode cX5_init 59 = .ok (.return_, 1) := by decide +kernel
theorem dX5_read_0 : decode cX5_read 0 = .ok (.aload_n 0, 1) := by decide +kernel
theorem dX5_read_1 : decode cX5_read 1 = .ok (.iconst 0, 1) := by decide +kernel
theorem dX5_read_2 : decode cX5_read 2 = .ok (.putfield 9, 3) := by decide +kernel
theorem dX5_read_5 : decode cX5_read 5 = .ok (.aload_n 0, 1) := by decide +kernel
theorem dX5_read_6 : decode cX5_read 6 = .ok (.iconst (-1), 1) := by decide +kernel
theorem dX5_read_7 : decode cX5_read 7 = .ok (.putfield 15, 3) := by decide +kernel
theorem dX5_read_10 : decode cX5_read 10 = .ok (.aload_n 0, 1) := by decide +kernel
theorem dX5_read_11 : decode cX5_read 11 = .ok (.getfield 28, 3) := by decide +kernel
theorem dX5_read_14 : decode cX5_read 14 = .ok (.invokevirtual 45, 3) := by decide +kernel
theorem dX5_read_17 : decode cX5_read 17 = .ok (.aload_n 0, 1) := by decide +kernel
theorem dX5_read_18 : decode cX5_read 18 = .ok (.getfield 21, 3) := by decide +kernel
theorem dX5_read_21 : decode cX5_read 21 = .ok (.aload_n 1, 1) := by decide +kernel
theorem dX5_read_22 : decode cX5_read 22 = .ok (.iload_n 2, 1) := by decide +kernel
theorem dX5_read_23 : decode cX5_read 23 = .ok (.invokevirtual 48, 3) := by decide +kernel
theorem dX5_read_26 : decode cX5_read 26 = .ok (.iconst 0, 1) := by decide +kernel
theorem dX5_read_27 : decode cX5_read 27 = .ok (.istore_n 3, 1) := by decide +kernel
theorem dX5_read_28 : decode cX5_read 28 = .ok (.iload_n 3, 1) := by decide +kernel
theorem dX5_read_29 : decode cX5_read 29 = .ok (.sipush 700, 3) := by decide +kernel
theorem dX5_read_32 : decode cX5_read 32 = .ok (.if_icmp .gt 68, 3) := by decide +kernel
theorem dX5_read_35 : decode cX5_read 35 = .ok (.aload_n 0, 1) := by decide +kernel
theorem dX5_read_36 : decode cX5_read 36 = .ok (.getfield 21, 3) := by decide +kernel
theorem dX5_read_39 : decode cX5_read 39 = .ok (.getfield 52, 3) := by decide +kernel
theorem dX5_read_42 : decode cX5_read 42 = .ok (.bipush 22, 2) := by decide +kernel
theorem dX5_read_44 : decode cX5_read 44 = .ok (.if_icmp .eq 56, 3) := by decide +kernel
theorem dX5_read_47 : decode cX5_read 47 = .ok (.aload_n 0, 1) := by decide +kernel
theorem dX5_read_48 : decode cX5_read 48 = .ok (.invokevirtual 55, 3) := by decide +kernel
theorem dX5_read_51 : decode cX5_read 51 = .ok (.ifCond .ne 5, 3) := by decide +kernel
theorem dX5_read_54 : decode cX5_read 54 = .ok (.iconst 0, 1) := by decide +kernel
theorem dX5_read_55 : decode cX5_read 55 = .ok (.ireturn, 1) := by decide +kernel
theorem dX5_read_56 : decode cX5_read 56 = .ok (.aload_n 0, 1) := by decide +kernel
theorem dX5_read_57 : decode cX5_read 57 = .ok (.getfield 21, 3) := by decide +kernel
theorem dX5_read_60 : decode cX5_read 60 = .ok (.getfield 52, 3) := by decide +kernel
theorem dX5_read_63 : decode cX5_read 63 = .ok (.bipush 24, 2) := by decide +kernel
theorem dX5_read_65 : decode cX5_read 65 = .ok (.if_icmp .eq 9, 3) := by decide +kernel
theorem dX5_read_68 : decode cX5_read 68 = .ok (.aload_n 0, 1) := by decide +kernel
theorem dX5_read_69 : decode cX5_read 69 = .ok (.iconst 1, 1) := by decide +kernel
theorem dX5_read_70 : decode cX5_read 70 = .ok (.invokevirtual 59, 3) := by decide +kernel
theorem dX5_read_73 : decode cX5_read 73 = .ok (.ireturn, 1) := by decide +kernel
theorem dX5_read_74 : decode cX5_read 74 = .ok (.aload_n 0, 1) := by decide +kernel
theorem dX5_read_75 : decode cX5_read 75 = .ok (.getfield 28, 3) := by decide +kernel
theorem dX5_read_78 : decode cX5_read 78 = .ok (.dup, 1) := by decide +kernel
theorem dX5_read_79 : decode cX5_read 79 = .ok (.getfield 63, 3) := by decide +kernel
theorem dX5_read_82 : decode cX5_read 82 = .ok (.iconst 1, 1) := by decide +kernel
theorem dX5_read_83 : decode cX5_read 83 = .ok (.iadd, 1) := by decide +kernel
theorem dX5_read_84 : decode cX5_read 84 = .ok (.putfield 63, 3) := by decide +kernel
theorem dX5_read_87 : decode cX5_read 87 = .ok (.aload_n 0, 1) := by decide +kernel
theorem dX5_read_88 : decode cX5_read 88 = .ok (.getfield 21, 3) := by decide +kernel
theorem dX5_read_91 : decode cX5_read 91 = .ok (.invokevirtual 66, 3) := by decide +kernel
theorem dX5_read_94 : decode cX5_read 94 = .ok (.iinc 3 1, 3) := by decide +kernel
theorem dX5_read_97 : decode cX5_read 97 = .ok (.goto (-69), 3) := by decide +kernel
theorem dX5_read_100 : decode cX5_read 100 = .ok (.iconst 1, 1) := by decide +kernel
theorem dX5_read_101 : decode cX5_read 101 = .ok (.ireturn, 1) := by decide +kernel
theorem dX5_trade_0 : decode cX5_trade 0 = .ok (.aload_n 0, 1) := by decide +kernel
theorem dX5_trade_1 : decode cX5_trade 1 = .ok (.getfield 28, 3) := by decide +kernel
theorem dX5_trade_4 : decode cX5_trade 4 = .ok (.astore_n 2, 1) := by decide +kernel
theorem dX5_trade_5 : decode cX5_trade 5 = .ok (.aload_n 0, 1) := by decide +kernel
theorem dX5_trade_6 : decode cX5_trade 6 = .ok (.aload_n 1, 1) := by decide +kernel
theorem dX5_trade_7 : decode cX5_trade 7 = .ok (.putfield 28, 3) := by decide +kernel
theorem dX5_trade_10 : decode cX5_trade 10 = .ok (.aload_n 2, 1) := by decide +kernel
theorem dX5_trade_11 : decode cX5_trade 11 = .ok (.areturn, 1) := by decide +kernel
theorem dX5_fail_0 : decode cX5_fail 0 = .ok (.aload_n 0, 1) := by decide +kernel
theorem dX5_fail_1 : decode cX5_fail 1 = .ok (.iload_n 1, 1) := by decide +kernel
theorem dX5_fail_2 : decode cX5_fail 2 = .ok (.putfield 9, 3) := by decide +kernel
theorem dX5_fail_5 : decode cX5_fail 5 = .ok (.aload_n 0, 1) := by decide +kernel
theorem dX5_fail_6 : decode cX5_fail 6 = .ok (.aload_n 0, 1) := by decide +kernel
theorem dX5_fail_7 : decode cX5_fail 7 = .ok (.getfield 21, 3) := by decide +kernel
theorem dX5_fail_10 : decode cX5_fail 10 = .ok (.getfield 69, 3) := by decide +kernel
theorem dX5_fail_13 : decode cX5_fail 13 = .ok (.putfield 15, 3) := by decide +kernel
theorem dX5_fail_16 : decode cX5_fail 16 = .ok (.iconst 0, 1) := by decide +kernel
theorem dX5_fail_17 : decode cX5_fail 17 = .ok (.ireturn, 1) := by decide +kernel
theorem dX5_readLine_0 : decode cX5_readLine 0 = .ok (.aload_n 0, 1) := by decide +kernel
theorem dX5_readLine_1 : decode cX5_readLine 1 = .ok (.getfield 21, 3) := by decide +kernel
theorem dX5_readLine_4 : decode cX5_readLine 4 = .ok (.getfield 52, 3) := by decide +kernel
theorem dX5_readLine_7 : decode cX5_readLine 7 = .ok (.istore_n 1, 1) := by decide +kernel
theorem dX5_readLine_8 : decode cX5_readLine 8 = .ok (.iload_n 1, 1) := by decide +kernel
theorem dX5_readLine_9 : decode cX5_readLine 9 = .ok (.bipush 6, 2) := by decide +kernel
theorem dX5_readLine_11 : decode cX5_readLine 11 = .ok (.if_icmp .ne 8, 3) := by decide +kernel
theorem dX5_readLine_14 : decode cX5_readLine 14 = .ok (.aload_n 0, 1) := by decide +kernel
theorem dX5_readLine_15 : decode cX5_readLine 15 = .ok (.invokevirtual 70, 3) := by decide +kernel
theorem dX5_readLine_18 : decode cX5_readLine 18 = .ok (.ireturn, 1) := by decide +kernel
theorem dX5_readLine_19 : decode cX5_readLine 19 = .ok (.iload_n 1, 1) := by decide +kernel
theorem dX5_readLine_20 : decode cX5_readLine 20 = .ok (.ifCond .lt 8, 3) := by decide +kernel
theorem dX5_readLine_23 : decode cX5_readLine 23 = .ok (.iload_n 1, 1) := by decide +kernel
theorem dX5_readLine_24 : decode cX5_readLine 24 = .ok (.iconst 5, 1) := by decide +kernel
theorem dX5_readLine_25 : decode cX5_readLine 25 = .ok (.if_icmp .le 9, 3) := by decide +kernel
theorem dX5_readLine_28 : decode cX5_readLine 28 = .ok (.aload_n 0, 1) := by decide +kernel
theorem dX5_readLine_29 : decode cX5_readLine 29 = .ok (.iconst 1, 1) := by decide +kernel
theorem dX5_readLine_30 : decode cX5_readLine 30 = .ok (.invokevirtual 59, 3) := by decide +kernel
theorem dX5_readLine_33 : decode cX5_readLine 33 = .ok (.ireturn, 1) := by decide +kernel
theorem dX5_readLine_34 : decode cX5_readLine 34 = .ok (.aload_n 0, 1) := by decide +kernel
theorem dX5_readLine_35 : decode cX5_readLine 35 = .ok (.getfield 28, 3) := by decide +kernel
theorem dX5_readLine_38 : decode cX5_readLine 38 = .ok (.iload_n 1, 1) := by decide +kernel
theorem dX5_readLine_39 : decode cX5_readLine 39 = .ok (.invokevirtual 73, 3) := by decide +kernel
theorem dX5_readLine_42 : decode cX5_readLine 42 = .ok (.getstatic 77, 3) := by decide +kernel
theorem dX5_readLine_45 : decode cX5_readLine 45 = .ok (.iload_n 1, 1) := by decide +kernel
theorem dX5_readLine_46 : decode cX5_readLine 46 = .ok (.iaload, 1) := by decide +kernel
theorem dX5_readLine_47 : decode cX5_readLine 47 = .ok (.if_icmp .lt 18, 3) := by decide +kernel
theorem dX5_readLine_50 : decode cX5_readLine 50 = .ok (.aload_n 0, 1) := by decide +kernel
theorem dX5_readLine_51 : decode cX5_readLine 51 = .ok (.iload_n 1, 1) := by decide +kernel
theorem dX5_readLine_52 : decode cX5_readLine 52 = .ok (.iconst 5, 1) := by decide +kernel
theorem dX5_readLine_53 : decode cX5_readLine 53 = .ok (.if_icmp .ne 7, 3) := by decide +kernel
theorem dX5_readLine_56 : decode cX5_readLine 56 = .ok (.iconst 3, 1) := by decide +kernel
theorem dX5_readLine_57 : decode cX5_readLine 57 = .ok (.goto 4, 3) := by decide +kernel
theorem dX5_readLine_60 : decode cX5_readLine 60 = .ok (.iconst 2, 1) := by decide +kernel
theorem dX5_readLine_61 : decode cX5_readLine 61 = .ok (.invokevirtual 59, 3) := by decide +kernel
theorem dX5_readLine_64 : decode cX5_readLine 64 = .ok (.ireturn, 1) := by decide +kernel
theorem dX5_readLine_65 : decode cX5_readLine 65 = .ok (.aload_n 0, 1) := by decide +kernel
theorem dX5_readLine_66 : decode cX5_readLine 66 = .ok (.getfield 21, 3) := by decide +kernel
theorem dX5_readLine_69 : decode cX5_readLine 69 = .ok (.invokevirtual 66, 3) := by decide +kernel
theorem dX5_readLine_72 : decode cX5_readLine 72 = .ok (.aload_n 0, 1) := by decide +kernel
theorem dX5_readLine_73 : decode cX5_readLine 73 = .ok (.iload_n 1, 1) := by decide +kernel
theorem dX5_readLine_74 : decode cX5_readLine 74 = .ok (.aload_n 0, 1) := by decide +kernel
theorem dX5_readLine_75 : decode cX5_readLine 75 = .ok (.getfield 28, 3) := by decide +kernel
theorem dX5_readLine_78 : decode cX5_readLine 78 = .ok (.iload_n 1, 1) := by decide +kernel
theorem dX5_readLine_79 : decode cX5_readLine 79 = .ok (.invokevirtual 73, 3) := by decide +kernel
theorem dX5_readLine_82 : decode cX5_readLine 82 = .ok (.invokevirtual 80, 3) := by decide +kernel
theorem dX5_readLine_85 : decode cX5_readLine 85 = .ok (.ifCond .ne 5, 3) := by decide +kernel
theorem dX5_readLine_88 : decode cX5_readLine 88 = .ok (.iconst 0, 1) := by decide +kernel
theorem dX5_readLine_89 : decode cX5_readLine 89 = .ok (.ireturn, 1) := by decide +kernel
theorem dX5_readLine_90 : decode cX5_readLine 90 = .ok (.aload_n 0, 1) := by decide +kernel
theorem dX5_readLine_91 : decode cX5_readLine 91 = .ok (.getfield 28, 3) := by decide +kernel
theorem dX5_readLine_94 : decode cX5_readLine 94 = .ok (.getfield 84, 3) := by decide +kernel
theorem dX5_readLine_97 : decode cX5_readLine 97 = .ok (.iload_n 1, 1) := by decide +kernel
theorem dX5_readLine_98 : decode cX5_readLine 98 = .ok (.dup2, 1) := by decide +kernel
theorem dX5_readLine_99 : decode cX5_readLine 99 = .ok (.iaload, 1) := by decide +kernel
theorem dX5_readLine_100 : decode cX5_readLine 100 = .ok (.iconst 1, 1) := by decide +kernel
theorem dX5_readLine_101 : decode cX5_readLine 101 = .ok (.iadd, 1) := by decide +kernel
theorem dX5_readLine_102 : decode cX5_readLine 102 = .ok (.iastore, 1) := by decide +kernel
theorem dX5_readLine_103 : decode cX5_readLine 103 = .ok (.iconst 1, 1) := by decide +kernel
theorem dX5_readLine_104 : decode cX5_readLine 104 = .ok (.ireturn, 1) := by decide +kernel
theorem dX5_readRest_0 : decode cX5_readRest 0 = .ok (.iload_n 1, 1) := by decide +kernel
theorem dX5_readRest_1 : decode cX5_readRest 1 = .ok (.tableswitch 74 0 4 #[35, 42, 47, 53, 59], 35) := by decide +kernel
theorem dX5_readRest_36 : decode cX5_readRest 36 = .ok (.aload_n 0, 1) := by decide +kernel
theorem dX5_readRest_37 : decode cX5_readRest 37 = .ok (.iconst 0, 1) := by decide +kernel
theorem dX5_readRest_38 : decode cX5_readRest 38 = .ok (.iload_n 2, 1) := by decide +kernel
theorem dX5_readRest_39 : decode cX5_readRest 39 = .ok (.invokevirtual 87, 3) := by decide +kernel
theorem dX5_readRest_42 : decode cX5_readRest 42 = .ok (.ireturn, 1) := by decide +kernel
theorem dX5_readRest_43 : decode cX5_readRest 43 = .ok (.aload_n 0, 1) := by decide +kernel
theorem dX5_readRest_44 : decode cX5_readRest 44 = .ok (.invokevirtual 90, 3) := by decide +kernel
theorem dX5_readRest_47 : decode cX5_readRest 47 = .ok (.ireturn, 1) := by decide +kernel
theorem dX5_readRest_48 : decode cX5_readRest 48 = .ok (.aload_n 0, 1) := by decide +kernel
theorem dX5_readRest_49 : decode cX5_readRest 49 = .ok (.iload_n 2, 1) := by decide +kernel
theorem dX5_readRest_50 : decode cX5_readRest 50 = .ok (.invokevirtual 93, 3) := by decide +kernel
theorem dX5_readRest_53 : decode cX5_readRest 53 = .ok (.ireturn, 1) := by decide +kernel
theorem dX5_readRest_54 : decode cX5_readRest 54 = .ok (.aload_n 0, 1) := by decide +kernel
theorem dX5_readRest_55 : decode cX5_readRest 55 = .ok (.iload_n 2, 1) := by decide +kernel
theorem dX5_readRest_56 : decode cX5_readRest 56 = .ok (.invokevirtual 96, 3) := by decide +kernel
theorem dX5_readRest_59 : decode cX5_readRest 59 = .ok (.ireturn, 1) := by decide +kernel
theorem dX5_readRest_60 : decode cX5_readRest 60 = .ok (.aload_n 0, 1) := by decide +kernel
theorem dX5_readRest_61 : decode cX5_readRest 61 = .ok (.aload_n 0, 1) := by decide +kernel
theorem dX5_readRest_62 : decode cX5_readRest 62 = .ok (.getfield 28, 3) := by decide +kernel
theorem dX5_readRest_65 : decode cX5_readRest 65 = .ok (.getfield 99, 3) := by decide +kernel
theorem dX5_readRest_68 : decode cX5_readRest 68 = .ok (.iload_n 2, 1) := by decide +kernel
theorem dX5_readRest_69 : decode cX5_readRest 69 = .ok (.bipush 99, 2) := by decide +kernel
theorem dX5_readRest_71 : decode cX5_readRest 71 = .ok (.invokevirtual 102, 3) := by decide +kernel
theorem dX5_readRest_74 : decode cX5_readRest 74 = .ok (.ireturn, 1) := by decide +kernel
theorem dX5_readRest_75 : decode cX5_readRest 75 = .ok (.aload_n 0, 1) := by decide +kernel
theorem dX5_readRest_76 : decode cX5_readRest 76 = .ok (.ldc 106, 2) := by decide +kernel
theorem dX5_readRest_78 : decode cX5_readRest 78 = .ok (.invokevirtual 107, 3) := by decide +kernel
theorem dX5_readRest_81 : decode cX5_readRest 81 = .ok (.ireturn, 1) := by decide +kernel
theorem dX5_readName_0 : decode cX5_readName 0 = .ok (.aload_n 0, 1) := by decide +kernel
theorem dX5_readName_1 : decode cX5_readName 1 = .ok (.getfield 21, 3) := by decide +kernel
theorem dX5_readName_4 : decode cX5_readName 4 = .ok (.getfield 52, 3) := by decide +kernel
theorem dX5_readName_7 : decode cX5_readName 7 = .ok (.bipush 20, 2) := by decide +kernel
theorem dX5_readName_9 : decode cX5_readName 9 = .ok (.if_icmp .eq 9, 3) := by decide +kernel
theorem dX5_readName_12 : decode cX5_readName 12 = .ok (.aload_n 0, 1) := by decide +kernel
theorem dX5_readName_13 : decode cX5_readName 13 = .ok (.iconst 1, 1) := by decide +kernel
theorem dX5_readName_14 : decode cX5_readName 14 = .ok (.invokevirtual 59, 3) := by decide +kernel
theorem dX5_readName_17 : decode cX5_readName 17 = .ok (.ireturn, 1) := by decide +kernel
theorem dX5_readName_18 : decode cX5_readName 18 = .ok (.aload_n 0, 1) := by decide +kernel
theorem dX5_readName_19 : decode cX5_readName 19 = .ok (.getfield 28, 3) := by decide +kernel
theorem dX5_readName_22 : decode cX5_readName 22 = .ok (.iload_n 1, 1) := by decide +kernel
theorem dX5_readName_23 : decode cX5_readName 23 = .ok (.aload_n 0, 1) := by decide +kernel
theorem dX5_readName_24 : decode cX5_readName 24 = .ok (.getfield 21, 3) := by decide +kernel
theorem dX5_readName_27 : decode cX5_readName 27 = .ok (.getfield 110, 3) := by decide +kernel
theorem dX5_readName_30 : decode cX5_readName 30 = .ok (.invokevirtual 113, 3) := by decide +kernel
theorem dX5_readName_33 : decode cX5_readName 33 = .ok (.iconst (-1), 1) := by decide +kernel
theorem dX5_readName_34 : decode cX5_readName 34 = .ok (.if_icmp .eq 9, 3) := by decide +kernel
theorem dX5_readName_37 : decode cX5_readName 37 = .ok (.aload_n 0, 1) := by decide +kernel
theorem dX5_readName_38 : decode cX5_readName 38 = .ok (.iconst 3, 1) := by decide +kernel
theorem dX5_readName_39 : decode cX5_readName 39 = .ok (.invokevirtual 59, 3) := by decide +kernel
theorem dX5_readName_42 : decode cX5_readName 42 = .ok (.ireturn, 1) := by decide +kernel
theorem dX5_readName_43 : decode cX5_readName 43 = .ok (.iload_n 2, 1) := by decide +kernel
theorem dX5_readName_44 : decode cX5_readName 44 = .ok (.ifCond .lt 35, 3) := by decide +kernel
theorem dX5_readName_47 : decode cX5_readName 47 = .ok (.iload_n 2, 1) := by decide +kernel
theorem dX5_readName_48 : decode cX5_readName 48 = .ok (.aload_n 0, 1) := by decide +kernel
theorem dX5_readName_49 : decode cX5_readName 49 = .ok (.getfield 28, 3) := by decide +kernel
theorem dX5_readName_52 : decode cX5_readName 52 = .ok (.getfield 117, 3) := by decide +kernel
theorem dX5_readName_55 : decode cX5_readName 55 = .ok (.iload_n 1, 1) := by decide +kernel
theorem dX5_readName_56 : decode cX5_readName 56 = .ok (.aaload, 1) := by decide +kernel
theorem dX5_readName_57 : decode cX5_readName 57 = .ok (.arraylength, 1) := by decide +kernel
theorem dX5_readName_58 : decode cX5_readName 58 = .ok (.if_icmp .ge 21, 3) := by decide +kernel
theorem dX5_readName_61 : decode cX5_readName 61 = .ok (.aload_n 0, 1) := by decide +kernel
theorem dX5_readName_62 : decode cX5_readName 62 = .ok (.getfield 28, 3) := by decide +kernel
theorem dX5_readName_65 : decode cX5_readName 65 = .ok (.getfield 117, 3) := by decide +kernel
theorem dX5_readName_68 : decode cX5_readName 68 = .ok (.iload_n 1, 1) := by decide +kernel
theorem dX5_readName_69 : decode cX5_readName 69 = .ok (.aaload, 1) := by decide +kernel
theorem dX5_readName_70 : decode cX5_readName 70 = .ok (.iload_n 2, 1) := by decide +kernel
theorem dX5_readName_71 : decode cX5_readName 71 = .ok (.aload_n 0, 1) := by decide +kernel
theorem dX5_readName_72 : decode cX5_readName 72 = .ok (.getfield 21, 3) := by decide +kernel
theorem dX5_readName_75 : decode cX5_readName 75 = .ok (.getfield 110, 3) := by decide +kernel
theorem dX5_readName_78 : decode cX5_readName 78 = .ok (.iastore, 1) := by decide +kernel
theorem dX5_readName_79 : decode cX5_readName 79 = .ok (.aload_n 0, 1) := by decide +kernel
theorem dX5_readName_80 : decode cX5_readName 80 = .ok (.getfield 21, 3) := by decide +kernel
theorem dX5_readName_83 : decode cX5_readName 83 = .ok (.invokevirtual 66, 3) := by decide +kernel
theorem dX5_readName_86 : decode cX5_readName 86 = .ok (.iconst 1, 1) := by decide +kernel
theorem dX5_readName_87 : decode cX5_readName 87 = .ok (.ireturn, 1) := by decide +kernel
theorem dX5_readRoom_0 : decode cX5_readRoom 0 = .ok (.aload_n 0, 1) := by decide +kernel
theorem dX5_readRoom_1 : decode cX5_readRoom 1 = .ok (.getfield 21, 3) := by decide +kernel
theorem dX5_readRoom_4 : decode cX5_readRoom 4 = .ok (.getfield 52, 3) := by decide +kernel
theorem dX5_readRoom_7 : decode cX5_readRoom 7 = .ok (.bipush 20, 2) := by decide +kernel
theorem dX5_readRoom_9 : decode cX5_readRoom 9 = .ok (.if_icmp .eq 9, 3) := by decide +kernel
theorem dX5_readRoom_12 : decode cX5_readRoom 12 = .ok (.aload_n 0, 1) := by decide +kernel
theorem dX5_readRoom_13 : decode cX5_readRoom 13 = .ok (.iconst 1, 1) := by decide +kernel
theorem dX5_readRoom_14 : decode cX5_readRoom 14 = .ok (.invokevirtual 59, 3) := by decide +kernel
theorem dX5_readRoom_17 : decode cX5_readRoom 17 = .ok (.ireturn, 1) := by decide +kernel
theorem dX5_readRoom_18 : decode cX5_readRoom 18 = .ok (.aload_n 0, 1) := by decide +kernel
theorem dX5_readRoom_19 : decode cX5_readRoom 19 = .ok (.aload_n 0, 1) := by decide +kernel
theorem dX5_readRoom_20 : decode cX5_readRoom 20 = .ok (.getfield 28, 3) := by decide +kernel
theorem dX5_readRoom_23 : decode cX5_readRoom 23 = .ok (.iconst 0, 1) := by decide +kernel
theorem dX5_readRoom_24 : decode cX5_readRoom 24 = .ok (.aload_n 0, 1) := by decide +kernel
theorem dX5_readRoom_25 : decode cX5_readRoom 25 = .ok (.getfield 21, 3) := by decide +kernel
theorem dX5_readRoom_28 : decode cX5_readRoom 28 = .ok (.getfield 110, 3) := by decide +kernel
theorem dX5_readRoom_31 : decode cX5_readRoom 31 = .ok (.invokevirtual 113, 3) := by decide +kernel
theorem dX5_readRoom_34 : decode cX5_readRoom 34 = .ok (.putfield 32, 3) := by decide +kernel
theorem dX5_readRoom_37 : decode cX5_readRoom 37 = .ok (.aload_n 0, 1) := by decide +kernel
theorem dX5_readRoom_38 : decode cX5_readRoom 38 = .ok (.getfield 32, 3) := by decide +kernel
theorem dX5_readRoom_41 : decode cX5_readRoom 41 = .ok (.iconst (-1), 1) := by decide +kernel
theorem dX5_readRoom_42 : decode cX5_readRoom 42 = .ok (.if_icmp .ne 9, 3) := by decide +kernel
theorem dX5_readRoom_45 : decode cX5_readRoom 45 = .ok (.aload_n 0, 1) := by decide +kernel
theorem dX5_readRoom_46 : decode cX5_readRoom 46 = .ok (.iconst 4, 1) := by decide +kernel
theorem dX5_readRoom_47 : decode cX5_readRoom 47 = .ok (.invokevirtual 59, 3) := by decide +kernel
theorem dX5_readRoom_50 : decode cX5_readRoom 50 = .ok (.ireturn, 1) := by decide +kernel
theorem dX5_readRoom_51 : decode cX5_readRoom 51 = .ok (.aload_n 0, 1) := by decide +kernel
theorem dX5_readRoom_52 : decode cX5_readRoom 52 = .ok (.getfield 21, 3) := by decide +kernel
theorem dX5_readRoom_55 : decode cX5_readRoom 55 = .ok (.invokevirtual 66, 3) := by decide +kernel
theorem dX5_readRoom_58 : decode cX5_readRoom 58 = .ok (.iconst 1, 1) := by decide +kernel
theorem dX5_readRoom_59 : decode cX5_readRoom 59 = .ok (.ireturn, 1) := by decide +kernel
theorem dX5_readNumber_0 : decode cX5_readNumber 0 = .ok (.aload_n 0, 1) := by decide +kernel
theorem dX5_readNumber_1 : decode cX5_readNumber 1 = .ok (.getfield 21, 3) := by decide +kernel
theorem dX5_readNumber_4 : decode cX5_readNumber 4 = .ok (.getfield 52, 3) := by decide +kernel
theorem dX5_readNumber_7 : decode cX5_readNumber 7 = .ok (.bipush 21, 2) := by decide +kernel
theorem dX5_readNumber_9 : decode cX5_readNumber 9 = .ok (.if_icmp .eq 9, 3) := by decide +kernel
theorem dX5_readNumber_12 : decode cX5_readNumber 12 = .ok (.aload_n 0, 1) := by decide +kernel
theorem dX5_readNumber_13 : decode cX5_readNumber 13 = .ok (.iconst 1, 1) := by decide +kernel
theorem dX5_readNumber_14 : decode cX5_readNumber 14 = .ok (.invokevirtual 59, 3) := by decide +kernel
theorem dX5_readNumber_17 : decode cX5_readNumber 17 = .ok (.ireturn, 1) := by decide +kernel
theorem dX5_readNumber_18 : decode cX5_readNumber 18 = .ok (.aload_n 0, 1) := by decide +kernel
theorem dX5_readNumber_19 : decode cX5_readNumber 19 = .ok (.getfield 21, 3) := by decide +kernel
theorem dX5_readNumber_22 : decode cX5_readNumber 22 = .ok (.getfield 110, 3) := by decide +kernel
theorem dX5_readNumber_25 : decode cX5_readNumber 25 = .ok (.iload_n 1, 1) := by decide +kernel
theorem dX5_readNumber_26 : decode cX5_readNumber 26 = .ok (.if_icmp .le 9, 3) := by decide +kernel
theorem dX5_readNumber_29 : decode cX5_readNumber 29 = .ok (.aload_n 0, 1) := by decide +kernel
theorem dX5_readNumber_30 : decode cX5_readNumber 30 = .ok (.iconst 2, 1) := by decide +kernel
theorem dX5_readNumber_31 : decode cX5_readNumber 31 = .ok (.invokevirtual 59, 3) := by decide +kernel
theorem dX5_readNumber_34 : decode cX5_readNumber 34 = .ok (.ireturn, 1) := by decide +kernel
theorem dX5_readNumber_35 : decode cX5_readNumber 35 = .ok (.aload_n 0, 1) := by decide +kernel
theorem dX5_readNumber_36 : decode cX5_readNumber 36 = .ok (.aload_n 0, 1) := by decide +kernel
theorem dX5_readNumber_37 : decode cX5_readNumber 37 = .ok (.getfield 21, 3) := by decide +kernel
theorem dX5_readNumber_40 : decode cX5_readNumber 40 = .ok (.getfield 110, 3) := by decide +kernel
theorem dX5_readNumber_43 : decode cX5_readNumber 43 = .ok (.putfield 32, 3) := by decide +kernel
theorem dX5_readNumber_46 : decode cX5_readNumber 46 = .ok (.aload_n 0, 1) := by decide +kernel
theorem dX5_readNumber_47 : decode cX5_readNumber 47 = .ok (.getfield 21, 3) := by decide +kernel
theorem dX5_readNumber_50 : decode cX5_readNumber 50 = .ok (.invokevirtual 66, 3) := by decide +kernel
theorem dX5_readNumber_53 : decode cX5_readNumber 53 = .ok (.iconst 1, 1) := by decide +kernel
theorem dX5_readNumber_54 : decode cX5_readNumber 54 = .ok (.ireturn, 1) := by decide +kernel
theorem dX5_readInto_0 : decode cX5_readInto 0 = .ok (.aload_n 0, 1) := by decide +kernel
theorem dX5_readInto_1 : decode cX5_readInto 1 = .ok (.iload_n 3, 1) := by decide +kernel
theorem dX5_readInto_2 : decode cX5_readInto 2 = .ok (.invokevirtual 107, 3) := by decide +kernel
theorem dX5_readInto_5 : decode cX5_readInto 5 = .ok (.ifCond .ne 5, 3) := by decide +kernel
theorem dX5_readInto_8 : decode cX5_readInto 8 = .ok (.iconst 0, 1) := by decide +kernel
theorem dX5_readInto_9 : decode cX5_readInto 9 = .ok (.ireturn, 1) := by decide +kernel
theorem dX5_readInto_10 : decode cX5_readInto 10 = .ok (.iload_n 2, 1) := by decide +kernel
theorem dX5_readInto_11 : decode cX5_readInto 11 = .ok (.ifCond .lt 16, 3) := by decide +kernel
theorem dX5_readInto_14 : decode cX5_readInto 14 = .ok (.iload_n 2, 1) := by decide +kernel
theorem dX5_readInto_15 : decode cX5_readInto 15 = .ok (.aload_n 1, 1) := by decide +kernel
theorem dX5_readInto_16 : decode cX5_readInto 16 = .ok (.arraylength, 1) := by decide +kernel
theorem dX5_readInto_17 : decode cX5_readInto 17 = .ok (.if_icmp .ge 10, 3) := by decide +kernel
theorem dX5_readInto_20 : decode cX5_readInto 20 = .ok (.aload_n 1, 1) := by decide +kernel
theorem dX5_readInto_21 : decode cX5_readInto 21 = .ok (.iload_n 2, 1) := by decide +kernel
theorem dX5_readInto_22 : decode cX5_readInto 22 = .ok (.aload_n 0, 1) := by decide +kernel
theorem dX5_readInto_23 : decode cX5_readInto 23 = .ok (.getfield 32, 3) := by decide +kernel
theorem dX5_readInto_26 : decode cX5_readInto 26 = .ok (.iastore, 1) := by decide +kernel
theorem dX5_readInto_27 : decode cX5_readInto 27 = .ok (.iconst 1, 1) := by decide +kernel
theorem dX5_readInto_28 : decode cX5_readInto 28 = .ok (.ireturn, 1) := by decide +kernel
theorem dX5_readDoor_0 : decode cX5_readDoor 0 = .ok (.aload_n 0, 1) := by decide +kernel
theorem dX5_readDoor_1 : decode cX5_readDoor 1 = .ok (.invokevirtual 121, 3) := by decide +kernel
theorem dX5_readDoor_4 : decode cX5_readDoor 4 = .ok (.ifCond .ne 5, 3) := by decide +kernel
theorem dX5_readDoor_7 : decode cX5_readDoor 7 = .ok (.iconst 0, 1) := by decide +kernel
theorem dX5_readDoor_8 : decode cX5_readDoor 8 = .ok (.ireturn, 1) := by decide +kernel
theorem dX5_readDoor_9 : decode cX5_readDoor 9 = .ok (.aload_n 0, 1) := by decide +kernel
theorem dX5_readDoor_10 : decode cX5_readDoor 10 = .ok (.getfield 32, 3) := by decide +kernel
theorem dX5_readDoor_13 : decode cX5_readDoor 13 = .ok (.istore_n 1, 1) := by decide +kernel
theorem dX5_readDoor_14 : decode cX5_readDoor 14 = .ok (.aload_n 0, 1) := by decide +kernel
theorem dX5_readDoor_15 : decode cX5_readDoor 15 = .ok (.getfield 21, 3) := by decide +kernel
theorem dX5_readDoor_18 : decode cX5_readDoor 18 = .ok (.getfield 52, 3) := by decide +kernel
theorem dX5_readDoor_21 : decode cX5_readDoor 21 = .ok (.bipush 20, 2) := by decide +kernel
theorem dX5_readDoor_23 : decode cX5_readDoor 23 = .ok (.if_icmp .eq 9, 3) := by decide +kernel
theorem dX5_readDoor_26 : decode cX5_readDoor 26 = .ok (.aload_n 0, 1) := by decide +kernel
theorem dX5_readDoor_27 : decode cX5_readDoor 27 = .ok (.iconst 1, 1) := by decide +kernel
theorem dX5_readDoor_28 : decode cX5_readDoor 28 = .ok (.invokevirtual 59, 3) := by decide +kernel
theorem dX5_readDoor_31 : decode cX5_readDoor 31 = .ok (.ireturn, 1) := by decide +kernel
theorem dX5_readDoor_32 : decode cX5_readDoor 32 = .ok (.aload_n 0, 1) := by decide +kernel
theorem dX5_readDoor_33 : decode cX5_readDoor 33 = .ok (.getfield 28, 3) := by decide +kernel
theorem dX5_readDoor_36 : decode cX5_readDoor 36 = .ok (.iconst 0, 1) := by decide +kernel
theorem dX5_readDoor_37 : decode cX5_readDoor 37 = .ok (.aload_n 0, 1) := by decide +kernel
theorem dX5_readDoor_38 : decode cX5_readDoor 38 = .ok (.getfield 21, 3) := by decide +kernel
theorem dX5_readDoor_41 : decode cX5_readDoor 41 = .ok (.getfield 110, 3) := by decide +kernel
theorem dX5_readDoor_44 : decode cX5_readDoor 44 = .ok (.invokevirtual 113, 3) := by decide +kernel
theorem dX5_readDoor_47 : decode cX5_readDoor 47 = .ok (.istore_n 2, 1) := by decide +kernel
theorem dX5_readDoor_48 : decode cX5_readDoor 48 = .ok (.iload_n 2, 1) := by decide +kernel
theorem dX5_readDoor_49 : decode cX5_readDoor 49 = .ok (.iconst (-1), 1) := by decide +kernel
theorem dX5_readDoor_50 : decode cX5_readDoor 50 = .ok (.if_icmp .ne 9, 3) := by decide +kernel
theorem dX5_readDoor_53 : decode cX5_readDoor 53 = .ok (.aload_n 0, 1) := by decide +kernel
theorem dX5_readDoor_54 : decode cX5_readDoor 54 = .ok (.iconst 4, 1) := by decide +kernel
theorem dX5_readDoor_55 : decode cX5_readDoor 55 = .ok (.invokevirtual 59, 3) := by decide +kernel
theorem dX5_readDoor_58 : decode cX5_readDoor 58 = .ok (.ireturn, 1) := by decide +kernel
theorem dX5_readDoor_59 : decode cX5_readDoor 59 = .ok (.iload_n 1, 1) := by decide +kernel
theorem dX5_readDoor_60 : decode cX5_readDoor 60 = .ok (.iload_n 2, 1) := by decide +kernel
theorem dX5_readDoor_61 : decode cX5_readDoor 61 = .ok (.if_icmp .ne 9, 3) := by decide +kernel
theorem dX5_readDoor_64 : decode cX5_readDoor 64 = .ok (.aload_n 0, 1) := by decide +kernel
theorem dX5_readDoor_65 : decode cX5_readDoor 65 = .ok (.iconst 5, 1) := by decide +kernel
theorem dX5_readDoor_66 : decode cX5_readDoor 66 = .ok (.invokevirtual 59, 3) := by decide +kernel
theorem dX5_readDoor_69 : decode cX5_readDoor 69 = .ok (.ireturn, 1) := by decide +kernel
theorem dX5_readDoor_70 : decode cX5_readDoor 70 = .ok (.aload_n 0, 1) := by decide +kernel
theorem dX5_readDoor_71 : decode cX5_readDoor 71 = .ok (.getfield 28, 3) := by decide +kernel
theorem dX5_readDoor_74 : decode cX5_readDoor 74 = .ok (.iload_n 1, 1) := by decide +kernel
theorem dX5_readDoor_75 : decode cX5_readDoor 75 = .ok (.iload_n 2, 1) := by decide +kernel
theorem dX5_readDoor_76 : decode cX5_readDoor 76 = .ok (.invokevirtual 124, 3) := by decide +kernel
theorem dX5_readDoor_79 : decode cX5_readDoor 79 = .ok (.ifCond .eq 9, 3) := by decide +kernel
theorem dX5_readDoor_82 : decode cX5_readDoor 82 = .ok (.aload_n 0, 1) := by decide +kernel
theorem dX5_readDoor_83 : decode cX5_readDoor 83 = .ok (.iconst 3, 1) := by decide +kernel
theorem dX5_readDoor_84 : decode cX5_readDoor 84 = .ok (.invokevirtual 59, 3) := by decide +kernel
theorem dX5_readDoor_87 : decode cX5_readDoor 87 = .ok (.ireturn, 1) := by decide +kernel
theorem dX5_readDoor_88 : decode cX5_readDoor 88 = .ok (.iload_n 1, 1) := by decide +kernel
theorem dX5_readDoor_89 : decode cX5_readDoor 89 = .ok (.ifCond .lt 45, 3) := by decide +kernel
theorem dX5_readDoor_92 : decode cX5_readDoor 92 = .ok (.iload_n 1, 1) := by decide +kernel
theorem dX5_readDoor_93 : decode cX5_readDoor 93 = .ok (.bipush 6, 2) := by decide +kernel
theorem dX5_readDoor_95 : decode cX5_readDoor 95 = .ok (.if_icmp .ge 39, 3) := by decide +kernel
theorem dX5_readDoor_98 : decode cX5_readDoor 98 = .ok (.iload_n 2, 1) := by decide +kernel
theorem dX5_readDoor_99 : decode cX5_readDoor 99 = .ok (.bipush 6, 2) := by decide +kernel
theorem dX5_readDoor_101 : decode cX5_readDoor 101 = .ok (.if_icmp .ge 33, 3) := by decide +kernel
theorem dX5_readDoor_104 : decode cX5_readDoor 104 = .ok (.aload_n 0, 1) := by decide +kernel
theorem dX5_readDoor_105 : decode cX5_readDoor 105 = .ok (.getfield 28, 3) := by decide +kernel
theorem dX5_readDoor_108 : decode cX5_readDoor 108 = .ok (.getfield 127, 3) := by decide +kernel
theorem dX5_readDoor_111 : decode cX5_readDoor 111 = .ok (.iload_n 1, 1) := by decide +kernel
theorem dX5_readDoor_112 : decode cX5_readDoor 112 = .ok (.dup2, 1) := by decide +kernel
theorem dX5_readDoor_113 : decode cX5_readDoor 113 = .ok (.iaload, 1) := by decide +kernel
theorem dX5_readDoor_114 : decode cX5_readDoor 114 = .ok (.iconst 1, 1) := by decide +kernel
theorem dX5_readDoor_115 : decode cX5_readDoor 115 = .ok (.iload_n 2, 1) := by decide +kernel
theorem dX5_readDoor_116 : decode cX5_readDoor 116 = .ok (.ishl, 1) := by decide +kernel
theorem dX5_readDoor_117 : decode cX5_readDoor 117 = .ok (.ior, 1) := by decide +kernel
theorem dX5_readDoor_118 : decode cX5_readDoor 118 = .ok (.iastore, 1) := by decide +kernel
theorem dX5_readDoor_119 : decode cX5_readDoor 119 = .ok (.aload_n 0, 1) := by decide +kernel
theorem dX5_readDoor_120 : decode cX5_readDoor 120 = .ok (.getfield 28, 3) := by decide +kernel
theorem dX5_readDoor_123 : decode cX5_readDoor 123 = .ok (.getfield 127, 3) := by decide +kernel
theorem dX5_readDoor_126 : decode cX5_readDoor 126 = .ok (.iload_n 2, 1) := by decide +kernel
theorem dX5_readDoor_127 : decode cX5_readDoor 127 = .ok (.dup2, 1) := by decide +kernel
theorem dX5_readDoor_128 : decode cX5_readDoor 128 = .ok (.iaload, 1) := by decide +kernel
theorem dX5_readDoor_129 : decode cX5_readDoor 129 = .ok (.iconst 1, 1) := by decide +kernel
theorem dX5_readDoor_130 : decode cX5_readDoor 130 = .ok (.iload_n 1, 1) := by decide +kernel
theorem dX5_readDoor_131 : decode cX5_readDoor 131 = .ok (.ishl, 1) := by decide +kernel
theorem dX5_readDoor_132 : decode cX5_readDoor 132 = .ok (.ior, 1) := by decide +kernel
theorem dX5_readDoor_133 : decode cX5_readDoor 133 = .ok (.iastore, 1) := by decide +kernel
theorem dX5_readDoor_134 : decode cX5_readDoor 134 = .ok (.aload_n 0, 1) := by decide +kernel
theorem dX5_readDoor_135 : decode cX5_readDoor 135 = .ok (.getfield 21, 3) := by decide +kernel
theorem dX5_readDoor_138 : decode cX5_readDoor 138 = .ok (.invokevirtual 66, 3) := by decide +kernel
theorem dX5_readDoor_141 : decode cX5_readDoor 141 = .ok (.iconst 1, 1) := by decide +kernel
theorem dX5_readDoor_142 : decode cX5_readDoor 142 = .ok (.ireturn, 1) := by decide +kernel
theorem dX5_readThing_0 : decode cX5_readThing 0 = .ok (.aload_n 0, 1) := by decide +kernel
theorem dX5_readThing_1 : decode cX5_readThing 1 = .ok (.iconst 2, 1) := by decide +kernel
theorem dX5_readThing_2 : decode cX5_readThing 2 = .ok (.iload_n 1, 1) := by decide +kernel
theorem dX5_readThing_3 : decode cX5_readThing 3 = .ok (.invokevirtual 87, 3) := by decide +kernel
theorem dX5_readThing_6 : decode cX5_readThing 6 = .ok (.ifCond .eq 10, 3) := by decide +kernel
theorem dX5_readThing_9 : decode cX5_readThing 9 = .ok (.aload_n 0, 1) := by decide +kernel
theorem dX5_readThing_10 : decode cX5_readThing 10 = .ok (.invokevirtual 121, 3) := by decide +kernel
theorem dX5_readThing_13 : decode cX5_readThing 13 = .ok (.ifCond .ne 5, 3) := by decide +kernel
theorem dX5_readThing_16 : decode cX5_readThing 16 = .ok (.iconst 0, 1) := by decide +kernel
theorem dX5_readThing_17 : decode cX5_readThing 17 = .ok (.ireturn, 1) := by decide +kernel
theorem dX5_readThing_18 : decode cX5_readThing 18 = .ok (.iload_n 1, 1) := by decide +kernel
theorem dX5_readThing_19 : decode cX5_readThing 19 = .ok (.ifCond .lt 22, 3) := by decide +kernel
theorem dX5_readThing_22 : decode cX5_readThing 22 = .ok (.iload_n 1, 1) := by decide +kernel
theorem dX5_readThing_23 : decode cX5_readThing 23 = .ok (.bipush 8, 2) := by decide +kernel
theorem dX5_readThing_25 : decode cX5_readThing 25 = .ok (.if_icmp .ge 16, 3) := by decide +kernel
theorem dX5_readThing_28 : decode cX5_readThing 28 = .ok (.aload_n 0, 1) := by decide +kernel
theorem dX5_readThing_29 : decode cX5_readThing 29 = .ok (.getfield 28, 3) := by decide +kernel
theorem dX5_readThing_32 : decode cX5_readThing 32 = .ok (.getfield 130, 3) := by decide +kernel
theorem dX5_readThing_35 : decode cX5_readThing 35 = .ok (.iload_n 1, 1) := by decide +kernel
theorem dX5_readThing_36 : decode cX5_readThing 36 = .ok (.aload_n 0, 1) := by decide +kernel
theorem dX5_readThing_37 : decode cX5_readThing 37 = .ok (.getfield 32, 3) := by decide +kernel
theorem dX5_readThing_40 : decode cX5_readThing 40 = .ok (.iastore, 1) := by decide +kernel
theorem dX5_readThing_41 : decode cX5_readThing 41 = .ok (.aload_n 0, 1) := by decide +kernel
theorem dX5_readThing_42 : decode cX5_readThing 42 = .ok (.aload_n 0, 1) := by decide +kernel
theorem dX5_readThing_43 : decode cX5_readThing 43 = .ok (.getfield 28, 3) := by decide +kernel
theorem dX5_readThing_46 : decode cX5_readThing 46 = .ok (.getfield 133, 3) := by decide +kernel
theorem dX5_readThing_49 : decode cX5_readThing 49 = .ok (.iload_n 1, 1) := by decide +kernel
theorem dX5_readThing_50 : decode cX5_readThing 50 = .ok (.iconst 5, 1) := by decide +kernel
theorem dX5_readThing_51 : decode cX5_readThing 51 = .ok (.invokevirtual 102, 3) := by decide +kernel
theorem dX5_readThing_54 : decode cX5_readThing 54 = .ok (.ifCond .eq 24, 3) := by decide +kernel
theorem dX5_readThing_57 : decode cX5_readThing 57 = .ok (.aload_n 0, 1) := by decide +kernel
theorem dX5_readThing_58 : decode cX5_readThing 58 = .ok (.aload_n 0, 1) := by decide +kernel
theorem dX5_readThing_59 : decode cX5_readThing 59 = .ok (.getfield 28, 3) := by decide +kernel
theorem dX5_readThing_62 : decode cX5_readThing 62 = .ok (.getfield 136, 3) := by decide +kernel
theorem dX5_readThing_65 : decode cX5_readThing 65 = .ok (.iload_n 1, 1) := by decide +kernel
theorem dX5_readThing_66 : decode cX5_readThing 66 = .ok (.bipush 9, 2) := by decide +kernel
theorem dX5_readThing_68 : decode cX5_readThing 68 = .ok (.invokevirtual 102, 3) := by decide +kernel
theorem dX5_readThing_71 : decode cX5_readThing 71 = .ok (.ifCond .eq 7, 3) := by decide +kernel
theorem dX5_readThing_74 : decode cX5_readThing 74 = .ok (.iconst 1, 1) := by decide +kernel
theorem dX5_readThing_75 : decode cX5_readThing 75 = .ok (.goto 4, 3) := by decide +kernel
theorem dX5_readThing_78 : decode cX5_readThing 78 = .ok (.iconst 0, 1) := by decide +kernel
theorem dX5_readThing_79 : decode cX5_readThing 79 = .ok (.ireturn, 1) := by decide +kernel
theorem dX5_readDead_0 : decode cX5_readDead 0 = .ok (.aload_n 0, 1) := by decide +kernel
theorem dX5_readDead_1 : decode cX5_readDead 1 = .ok (.iconst 3, 1) := by decide +kernel
theorem dX5_readDead_2 : decode cX5_readDead 2 = .ok (.iload_n 1, 1) := by decide +kernel
theorem dX5_readDead_3 : decode cX5_readDead 3 = .ok (.invokevirtual 87, 3) := by decide +kernel
theorem dX5_readDead_6 : decode cX5_readDead 6 = .ok (.ifCond .eq 73, 3) := by decide +kernel
theorem dX5_readDead_9 : decode cX5_readDead 9 = .ok (.aload_n 0, 1) := by decide +kernel
theorem dX5_readDead_10 : decode cX5_readDead 10 = .ok (.aload_n 0, 1) := by decide +kernel
theorem dX5_readDead_11 : decode cX5_readDead 11 = .ok (.getfield 28, 3) := by decide +kernel
theorem dX5_readDead_14 : decode cX5_readDead 14 = .ok (.getfield 139, 3) := by decide +kernel
theorem dX5_readDead_17 : decode cX5_readDead 17 = .ok (.iload_n 1, 1) := by decide +kernel
theorem dX5_readDead_18 : decode cX5_readDead 18 = .ok (.bipush 9, 2) := by decide +kernel
theorem dX5_readDead_20 : decode cX5_readDead 20 = .ok (.invokevirtual 102, 3) := by decide +kernel
theorem dX5_readDead_23 : decode cX5_readDead 23 = .ok (.ifCond .eq 56, 3) := by decide +kernel
theorem dX5_readDead_26 : decode cX5_readDead 26 = .ok (.aload_n 0, 1) := by decide +kernel
theorem dX5_readDead_27 : decode cX5_readDead 27 = .ok (.aload_n 0, 1) := by decide +kernel
theorem dX5_readDead_28 : decode cX5_readDead 28 = .ok (.getfield 28, 3) := by decide +kernel
theorem dX5_readDead_31 : decode cX5_readDead 31 = .ok (.getfield 142, 3) := by decide +kernel
theorem dX5_readDead_34 : decode cX5_readDead 34 = .ok (.iload_n 1, 1) := by decide +kernel
theorem dX5_readDead_35 : decode cX5_readDead 35 = .ok (.iconst 5, 1) := by decide +kernel
theorem dX5_readDead_36 : decode cX5_readDead 36 = .ok (.invokevirtual 102, 3) := by decide +kernel
theorem dX5_readDead_39 : decode cX5_readDead 39 = .ok (.ifCond .eq 40, 3) := by decide +kernel
theorem dX5_readDead_42 : decode cX5_readDead 42 = .ok (.aload_n 0, 1) := by decide +kernel
theorem dX5_readDead_43 : decode cX5_readDead 43 = .ok (.aload_n 0, 1) := by decide +kernel
theorem dX5_readDead_44 : decode cX5_readDead 44 = .ok (.getfield 28, 3) := by decide +kernel
theorem dX5_readDead_47 : decode cX5_readDead 47 = .ok (.getfield 145, 3) := by decide +kernel
theorem dX5_readDead_50 : decode cX5_readDead 50 = .ok (.iload_n 1, 1) := by decide +kernel
theorem dX5_readDead_51 : decode cX5_readDead 51 = .ok (.iconst 1, 1) := by decide +kernel
theorem dX5_readDead_52 : decode cX5_readDead 52 = .ok (.invokevirtual 102, 3) := by decide +kernel
theorem dX5_readDead_55 : decode cX5_readDead 55 = .ok (.ifCond .eq 24, 3) := by decide +kernel
theorem dX5_readDead_58 : decode cX5_readDead 58 = .ok (.aload_n 0, 1) := by decide +kernel
theorem dX5_readDead_59 : decode cX5_readDead 59 = .ok (.aload_n 0, 1) := by decide +kernel
theorem dX5_readDead_60 : decode cX5_readDead 60 = .ok (.getfield 28, 3) := by decide +kernel
theorem dX5_readDead_63 : decode cX5_readDead 63 = .ok (.getfield 148, 3) := by decide +kernel
theorem dX5_readDead_66 : decode cX5_readDead 66 = .ok (.iload_n 1, 1) := by decide +kernel
theorem dX5_readDead_67 : decode cX5_readDead 67 = .ok (.bipush 100, 2) := by decide +kernel
theorem dX5_readDead_69 : decode cX5_readDead 69 = .ok (.invokevirtual 102, 3) := by decide +kernel
theorem dX5_readDead_72 : decode cX5_readDead 72 = .ok (.ifCond .eq 7, 3) := by decide +kernel
theorem dX5_readDead_75 : decode cX5_readDead 75 = .ok (.iconst 1, 1) := by decide +kernel
theorem dX5_readDead_76 : decode cX5_readDead 76 = .ok (.goto 4, 3) := by decide +kernel
theorem dX5_readDead_79 : decode cX5_readDead 79 = .ok (.iconst 0, 1) := by decide +kernel
theorem dX5_readDead_80 : decode cX5_readDead 80 = .ok (.ireturn, 1) := by decide +kernel
theorem dX5_readLaw_0 : decode cX5_readLaw 0 = .ok (.aload_n 0, 1) := by decide +kernel
theorem dX5_readLaw_1 : decode cX5_readLaw 1 = .ok (.getfield 21, 3) := by decide +kernel
theorem dX5_readLaw_4 : decode cX5_readLaw 4 = .ok (.invokevirtual 66, 3) := by decide +kernel
theorem dX5_readLaw_7 : decode cX5_readLaw 7 = .ok (.aload_n 0, 1) := by decide +kernel
theorem dX5_readLaw_8 : decode cX5_readLaw 8 = .ok (.getfield 21, 3) := by decide +kernel
theorem dX5_readLaw_11 : decode cX5_readLaw 11 = .ok (.getfield 52, 3) := by decide +kernel
theorem dX5_readLaw_14 : decode cX5_readLaw 14 = .ok (.bipush 7, 2) := by decide +kernel
theorem dX5_readLaw_16 : decode cX5_readLaw 16 = .ok (.if_icmp .lt 15, 3) := by decide +kernel
theorem dX5_readLaw_19 : decode cX5_readLaw 19 = .ok (.aload_n 0, 1) := by decide +kernel
theorem dX5_readLaw_20 : decode cX5_readLaw 20 = .ok (.getfield 21, 3) := by decide +kernel
theorem dX5_readLaw_23 : decode cX5_readLaw 23 = .ok (.getfield 52, 3) := by decide +kernel
theorem dX5_readLaw_26 : decode cX5_readLaw 26 = .ok (.bipush 9, 2) := by decide +kernel
theorem dX5_readLaw_28 : decode cX5_readLaw 28 = .ok (.if_icmp .le 9, 3) := by decide +kernel
theorem dX5_readLaw_31 : decode cX5_readLaw 31 = .ok (.aload_n 0, 1) := by decide +kernel
theorem dX5_readLaw_32 : decode cX5_readLaw 32 = .ok (.iconst 1, 1) := by decide +kernel
theorem dX5_readLaw_33 : decode cX5_readLaw 33 = .ok (.invokevirtual 59, 3) := by decide +kernel
theorem dX5_readLaw_36 : decode cX5_readLaw 36 = .ok (.ireturn, 1) := by decide +kernel
theorem dX5_readLaw_37 : decode cX5_readLaw 37 = .ok (.aload_n 0, 1) := by decide +kernel
theorem dX5_readLaw_38 : decode cX5_readLaw 38 = .ok (.getfield 28, 3) := by decide +kernel
theorem dX5_readLaw_41 : decode cX5_readLaw 41 = .ok (.aload_n 0, 1) := by decide +kernel
theorem dX5_readLaw_42 : decode cX5_readLaw 42 = .ok (.getfield 21, 3) := by decide +kernel
theorem dX5_readLaw_45 : decode cX5_readLaw 45 = .ok (.getfield 52, 3) := by decide +kernel
theorem dX5_readLaw_48 : decode cX5_readLaw 48 = .ok (.bipush 7, 2) := by decide +kernel
theorem dX5_readLaw_50 : decode cX5_readLaw 50 = .ok (.isub, 1) := by decide +kernel
theorem dX5_readLaw_51 : decode cX5_readLaw 51 = .ok (.invokevirtual 151, 3) := by decide +kernel
theorem dX5_readLaw_54 : decode cX5_readLaw 54 = .ok (.astore_n 1, 1) := by decide +kernel
theorem dX5_readLaw_55 : decode cX5_readLaw 55 = .ok (.aload_n 1, 1) := by decide +kernel
theorem dX5_readLaw_56 : decode cX5_readLaw 56 = .ok (.getfield 155, 3) := by decide +kernel
theorem dX5_readLaw_59 : decode cX5_readLaw 59 = .ok (.ifCond .eq 9, 3) := by decide +kernel
theorem dX5_readLaw_62 : decode cX5_readLaw 62 = .ok (.aload_n 0, 1) := by decide +kernel
theorem dX5_readLaw_63 : decode cX5_readLaw 63 = .ok (.iconst 3, 1) := by decide +kernel
theorem dX5_readLaw_64 : decode cX5_readLaw 64 = .ok (.invokevirtual 59, 3) := by decide +kernel
theorem dX5_readLaw_67 : decode cX5_readLaw 67 = .ok (.ireturn, 1) := by decide +kernel
theorem dX5_readLaw_68 : decode cX5_readLaw 68 = .ok (.aload_n 0, 1) := by decide +kernel
theorem dX5_readLaw_69 : decode cX5_readLaw 69 = .ok (.getfield 21, 3) := by decide +kernel
theorem dX5_readLaw_72 : decode cX5_readLaw 72 = .ok (.invokevirtual 66, 3) := by decide +kernel
theorem dX5_readLaw_75 : decode cX5_readLaw 75 = .ok (.aload_n 0, 1) := by decide +kernel
theorem dX5_readLaw_76 : decode cX5_readLaw 76 = .ok (.aload_n 1, 1) := by decide +kernel
theorem dX5_readLaw_77 : decode cX5_readLaw 77 = .ok (.invokevirtual 160, 3) := by decide +kernel
theorem dX5_readLaw_80 : decode cX5_readLaw 80 = .ok (.ifCond .ne 5, 3) := by decide +kernel
theorem dX5_readLaw_83 : decode cX5_readLaw 83 = .ok (.iconst 0, 1) := by decide +kernel
theorem dX5_readLaw_84 : decode cX5_readLaw 84 = .ok (.ireturn, 1) := by decide +kernel
theorem dX5_readLaw_85 : decode cX5_readLaw 85 = .ok (.aload_n 1, 1) := by decide +kernel
theorem dX5_readLaw_86 : decode cX5_readLaw 86 = .ok (.iconst 1, 1) := by decide +kernel
theorem dX5_readLaw_87 : decode cX5_readLaw 87 = .ok (.putfield 155, 3) := by decide +kernel
theorem dX5_readLaw_90 : decode cX5_readLaw 90 = .ok (.iconst 1, 1) := by decide +kernel
theorem dX5_readLaw_91 : decode cX5_readLaw 91 = .ok (.ireturn, 1) := by decide +kernel
theorem dX5_readExpression_0 : decode cX5_readExpression 0 = .ok (.aload_n 0, 1) := by decide +kernel
theorem dX5_readExpression_1 : decode cX5_readExpression 1 = .ok (.iconst 0, 1) := by decide +kernel
theorem dX5_readExpression_2 : decode cX5_readExpression 2 = .ok (.putfield 39, 3) := by decide +kernel
theorem dX5_readExpression_5 : decode cX5_readExpression 5 = .ok (.aload_n 0, 1) := by decide +kernel
theorem dX5_readExpression_6 : decode cX5_readExpression 6 = .ok (.iconst 0, 1) := by decide +kernel
theorem dX5_readExpression_7 : decode cX5_readExpression 7 = .ok (.putfield 42, 3) := by decide +kernel
theorem dX5_readExpression_10 : decode cX5_readExpression 10 = .ok (.iconst 0, 1) := by decide +kernel
theorem dX5_readExpression_11 : decode cX5_readExpression 11 = .ok (.istore_n 2, 1) := by decide +kernel
theorem dX5_readExpression_12 : decode cX5_readExpression 12 = .ok (.iconst 0, 1) := by decide +kernel
theorem dX5_readExpression_13 : decode cX5_readExpression 13 = .ok (.istore_n 3, 1) := by decide +kernel
theorem dX5_readExpression_14 : decode cX5_readExpression 14 = .ok (.iload_n 3, 1) := by decide +kernel
theorem dX5_readExpression_15 : decode cX5_readExpression 15 = .ok (.sipush 700, 3) := by decide +kernel
theorem dX5_readExpression_18 : decode cX5_readExpression 18 = .ok (.if_icmp .gt 109, 3) := by decide +kernel
theorem dX5_readExpression_21 : decode cX5_readExpression 21 = .ok (.aload_n 0, 1) := by decide +kernel
theorem dX5_readExpression_22 : decode cX5_readExpression 22 = .ok (.getfield 21, 3) := by decide +kernel
theorem dX5_readExpression_25 : decode cX5_readExpression 25 = .ok (.getfield 52, 3) := by decide +kernel
theorem dX5_readExpression_28 : decode cX5_readExpression 28 = .ok (.istore 4, 2) := by decide +kernel
theorem dX5_readExpression_30 : decode cX5_readExpression 30 = .ok (.iload_n 2, 1) := by decide +kernel
theorem dX5_readExpression_31 : decode cX5_readExpression 31 = .ok (.ifCond .eq 20, 3) := by decide +kernel
theorem dX5_readExpression_34 : decode cX5_readExpression 34 = .ok (.aload_n 0, 1) := by decide +kernel
theorem dX5_readExpression_35 : decode cX5_readExpression 35 = .ok (.getfield 42, 3) := by decide +kernel
theorem dX5_readExpression_38 : decode cX5_readExpression 38 = .ok (.ifCond .ne 13, 3) := by decide +kernel
theorem dX5_readExpression_41 : decode cX5_readExpression 41 = .ok (.iload 4, 2) := by decide +kernel
theorem dX5_readExpression_43 : decode cX5_readExpression 43 = .ok (.bipush 24, 2) := by decide +kernel
theorem dX5_readExpression_45 : decode cX5_readExpression 45 = .ok (.if_icmp .ne 6, 3) := by decide +kernel
theorem dX5_readExpression_48 : decode cX5_readExpression 48 = .ok (.goto 79, 3) := by decide +kernel
theorem dX5_readExpression_51 : decode cX5_readExpression 51 = .ok (.iload_n 2, 1) := by decide +kernel
theorem dX5_readExpression_52 : decode cX5_readExpression 52 = .ok (.ifCond .eq 16, 3) := by decide +kernel
theorem dX5_readExpression_55 : decode cX5_readExpression 55 = .ok (.aload_n 0, 1) := by decide +kernel
theorem dX5_readExpression_56 : decode cX5_readExpression 56 = .ok (.aload_n 1, 1) := by decide +kernel
theorem dX5_readExpression_57 : decode cX5_readExpression 57 = .ok (.iload 4, 2) := by decide +kernel
theorem dX5_readExpression_59 : decode cX5_readExpression 59 = .ok (.invokevirtual 164, 3) := by decide +kernel
theorem dX5_readExpression_62 : decode cX5_readExpression 62 = .ok (.ifCond .eq 16, 3) := by decide +kernel
theorem dX5_readExpression_65 : decode cX5_readExpression 65 = .ok (.goto 15, 3) := by decide +kernel
theorem dX5_readExpression_68 : decode cX5_readExpression 68 = .ok (.aload_n 0, 1) := by decide +kernel
theorem dX5_readExpression_69 : decode cX5_readExpression 69 = .ok (.aload_n 1, 1) := by decide +kernel
theorem dX5_readExpression_70 : decode cX5_readExpression 70 = .ok (.iload 4, 2) := by decide +kernel
theorem dX5_readExpression_72 : decode cX5_readExpression 72 = .ok (.invokevirtual 168, 3) := by decide +kernel
theorem dX5_readExpression_75 : decode cX5_readExpression 75 = .ok (.ifCond .ne 5, 3) := by decide +kernel
theorem dX5_readExpression_78 : decode cX5_readExpression 78 = .ok (.iconst 0, 1) := by decide +kernel
theorem dX5_readExpression_79 : decode cX5_readExpression 79 = .ok (.ireturn, 1) := by decide +kernel
theorem dX5_readExpression_80 : decode cX5_readExpression 80 = .ok (.iload 4, 2) := by decide +kernel
theorem dX5_readExpression_82 : decode cX5_readExpression 82 = .ok (.bipush 21, 2) := by decide +kernel
theorem dX5_readExpression_84 : decode cX5_readExpression 84 = .ok (.if_icmp .eq 24, 3) := by decide +kernel
theorem dX5_readExpression_87 : decode cX5_readExpression 87 = .ok (.iload 4, 2) := by decide +kernel
theorem dX5_readExpression_89 : decode cX5_readExpression 89 = .ok (.bipush 26, 2) := by decide +kernel
theorem dX5_readExpression_91 : decode cX5_readExpression 91 = .ok (.if_icmp .eq 17, 3) := by decide +kernel
theorem dX5_readExpression_94 : decode cX5_readExpression 94 = .ok (.iload 4, 2) := by decide +kernel
theorem dX5_readExpression_96 : decode cX5_readExpression 96 = .ok (.bipush 13, 2) := by decide +kernel
theorem dX5_readExpression_98 : decode cX5_readExpression 98 = .ok (.if_icmp .lt 14, 3) := by decide +kernel
theorem dX5_readExpression_101 : decode cX5_readExpression 101 = .ok (.iload 4, 2) := by decide +kernel
theorem dX5_readExpression_103 : decode cX5_readExpression 103 = .ok (.bipush 19, 2) := by decide +kernel
theorem dX5_readExpression_105 : decode cX5_readExpression 105 = .ok (.if_icmp .gt 7, 3) := by decide +kernel
theorem dX5_readExpression_108 : decode cX5_readExpression 108 = .ok (.iconst 1, 1) := by decide +kernel
theorem dX5_readExpression_109 : decode cX5_readExpression 109 = .ok (.goto 4, 3) := by decide +kernel
theorem dX5_readExpression_112 : decode cX5_readExpression 112 = .ok (.iconst 0, 1) := by decide +kernel
theorem dX5_readExpression_113 : decode cX5_readExpression 113 = .ok (.istore_n 2, 1) := by decide +kernel
theorem dX5_readExpression_114 : decode cX5_readExpression 114 = .ok (.aload_n 0, 1) := by decide +kernel
theorem dX5_readExpression_115 : decode cX5_readExpression 115 = .ok (.getfield 21, 3) := by decide +kernel
theorem dX5_readExpression_118 : decode cX5_readExpression 118 = .ok (.invokevirtual 66, 3) := by decide +kernel
theorem dX5_readExpression_121 : decode cX5_readExpression 121 = .ok (.iinc 3 1, 3) := by decide +kernel
theorem dX5_readExpression_124 : decode cX5_readExpression 124 = .ok (.goto (-110), 3) := by decide +kernel
theorem dX5_readExpression_127 : decode cX5_readExpression 127 = .ok (.aload_n 0, 1) := by decide +kernel
theorem dX5_readExpression_128 : decode cX5_readExpression 128 = .ok (.aload_n 1, 1) := by decide +kernel
theorem dX5_readExpression_129 : decode cX5_readExpression 129 = .ok (.iconst 1, 1) := by decide +kernel
theorem dX5_readExpression_130 : decode cX5_readExpression 130 = .ok (.invokevirtual 171, 3) := by decide +kernel
theorem dX5_readExpression_133 : decode cX5_readExpression 133 = .ok (.iconst 1, 1) := by decide +kernel
theorem dX5_readExpression_134 : decode cX5_readExpression 134 = .ok (.ireturn, 1) := by decide +kernel
theorem dX5_readValue_0 : decode cX5_readValue 0 = .ok (.iload_n 2, 1) := by decide +kernel
theorem dX5_readValue_1 : decode cX5_readValue 1 = .ok (.bipush 25, 2) := by decide +kernel
theorem dX5_readValue_3 : decode cX5_readValue 3 = .ok (.if_icmp .ne 35, 3) := by decide +kernel
theorem dX5_readValue_6 : decode cX5_readValue 6 = .ok (.aload_n 0, 1) := by decide +kernel
theorem dX5_readValue_7 : decode cX5_readValue 7 = .ok (.getfield 42, 3) := by decide +kernel
theorem dX5_readValue_10 : decode cX5_readValue 10 = .ok (.bipush 8, 2) := by decide +kernel
theorem dX5_readValue_12 : decode cX5_readValue 12 = .ok (.if_icmp .lt 9, 3) := by decide +kernel
theorem dX5_readValue_15 : decode cX5_readValue 15 = .ok (.aload_n 0, 1) := by decide +kernel
theorem dX5_readValue_16 : decode cX5_readValue 16 = .ok (.iconst 2, 1) := by decide +kernel
theorem dX5_readValue_17 : decode cX5_readValue 17 = .ok (.invokevirtual 59, 3) := by decide +kernel
theorem dX5_readValue_20 : decode cX5_readValue 20 = .ok (.ireturn, 1) := by decide +kernel
theorem dX5_readValue_21 : decode cX5_readValue 21 = .ok (.aload_n 0, 1) := by decide +kernel
theorem dX5_readValue_22 : decode cX5_readValue 22 = .ok (.dup, 1) := by decide +kernel
theorem dX5_readValue_23 : decode cX5_readValue 23 = .ok (.getfield 42, 3) := by decide +kernel
theorem dX5_readValue_26 : decode cX5_readValue 26 = .ok (.iconst 1, 1) := by decide +kernel
theorem dX5_readValue_27 : decode cX5_readValue 27 = .ok (.iadd, 1) := by decide +kernel
theorem dX5_readValue_28 : decode cX5_readValue 28 = .ok (.putfield 42, 3) := by decide +kernel
theorem dX5_readValue_31 : decode cX5_readValue 31 = .ok (.aload_n 0, 1) := by decide +kernel
theorem dX5_readValue_32 : decode cX5_readValue 32 = .ok (.bipush 25, 2) := by decide +kernel
theorem dX5_readValue_34 : decode cX5_readValue 34 = .ok (.invokevirtual 175, 3) := by decide +kernel
theorem dX5_readValue_37 : decode cX5_readValue 37 = .ok (.ireturn, 1) := by decide +kernel
theorem dX5_readValue_38 : decode cX5_readValue 38 = .ok (.iload_n 2, 1) := by decide +kernel
theorem dX5_readValue_39 : decode cX5_readValue 39 = .ok (.bipush 12, 2) := by decide +kernel
theorem dX5_readValue_41 : decode cX5_readValue 41 = .ok (.if_icmp .ne 40, 3) := by decide +kernel
theorem dX5_readValue_44 : decode cX5_readValue 44 = .ok (.aload_n 0, 1) := by decide +kernel
theorem dX5_readValue_45 : decode cX5_readValue 45 = .ok (.invokevirtual 178, 3) := by decide +kernel
theorem dX5_readValue_48 : decode cX5_readValue 48 = .ok (.invokestatic 182, 3) := by decide +kernel
theorem dX5_readValue_51 : decode cX5_readValue 51 = .ok (.bipush 12, 2) := by decide +kernel
theorem dX5_readValue_53 : decode cX5_readValue 53 = .ok (.invokestatic 182, 3) := by decide +kernel
theorem dX5_readValue_56 : decode cX5_readValue 56 = .ok (.if_icmp .gt 25, 3) := by decide +kernel
theorem dX5_readValue_59 : decode cX5_readValue 59 = .ok (.aload_n 0, 1) := by decide +kernel
theorem dX5_readValue_60 : decode cX5_readValue 60 = .ok (.invokevirtual 185, 3) := by decide +kernel
theorem dX5_readValue_63 : decode cX5_readValue 63 = .ok (.ifCond .eq 16, 3) := by decide +kernel
theorem dX5_readValue_66 : decode cX5_readValue 66 = .ok (.aload_n 0, 1) := by decide +kernel
theorem dX5_readValue_67 : decode cX5_readValue 67 = .ok (.bipush 12, 2) := by decide +kernel
theorem dX5_readValue_69 : decode cX5_readValue 69 = .ok (.invokevirtual 175, 3) := by decide +kernel
theorem dX5_readValue_72 : decode cX5_readValue 72 = .ok (.ifCond .eq 7, 3) := by decide +kernel
theorem dX5_readValue_75 : decode cX5_readValue 75 = .ok (.iconst 1, 1) := by decide +kernel
theorem dX5_readValue_76 : decode cX5_readValue 76 = .ok (.goto 4, 3) := by decide +kernel
theorem dX5_readValue_79 : decode cX5_readValue 79 = .ok (.iconst 0, 1) := by decide +kernel
theorem dX5_readValue_80 : decode cX5_readValue 80 = .ok (.ireturn, 1) := by decide +kernel
theorem dX5_readValue_81 : decode cX5_readValue 81 = .ok (.iload_n 2, 1) := by decide +kernel
theorem dX5_readValue_82 : decode cX5_readValue 82 = .ok (.bipush 21, 2) := by decide +kernel
theorem dX5_readValue_84 : decode cX5_readValue 84 = .ok (.if_icmp .eq 21, 3) := by decide +kernel
theorem dX5_readValue_87 : decode cX5_readValue 87 = .ok (.iload_n 2, 1) := by decide +kernel
theorem dX5_readValue_88 : decode cX5_readValue 88 = .ok (.bipush 13, 2) := by decide +kernel
theorem dX5_readValue_90 : decode cX5_readValue 90 = .ok (.if_icmp .lt 9, 3) := by decide +kernel
theorem dX5_readValue_93 : decode cX5_readValue 93 = .ok (.iload_n 2, 1) := by decide +kernel
theorem dX5_readValue_94 : decode cX5_readValue 94 = .ok (.bipush 19, 2) := by decide +kernel
theorem dX5_readValue_96 : decode cX5_readValue 96 = .ok (.if_icmp .le 9, 3) := by decide +kernel
theorem dX5_readValue_99 : decode cX5_readValue 99 = .ok (.aload_n 0, 1) := by decide +kernel
theorem dX5_readValue_100 : decode cX5_readValue 100 = .ok (.iconst 1, 1) := by decide +kernel
theorem dX5_readValue_101 : decode cX5_readValue 101 = .ok (.invokevirtual 59, 3) := by decide +kernel
theorem dX5_readValue_104 : decode cX5_readValue 104 = .ok (.ireturn, 1) := by decide +kernel
theorem dX5_readValue_105 : decode cX5_readValue 105 = .ok (.aload_n 0, 1) := by decide +kernel
theorem dX5_readValue_106 : decode cX5_readValue 106 = .ok (.invokevirtual 185, 3) := by decide +kernel
theorem dX5_readValue_109 : decode cX5_readValue 109 = .ok (.ifCond .ne 5, 3) := by decide +kernel
theorem dX5_readValue_112 : decode cX5_readValue 112 = .ok (.iconst 0, 1) := by decide +kernel
theorem dX5_readValue_113 : decode cX5_readValue 113 = .ok (.ireturn, 1) := by decide +kernel
theorem dX5_readValue_114 : decode cX5_readValue 114 = .ok (.iload_n 2, 1) := by decide +kernel
theorem dX5_readValue_115 : decode cX5_readValue 115 = .ok (.bipush 21, 2) := by decide +kernel
theorem dX5_readValue_117 : decode cX5_readValue 117 = .ok (.if_icmp .ne 22, 3) := by decide +kernel
theorem dX5_readValue_120 : decode cX5_readValue 120 = .ok (.aload_n 0, 1) := by decide +kernel
theorem dX5_readValue_121 : decode cX5_readValue 121 = .ok (.getfield 21, 3) := by decide +kernel
theorem dX5_readValue_124 : decode cX5_readValue 124 = .ok (.getfield 110, 3) := by decide +kernel
theorem dX5_readValue_127 : decode cX5_readValue 127 = .ok (.sipush 9999, 3) := by decide +kernel
theorem dX5_readValue_130 : decode cX5_readValue 130 = .ok (.if_icmp .le 9, 3) := by decide +kernel
theorem dX5_readValue_133 : decode cX5_readValue 133 = .ok (.aload_n 0, 1) := by decide +kernel
theorem dX5_readValue_134 : decode cX5_readValue 134 = .ok (.iconst 2, 1) := by decide +kernel
theorem dX5_readValue_135 : decode cX5_readValue 135 = .ok (.invokevirtual 59, 3) := by decide +kernel
theorem dX5_readValue_138 : decode cX5_readValue 138 = .ok (.ireturn, 1) := by decide +kernel
theorem dX5_readValue_139 : decode cX5_readValue 139 = .ok (.aload_n 1, 1) := by decide +kernel
theorem dX5_readValue_140 : decode cX5_readValue 140 = .ok (.iload_n 2, 1) := by decide +kernel
theorem dX5_readValue_141 : decode cX5_readValue 141 = .ok (.iload_n 2, 1) := by decide +kernel
theorem dX5_readValue_142 : decode cX5_readValue 142 = .ok (.bipush 21, 2) := by decide +kernel
theorem dX5_readValue_144 : decode cX5_readValue 144 = .ok (.if_icmp .ne 13, 3) := by decide +kernel
theorem dX5_readValue_147 : decode cX5_readValue 147 = .ok (.aload_n 0, 1) := by decide +kernel
theorem dX5_readValue_148 : decode cX5_readValue 148 = .ok (.getfield 21, 3) := by decide +kernel
theorem dX5_readValue_151 : decode cX5_readValue 151 = .ok (.getfield 110, 3) := by decide +kernel
theorem dX5_readValue_154 : decode cX5_readValue 154 = .ok (.goto 4, 3) := by decide +kernel
theorem dX5_readValue_157 : decode cX5_readValue 157 = .ok (.iconst 0, 1) := by decide +kernel
theorem dX5_readValue_158 : decode cX5_readValue 158 = .ok (.invokevirtual 188, 3) := by decide +kernel
theorem dX5_readValue_161 : decode cX5_readValue 161 = .ok (.iconst 1, 1) := by decide +kernel
theorem dX5_readValue_162 : decode cX5_readValue 162 = .ok (.ireturn, 1) := by decide +kernel
theorem dX5_readBehindValue_0 : decode cX5_readBehindValue 0 = .ok (.iload_n 2, 1) := by decide +kernel
theorem dX5_readBehindValue_1 : decode cX5_readBehindValue 1 = .ok (.bipush 26, 2) := by decide +kernel
theorem dX5_readBehindValue_3 : decode cX5_readBehindValue 3 = .ok (.if_icmp .ne 51, 3) := by decide +kernel
theorem dX5_readBehindValue_6 : decode cX5_readBehindValue 6 = .ok (.aload_n 0, 1) := by decide +kernel
theorem dX5_readBehindValue_7 : decode cX5_readBehindValue 7 = .ok (.getfield 42, 3) := by decide +kernel
theorem dX5_readBehindValue_10 : decode cX5_readBehindValue 10 = .ok (.ifCond .gt 9, 3) := by decide +kernel
theorem dX5_readBehindValue_13 : decode cX5_readBehindValue 13 = .ok (.aload_n 0, 1) := by decide +kernel
theorem dX5_readBehindValue_14 : decode cX5_readBehindValue 14 = .ok (.iconst 1, 1) := by decide +kernel
theorem dX5_readBehindValue_15 : decode cX5_readBehindValue 15 = .ok (.invokevirtual 59, 3) := by decide +kernel
theorem dX5_readBehindValue_18 : decode cX5_readBehindValue 18 = .ok (.ireturn, 1) := by decide +kernel
theorem dX5_readBehindValue_19 : decode cX5_readBehindValue 19 = .ok (.aload_n 0, 1) := by decide +kernel
theorem dX5_readBehindValue_20 : decode cX5_readBehindValue 20 = .ok (.dup, 1) := by decide +kernel
theorem dX5_readBehindValue_21 : decode cX5_readBehindValue 21 = .ok (.getfield 42, 3) := by decide +kernel
theorem dX5_readBehindValue_24 : decode cX5_readBehindValue 24 = .ok (.iconst 1, 1) := by decide +kernel
theorem dX5_readBehindValue_25 : decode cX5_readBehindValue 25 = .ok (.isub, 1) := by decide +kernel
theorem dX5_readBehindValue_26 : decode cX5_readBehindValue 26 = .ok (.putfield 42, 3) := by decide +kernel
theorem dX5_readBehindValue_29 : decode cX5_readBehindValue 29 = .ok (.aload_n 0, 1) := by decide +kernel
theorem dX5_readBehindValue_30 : decode cX5_readBehindValue 30 = .ok (.aload_n 1, 1) := by decide +kernel
theorem dX5_readBehindValue_31 : decode cX5_readBehindValue 31 = .ok (.iconst 1, 1) := by decide +kernel
theorem dX5_readBehindValue_32 : decode cX5_readBehindValue 32 = .ok (.invokevirtual 171, 3) := by decide +kernel
theorem dX5_readBehindValue_35 : decode cX5_readBehindValue 35 = .ok (.aload_n 0, 1) := by decide +kernel
theorem dX5_readBehindValue_36 : decode cX5_readBehindValue 36 = .ok (.getfield 39, 3) := by decide +kernel
theorem dX5_readBehindValue_39 : decode cX5_readBehindValue 39 = .ok (.ifCond .le 13, 3) := by decide +kernel
theorem dX5_readBehindValue_42 : decode cX5_readBehindValue 42 = .ok (.aload_n 0, 1) := by decide +kernel
theorem dX5_readBehindValue_43 : decode cX5_readBehindValue 43 = .ok (.dup, 1) := by decide +kernel
theorem dX5_readBehindValue_44 : decode cX5_readBehindValue 44 = .ok (.getfield 39, 3) := by decide +kernel
theorem dX5_readBehindValue_47 : decode cX5_readBehindValue 47 = .ok (.iconst 1, 1) := by decide +kernel
theorem dX5_readBehindValue_48 : decode cX5_readBehindValue 48 = .ok (.isub, 1) := by decide +kernel
theorem dX5_readBehindValue_49 : decode cX5_readBehindValue 49 = .ok (.putfield 39, 3) := by decide +kernel
theorem dX5_readBehindValue_52 : decode cX5_readBehindValue 52 = .ok (.iconst 1, 1) := by decide +kernel
theorem dX5_readBehindValue_53 : decode cX5_readBehindValue 53 = .ok (.ireturn, 1) := by decide +kernel
theorem dX5_readBehindValue_54 : decode cX5_readBehindValue 54 = .ok (.iload_n 2, 1) := by decide +kernel
theorem dX5_readBehindValue_55 : decode cX5_readBehindValue 55 = .ok (.invokestatic 182, 3) := by decide +kernel
theorem dX5_readBehindValue_58 : decode cX5_readBehindValue 58 = .ok (.istore_n 3, 1) := by decide +kernel
theorem dX5_readBehindValue_59 : decode cX5_readBehindValue 59 = .ok (.iload_n 3, 1) := by decide +kernel
theorem dX5_readBehindValue_60 : decode cX5_readBehindValue 60 = .ok (.ifCond .eq 9, 3) := by decide +kernel
theorem dX5_readBehindValue_63 : decode cX5_readBehindValue 63 = .ok (.iload_n 2, 1) := by decide +kernel
theorem dX5_readBehindValue_64 : decode cX5_readBehindValue 64 = .ok (.bipush 12, 2) := by decide +kernel
theorem dX5_readBehindValue_66 : decode cX5_readBehindValue 66 = .ok (.if_icmp .ne 9, 3) := by decide +kernel
theorem dX5_readBehindValue_69 : decode cX5_readBehindValue 69 = .ok (.aload_n 0, 1) := by decide +kernel
theorem dX5_readBehindValue_70 : decode cX5_readBehindValue 70 = .ok (.iconst 1, 1) := by decide +kernel
theorem dX5_readBehindValue_71 : decode cX5_readBehindValue 71 = .ok (.invokevirtual 59, 3) := by decide +kernel
theorem dX5_readBehindValue_74 : decode cX5_readBehindValue 74 = .ok (.ireturn, 1) := by decide +kernel
theorem dX5_readBehindValue_75 : decode cX5_readBehindValue 75 = .ok (.aload_n 0, 1) := by decide +kernel
theorem dX5_readBehindValue_76 : decode cX5_readBehindValue 76 = .ok (.aload_n 1, 1) := by decide +kernel
theorem dX5_readBehindValue_77 : decode cX5_readBehindValue 77 = .ok (.iload_n 3, 1) := by decide +kernel
theorem dX5_readBehindValue_78 : decode cX5_readBehindValue 78 = .ok (.iconst 4, 1) := by decide +kernel
theorem dX5_readBehindValue_79 : decode cX5_readBehindValue 79 = .ok (.if_icmp .ne 7, 3) := by decide +kernel
theorem dX5_readBehindValue_82 : decode cX5_readBehindValue 82 = .ok (.iconst 5, 1) := by decide +kernel
theorem dX5_readBehindValue_83 : decode cX5_readBehindValue 83 = .ok (.goto 4, 3) := by decide +kernel
theorem dX5_readBehindValue_86 : decode cX5_readBehindValue 86 = .ok (.iload_n 3, 1) := by decide +kernel
theorem dX5_readBehindValue_87 : decode cX5_readBehindValue 87 = .ok (.invokevirtual 171, 3) := by decide +kernel
theorem dX5_readBehindValue_90 : decode cX5_readBehindValue 90 = .ok (.iload_n 3, 1) := by decide +kernel
theorem dX5_readBehindValue_91 : decode cX5_readBehindValue 91 = .ok (.iconst 4, 1) := by decide +kernel
theorem dX5_readBehindValue_92 : decode cX5_readBehindValue 92 = .ok (.if_icmp .ne 20, 3) := by decide +kernel
theorem dX5_readBehindValue_95 : decode cX5_readBehindValue 95 = .ok (.aload_n 0, 1) := by decide +kernel
theorem dX5_readBehindValue_96 : decode cX5_readBehindValue 96 = .ok (.invokevirtual 178, 3) := by decide +kernel
theorem dX5_readBehindValue_99 : decode cX5_readBehindValue 99 = .ok (.invokestatic 182, 3) := by decide +kernel
theorem dX5_readBehindValue_102 : decode cX5_readBehindValue 102 = .ok (.iconst 4, 1) := by decide +kernel
theorem dX5_readBehindValue_103 : decode cX5_readBehindValue 103 = .ok (.if_icmp .ne 9, 3) := by decide +kernel
theorem dX5_readBehindValue_106 : decode cX5_readBehindValue 106 = .ok (.aload_n 0, 1) := by decide +kernel
theorem dX5_readBehindValue_107 : decode cX5_readBehindValue 107 = .ok (.iconst 1, 1) := by decide +kernel
theorem dX5_readBehindValue_108 : decode cX5_readBehindValue 108 = .ok (.invokevirtual 59, 3) := by decide +kernel
theorem dX5_readBehindValue_111 : decode cX5_readBehindValue 111 = .ok (.ireturn, 1) := by decide +kernel
theorem dX5_readBehindValue_112 : decode cX5_readBehindValue 112 = .ok (.aload_n 0, 1) := by decide +kernel
theorem dX5_readBehindValue_113 : decode cX5_readBehindValue 113 = .ok (.invokevirtual 185, 3) := by decide +kernel
theorem dX5_readBehindValue_116 : decode cX5_readBehindValue 116 = .ok (.ifCond .eq 15, 3) := by decide +kernel
theorem dX5_readBehindValue_119 : decode cX5_readBehindValue 119 = .ok (.aload_n 0, 1) := by decide +kernel
theorem dX5_readBehindValue_120 : decode cX5_readBehindValue 120 = .ok (.iload_n 2, 1) := by decide +kernel
theorem dX5_readBehindValue_121 : decode cX5_readBehindValue 121 = .ok (.invokevirtual 175, 3) := by decide +kernel
theorem dX5_readBehindValue_124 : decode cX5_readBehindValue 124 = .ok (.ifCond .eq 7, 3) := by decide +kernel
theorem dX5_readBehindValue_127 : decode cX5_readBehindValue 127 = .ok (.iconst 1, 1) := by decide +kernel
theorem dX5_readBehindValue_128 : decode cX5_readBehindValue 128 = .ok (.goto 4, 3) := by decide +kernel
theorem dX5_readBehindValue_131 : decode cX5_readBehindValue 131 = .ok (.iconst 0, 1) := by decide +kernel
theorem dX5_readBehindValue_132 : decode cX5_readBehindValue 132 = .ok (.ireturn, 1) := by decide +kernel
theorem dX5_countKnot_0 : decode cX5_countKnot 0 = .ok (.aload_n 0, 1) := by decide +kernel
theorem dX5_countKnot_1 : decode cX5_countKnot 1 = .ok (.getfield 28, 3) := by decide +kernel
theorem dX5_countKnot_4 : decode cX5_countKnot 4 = .ok (.getfield 192, 3) := by decide +kernel
theorem dX5_countKnot_7 : decode cX5_countKnot 7 = .ok (.bipush 64, 2) := by decide +kernel
theorem dX5_countKnot_9 : decode cX5_countKnot 9 = .ok (.if_icmp .lt 9, 3) := by decide +kernel
theorem dX5_countKnot_12 : decode cX5_countKnot 12 = .ok (.aload_n 0, 1) := by decide +kernel
theorem dX5_countKnot_13 : decode cX5_countKnot 13 = .ok (.iconst 2, 1) := by decide +kernel
theorem dX5_countKnot_14 : decode cX5_countKnot 14 = .ok (.invokevirtual 59, 3) := by decide +kernel
theorem dX5_countKnot_17 : decode cX5_countKnot 17 = .ok (.ireturn, 1) := by decide +kernel
theorem dX5_countKnot_18 : decode cX5_countKnot 18 = .ok (.aload_n 0, 1) := by decide +kernel
theorem dX5_countKnot_19 : decode cX5_countKnot 19 = .ok (.getfield 28, 3) := by decide +kernel
theorem dX5_countKnot_22 : decode cX5_countKnot 22 = .ok (.dup, 1) := by decide +kernel
theorem dX5_countKnot_23 : decode cX5_countKnot 23 = .ok (.getfield 192, 3) := by decide +kernel
theorem dX5_countKnot_26 : decode cX5_countKnot 26 = .ok (.iconst 1, 1) := by decide +kernel
theorem dX5_countKnot_27 : decode cX5_countKnot 27 = .ok (.iadd, 1) := by decide +kernel
theorem dX5_countKnot_28 : decode cX5_countKnot 28 = .ok (.putfield 192, 3) := by decide +kernel
theorem dX5_countKnot_31 : decode cX5_countKnot 31 = .ok (.iconst 1, 1) := by decide +kernel
theorem dX5_countKnot_32 : decode cX5_countKnot 32 = .ok (.ireturn, 1) := by decide +kernel
theorem dX5_await_0 : decode cX5_await 0 = .ok (.aload_n 0, 1) := by decide +kernel
theorem dX5_await_1 : decode cX5_await 1 = .ok (.getfield 39, 3) := by decide +kernel
theorem dX5_await_4 : decode cX5_await 4 = .ok (.ifCond .lt 15, 3) := by decide +kernel
theorem dX5_await_7 : decode cX5_await 7 = .ok (.aload_n 0, 1) := by decide +kernel
theorem dX5_await_8 : decode cX5_await 8 = .ok (.getfield 39, 3) := by decide +kernel
theorem dX5_await_11 : decode cX5_await 11 = .ok (.aload_n 0, 1) := by decide +kernel
theorem dX5_await_12 : decode cX5_await 12 = .ok (.getfield 35, 3) := by decide +kernel
theorem dX5_await_15 : decode cX5_await 15 = .ok (.arraylength, 1) := by decide +kernel
theorem dX5_await_16 : decode cX5_await 16 = .ok (.if_icmp .lt 9, 3) := by decide +kernel
theorem dX5_await_19 : decode cX5_await 19 = .ok (.aload_n 0, 1) := by decide +kernel
theorem dX5_await_20 : decode cX5_await 20 = .ok (.iconst 2, 1) := by decide +kernel
theorem dX5_await_21 : decode cX5_await 21 = .ok (.invokevirtual 59, 3) := by decide +kernel
theorem dX5_await_24 : decode cX5_await 24 = .ok (.ireturn, 1) := by decide +kernel
theorem dX5_await_25 : decode cX5_await 25 = .ok (.aload_n 0, 1) := by decide +kernel
theorem dX5_await_26 : decode cX5_await 26 = .ok (.getfield 35, 3) := by decide +kernel
theorem dX5_await_29 : decode cX5_await 29 = .ok (.aload_n 0, 1) := by decide +kernel
theorem dX5_await_30 : decode cX5_await 30 = .ok (.getfield 39, 3) := by decide +kernel
theorem dX5_await_33 : decode cX5_await 33 = .ok (.iload_n 1, 1) := by decide +kernel
theorem dX5_await_34 : decode cX5_await 34 = .ok (.iastore, 1) := by decide +kernel
theorem dX5_await_35 : decode cX5_await 35 = .ok (.aload_n 0, 1) := by decide +kernel
theorem dX5_await_36 : decode cX5_await 36 = .ok (.dup, 1) := by decide +kernel
theorem dX5_await_37 : decode cX5_await 37 = .ok (.getfield 39, 3) := by decide +kernel
theorem dX5_await_40 : decode cX5_await 40 = .ok (.iconst 1, 1) := by decide +kernel
theorem dX5_await_41 : decode cX5_await 41 = .ok (.iadd, 1) := by decide +kernel
theorem dX5_await_42 : decode cX5_await 42 = .ok (.putfield 39, 3) := by decide +kernel
theorem dX5_await_45 : decode cX5_await 45 = .ok (.iconst 1, 1) := by decide +kernel
theorem dX5_await_46 : decode cX5_await 46 = .ok (.ireturn, 1) := by decide +kernel
theorem dX5_latest_0 : decode cX5_latest 0 = .ok (.aload_n 0, 1) := by decide +kernel
theorem dX5_latest_1 : decode cX5_latest 1 = .ok (.getfield 39, 3) := by decide +kernel
theorem dX5_latest_4 : decode cX5_latest 4 = .ok (.ifCond .le 29, 3) := by decide +kernel
theorem dX5_latest_7 : decode cX5_latest 7 = .ok (.aload_n 0, 1) := by decide +kernel
theorem dX5_latest_8 : decode cX5_latest 8 = .ok (.getfield 39, 3) := by decide +kernel
theorem dX5_latest_11 : decode cX5_latest 11 = .ok (.aload_n 0, 1) := by decide +kernel
theorem dX5_latest_12 : decode cX5_latest 12 = .ok (.getfield 35, 3) := by decide +kernel
theorem dX5_latest_15 : decode cX5_latest 15 = .ok (.arraylength, 1) := by decide +kernel
theorem dX5_latest_16 : decode cX5_latest 16 = .ok (.if_icmp .gt 17, 3) := by decide +kernel
theorem dX5_latest_19 : decode cX5_latest 19 = .ok (.aload_n 0, 1) := by decide +kernel
theorem dX5_latest_20 : decode cX5_latest 20 = .ok (.getfield 35, 3) := by decide +kernel
theorem dX5_latest_23 : decode cX5_latest 23 = .ok (.aload_n 0, 1) := by decide +kernel
theorem dX5_latest_24 : decode cX5_latest 24 = .ok (.getfield 39, 3) := by decide +kernel
theorem dX5_latest_27 : decode cX5_latest 27 = .ok (.iconst 1, 1) := by decide +kernel
theorem dX5_latest_28 : decode cX5_latest 28 = .ok (.isub, 1) := by decide +kernel
theorem dX5_latest_29 : decode cX5_latest 29 = .ok (.iaload, 1) := by decide +kernel
theorem dX5_latest_30 : decode cX5_latest 30 = .ok (.goto 5, 3) := by decide +kernel
theorem dX5_latest_33 : decode cX5_latest 33 = .ok (.bipush 25, 2) := by decide +kernel
theorem dX5_latest_35 : decode cX5_latest 35 = .ok (.ireturn, 1) := by decide +kernel
theorem dX5_settle_0 : decode cX5_settle 0 = .ok (.iconst 0, 1) := by decide +kernel
theorem dX5_settle_1 : decode cX5_settle 1 = .ok (.istore_n 3, 1) := by decide +kernel
theorem dX5_settle_2 : decode cX5_settle 2 = .ok (.iload_n 3, 1) := by decide +kernel
theorem dX5_settle_3 : decode cX5_settle 3 = .ok (.aload_n 0, 1) := by decide +kernel
theorem dX5_settle_4 : decode cX5_settle 4 = .ok (.getfield 35, 3) := by decide +kernel
theorem dX5_settle_7 : decode cX5_settle 7 = .ok (.arraylength, 1) := by decide +kernel
theorem dX5_settle_8 : decode cX5_settle 8 = .ok (.if_icmp .ge 46, 3) := by decide +kernel
theorem dX5_settle_11 : decode cX5_settle 11 = .ok (.aload_n 0, 1) := by decide +kernel
theorem dX5_settle_12 : decode cX5_settle 12 = .ok (.getfield 39, 3) := by decide +kernel
theorem dX5_settle_15 : decode cX5_settle 15 = .ok (.ifCond .le 39, 3) := by decide +kernel
theorem dX5_settle_18 : decode cX5_settle 18 = .ok (.aload_n 0, 1) := by decide +kernel
theorem dX5_settle_19 : decode cX5_settle 19 = .ok (.invokevirtual 178, 3) := by decide +kernel
theorem dX5_settle_22 : decode cX5_settle 22 = .ok (.invokestatic 182, 3) := by decide +kernel
theorem dX5_settle_25 : decode cX5_settle 25 = .ok (.iload_n 2, 1) := by decide +kernel
theorem dX5_settle_26 : decode cX5_settle 26 = .ok (.if_icmp .lt 28, 3) := by decide +kernel
theorem dX5_settle_29 : decode cX5_settle 29 = .ok (.aload_n 1, 1) := by decide +kernel
theorem dX5_settle_30 : decode cX5_settle 30 = .ok (.aload_n 0, 1) := by decide +kernel
theorem dX5_settle_31 : decode cX5_settle 31 = .ok (.invokevirtual 178, 3) := by decide +kernel
theorem dX5_settle_34 : decode cX5_settle 34 = .ok (.iconst 0, 1) := by decide +kernel
theorem dX5_settle_35 : decode cX5_settle 35 = .ok (.invokevirtual 188, 3) := by decide +kernel
theorem dX5_settle_38 : decode cX5_settle 38 = .ok (.aload_n 0, 1) := by decide +kernel
theorem dX5_settle_39 : decode cX5_settle 39 = .ok (.dup, 1) := by decide +kernel
theorem dX5_settle_40 : decode cX5_settle 40 = .ok (.getfield 39, 3) := by decide +kernel
theorem dX5_settle_43 : decode cX5_settle 43 = .ok (.iconst 1, 1) := by decide +kernel
theorem dX5_settle_44 : decode cX5_settle 44 = .ok (.isub, 1) := by decide +kernel
theorem dX5_settle_45 : decode cX5_settle 45 = .ok (.putfield 39, 3) := by decide +kernel
theorem dX5_settle_48 : decode cX5_settle 48 = .ok (.iinc 3 1, 3) := by decide +kernel
theorem dX5_settle_51 : decode cX5_settle 51 = .ok (.goto (-49), 3) := by decide +kernel
theorem dX5_settle_54 : decode cX5_settle 54 = .ok (.return_, 1) := by decide +kernel
theorem dX5_rank_0 : decode cX5_rank 0 = .ok (.iload_n 0, 1) := by decide +kernel
theorem dX5_rank_1 : decode cX5_rank 1 = .ok (.tableswitch 136 10 36 #[123, 125, 127, 136, 136, 136, 136, 136, 136, 136, 136, 136, 136, 136, 136, 136, 136, 129, 129, 129, 129, 129, 129, 131, 131, 133, 133], 123) := by decide +kernel
theorem dX5_rank_124 : decode cX5_rank 124 = .ok (.iconst 1, 1) := by decide +kernel
theorem dX5_rank_125 : decode cX5_rank 125 = .ok (.ireturn, 1) := by decide +kernel
theorem dX5_rank_126 : decode cX5_rank 126 = .ok (.iconst 2, 1) := by decide +kernel
theorem dX5_rank_127 : decode cX5_rank 127 = .ok (.ireturn, 1) := by decide +kernel
theorem dX5_rank_128 : decode cX5_rank 128 = .ok (.iconst 3, 1) := by decide +kernel
theorem dX5_rank_129 : decode cX5_rank 129 = .ok (.ireturn, 1) := by decide +kernel
theorem dX5_rank_130 : decode cX5_rank 130 = .ok (.iconst 4, 1) := by decide +kernel
theorem dX5_rank_131 : decode cX5_rank 131 = .ok (.ireturn, 1) := by decide +kernel
theorem dX5_rank_132 : decode cX5_rank 132 = .ok (.iconst 5, 1) := by decide +kernel
theorem dX5_rank_133 : decode cX5_rank 133 = .ok (.ireturn, 1) := by decide +kernel
theorem dX5_rank_134 : decode cX5_rank 134 = .ok (.bipush 6, 2) := by decide +kernel
theorem dX5_rank_136 : decode cX5_rank 136 = .ok (.ireturn, 1) := by decide +kernel
theorem dX5_rank_137 : decode cX5_rank 137 = .ok (.iconst 0, 1) := by decide +kernel
theorem dX5_rank_138 : decode cX5_rank 138 = .ok (.ireturn, 1) := by decide +kernel
