theorem dX4_init_0 : decode cX4_init 0 = .ok (.aload_n 0, 1) := by decide +kernel
theorem dX4_init_1 : decode cX4_init 1 = .ok (.invokespecial 3, 3) := by decide +kernel
theorem dX4_init_4 : decode cX4_init 4 = .ok (.aload_n 0, 1) := by decide +kernel
theorem dX4_init_5 : decode cX4_init 5 = .ok (.iconst 0, 1) := by decide +kernel
theorem dX4_init_6 : decode cX4_init 6 = .ok (.putfield 9, 3) := by decide +kernel
theorem dX4_init_9 : decode cX4_init 9 = .ok (.aload_n 0, 1) := by decide +kernel
theorem dX4_init_10 : decode cX4_init 10 = .ok (.iconst (-1), 1) := by decide +kernel
theorem dX4_init_11 : decode cX4_init 11 = .ok (.putfield 15, 3) := by decide +kernel
theorem dX4_init_14 : decode cX4_init 14 = .ok (.aload_n 0, 1) := by decide +kernel
theorem dX4_init_15 : decode cX4_init 15 = .ok (.bipush 24, 2) := by decide +kernel
theorem dX4_init_17 : decode cX4_init 17 = .ok (.newarray .int, 2) := by decide +kernel
theorem dX4_init_19 : decode cX4_init 19 = .ok (.putfield 18, 3) := by decide +kernel
theorem dX4_init_22 : decode cX4_init 22 = .ok (.aload_n 0, 1) := by decide +kernel
theorem dX4_init_23 : decode cX4_init 23 = .ok (.bipush 24, 2) := by decide +kernel
theorem dX4_init_25 : decode cX4_init 25 = .ok (.newarray .int, 2) := by decide +kernel
theorem dX4_init_27 : decode cX4_init 27 = .ok (.putfield 22, 3) := by decide +kernel
theorem dX4_init_30 : decode cX4_init 30 = .ok (.aload_n 0, 1) := by decide +kernel
theorem dX4_init_31 : decode cX4_init 31 = .ok (.bipush 24, 2) := by decide +kernel
theorem dX4_init_33 : decode cX4_init 33 = .ok (.newarray .int, 2) := by decide +kernel
theorem dX4_init_35 : decode cX4_init 35 = .ok (.putfield 25, 3) := by decide +kernel
theorem dX4_init_38 : decode cX4_init 38 = .ok (.aload_n 0, 1) := by decide +kernel
theorem dX4_init_39 : decode cX4_init 39 = .ok (.bipush 24, 2) := by decide +kernel
theorem dX4_init_41 : decode cX4_init 41 = .ok (.newarray .boolean, 2) := by decide +kernel
theorem dX4_init_43 : decode cX4_init 43 = .ok (.putfield 28, 3) := by decide +kernel
theorem dX4_init_46 : decode cX4_init 46 = .ok (.aload_n 0, 1) := by decide +kernel
theorem dX4_init_47 : decode cX4_init 47 = .ok (.bipush 24, 2) := by decide +kernel
theorem dX4_init_49 : decode cX4_init 49 = .ok (.newarray .int, 2) := by decide +kernel
theorem dX4_init_51 : decode cX4_init 51 = .ok (.putfield 32, 3) := by decide +kernel
theorem dX4_init_54 : decode cX4_init 54 = .ok (.aload_n 0, 1) := by decide +kernel
theorem dX4_init_55 : decode cX4_init 55 = .ok (.bipush 24, 2) := by decide +kernel
theorem dX4_init_57 : decode cX4_init 57 = .ok (.newarray .boolean, 2) := by decide +kernel
theorem dX4_init_59 : decode cX4_init 59 = .ok (.putfield 35, 3) := by decide +kernel
theorem dX4_init_62 : decode cX4_init 62 = .ok (.return_, 1) := by decide +kernel
theorem dX4_clear_0 : decode cX4_clear 0 = .ok (.aload_n 0, 1) := by decide +kernel
theorem dX4_clear_1 : decode cX4_clear 1 = .ok (.iconst 0, 1) := by decide +kernel
theorem dX4_clear_2 : decode cX4_clear 2 = .ok (.putfield 9, 3) := by decide +kernel
theorem dX4_clear_5 : decode cX4_clear 5 = .ok (.aload_n 0, 1) := by decide +kernel
theorem dX4_clear_6 : decode cX4_clear 6 = .ok (.iconst (-1), 1) := by decide +kernel
theorem dX4_clear_7 : decode cX4_clear 7 = .ok (.putfield 15, 3) := by decide +kernel
theorem dX4_clear_10 : decode cX4_clear 10 = .ok (.return_, 1) := by decide +kernel
theorem dX4_knownBy_0 : decode cX4_knownBy 0 = .ok (.aload_n 0, 1) := by decide +kernel
theorem dX4_knownBy_1 : decode cX4_knownBy 1 = .ok (.getfield 15, 3) := by decide +kernel
theorem dX4_knownBy_4 : decode cX4_knownBy 4 = .ok (.iconst (-1), 1) := by decide +kernel
theorem dX4_knownBy_5 : decode cX4_knownBy 5 = .ok (.if_icmp .ne 10, 3) := by decide +kernel
theorem dX4_knownBy_8 : decode cX4_knownBy 8 = .ok (.aload_n 0, 1) := by decide +kernel
theorem dX4_knownBy_9 : decode cX4_knownBy 9 = .ok (.getfield 9, 3) := by decide +kernel
theorem dX4_knownBy_12 : decode cX4_knownBy 12 = .ok (.goto 14, 3) := by decide +kernel
theorem dX4_knownBy_15 : decode cX4_knownBy 15 = .ok (.aload_n 0, 1) := by decide +kernel
theorem dX4_knownBy_16 : decode cX4_knownBy 16 = .ok (.getfield 15, 3) := by decide +kernel
theorem dX4_knownBy_19 : decode cX4_knownBy 19 = .ok (.aload_n 0, 1) := by decide +kernel
theorem dX4_knownBy_20 : decode cX4_knownBy 20 = .ok (.getfield 9, 3) := by decide +kernel
theorem dX4_knownBy_23 : decode cX4_knownBy 23 = .ok (.invokestatic 38, 3) := by decide +kernel
theorem dX4_knownBy_26 : decode cX4_knownBy 26 = .ok (.ireturn, 1) := by decide +kernel
theorem dX4_add_0 : decode cX4_add 0 = .ok (.aload_n 0, 1) := by decide +kernel
theorem dX4_add_1 : decode cX4_add 1 = .ok (.getfield 9, 3) := by decide +kernel
theorem dX4_add_4 : decode cX4_add 4 = .ok (.bipush 24, 2) := by decide +kernel
theorem dX4_add_6 : decode cX4_add 6 = .ok (.if_icmp .lt 5, 3) := by decide +kernel
theorem dX4_add_9 : decode cX4_add 9 = .ok (.iconst (-1), 1) := by decide +kernel
theorem dX4_add_10 : decode cX4_add 10 = .ok (.ireturn, 1) := by decide +kernel
theorem dX4_add_11 : decode cX4_add 11 = .ok (.aload_n 0, 1) := by decide +kernel
theorem dX4_add_12 : decode cX4_add 12 = .ok (.getfield 18, 3) := by decide +kernel
theorem dX4_add_15 : decode cX4_add 15 = .ok (.aload_n 0, 1) := by decide +kernel
theorem dX4_add_16 : decode cX4_add 16 = .ok (.getfield 9, 3) := by decide +kernel
theorem dX4_add_19 : decode cX4_add 19 = .ok (.iload_n 1, 1) := by decide +kernel
theorem dX4_add_20 : decode cX4_add 20 = .ok (.iastore, 1) := by decide +kernel
theorem dX4_add_21 : decode cX4_add 21 = .ok (.aload_n 0, 1) := by decide +kernel
theorem dX4_add_22 : decode cX4_add 22 = .ok (.getfield 22, 3) := by decide +kernel
theorem dX4_add_25 : decode cX4_add 25 = .ok (.aload_n 0, 1) := by decide +kernel
theorem dX4_add_26 : decode cX4_add 26 = .ok (.getfield 9, 3) := by decide +kernel
theorem dX4_add_29 : decode cX4_add 29 = .ok (.iload_n 2, 1) := by decide +kernel
theorem dX4_add_30 : decode cX4_add 30 = .ok (.iastore, 1) := by decide +kernel
theorem dX4_add_31 : decode cX4_add 31 = .ok (.aload_n 0, 1) := by decide +kernel
theorem dX4_add_32 : decode cX4_add 32 = .ok (.getfield 25, 3) := by decide +kernel
theorem dX4_add_35 : decode cX4_add 35 = .ok (.aload_n 0, 1) := by decide +kernel
theorem dX4_add_36 : decode cX4_add 36 = .ok (.getfield 9, 3) := by decide +kernel
theorem dX4_add_39 : decode cX4_add 39 = .ok (.iload_n 3, 1) := by decide +kernel
theorem dX4_add_40 : decode cX4_add 40 = .ok (.iastore, 1) := by decide +kernel
theorem dX4_add_41 : decode cX4_add 41 = .ok (.aload_n 0, 1) := by decide +kernel
theorem dX4_add_42 : decode cX4_add 42 = .ok (.getfield 28, 3) := by decide +kernel
theorem dX4_add_45 : decode cX4_add 45 = .ok (.aload_n 0, 1) := by decide +kernel
theorem dX4_add_46 : decode cX4_add 46 = .ok (.getfield 9, 3) := by decide +kernel
theorem dX4_add_49 : decode cX4_add 49 = .ok (.iload 4, 2) := by decide +kernel
theorem dX4_add_51 : decode cX4_add 51 = .ok (.bastore, 1) := by decide +kernel
theorem dX4_add_52 : decode cX4_add 52 = .ok (.aload_n 0, 1) := by decide +kernel
theorem dX4_add_53 : decode cX4_add 53 = .ok (.getfield 32, 3) := by decide +kernel
theorem dX4_add_56 : decode cX4_add 56 = .ok (.aload_n 0, 1) := by decide +kernel
theorem dX4_add_57 : decode cX4_add 57 = .ok (.getfield 9, 3) := by decide +kernel
theorem dX4_add_60 : decode cX4_add 60 = .ok (.iconst (-1), 1) := by decide +kernel
theorem dX4_add_61 : decode cX4_add 61 = .ok (.iastore, 1) := by decide +kernel
theorem dX4_add_62 : decode cX4_add 62 = .ok (.aload_n 0, 1) := by decide +kernel
theorem dX4_add_63 : decode cX4_add 63 = .ok (.dup, 1) := by decide +kernel
theorem dX4_add_64 : decode cX4_add 64 = .ok (.getfield 9, 3) := by decide +kernel
theorem dX4_add_67 : decode cX4_add 67 = .ok (.iconst 1, 1) := by decide +kernel
theorem dX4_add_68 : decode cX4_add 68 = .ok (.iadd, 1) := by decide +kernel
theorem dX4_add_69 : decode cX4_add 69 = .ok (.putfield 9, 3) := by decide +kernel
theorem dX4_add_72 : decode cX4_add 72 = .ok (.aload_n 0, 1) := by decide +kernel
theorem dX4_add_73 : decode cX4_add 73 = .ok (.getfield 9, 3) := by decide +kernel
theorem dX4_add_76 : decode cX4_add 76 = .ok (.iconst 1, 1) := by decide +kernel
theorem dX4_add_77 : decode cX4_add 77 = .ok (.isub, 1) := by decide +kernel
theorem dX4_add_78 : decode cX4_add 78 = .ok (.ireturn, 1) := by decide +kernel
theorem dX4_addStrike_0 : decode cX4_addStrike 0 = .ok (.aload_n 0, 1) := by decide +kernel
theorem dX4_addStrike_1 : decode cX4_addStrike 1 = .ok (.iconst 0, 1) := by decide +kernel
theorem dX4_addStrike_2 : decode cX4_addStrike 2 = .ok (.iconst 0, 1) := by decide +kernel
theorem dX4_addStrike_3 : decode cX4_addStrike 3 = .ok (.iconst 0, 1) := by decide +kernel
theorem dX4_addStrike_4 : decode cX4_addStrike 4 = .ok (.iconst 0, 1) := by decide +kernel
theorem dX4_addStrike_5 : decode cX4_addStrike 5 = .ok (.invokevirtual 44, 3) := by decide +kernel
theorem dX4_addStrike_8 : decode cX4_addStrike 8 = .ok (.istore_n 2, 1) := by decide +kernel
theorem dX4_addStrike_9 : decode cX4_addStrike 9 = .ok (.iload_n 2, 1) := by decide +kernel
theorem dX4_addStrike_10 : decode cX4_addStrike 10 = .ok (.iconst (-1), 1) := by decide +kernel
theorem dX4_addStrike_11 : decode cX4_addStrike 11 = .ok (.if_icmp .eq 10, 3) := by decide +kernel
theorem dX4_addStrike_14 : decode cX4_addStrike 14 = .ok (.aload_n 0, 1) := by decide +kernel
theorem dX4_addStrike_15 : decode cX4_addStrike 15 = .ok (.getfield 32, 3) := by decide +kernel
theorem dX4_addStrike_18 : decode cX4_addStrike 18 = .ok (.iload_n 2, 1) := by decide +kernel
theorem dX4_addStrike_19 : decode cX4_addStrike 19 = .ok (.iload_n 1, 1) := by decide +kernel
theorem dX4_addStrike_20 : decode cX4_addStrike 20 = .ok (.iastore, 1) := by decide +kernel
theorem dX4_addStrike_21 : decode cX4_addStrike 21 = .ok (.iload_n 2, 1) := by decide +kernel
theorem dX4_addStrike_22 : decode cX4_addStrike 22 = .ok (.ireturn, 1) := by decide +kernel
theorem dX4_strike_0 : decode cX4_strike 0 = .ok (.iconst 0, 1) := by decide +kernel
theorem dX4_strike_1 : decode cX4_strike 1 = .ok (.istore_n 1, 1) := by decide +kernel
theorem dX4_strike_2 : decode cX4_strike 2 = .ok (.iload_n 1, 1) := by decide +kernel
theorem dX4_strike_3 : decode cX4_strike 3 = .ok (.bipush 24, 2) := by decide +kernel
theorem dX4_strike_5 : decode cX4_strike 5 = .ok (.if_icmp .ge 16, 3) := by decide +kernel
theorem dX4_strike_8 : decode cX4_strike 8 = .ok (.aload_n 0, 1) := by decide +kernel
theorem dX4_strike_9 : decode cX4_strike 9 = .ok (.getfield 35, 3) := by decide +kernel
theorem dX4_strike_12 : decode cX4_strike 12 = .ok (.iload_n 1, 1) := by decide +kernel
theorem dX4_strike_13 : decode cX4_strike 13 = .ok (.iconst 0, 1) := by decide +kernel
theorem dX4_strike_14 : decode cX4_strike 14 = .ok (.bastore, 1) := by decide +kernel
theorem dX4_strike_15 : decode cX4_strike 15 = .ok (.iinc 1 1, 3) := by decide +kernel
theorem dX4_strike_18 : decode cX4_strike 18 = .ok (.goto (-16), 3) := by decide +kernel
theorem dX4_strike_21 : decode cX4_strike 21 = .ok (.aload_n 0, 1) := by decide +kernel
theorem dX4_strike_22 : decode cX4_strike 22 = .ok (.invokevirtual 48, 3) := by decide +kernel
theorem dX4_strike_25 : decode cX4_strike 25 = .ok (.iconst 1, 1) := by decide +kernel
theorem dX4_strike_26 : decode cX4_strike 26 = .ok (.isub, 1) := by decide +kernel
theorem dX4_strike_27 : decode cX4_strike 27 = .ok (.istore_n 1, 1) := by decide +kernel
theorem dX4_strike_28 : decode cX4_strike 28 = .ok (.iload_n 1, 1) := by decide +kernel
theorem dX4_strike_29 : decode cX4_strike 29 = .ok (.ifCond .lt 42, 3) := by decide +kernel
theorem dX4_strike_32 : decode cX4_strike 32 = .ok (.aload_n 0, 1) := by decide +kernel
theorem dX4_strike_33 : decode cX4_strike 33 = .ok (.getfield 32, 3) := by decide +kernel
theorem dX4_strike_36 : decode cX4_strike 36 = .ok (.iload_n 1, 1) := by decide +kernel
theorem dX4_strike_37 : decode cX4_strike 37 = .ok (.iaload, 1) := by decide +kernel
theorem dX4_strike_38 : decode cX4_strike 38 = .ok (.istore_n 2, 1) := by decide +kernel
theorem dX4_strike_39 : decode cX4_strike 39 = .ok (.aload_n 0, 1) := by decide +kernel
theorem dX4_strike_40 : decode cX4_strike 40 = .ok (.getfield 35, 3) := by decide +kernel
theorem dX4_strike_43 : decode cX4_strike 43 = .ok (.iload_n 1, 1) := by decide +kernel
theorem dX4_strike_44 : decode cX4_strike 44 = .ok (.baload, 1) := by decide +kernel
theorem dX4_strike_45 : decode cX4_strike 45 = .ok (.ifCond .ne 20, 3) := by decide +kernel
theorem dX4_strike_48 : decode cX4_strike 48 = .ok (.iload_n 2, 1) := by decide +kernel
theorem dX4_strike_49 : decode cX4_strike 49 = .ok (.ifCond .lt 16, 3) := by decide +kernel
theorem dX4_strike_52 : decode cX4_strike 52 = .ok (.iload_n 2, 1) := by decide +kernel
theorem dX4_strike_53 : decode cX4_strike 53 = .ok (.bipush 24, 2) := by decide +kernel
theorem dX4_strike_55 : decode cX4_strike 55 = .ok (.if_icmp .ge 10, 3) := by decide +kernel
theorem dX4_strike_58 : decode cX4_strike 58 = .ok (.aload_n 0, 1) := by decide +kernel
theorem dX4_strike_59 : decode cX4_strike 59 = .ok (.getfield 35, 3) := by decide +kernel
theorem dX4_strike_62 : decode cX4_strike 62 = .ok (.iload_n 2, 1) := by decide +kernel
theorem dX4_strike_63 : decode cX4_strike 63 = .ok (.iconst 1, 1) := by decide +kernel
theorem dX4_strike_64 : decode cX4_strike 64 = .ok (.bastore, 1) := by decide +kernel
theorem dX4_strike_65 : decode cX4_strike 65 = .ok (.iinc 1 (-1), 3) := by decide +kernel
theorem dX4_strike_68 : decode cX4_strike 68 = .ok (.goto (-40), 3) := by decide +kernel
theorem dX4_strike_71 : decode cX4_strike 71 = .ok (.return_, 1) := by decide +kernel
theorem dX4_holdOn_0 : decode cX4_holdOn 0 = .ok (.iconst 0, 1) := by decide +kernel
theorem dX4_holdOn_1 : decode cX4_holdOn 1 = .ok (.istore_n 3, 1) := by decide +kernel
theorem dX4_holdOn_2 : decode cX4_holdOn 2 = .ok (.iconst 0, 1) := by decide +kernel
theorem dX4_holdOn_3 : decode cX4_holdOn 3 = .ok (.istore 4, 2) := by decide +kernel
theorem dX4_holdOn_5 : decode cX4_holdOn 5 = .ok (.iload 4, 2) := by decide +kernel
theorem dX4_holdOn_7 : decode cX4_holdOn 7 = .ok (.aload_n 0, 1) := by decide +kernel
theorem dX4_holdOn_8 : decode cX4_holdOn 8 = .ok (.invokevirtual 48, 3) := by decide +kernel
theorem dX4_holdOn_11 : decode cX4_holdOn 11 = .ok (.if_icmp .ge 42, 3) := by decide +kernel
theorem dX4_holdOn_14 : decode cX4_holdOn 14 = .ok (.aload_n 0, 1) := by decide +kernel
theorem dX4_holdOn_15 : decode cX4_holdOn 15 = .ok (.getfield 35, 3) := by decide +kernel
theorem dX4_holdOn_18 : decode cX4_holdOn 18 = .ok (.iload 4, 2) := by decide +kernel
theorem dX4_holdOn_20 : decode cX4_holdOn 20 = .ok (.baload, 1) := by decide +kernel
theorem dX4_holdOn_21 : decode cX4_holdOn 21 = .ok (.ifCond .ne 26, 3) := by decide +kernel
theorem dX4_holdOn_24 : decode cX4_holdOn 24 = .ok (.aload_n 0, 1) := by decide +kernel
theorem dX4_holdOn_25 : decode cX4_holdOn 25 = .ok (.getfield 32, 3) := by decide +kernel
theorem dX4_holdOn_28 : decode cX4_holdOn 28 = .ok (.iload 4, 2) := by decide +kernel
theorem dX4_holdOn_30 : decode cX4_holdOn 30 = .ok (.iaload, 1) := by decide +kernel
theorem dX4_holdOn_31 : decode cX4_holdOn 31 = .ok (.iconst (-1), 1) := by decide +kernel
theorem dX4_holdOn_32 : decode cX4_holdOn 32 = .ok (.if_icmp .ne 15, 3) := by decide +kernel
theorem dX4_holdOn_35 : decode cX4_holdOn 35 = .ok (.iload_n 3, 1) := by decide +kernel
theorem dX4_holdOn_36 : decode cX4_holdOn 36 = .ok (.aload_n 0, 1) := by decide +kernel
theorem dX4_holdOn_37 : decode cX4_holdOn 37 = .ok (.getfield 18, 3) := by decide +kernel
theorem dX4_holdOn_40 : decode cX4_holdOn 40 = .ok (.iload 4, 2) := by decide +kernel
theorem dX4_holdOn_42 : decode cX4_holdOn 42 = .ok (.iaload, 1) := by decide +kernel
theorem dX4_holdOn_43 : decode cX4_holdOn 43 = .ok (.invokestatic 52, 3) := by decide +kernel
theorem dX4_holdOn_46 : decode cX4_holdOn 46 = .ok (.istore_n 3, 1) := by decide +kernel
theorem dX4_holdOn_47 : decode cX4_holdOn 47 = .ok (.iinc 4 1, 3) := by decide +kernel
theorem dX4_holdOn_50 : decode cX4_holdOn 50 = .ok (.goto (-45), 3) := by decide +kernel
theorem dX4_holdOn_53 : decode cX4_holdOn 53 = .ok (.iconst 1, 1) := by decide +kernel
theorem dX4_holdOn_54 : decode cX4_holdOn 54 = .ok (.istore 4, 2) := by decide +kernel
theorem dX4_holdOn_56 : decode cX4_holdOn 56 = .ok (.iload 4, 2) := by decide +kernel
theorem dX4_holdOn_58 : decode cX4_holdOn 58 = .ok (.iload_n 3, 1) := by decide +kernel
theorem dX4_holdOn_59 : decode cX4_holdOn 59 = .ok (.if_icmp .gt 33, 3) := by decide +kernel
theorem dX4_holdOn_62 : decode cX4_holdOn 62 = .ok (.iload 4, 2) := by decide +kernel
theorem dX4_holdOn_64 : decode cX4_holdOn 64 = .ok (.bipush 30, 2) := by decide +kernel
theorem dX4_holdOn_66 : decode cX4_holdOn 66 = .ok (.if_icmp .gt 26, 3) := by decide +kernel
theorem dX4_holdOn_69 : decode cX4_holdOn 69 = .ok (.aload_n 1, 1) := by decide +kernel
theorem dX4_holdOn_70 : decode cX4_holdOn 70 = .ok (.iconst 1, 1) := by decide +kernel
theorem dX4_holdOn_71 : decode cX4_holdOn 71 = .ok (.invokevirtual 55, 3) := by decide +kernel
theorem dX4_holdOn_74 : decode cX4_holdOn 74 = .ok (.aload_n 0, 1) := by decide +kernel
theorem dX4_holdOn_75 : decode cX4_holdOn 75 = .ok (.iload 4, 2) := by decide +kernel
theorem dX4_holdOn_77 : decode cX4_holdOn 77 = .ok (.aload_n 2, 1) := by decide +kernel
theorem dX4_holdOn_78 : decode cX4_holdOn 78 = .ok (.invokevirtual 61, 3) := by decide +kernel
theorem dX4_holdOn_81 : decode cX4_holdOn 81 = .ok (.ifCond .ne 5, 3) := by decide +kernel
theorem dX4_holdOn_84 : decode cX4_holdOn 84 = .ok (.iconst 0, 1) := by decide +kernel
theorem dX4_holdOn_85 : decode cX4_holdOn 85 = .ok (.ireturn, 1) := by decide +kernel
theorem dX4_holdOn_86 : decode cX4_holdOn 86 = .ok (.iinc 4 1, 3) := by decide +kernel
theorem dX4_holdOn_89 : decode cX4_holdOn 89 = .ok (.goto (-33), 3) := by decide +kernel
theorem dX4_holdOn_92 : decode cX4_holdOn 92 = .ok (.iconst 1, 1) := by decide +kernel
theorem dX4_holdOn_93 : decode cX4_holdOn 93 = .ok (.ireturn, 1) := by decide +kernel
theorem dX4_areSo_0 : decode cX4_areSo 0 = .ok (.iconst 0, 1) := by decide +kernel
theorem dX4_areSo_1 : decode cX4_areSo 1 = .ok (.istore_n 3, 1) := by decide +kernel
theorem dX4_areSo_2 : decode cX4_areSo 2 = .ok (.iload_n 3, 1) := by decide +kernel
theorem dX4_areSo_3 : decode cX4_areSo 3 = .ok (.aload_n 0, 1) := by decide +kernel
theorem dX4_areSo_4 : decode cX4_areSo 4 = .ok (.invokevirtual 48, 3) := by decide +kernel
theorem dX4_areSo_7 : decode cX4_areSo 7 = .ok (.if_icmp .ge 96, 3) := by decide +kernel
theorem dX4_areSo_10 : decode cX4_areSo 10 = .ok (.aload_n 0, 1) := by decide +kernel
theorem dX4_areSo_11 : decode cX4_areSo 11 = .ok (.getfield 35, 3) := by decide +kernel
theorem dX4_areSo_14 : decode cX4_areSo 14 = .ok (.iload_n 3, 1) := by decide +kernel
theorem dX4_areSo_15 : decode cX4_areSo 15 = .ok (.baload, 1) := by decide +kernel
theorem dX4_areSo_16 : decode cX4_areSo 16 = .ok (.ifCond .ne 81, 3) := by decide +kernel
theorem dX4_areSo_19 : decode cX4_areSo 19 = .ok (.aload_n 0, 1) := by decide +kernel
theorem dX4_areSo_20 : decode cX4_areSo 20 = .ok (.getfield 32, 3) := by decide +kernel
theorem dX4_areSo_23 : decode cX4_areSo 23 = .ok (.iload_n 3, 1) := by decide +kernel
theorem dX4_areSo_24 : decode cX4_areSo 24 = .ok (.iaload, 1) := by decide +kernel
theorem dX4_areSo_25 : decode cX4_areSo 25 = .ok (.iconst (-1), 1) := by decide +kernel
theorem dX4_areSo_26 : decode cX4_areSo 26 = .ok (.if_icmp .ne 71, 3) := by decide +kernel
theorem dX4_areSo_29 : decode cX4_areSo 29 = .ok (.aload_n 0, 1) := by decide +kernel
theorem dX4_areSo_30 : decode cX4_areSo 30 = .ok (.getfield 18, 3) := by decide +kernel
theorem dX4_areSo_33 : decode cX4_areSo 33 = .ok (.iload_n 3, 1) := by decide +kernel
theorem dX4_areSo_34 : decode cX4_areSo 34 = .ok (.iaload, 1) := by decide +kernel
theorem dX4_areSo_35 : decode cX4_areSo 35 = .ok (.iload_n 1, 1) := by decide +kernel
theorem dX4_areSo_36 : decode cX4_areSo 36 = .ok (.if_icmp .eq 6, 3) := by decide +kernel
theorem dX4_areSo_39 : decode cX4_areSo 39 = .ok (.goto 58, 3) := by decide +kernel
theorem dX4_areSo_42 : decode cX4_areSo 42 = .ok (.aload_n 0, 1) := by decide +kernel
theorem dX4_areSo_43 : decode cX4_areSo 43 = .ok (.getfield 22, 3) := by decide +kernel
theorem dX4_areSo_46 : decode cX4_areSo 46 = .ok (.iload_n 3, 1) := by decide +kernel
theorem dX4_areSo_47 : decode cX4_areSo 47 = .ok (.iaload, 1) := by decide +kernel
theorem dX4_areSo_48 : decode cX4_areSo 48 = .ok (.istore 4, 2) := by decide +kernel
theorem dX4_areSo_50 : decode cX4_areSo 50 = .ok (.iload 4, 2) := by decide +kernel
theorem dX4_areSo_52 : decode cX4_areSo 52 = .ok (.ifCond .lt 45, 3) := by decide +kernel
theorem dX4_areSo_55 : decode cX4_areSo 55 = .ok (.iload 4, 2) := by decide +kernel
theorem dX4_areSo_57 : decode cX4_areSo 57 = .ok (.bipush 8, 2) := by decide +kernel
theorem dX4_areSo_59 : decode cX4_areSo 59 = .ok (.if_icmp .lt 6, 3) := by decide +kernel
theorem dX4_areSo_62 : decode cX4_areSo 62 = .ok (.goto 35, 3) := by decide +kernel
theorem dX4_areSo_65 : decode cX4_areSo 65 = .ok (.aload_n 2, 1) := by decide +kernel
theorem dX4_areSo_66 : decode cX4_areSo 66 = .ok (.getfield 65, 3) := by decide +kernel
theorem dX4_areSo_69 : decode cX4_areSo 69 = .ok (.iload 4, 2) := by decide +kernel
theorem dX4_areSo_71 : decode cX4_areSo 71 = .ok (.iaload, 1) := by decide +kernel
theorem dX4_areSo_72 : decode cX4_areSo 72 = .ok (.aload_n 0, 1) := by decide +kernel
theorem dX4_areSo_73 : decode cX4_areSo 73 = .ok (.getfield 25, 3) := by decide +kernel
theorem dX4_areSo_76 : decode cX4_areSo 76 = .ok (.iload_n 3, 1) := by decide +kernel
theorem dX4_areSo_77 : decode cX4_areSo 77 = .ok (.iaload, 1) := by decide +kernel
theorem dX4_areSo_78 : decode cX4_areSo 78 = .ok (.if_icmp .ne 7, 3) := by decide +kernel
theorem dX4_areSo_81 : decode cX4_areSo 81 = .ok (.iconst 1, 1) := by decide +kernel
theorem dX4_areSo_82 : decode cX4_areSo 82 = .ok (.goto 4, 3) := by decide +kernel
theorem dX4_areSo_85 : decode cX4_areSo 85 = .ok (.iconst 0, 1) := by decide +kernel
theorem dX4_areSo_86 : decode cX4_areSo 86 = .ok (.aload_n 0, 1) := by decide +kernel
theorem dX4_areSo_87 : decode cX4_areSo 87 = .ok (.getfield 28, 3) := by decide +kernel
theorem dX4_areSo_90 : decode cX4_areSo 90 = .ok (.iload_n 3, 1) := by decide +kernel
theorem dX4_areSo_91 : decode cX4_areSo 91 = .ok (.baload, 1) := by decide +kernel
theorem dX4_areSo_92 : decode cX4_areSo 92 = .ok (.if_icmp .eq 5, 3) := by decide +kernel
theorem dX4_areSo_95 : decode cX4_areSo 95 = .ok (.iconst 0, 1) := by decide +kernel
theorem dX4_areSo_96 : decode cX4_areSo 96 = .ok (.ireturn, 1) := by decide +kernel
theorem dX4_areSo_97 : decode cX4_areSo 97 = .ok (.iinc 3 1, 3) := by decide +kernel
theorem dX4_areSo_100 : decode cX4_areSo 100 = .ok (.goto (-98), 3) := by decide +kernel
theorem dX4_areSo_103 : decode cX4_areSo 103 = .ok (.iconst 1, 1) := by decide +kernel
theorem dX4_areSo_104 : decode cX4_areSo 104 = .ok (.ireturn, 1) := by decide +kernel
