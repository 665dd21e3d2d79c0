theorem dX8_init_0 : decode cX8_init 0 = .ok (.aload_n 0, 1) := by decide +kernel
theorem dX8_init_1 : decode cX8_init 1 = .ok (.invokespecial 3, 3) := by decide +kernel
theorem dX8_init_4 : decode cX8_init 4 = .ok (.aload_n 0, 1) := by decide +kernel
theorem dX8_init_5 : decode cX8_init 5 = .ok (.iconst 0, 1) := by decide +kernel
theorem dX8_init_6 : decode cX8_init 6 = .ok (.putfield 9, 3) := by decide +kernel
theorem dX8_init_9 : decode cX8_init 9 = .ok (.aload_n 0, 1) := by decide +kernel
theorem dX8_init_10 : decode cX8_init 10 = .ok (.bipush 20, 2) := by decide +kernel
theorem dX8_init_12 : decode cX8_init 12 = .ok (.newarray .int, 2) := by decide +kernel
theorem dX8_init_14 : decode cX8_init 14 = .ok (.putfield 15, 3) := by decide +kernel
theorem dX8_init_17 : decode cX8_init 17 = .ok (.aload_n 0, 1) := by decide +kernel
theorem dX8_init_18 : decode cX8_init 18 = .ok (.bipush 20, 2) := by decide +kernel
theorem dX8_init_20 : decode cX8_init 20 = .ok (.newarray .int, 2) := by decide +kernel
theorem dX8_init_22 : decode cX8_init 22 = .ok (.putfield 19, 3) := by decide +kernel
theorem dX8_init_25 : decode cX8_init 25 = .ok (.aload_n 0, 1) := by decide +kernel
theorem dX8_init_26 : decode cX8_init 26 = .ok (.bipush 20, 2) := by decide +kernel
theorem dX8_init_28 : decode cX8_init 28 = .ok (.newarray .int, 2) := by decide +kernel
theorem dX8_init_30 : decode cX8_init 30 = .ok (.putfield 22, 3) := by decide +kernel
theorem dX8_init_33 : decode cX8_init 33 = .ok (.return_, 1) := by decide +kernel
theorem dX8_clear_0 : decode cX8_clear 0 = .ok (.aload_n 0, 1) := by decide +kernel
theorem dX8_clear_1 : decode cX8_clear 1 = .ok (.iconst 0, 1) := by decide +kernel
theorem dX8_clear_2 : decode cX8_clear 2 = .ok (.putfield 9, 3) := by decide +kernel
theorem dX8_clear_5 : decode cX8_clear 5 = .ok (.return_, 1) := by decide +kernel
theorem dX8_add_0 : decode cX8_add 0 = .ok (.aload_n 0, 1) := by decide +kernel
theorem dX8_add_1 : decode cX8_add 1 = .ok (.getfield 9, 3) := by decide +kernel
theorem dX8_add_4 : decode cX8_add 4 = .ok (.bipush 20, 2) := by decide +kernel
theorem dX8_add_6 : decode cX8_add 6 = .ok (.if_icmp .lt 7, 3) := by decide +kernel
theorem dX8_add_9 : decode cX8_add 9 = .ok (.aload_n 0, 1) := by decide +kernel
theorem dX8_add_10 : decode cX8_add 10 = .ok (.invokevirtual 25, 3) := by decide +kernel
theorem dX8_add_13 : decode cX8_add 13 = .ok (.aload_n 0, 1) := by decide +kernel
theorem dX8_add_14 : decode cX8_add 14 = .ok (.getfield 9, 3) := by decide +kernel
theorem dX8_add_17 : decode cX8_add 17 = .ok (.ifCond .lt 12, 3) := by decide +kernel
theorem dX8_add_20 : decode cX8_add 20 = .ok (.aload_n 0, 1) := by decide +kernel
theorem dX8_add_21 : decode cX8_add 21 = .ok (.getfield 9, 3) := by decide +kernel
theorem dX8_add_24 : decode cX8_add 24 = .ok (.bipush 20, 2) := by decide +kernel
theorem dX8_add_26 : decode cX8_add 26 = .ok (.if_icmp .lt 4, 3) := by decide +kernel
theorem dX8_add_29 : decode cX8_add 29 = .ok (.return_, 1) := by decide +kernel
theorem dX8_add_30 : decode cX8_add 30 = .ok (.aload_n 0, 1) := by decide +kernel
theorem dX8_add_31 : decode cX8_add 31 = .ok (.getfield 15, 3) := by decide +kernel
theorem dX8_add_34 : decode cX8_add 34 = .ok (.aload_n 0, 1) := by decide +kernel
theorem dX8_add_35 : decode cX8_add 35 = .ok (.getfield 9, 3) := by decide +kernel
theorem dX8_add_38 : decode cX8_add 38 = .ok (.iload_n 1, 1) := by decide +kernel
theorem dX8_add_39 : decode cX8_add 39 = .ok (.iastore, 1) := by decide +kernel
theorem dX8_add_40 : decode cX8_add 40 = .ok (.aload_n 0, 1) := by decide +kernel
theorem dX8_add_41 : decode cX8_add 41 = .ok (.getfield 19, 3) := by decide +kernel
theorem dX8_add_44 : decode cX8_add 44 = .ok (.aload_n 0, 1) := by decide +kernel
theorem dX8_add_45 : decode cX8_add 45 = .ok (.getfield 9, 3) := by decide +kernel
theorem dX8_add_48 : decode cX8_add 48 = .ok (.iload_n 2, 1) := by decide +kernel
theorem dX8_add_49 : decode cX8_add 49 = .ok (.iastore, 1) := by decide +kernel
theorem dX8_add_50 : decode cX8_add 50 = .ok (.aload_n 0, 1) := by decide +kernel
theorem dX8_add_51 : decode cX8_add 51 = .ok (.getfield 22, 3) := by decide +kernel
theorem dX8_add_54 : decode cX8_add 54 = .ok (.aload_n 0, 1) := by decide +kernel
theorem dX8_add_55 : decode cX8_add 55 = .ok (.getfield 9, 3) := by decide +kernel
theorem dX8_add_58 : decode cX8_add 58 = .ok (.iload_n 3, 1) := by decide +kernel
theorem dX8_add_59 : decode cX8_add 59 = .ok (.iastore, 1) := by decide +kernel
theorem dX8_add_60 : decode cX8_add 60 = .ok (.aload_n 0, 1) := by decide +kernel
theorem dX8_add_61 : decode cX8_add 61 = .ok (.dup, 1) := by decide +kernel
theorem dX8_add_62 : decode cX8_add 62 = .ok (.getfield 9, 3) := by decide +kernel
theorem dX8_add_65 : decode cX8_add 65 = .ok (.iconst 1, 1) := by decide +kernel
theorem dX8_add_66 : decode cX8_add 66 = .ok (.iadd, 1) := by decide +kernel
theorem dX8_add_67 : decode cX8_add 67 = .ok (.putfield 9, 3) := by decide +kernel
theorem dX8_add_70 : decode cX8_add 70 = .ok (.return_, 1) := by decide +kernel
theorem dX8_dropFirst_0 : decode cX8_dropFirst 0 = .ok (.aload_n 0, 1) := by decide +kernel
theorem dX8_dropFirst_1 : decode cX8_dropFirst 1 = .ok (.bipush 19, 2) := by decide +kernel
theorem dX8_dropFirst_3 : decode cX8_dropFirst 3 = .ok (.putfield 9, 3) := by decide +kernel
theorem dX8_dropFirst_6 : decode cX8_dropFirst 6 = .ok (.aload_n 0, 1) := by decide +kernel
theorem dX8_dropFirst_7 : decode cX8_dropFirst 7 = .ok (.getfield 15, 3) := by decide +kernel
theorem dX8_dropFirst_10 : decode cX8_dropFirst 10 = .ok (.iconst 1, 1) := by decide +kernel
theorem dX8_dropFirst_11 : decode cX8_dropFirst 11 = .ok (.aload_n 0, 1) := by decide +kernel
theorem dX8_dropFirst_12 : decode cX8_dropFirst 12 = .ok (.getfield 15, 3) := by decide +kernel
theorem dX8_dropFirst_15 : decode cX8_dropFirst 15 = .ok (.iconst 0, 1) := by decide +kernel
theorem dX8_dropFirst_16 : decode cX8_dropFirst 16 = .ok (.aload_n 0, 1) := by decide +kernel
theorem dX8_dropFirst_17 : decode cX8_dropFirst 17 = .ok (.getfield 9, 3) := by decide +kernel
theorem dX8_dropFirst_20 : decode cX8_dropFirst 20 = .ok (.invokestatic 28, 3) := by decide +kernel
theorem dX8_dropFirst_23 : decode cX8_dropFirst 23 = .ok (.aload_n 0, 1) := by decide +kernel
theorem dX8_dropFirst_24 : decode cX8_dropFirst 24 = .ok (.getfield 19, 3) := by decide +kernel
theorem dX8_dropFirst_27 : decode cX8_dropFirst 27 = .ok (.iconst 1, 1) := by decide +kernel
theorem dX8_dropFirst_28 : decode cX8_dropFirst 28 = .ok (.aload_n 0, 1) := by decide +kernel
theorem dX8_dropFirst_29 : decode cX8_dropFirst 29 = .ok (.getfield 19, 3) := by decide +kernel
theorem dX8_dropFirst_32 : decode cX8_dropFirst 32 = .ok (.iconst 0, 1) := by decide +kernel
theorem dX8_dropFirst_33 : decode cX8_dropFirst 33 = .ok (.aload_n 0, 1) := by decide +kernel
theorem dX8_dropFirst_34 : decode cX8_dropFirst 34 = .ok (.getfield 9, 3) := by decide +kernel
theorem dX8_dropFirst_37 : decode cX8_dropFirst 37 = .ok (.invokestatic 28, 3) := by decide +kernel
theorem dX8_dropFirst_40 : decode cX8_dropFirst 40 = .ok (.aload_n 0, 1) := by decide +kernel
theorem dX8_dropFirst_41 : decode cX8_dropFirst 41 = .ok (.getfield 22, 3) := by decide +kernel
theorem dX8_dropFirst_44 : decode cX8_dropFirst 44 = .ok (.iconst 1, 1) := by decide +kernel
theorem dX8_dropFirst_45 : decode cX8_dropFirst 45 = .ok (.aload_n 0, 1) := by decide +kernel
theorem dX8_dropFirst_46 : decode cX8_dropFirst 46 = .ok (.getfield 22, 3) := by decide +kernel
theorem dX8_dropFirst_49 : decode cX8_dropFirst 49 = .ok (.iconst 0, 1) := by decide +kernel
theorem dX8_dropFirst_50 : decode cX8_dropFirst 50 = .ok (.aload_n 0, 1) := by decide +kernel
theorem dX8_dropFirst_51 : decode cX8_dropFirst 51 = .ok (.getfield 9, 3) := by decide +kernel
theorem dX8_dropFirst_54 : decode cX8_dropFirst 54 = .ok (.invokestatic 28, 3) := by decide +kernel
theorem dX8_dropFirst_57 : decode cX8_dropFirst 57 = .ok (.return_, 1) := by decide +kernel
theorem dX8_takeBack_0 : decode cX8_takeBack 0 = .ok (.aload_n 0, 1) := by decide +kernel
theorem dX8_takeBack_1 : decode cX8_takeBack 1 = .ok (.getfield 9, 3) := by decide +kernel
theorem dX8_takeBack_4 : decode cX8_takeBack 4 = .ok (.ifCond .le 12, 3) := by decide +kernel
theorem dX8_takeBack_7 : decode cX8_takeBack 7 = .ok (.aload_n 0, 1) := by decide +kernel
theorem dX8_takeBack_8 : decode cX8_takeBack 8 = .ok (.getfield 9, 3) := by decide +kernel
theorem dX8_takeBack_11 : decode cX8_takeBack 11 = .ok (.bipush 20, 2) := by decide +kernel
theorem dX8_takeBack_13 : decode cX8_takeBack 13 = .ok (.if_icmp .le 4, 3) := by decide +kernel
theorem dX8_takeBack_16 : decode cX8_takeBack 16 = .ok (.return_, 1) := by decide +kernel
theorem dX8_takeBack_17 : decode cX8_takeBack 17 = .ok (.aload_n 0, 1) := by decide +kernel
theorem dX8_takeBack_18 : decode cX8_takeBack 18 = .ok (.dup, 1) := by decide +kernel
theorem dX8_takeBack_19 : decode cX8_takeBack 19 = .ok (.getfield 9, 3) := by decide +kernel
theorem dX8_takeBack_22 : decode cX8_takeBack 22 = .ok (.iconst 1, 1) := by decide +kernel
theorem dX8_takeBack_23 : decode cX8_takeBack 23 = .ok (.isub, 1) := by decide +kernel
theorem dX8_takeBack_24 : decode cX8_takeBack 24 = .ok (.putfield 9, 3) := by decide +kernel
theorem dX8_takeBack_27 : decode cX8_takeBack 27 = .ok (.aload_n 0, 1) := by decide +kernel
theorem dX8_takeBack_28 : decode cX8_takeBack 28 = .ok (.getfield 19, 3) := by decide +kernel
theorem dX8_takeBack_31 : decode cX8_takeBack 31 = .ok (.aload_n 0, 1) := by decide +kernel
theorem dX8_takeBack_32 : decode cX8_takeBack 32 = .ok (.getfield 9, 3) := by decide +kernel
theorem dX8_takeBack_35 : decode cX8_takeBack 35 = .ok (.iaload, 1) := by decide +kernel
theorem dX8_takeBack_36 : decode cX8_takeBack 36 = .ok (.istore_n 2, 1) := by decide +kernel
theorem dX8_takeBack_37 : decode cX8_takeBack 37 = .ok (.aload_n 0, 1) := by decide +kernel
theorem dX8_takeBack_38 : decode cX8_takeBack 38 = .ok (.getfield 22, 3) := by decide +kernel
theorem dX8_takeBack_41 : decode cX8_takeBack 41 = .ok (.aload_n 0, 1) := by decide +kernel
theorem dX8_takeBack_42 : decode cX8_takeBack 42 = .ok (.getfield 9, 3) := by decide +kernel
theorem dX8_takeBack_45 : decode cX8_takeBack 45 = .ok (.iaload, 1) := by decide +kernel
theorem dX8_takeBack_46 : decode cX8_takeBack 46 = .ok (.istore_n 3, 1) := by decide +kernel
theorem dX8_takeBack_47 : decode cX8_takeBack 47 = .ok (.aload_n 0, 1) := by decide +kernel
theorem dX8_takeBack_48 : decode cX8_takeBack 48 = .ok (.getfield 15, 3) := by decide +kernel
theorem dX8_takeBack_51 : decode cX8_takeBack 51 = .ok (.aload_n 0, 1) := by decide +kernel
theorem dX8_takeBack_52 : decode cX8_takeBack 52 = .ok (.getfield 9, 3) := by decide +kernel
theorem dX8_takeBack_55 : decode cX8_takeBack 55 = .ok (.iaload, 1) := by decide +kernel
theorem dX8_takeBack_56 : decode cX8_takeBack 56 = .ok (.ifCond .ne 20, 3) := by decide +kernel
theorem dX8_takeBack_59 : decode cX8_takeBack 59 = .ok (.iload_n 2, 1) := by decide +kernel
theorem dX8_takeBack_60 : decode cX8_takeBack 60 = .ok (.ifCond .lt 16, 3) := by decide +kernel
theorem dX8_takeBack_63 : decode cX8_takeBack 63 = .ok (.iload_n 2, 1) := by decide +kernel
theorem dX8_takeBack_64 : decode cX8_takeBack 64 = .ok (.bipush 8, 2) := by decide +kernel
theorem dX8_takeBack_66 : decode cX8_takeBack 66 = .ok (.if_icmp .ge 10, 3) := by decide +kernel
theorem dX8_takeBack_69 : decode cX8_takeBack 69 = .ok (.aload_n 1, 1) := by decide +kernel
theorem dX8_takeBack_70 : decode cX8_takeBack 70 = .ok (.getfield 34, 3) := by decide +kernel
theorem dX8_takeBack_73 : decode cX8_takeBack 73 = .ok (.iload_n 2, 1) := by decide +kernel
theorem dX8_takeBack_74 : decode cX8_takeBack 74 = .ok (.iload_n 3, 1) := by decide +kernel
theorem dX8_takeBack_75 : decode cX8_takeBack 75 = .ok (.iastore, 1) := by decide +kernel
theorem dX8_takeBack_76 : decode cX8_takeBack 76 = .ok (.aload_n 0, 1) := by decide +kernel
theorem dX8_takeBack_77 : decode cX8_takeBack 77 = .ok (.getfield 15, 3) := by decide +kernel
theorem dX8_takeBack_80 : decode cX8_takeBack 80 = .ok (.aload_n 0, 1) := by decide +kernel
theorem dX8_takeBack_81 : decode cX8_takeBack 81 = .ok (.getfield 9, 3) := by decide +kernel
theorem dX8_takeBack_84 : decode cX8_takeBack 84 = .ok (.iaload, 1) := by decide +kernel
theorem dX8_takeBack_85 : decode cX8_takeBack 85 = .ok (.iconst 1, 1) := by decide +kernel
theorem dX8_takeBack_86 : decode cX8_takeBack 86 = .ok (.if_icmp .ne 17, 3) := by decide +kernel
theorem dX8_takeBack_89 : decode cX8_takeBack 89 = .ok (.aload_n 1, 1) := by decide +kernel
theorem dX8_takeBack_90 : decode cX8_takeBack 90 = .ok (.iload_n 2, 1) := by decide +kernel
theorem dX8_takeBack_91 : decode cX8_takeBack 91 = .ok (.iload_n 3, 1) := by decide +kernel
theorem dX8_takeBack_92 : decode cX8_takeBack 92 = .ok (.ifCond .eq 7, 3) := by decide +kernel
theorem dX8_takeBack_95 : decode cX8_takeBack 95 = .ok (.iconst 1, 1) := by decide +kernel
theorem dX8_takeBack_96 : decode cX8_takeBack 96 = .ok (.goto 4, 3) := by decide +kernel
theorem dX8_takeBack_99 : decode cX8_takeBack 99 = .ok (.iconst 0, 1) := by decide +kernel
theorem dX8_takeBack_100 : decode cX8_takeBack 100 = .ok (.invokevirtual 39, 3) := by decide +kernel
theorem dX8_takeBack_103 : decode cX8_takeBack 103 = .ok (.aload_n 0, 1) := by decide +kernel
theorem dX8_takeBack_104 : decode cX8_takeBack 104 = .ok (.getfield 15, 3) := by decide +kernel
theorem dX8_takeBack_107 : decode cX8_takeBack 107 = .ok (.aload_n 0, 1) := by decide +kernel
theorem dX8_takeBack_108 : decode cX8_takeBack 108 = .ok (.getfield 9, 3) := by decide +kernel
theorem dX8_takeBack_111 : decode cX8_takeBack 111 = .ok (.iaload, 1) := by decide +kernel
theorem dX8_takeBack_112 : decode cX8_takeBack 112 = .ok (.iconst 2, 1) := by decide +kernel
theorem dX8_takeBack_113 : decode cX8_takeBack 113 = .ok (.if_icmp .ne 20, 3) := by decide +kernel
theorem dX8_takeBack_116 : decode cX8_takeBack 116 = .ok (.iload_n 2, 1) := by decide +kernel
theorem dX8_takeBack_117 : decode cX8_takeBack 117 = .ok (.ifCond .lt 16, 3) := by decide +kernel
theorem dX8_takeBack_120 : decode cX8_takeBack 120 = .ok (.iload_n 2, 1) := by decide +kernel
theorem dX8_takeBack_121 : decode cX8_takeBack 121 = .ok (.bipush 6, 2) := by decide +kernel
theorem dX8_takeBack_123 : decode cX8_takeBack 123 = .ok (.if_icmp .ge 10, 3) := by decide +kernel
theorem dX8_takeBack_126 : decode cX8_takeBack 126 = .ok (.aload_n 1, 1) := by decide +kernel
theorem dX8_takeBack_127 : decode cX8_takeBack 127 = .ok (.getfield 43, 3) := by decide +kernel
theorem dX8_takeBack_130 : decode cX8_takeBack 130 = .ok (.iload_n 2, 1) := by decide +kernel
theorem dX8_takeBack_131 : decode cX8_takeBack 131 = .ok (.iload_n 3, 1) := by decide +kernel
theorem dX8_takeBack_132 : decode cX8_takeBack 132 = .ok (.iastore, 1) := by decide +kernel
theorem dX8_takeBack_133 : decode cX8_takeBack 133 = .ok (.return_, 1) := by decide +kernel
