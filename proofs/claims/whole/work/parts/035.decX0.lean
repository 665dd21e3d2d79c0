theorem dX0_init_0 : decode cX0_init 0 = .ok (.aload_n 0, 1) := by decide +kernel
theorem dX0_init_1 : decode cX0_init 1 = .ok (.invokespecial 3, 3) := by decide +kernel
theorem dX0_init_4 : decode cX0_init 4 = .ok (.aload_n 0, 1) := by decide +kernel
theorem dX0_init_5 : decode cX0_init 5 = .ok (.iconst 0, 1) := by decide +kernel
theorem dX0_init_6 : decode cX0_init 6 = .ok (.putfield 9, 3) := by decide +kernel
theorem dX0_init_9 : decode cX0_init 9 = .ok (.aload_n 0, 1) := by decide +kernel
theorem dX0_init_10 : decode cX0_init 10 = .ok (.iconst 0, 1) := by decide +kernel
theorem dX0_init_11 : decode cX0_init 11 = .ok (.putfield 15, 3) := by decide +kernel
theorem dX0_init_14 : decode cX0_init 14 = .ok (.aload_n 0, 1) := by decide +kernel
theorem dX0_init_15 : decode cX0_init 15 = .ok (.iconst (-1), 1) := by decide +kernel
theorem dX0_init_16 : decode cX0_init 16 = .ok (.putfield 18, 3) := by decide +kernel
theorem dX0_init_19 : decode cX0_init 19 = .ok (.aload_n 0, 1) := by decide +kernel
theorem dX0_init_20 : decode cX0_init 20 = .ok (.iconst 0, 1) := by decide +kernel
theorem dX0_init_21 : decode cX0_init 21 = .ok (.putfield 21, 3) := by decide +kernel
theorem dX0_init_24 : decode cX0_init 24 = .ok (.aload_n 0, 1) := by decide +kernel
theorem dX0_init_25 : decode cX0_init 25 = .ok (.iconst (-1), 1) := by decide +kernel
theorem dX0_init_26 : decode cX0_init 26 = .ok (.putfield 25, 3) := by decide +kernel
theorem dX0_init_29 : decode cX0_init 29 = .ok (.aload_n 0, 1) := by decide +kernel
theorem dX0_init_30 : decode cX0_init 30 = .ok (.iconst 0, 1) := by decide +kernel
theorem dX0_init_31 : decode cX0_init 31 = .ok (.putfield 28, 3) := by decide +kernel
theorem dX0_init_34 : decode cX0_init 34 = .ok (.aload_n 0, 1) := by decide +kernel
theorem dX0_init_35 : decode cX0_init 35 = .ok (.lconst 0, 1) := by decide +kernel
theorem dX0_init_36 : decode cX0_init 36 = .ok (.putfield 31, 3) := by decide +kernel
theorem dX0_init_39 : decode cX0_init 39 = .ok (.aload_n 0, 1) := by decide +kernel
theorem dX0_init_40 : decode cX0_init 40 = .ok (.iconst 0, 1) := by decide +kernel
theorem dX0_init_41 : decode cX0_init 41 = .ok (.putfield 35, 3) := by decide +kernel
theorem dX0_init_44 : decode cX0_init 44 = .ok (.aload_n 0, 1) := by decide +kernel
theorem dX0_init_45 : decode cX0_init 45 = .ok (.new 38, 3) := by decide +kernel
theorem dX0_init_48 : decode cX0_init 48 = .ok (.dup, 1) := by decide +kernel
theorem dX0_init_49 : decode cX0_init 49 = .ok (.invokespecial 40, 3) := by decide +kernel
theorem dX0_init_52 : decode cX0_init 52 = .ok (.putfield 41, 3) := by decide +kernel
theorem dX0_init_55 : decode cX0_init 55 = .ok (.aload_n 0, 1) := by decide +kernel
theorem dX0_init_56 : decode cX0_init 56 = .ok (.new 45, 3) := by decide +kernel
theorem dX0_init_59 : decode cX0_init 59 = .ok (.dup, 1) := by decide +kernel
theorem dX0_init_60 : decode cX0_init 60 = .ok (.invokespecial 47, 3) := by decide +kernel
theorem dX0_init_63 : decode cX0_init 63 = .ok (.putfield 48, 3) := by decide +kernel
theorem dX0_init_66 : decode cX0_init 66 = .ok (.aload_n 0, 1) := by decide +kernel
theorem dX0_init_67 : decode cX0_init 67 = .ok (.iconst 0, 1) := by decide +kernel
theorem dX0_init_68 : decode cX0_init 68 = .ok (.putfield 52, 3) := by decide +kernel
theorem dX0_init_71 : decode cX0_init 71 = .ok (.aload_n 0, 1) := by decide +kernel
theorem dX0_init_72 : decode cX0_init 72 = .ok (.bipush 7, 2) := by decide +kernel
theorem dX0_init_74 : decode cX0_init 74 = .ok (.newarray .long, 2) := by decide +kernel
theorem dX0_init_76 : decode cX0_init 76 = .ok (.putfield 55, 3) := by decide +kernel
theorem dX0_init_79 : decode cX0_init 79 = .ok (.aload_n 0, 1) := by decide +kernel
theorem dX0_init_80 : decode cX0_init 80 = .ok (.bipush 6, 2) := by decide +kernel
theorem dX0_init_82 : decode cX0_init 82 = .ok (.newarray .int, 2) := by decide +kernel
theorem dX0_init_84 : decode cX0_init 84 = .ok (.putfield 59, 3) := by decide +kernel
theorem dX0_init_87 : decode cX0_init 87 = .ok (.aload_n 0, 1) := by decide +kernel
theorem dX0_init_88 : decode cX0_init 88 = .ok (.bipush 48, 2) := by decide +kernel
theorem dX0_init_90 : decode cX0_init 90 = .ok (.newarray .long, 2) := by decide +kernel
theorem dX0_init_92 : decode cX0_init 92 = .ok (.putfield 63, 3) := by decide +kernel
theorem dX0_init_95 : decode cX0_init 95 = .ok (.aload_n 0, 1) := by decide +kernel
theorem dX0_init_96 : decode cX0_init 96 = .ok (.bipush 48, 2) := by decide +kernel
theorem dX0_init_98 : decode cX0_init 98 = .ok (.newarray .int, 2) := by decide +kernel
theorem dX0_init_100 : decode cX0_init 100 = .ok (.putfield 66, 3) := by decide +kernel
theorem dX0_init_103 : decode cX0_init 103 = .ok (.aload_n 0, 1) := by decide +kernel
theorem dX0_init_104 : decode cX0_init 104 = .ok (.lconst 0, 1) := by decide +kernel
theorem dX0_init_105 : decode cX0_init 105 = .ok (.putfield 69, 3) := by decide +kernel
theorem dX0_init_108 : decode cX0_init 108 = .ok (.aload_n 0, 1) := by decide +kernel
theorem dX0_init_109 : decode cX0_init 109 = .ok (.iconst 0, 1) := by decide +kernel
theorem dX0_init_110 : decode cX0_init 110 = .ok (.putfield 72, 3) := by decide +kernel
theorem dX0_init_113 : decode cX0_init 113 = .ok (.aload_n 0, 1) := by decide +kernel
theorem dX0_init_114 : decode cX0_init 114 = .ok (.getfield 63, 3) := by decide +kernel
theorem dX0_init_117 : decode cX0_init 117 = .ok (.ldc2_w 75, 3) := by decide +kernel
theorem dX0_init_120 : decode cX0_init 120 = .ok (.invokestatic 77, 3) := by decide +kernel
theorem dX0_init_123 : decode cX0_init 123 = .ok (.return_, 1) := by decide +kernel
theorem dX0_forget_0 : decode cX0_forget 0 = .ok (.aload_n 0, 1) := by decide +kernel
theorem dX0_forget_1 : decode cX0_forget 1 = .ok (.getfield 63, 3) := by decide +kernel
theorem dX0_forget_4 : decode cX0_forget 4 = .ok (.ldc2_w 75, 3) := by decide +kernel
theorem dX0_forget_7 : decode cX0_forget 7 = .ok (.invokestatic 77, 3) := by decide +kernel
theorem dX0_forget_10 : decode cX0_forget 10 = .ok (.return_, 1) := by decide +kernel
theorem dX0_begin_0 : decode cX0_begin 0 = .ok (.aload_n 0, 1) := by decide +kernel
theorem dX0_begin_1 : decode cX0_begin 1 = .ok (.aload_n 1, 1) := by decide +kernel
theorem dX0_begin_2 : decode cX0_begin 2 = .ok (.putfield 41, 3) := by decide +kernel
theorem dX0_begin_5 : decode cX0_begin 5 = .ok (.aload_n 0, 1) := by decide +kernel
theorem dX0_begin_6 : decode cX0_begin 6 = .ok (.aload_n 2, 1) := by decide +kernel
theorem dX0_begin_7 : decode cX0_begin 7 = .ok (.putfield 48, 3) := by decide +kernel
theorem dX0_begin_10 : decode cX0_begin 10 = .ok (.aload_n 0, 1) := by decide +kernel
theorem dX0_begin_11 : decode cX0_begin 11 = .ok (.iconst 0, 1) := by decide +kernel
theorem dX0_begin_12 : decode cX0_begin 12 = .ok (.putfield 9, 3) := by decide +kernel
theorem dX0_begin_15 : decode cX0_begin 15 = .ok (.aload_n 0, 1) := by decide +kernel
theorem dX0_begin_16 : decode cX0_begin 16 = .ok (.iconst 0, 1) := by decide +kernel
theorem dX0_begin_17 : decode cX0_begin 17 = .ok (.putfield 15, 3) := by decide +kernel
theorem dX0_begin_20 : decode cX0_begin 20 = .ok (.aload_n 0, 1) := by decide +kernel
theorem dX0_begin_21 : decode cX0_begin 21 = .ok (.iconst (-1), 1) := by decide +kernel
theorem dX0_begin_22 : decode cX0_begin 22 = .ok (.putfield 18, 3) := by decide +kernel
theorem dX0_begin_25 : decode cX0_begin 25 = .ok (.aload_n 0, 1) := by decide +kernel
theorem dX0_begin_26 : decode cX0_begin 26 = .ok (.iconst 0, 1) := by decide +kernel
theorem dX0_begin_27 : decode cX0_begin 27 = .ok (.putfield 21, 3) := by decide +kernel
theorem dX0_begin_30 : decode cX0_begin 30 = .ok (.aload_n 0, 1) := by decide +kernel
theorem dX0_begin_31 : decode cX0_begin 31 = .ok (.iconst (-1), 1) := by decide +kernel
theorem dX0_begin_32 : decode cX0_begin 32 = .ok (.putfield 25, 3) := by decide +kernel
theorem dX0_begin_35 : decode cX0_begin 35 = .ok (.aload_n 0, 1) := by decide +kernel
theorem dX0_begin_36 : decode cX0_begin 36 = .ok (.iconst 0, 1) := by decide +kernel
theorem dX0_begin_37 : decode cX0_begin 37 = .ok (.putfield 35, 3) := by decide +kernel
theorem dX0_begin_40 : decode cX0_begin 40 = .ok (.aload_n 0, 1) := by decide +kernel
theorem dX0_begin_41 : decode cX0_begin 41 = .ok (.invokevirtual 83, 3) := by decide +kernel
theorem dX0_begin_44 : decode cX0_begin 44 = .ok (.return_, 1) := by decide +kernel
theorem dX0_drawFrom_0 : decode cX0_drawFrom 0 = .ok (.aload_n 0, 1) := by decide +kernel
theorem dX0_drawFrom_1 : decode cX0_drawFrom 1 = .ok (.iconst 1, 1) := by decide +kernel
theorem dX0_drawFrom_2 : decode cX0_drawFrom 2 = .ok (.putfield 35, 3) := by decide +kernel
theorem dX0_drawFrom_5 : decode cX0_drawFrom 5 = .ok (.aload_n 0, 1) := by decide +kernel
theorem dX0_drawFrom_6 : decode cX0_drawFrom 6 = .ok (.lload_n 1, 1) := by decide +kernel
theorem dX0_drawFrom_7 : decode cX0_drawFrom 7 = .ok (.putfield 31, 3) := by decide +kernel
theorem dX0_drawFrom_10 : decode cX0_drawFrom 10 = .ok (.return_, 1) := by decide +kernel
theorem dX0_look_0 : decode cX0_look 0 = .ok (.aload_n 0, 1) := by decide +kernel
theorem dX0_look_1 : decode cX0_look 1 = .ok (.getfield 35, 3) := by decide +kernel
theorem dX0_look_4 : decode cX0_look 4 = .ok (.ifCond .eq 43, 3) := by decide +kernel
theorem dX0_look_7 : decode cX0_look 7 = .ok (.aload_n 0, 1) := by decide +kernel
theorem dX0_look_8 : decode cX0_look 8 = .ok (.aload_n 0, 1) := by decide +kernel
theorem dX0_look_9 : decode cX0_look 9 = .ok (.getfield 31, 3) := by decide +kernel
theorem dX0_look_12 : decode cX0_look 12 = .ok (.ldc2_w 86, 3) := by decide +kernel
theorem dX0_look_15 : decode cX0_look 15 = .ok (.lmul, 1) := by decide +kernel
theorem dX0_look_16 : decode cX0_look 16 = .ok (.ldc2_w 88, 3) := by decide +kernel
theorem dX0_look_19 : decode cX0_look 19 = .ok (.ladd, 1) := by decide +kernel
theorem dX0_look_20 : decode cX0_look 20 = .ok (.ldc2_w 90, 3) := by decide +kernel
theorem dX0_look_23 : decode cX0_look 23 = .ok (.land, 1) := by decide +kernel
theorem dX0_look_24 : decode cX0_look 24 = .ok (.putfield 31, 3) := by decide +kernel
theorem dX0_look_27 : decode cX0_look 27 = .ok (.aload_n 0, 1) := by decide +kernel
theorem dX0_look_28 : decode cX0_look 28 = .ok (.aload_n 0, 1) := by decide +kernel
theorem dX0_look_29 : decode cX0_look 29 = .ok (.getfield 31, 3) := by decide +kernel
theorem dX0_look_32 : decode cX0_look 32 = .ok (.ldc2_w 92, 3) := by decide +kernel
theorem dX0_look_35 : decode cX0_look 35 = .ok (.ldiv, 1) := by decide +kernel
theorem dX0_look_36 : decode cX0_look 36 = .ok (.ldc2_w 94, 3) := by decide +kernel
theorem dX0_look_39 : decode cX0_look 39 = .ok (.lrem, 1) := by decide +kernel
theorem dX0_look_40 : decode cX0_look 40 = .ok (.l2i, 1) := by decide +kernel
theorem dX0_look_41 : decode cX0_look 41 = .ok (.putfield 52, 3) := by decide +kernel
theorem dX0_look_44 : decode cX0_look 44 = .ok (.goto 21, 3) := by decide +kernel
theorem dX0_look_47 : decode cX0_look 47 = .ok (.aload_n 0, 1) := by decide +kernel
theorem dX0_look_48 : decode cX0_look 48 = .ok (.aload_n 0, 1) := by decide +kernel
theorem dX0_look_49 : decode cX0_look 49 = .ok (.getfield 41, 3) := by decide +kernel
theorem dX0_look_52 : decode cX0_look 52 = .ok (.aload_n 0, 1) := by decide +kernel
theorem dX0_look_53 : decode cX0_look 53 = .ok (.getfield 48, 3) := by decide +kernel
theorem dX0_look_56 : decode cX0_look 56 = .ok (.getfield 96, 3) := by decide +kernel
theorem dX0_look_59 : decode cX0_look 59 = .ok (.invokevirtual 99, 3) := by decide +kernel
theorem dX0_look_62 : decode cX0_look 62 = .ok (.putfield 52, 3) := by decide +kernel
theorem dX0_look_65 : decode cX0_look 65 = .ok (.aload_n 0, 1) := by decide +kernel
theorem dX0_look_66 : decode cX0_look 66 = .ok (.getfield 41, 3) := by decide +kernel
theorem dX0_look_69 : decode cX0_look 69 = .ok (.getfield 103, 3) := by decide +kernel
theorem dX0_look_72 : decode cX0_look 72 = .ok (.astore_n 1, 1) := by decide +kernel
theorem dX0_look_73 : decode cX0_look 73 = .ok (.aload_n 0, 1) := by decide +kernel
theorem dX0_look_74 : decode cX0_look 74 = .ok (.aload_n 1, 1) := by decide +kernel
theorem dX0_look_75 : decode cX0_look 75 = .ok (.iconst 5, 1) := by decide +kernel
theorem dX0_look_76 : decode cX0_look 76 = .ok (.invokevirtual 107, 3) := by decide +kernel
theorem dX0_look_79 : decode cX0_look 79 = .ok (.ifCond .eq 15, 3) := by decide +kernel
theorem dX0_look_82 : decode cX0_look 82 = .ok (.aload_n 0, 1) := by decide +kernel
theorem dX0_look_83 : decode cX0_look 83 = .ok (.getfield 52, 3) := by decide +kernel
theorem dX0_look_86 : decode cX0_look 86 = .ok (.i2l, 1) := by decide +kernel
theorem dX0_look_87 : decode cX0_look 87 = .ok (.ldc2_w 113, 3) := by decide +kernel
theorem dX0_look_90 : decode cX0_look 90 = .ok (.lmul, 1) := by decide +kernel
theorem dX0_look_91 : decode cX0_look 91 = .ok (.goto 4, 3) := by decide +kernel
theorem dX0_look_94 : decode cX0_look 94 = .ok (.lconst 0, 1) := by decide +kernel
theorem dX0_look_95 : decode cX0_look 95 = .ok (.aload_n 1, 1) := by decide +kernel
theorem dX0_look_96 : decode cX0_look 96 = .ok (.bipush 6, 2) := by decide +kernel
theorem dX0_look_98 : decode cX0_look 98 = .ok (.invokevirtual 107, 3) := by decide +kernel
theorem dX0_look_101 : decode cX0_look 101 = .ok (.ifCond .eq 18, 3) := by decide +kernel
theorem dX0_look_104 : decode cX0_look 104 = .ok (.aload_n 0, 1) := by decide +kernel
theorem dX0_look_105 : decode cX0_look 105 = .ok (.getfield 48, 3) := by decide +kernel
theorem dX0_look_108 : decode cX0_look 108 = .ok (.getfield 96, 3) := by decide +kernel
theorem dX0_look_111 : decode cX0_look 111 = .ok (.i2l, 1) := by decide +kernel
theorem dX0_look_112 : decode cX0_look 112 = .ok (.ldc2_w 115, 3) := by decide +kernel
theorem dX0_look_115 : decode cX0_look 115 = .ok (.lmul, 1) := by decide +kernel
theorem dX0_look_116 : decode cX0_look 116 = .ok (.goto 4, 3) := by decide +kernel
theorem dX0_look_119 : decode cX0_look 119 = .ok (.lconst 0, 1) := by decide +kernel
theorem dX0_look_120 : decode cX0_look 120 = .ok (.ladd, 1) := by decide +kernel
theorem dX0_look_121 : decode cX0_look 121 = .ok (.putfield 69, 3) := by decide +kernel
theorem dX0_look_124 : decode cX0_look 124 = .ok (.aload_n 0, 1) := by decide +kernel
theorem dX0_look_125 : decode cX0_look 125 = .ok (.aload_n 1, 1) := by decide +kernel
theorem dX0_look_126 : decode cX0_look 126 = .ok (.iconst 4, 1) := by decide +kernel
theorem dX0_look_127 : decode cX0_look 127 = .ok (.invokevirtual 107, 3) := by decide +kernel
theorem dX0_look_130 : decode cX0_look 130 = .ok (.putfield 72, 3) := by decide +kernel
theorem dX0_look_133 : decode cX0_look 133 = .ok (.return_, 1) := by decide +kernel
theorem dX0_pass_0 : decode cX0_pass 0 = .ok (.iconst 0, 1) := by decide +kernel
theorem dX0_pass_1 : decode cX0_pass 1 = .ok (.istore_n 2, 1) := by decide +kernel
theorem dX0_pass_2 : decode cX0_pass 2 = .ok (.iload_n 2, 1) := by decide +kernel
theorem dX0_pass_3 : decode cX0_pass 3 = .ok (.iload_n 1, 1) := by decide +kernel
theorem dX0_pass_4 : decode cX0_pass 4 = .ok (.if_icmp .ge 68, 3) := by decide +kernel
theorem dX0_pass_7 : decode cX0_pass 7 = .ok (.aload_n 0, 1) := by decide +kernel
theorem dX0_pass_8 : decode cX0_pass 8 = .ok (.invokevirtual 83, 3) := by decide +kernel
theorem dX0_pass_11 : decode cX0_pass 11 = .ok (.aload_n 0, 1) := by decide +kernel
theorem dX0_pass_12 : decode cX0_pass 12 = .ok (.invokevirtual 117, 3) := by decide +kernel
theorem dX0_pass_15 : decode cX0_pass 15 = .ok (.istore_n 3, 1) := by decide +kernel
theorem dX0_pass_16 : decode cX0_pass 16 = .ok (.iconst 0, 1) := by decide +kernel
theorem dX0_pass_17 : decode cX0_pass 17 = .ok (.istore 4, 2) := by decide +kernel
theorem dX0_pass_19 : decode cX0_pass 19 = .ok (.iload 4, 2) := by decide +kernel
theorem dX0_pass_21 : decode cX0_pass 21 = .ok (.aload_n 0, 1) := by decide +kernel
theorem dX0_pass_22 : decode cX0_pass 22 = .ok (.getfield 41, 3) := by decide +kernel
theorem dX0_pass_25 : decode cX0_pass 25 = .ok (.iconst 3, 1) := by decide +kernel
theorem dX0_pass_26 : decode cX0_pass 26 = .ok (.invokevirtual 121, 3) := by decide +kernel
theorem dX0_pass_29 : decode cX0_pass 29 = .ok (.if_icmp .ge 24, 3) := by decide +kernel
theorem dX0_pass_32 : decode cX0_pass 32 = .ok (.iload_n 3, 1) := by decide +kernel
theorem dX0_pass_33 : decode cX0_pass 33 = .ok (.iconst 1, 1) := by decide +kernel
theorem dX0_pass_34 : decode cX0_pass 34 = .ok (.iload 4, 2) := by decide +kernel
theorem dX0_pass_36 : decode cX0_pass 36 = .ok (.ishl, 1) := by decide +kernel
theorem dX0_pass_37 : decode cX0_pass 37 = .ok (.iand, 1) := by decide +kernel
theorem dX0_pass_38 : decode cX0_pass 38 = .ok (.ifCond .eq 9, 3) := by decide +kernel
theorem dX0_pass_41 : decode cX0_pass 41 = .ok (.aload_n 0, 1) := by decide +kernel
theorem dX0_pass_42 : decode cX0_pass 42 = .ok (.iload 4, 2) := by decide +kernel
theorem dX0_pass_44 : decode cX0_pass 44 = .ok (.invokevirtual 124, 3) := by decide +kernel
theorem dX0_pass_47 : decode cX0_pass 47 = .ok (.iinc 4 1, 3) := by decide +kernel
theorem dX0_pass_50 : decode cX0_pass 50 = .ok (.goto (-31), 3) := by decide +kernel
theorem dX0_pass_53 : decode cX0_pass 53 = .ok (.aload_n 0, 1) := by decide +kernel
theorem dX0_pass_54 : decode cX0_pass 54 = .ok (.getfield 48, 3) := by decide +kernel
theorem dX0_pass_57 : decode cX0_pass 57 = .ok (.dup, 1) := by decide +kernel
theorem dX0_pass_58 : decode cX0_pass 58 = .ok (.getfield 96, 3) := by decide +kernel
theorem dX0_pass_61 : decode cX0_pass 61 = .ok (.iconst 1, 1) := by decide +kernel
theorem dX0_pass_62 : decode cX0_pass 62 = .ok (.iadd, 1) := by decide +kernel
theorem dX0_pass_63 : decode cX0_pass 63 = .ok (.putfield 96, 3) := by decide +kernel
theorem dX0_pass_66 : decode cX0_pass 66 = .ok (.iinc 2 1, 3) := by decide +kernel
theorem dX0_pass_69 : decode cX0_pass 69 = .ok (.goto (-67), 3) := by decide +kernel
theorem dX0_pass_72 : decode cX0_pass 72 = .ok (.return_, 1) := by decide +kernel
theorem dX0_comers_0 : decode cX0_comers 0 = .ok (.iconst 0, 1) := by decide +kernel
theorem dX0_comers_1 : decode cX0_comers 1 = .ok (.istore_n 1, 1) := by decide +kernel
theorem dX0_comers_2 : decode cX0_comers 2 = .ok (.iconst 0, 1) := by decide +kernel
theorem dX0_comers_3 : decode cX0_comers 3 = .ok (.istore_n 2, 1) := by decide +kernel
theorem dX0_comers_4 : decode cX0_comers 4 = .ok (.iload_n 2, 1) := by decide +kernel
theorem dX0_comers_5 : decode cX0_comers 5 = .ok (.aload_n 0, 1) := by decide +kernel
theorem dX0_comers_6 : decode cX0_comers 6 = .ok (.getfield 41, 3) := by decide +kernel
theorem dX0_comers_9 : decode cX0_comers 9 = .ok (.iconst 3, 1) := by decide +kernel
theorem dX0_comers_10 : decode cX0_comers 10 = .ok (.invokevirtual 121, 3) := by decide +kernel
theorem dX0_comers_13 : decode cX0_comers 13 = .ok (.if_icmp .ge 38, 3) := by decide +kernel
theorem dX0_comers_16 : decode cX0_comers 16 = .ok (.iload_n 2, 1) := by decide +kernel
theorem dX0_comers_17 : decode cX0_comers 17 = .ok (.aload_n 0, 1) := by decide +kernel
theorem dX0_comers_18 : decode cX0_comers 18 = .ok (.getfield 18, 3) := by decide +kernel
theorem dX0_comers_21 : decode cX0_comers 21 = .ok (.if_icmp .eq 24, 3) := by decide +kernel
theorem dX0_comers_24 : decode cX0_comers 24 = .ok (.aload_n 0, 1) := by decide +kernel
theorem dX0_comers_25 : decode cX0_comers 25 = .ok (.getfield 21, 3) := by decide +kernel
theorem dX0_comers_28 : decode cX0_comers 28 = .ok (.ifCond .ne 11, 3) := by decide +kernel
theorem dX0_comers_31 : decode cX0_comers 31 = .ok (.aload_n 0, 1) := by decide +kernel
theorem dX0_comers_32 : decode cX0_comers 32 = .ok (.iload_n 2, 1) := by decide +kernel
theorem dX0_comers_33 : decode cX0_comers 33 = .ok (.invokevirtual 128, 3) := by decide +kernel
theorem dX0_comers_36 : decode cX0_comers 36 = .ok (.ifCond .eq 9, 3) := by decide +kernel
theorem dX0_comers_39 : decode cX0_comers 39 = .ok (.iload_n 1, 1) := by decide +kernel
theorem dX0_comers_40 : decode cX0_comers 40 = .ok (.iconst 1, 1) := by decide +kernel
theorem dX0_comers_41 : decode cX0_comers 41 = .ok (.iload_n 2, 1) := by decide +kernel
theorem dX0_comers_42 : decode cX0_comers 42 = .ok (.ishl, 1) := by decide +kernel
theorem dX0_comers_43 : decode cX0_comers 43 = .ok (.ior, 1) := by decide +kernel
theorem dX0_comers_44 : decode cX0_comers 44 = .ok (.istore_n 1, 1) := by decide +kernel
theorem dX0_comers_45 : decode cX0_comers 45 = .ok (.iinc 2 1, 3) := by decide +kernel
theorem dX0_comers_48 : decode cX0_comers 48 = .ok (.goto (-44), 3) := by decide +kernel
theorem dX0_comers_51 : decode cX0_comers 51 = .ok (.iload_n 1, 1) := by decide +kernel
theorem dX0_comers_52 : decode cX0_comers 52 = .ok (.ireturn, 1) := by decide +kernel
theorem dX0_isComing_0 : decode cX0_isComing 0 = .ok (.aload_n 0, 1) := by decide +kernel
theorem dX0_isComing_1 : decode cX0_isComing 1 = .ok (.iload_n 1, 1) := by decide +kernel
theorem dX0_isComing_2 : decode cX0_isComing 2 = .ok (.iconst (-1), 1) := by decide +kernel
theorem dX0_isComing_3 : decode cX0_isComing 3 = .ok (.iconst (-1), 1) := by decide +kernel
theorem dX0_isComing_4 : decode cX0_isComing 4 = .ok (.invokevirtual 131, 3) := by decide +kernel
theorem dX0_isComing_7 : decode cX0_isComing 7 = .ok (.aload_n 0, 1) := by decide +kernel
theorem dX0_isComing_8 : decode cX0_isComing 8 = .ok (.getfield 41, 3) := by decide +kernel
theorem dX0_isComing_11 : decode cX0_isComing 11 = .ok (.getfield 135, 3) := by decide +kernel
theorem dX0_isComing_14 : decode cX0_isComing 14 = .ok (.aload_n 0, 1) := by decide +kernel
theorem dX0_isComing_15 : decode cX0_isComing 15 = .ok (.getfield 55, 3) := by decide +kernel
theorem dX0_isComing_18 : decode cX0_isComing 18 = .ok (.invokevirtual 138, 3) := by decide +kernel
theorem dX0_isComing_21 : decode cX0_isComing 21 = .ok (.lstore_n 2, 1) := by decide +kernel
theorem dX0_isComing_22 : decode cX0_isComing 22 = .ok (.lload_n 2, 1) := by decide +kernel
theorem dX0_isComing_23 : decode cX0_isComing 23 = .ok (.ldc2_w 142, 3) := by decide +kernel
theorem dX0_isComing_26 : decode cX0_isComing 26 = .ok (.lcmp, 1) := by decide +kernel
theorem dX0_isComing_27 : decode cX0_isComing 27 = .ok (.ifCond .ne 27, 3) := by decide +kernel
theorem dX0_isComing_30 : decode cX0_isComing 30 = .ok (.aload_n 0, 1) := by decide +kernel
theorem dX0_isComing_31 : decode cX0_isComing 31 = .ok (.getfield 52, 3) := by decide +kernel
theorem dX0_isComing_34 : decode cX0_isComing 34 = .ok (.aload_n 0, 1) := by decide +kernel
theorem dX0_isComing_35 : decode cX0_isComing 35 = .ok (.getfield 41, 3) := by decide +kernel
theorem dX0_isComing_38 : decode cX0_isComing 38 = .ok (.getfield 144, 3) := by decide +kernel
theorem dX0_isComing_41 : decode cX0_isComing 41 = .ok (.iload_n 1, 1) := by decide +kernel
theorem dX0_isComing_42 : decode cX0_isComing 42 = .ok (.iaload, 1) := by decide +kernel
theorem dX0_isComing_43 : decode cX0_isComing 43 = .ok (.if_icmp .lt 7, 3) := by decide +kernel
theorem dX0_isComing_46 : decode cX0_isComing 46 = .ok (.iconst 1, 1) := by decide +kernel
theorem dX0_isComing_47 : decode cX0_isComing 47 = .ok (.goto 18, 3) := by decide +kernel
theorem dX0_isComing_50 : decode cX0_isComing 50 = .ok (.iconst 0, 1) := by decide +kernel
theorem dX0_isComing_51 : decode cX0_isComing 51 = .ok (.goto 14, 3) := by decide +kernel
theorem dX0_isComing_54 : decode cX0_isComing 54 = .ok (.lload_n 2, 1) := by decide +kernel
theorem dX0_isComing_55 : decode cX0_isComing 55 = .ok (.lconst 0, 1) := by decide +kernel
theorem dX0_isComing_56 : decode cX0_isComing 56 = .ok (.lcmp, 1) := by decide +kernel
theorem dX0_isComing_57 : decode cX0_isComing 57 = .ok (.ifCond .eq 7, 3) := by decide +kernel
theorem dX0_isComing_60 : decode cX0_isComing 60 = .ok (.iconst 1, 1) := by decide +kernel
theorem dX0_isComing_61 : decode cX0_isComing 61 = .ok (.goto 4, 3) := by decide +kernel
theorem dX0_isComing_64 : decode cX0_isComing 64 = .ok (.iconst 0, 1) := by decide +kernel
theorem dX0_isComing_65 : decode cX0_isComing 65 = .ok (.ireturn, 1) := by decide +kernel
theorem dX0_visit_0 : decode cX0_visit 0 = .ok (.aload_n 0, 1) := by decide +kernel
theorem dX0_visit_1 : decode cX0_visit 1 = .ok (.iload_n 1, 1) := by decide +kernel
theorem dX0_visit_2 : decode cX0_visit 2 = .ok (.invokevirtual 147, 3) := by decide +kernel
theorem dX0_visit_5 : decode cX0_visit 5 = .ok (.istore_n 2, 1) := by decide +kernel
theorem dX0_visit_6 : decode cX0_visit 6 = .ok (.iload_n 2, 1) := by decide +kernel
theorem dX0_visit_7 : decode cX0_visit 7 = .ok (.ifCond .lt 9, 3) := by decide +kernel
theorem dX0_visit_10 : decode cX0_visit 10 = .ok (.iload_n 2, 1) := by decide +kernel
theorem dX0_visit_11 : decode cX0_visit 11 = .ok (.bipush 6, 2) := by decide +kernel
theorem dX0_visit_13 : decode cX0_visit 13 = .ok (.if_icmp .lt 4, 3) := by decide +kernel
theorem dX0_visit_16 : decode cX0_visit 16 = .ok (.return_, 1) := by decide +kernel
theorem dX0_visit_17 : decode cX0_visit 17 = .ok (.aload_n 0, 1) := by decide +kernel
theorem dX0_visit_18 : decode cX0_visit 18 = .ok (.getfield 48, 3) := by decide +kernel
theorem dX0_visit_21 : decode cX0_visit 21 = .ok (.getfield 150, 3) := by decide +kernel
theorem dX0_visit_24 : decode cX0_visit 24 = .ok (.iload_n 2, 1) := by decide +kernel
theorem dX0_visit_25 : decode cX0_visit 25 = .ok (.dup2, 1) := by decide +kernel
theorem dX0_visit_26 : decode cX0_visit 26 = .ok (.iaload, 1) := by decide +kernel
theorem dX0_visit_27 : decode cX0_visit 27 = .ok (.iconst 1, 1) := by decide +kernel
theorem dX0_visit_28 : decode cX0_visit 28 = .ok (.iadd, 1) := by decide +kernel
theorem dX0_visit_29 : decode cX0_visit 29 = .ok (.iastore, 1) := by decide +kernel
theorem dX0_visit_30 : decode cX0_visit 30 = .ok (.aload_n 0, 1) := by decide +kernel
theorem dX0_visit_31 : decode cX0_visit 31 = .ok (.getfield 48, 3) := by decide +kernel
theorem dX0_visit_34 : decode cX0_visit 34 = .ok (.getfield 153, 3) := by decide +kernel
theorem dX0_visit_37 : decode cX0_visit 37 = .ok (.iload_n 1, 1) := by decide +kernel
theorem dX0_visit_38 : decode cX0_visit 38 = .ok (.dup2, 1) := by decide +kernel
theorem dX0_visit_39 : decode cX0_visit 39 = .ok (.iaload, 1) := by decide +kernel
theorem dX0_visit_40 : decode cX0_visit 40 = .ok (.iconst 1, 1) := by decide +kernel
theorem dX0_visit_41 : decode cX0_visit 41 = .ok (.iadd, 1) := by decide +kernel
theorem dX0_visit_42 : decode cX0_visit 42 = .ok (.iastore, 1) := by decide +kernel
theorem dX0_visit_43 : decode cX0_visit 43 = .ok (.aload_n 0, 1) := by decide +kernel
theorem dX0_visit_44 : decode cX0_visit 44 = .ok (.iload_n 1, 1) := by decide +kernel
theorem dX0_visit_45 : decode cX0_visit 45 = .ok (.iload_n 2, 1) := by decide +kernel
theorem dX0_visit_46 : decode cX0_visit 46 = .ok (.invokevirtual 156, 3) := by decide +kernel
theorem dX0_visit_49 : decode cX0_visit 49 = .ok (.istore_n 3, 1) := by decide +kernel
theorem dX0_visit_50 : decode cX0_visit 50 = .ok (.iload_n 3, 1) := by decide +kernel
theorem dX0_visit_51 : decode cX0_visit 51 = .ok (.iconst (-1), 1) := by decide +kernel
theorem dX0_visit_52 : decode cX0_visit 52 = .ok (.if_icmp .eq 20, 3) := by decide +kernel
theorem dX0_visit_55 : decode cX0_visit 55 = .ok (.aload_n 0, 1) := by decide +kernel
theorem dX0_visit_56 : decode cX0_visit 56 = .ok (.iload_n 1, 1) := by decide +kernel
theorem dX0_visit_57 : decode cX0_visit 57 = .ok (.iload_n 3, 1) := by decide +kernel
theorem dX0_visit_58 : decode cX0_visit 58 = .ok (.iload_n 2, 1) := by decide +kernel
theorem dX0_visit_59 : decode cX0_visit 59 = .ok (.invokevirtual 160, 3) := by decide +kernel
theorem dX0_visit_62 : decode cX0_visit 62 = .ok (.aload_n 0, 1) := by decide +kernel
theorem dX0_visit_63 : decode cX0_visit 63 = .ok (.iload_n 1, 1) := by decide +kernel
theorem dX0_visit_64 : decode cX0_visit 64 = .ok (.iload_n 3, 1) := by decide +kernel
theorem dX0_visit_65 : decode cX0_visit 65 = .ok (.iload_n 2, 1) := by decide +kernel
theorem dX0_visit_66 : decode cX0_visit 66 = .ok (.invokevirtual 164, 3) := by decide +kernel
theorem dX0_visit_69 : decode cX0_visit 69 = .ok (.if_icmp .lt 4, 3) := by decide +kernel
theorem dX0_visit_72 : decode cX0_visit 72 = .ok (.return_, 1) := by decide +kernel
theorem dX0_visit_73 : decode cX0_visit 73 = .ok (.aload_n 0, 1) := by decide +kernel
theorem dX0_visit_74 : decode cX0_visit 74 = .ok (.getfield 41, 3) := by decide +kernel
theorem dX0_visit_77 : decode cX0_visit 77 = .ok (.iload_n 2, 1) := by decide +kernel
theorem dX0_visit_78 : decode cX0_visit 78 = .ok (.invokevirtual 167, 3) := by decide +kernel
theorem dX0_visit_81 : decode cX0_visit 81 = .ok (.istore 4, 2) := by decide +kernel
theorem dX0_visit_83 : decode cX0_visit 83 = .ok (.iload 4, 2) := by decide +kernel
theorem dX0_visit_85 : decode cX0_visit 85 = .ok (.iconst (-1), 1) := by decide +kernel
theorem dX0_visit_86 : decode cX0_visit 86 = .ok (.if_icmp .ne 29, 3) := by decide +kernel
theorem dX0_visit_89 : decode cX0_visit 89 = .ok (.aload_n 0, 1) := by decide +kernel
theorem dX0_visit_90 : decode cX0_visit 90 = .ok (.getfield 48, 3) := by decide +kernel
theorem dX0_visit_93 : decode cX0_visit 93 = .ok (.getfield 170, 3) := by decide +kernel
theorem dX0_visit_96 : decode cX0_visit 96 = .ok (.iload_n 3, 1) := by decide +kernel
theorem dX0_visit_97 : decode cX0_visit 97 = .ok (.dup2, 1) := by decide +kernel
theorem dX0_visit_98 : decode cX0_visit 98 = .ok (.iaload, 1) := by decide +kernel
theorem dX0_visit_99 : decode cX0_visit 99 = .ok (.iconst 1, 1) := by decide +kernel
theorem dX0_visit_100 : decode cX0_visit 100 = .ok (.iadd, 1) := by decide +kernel
theorem dX0_visit_101 : decode cX0_visit 101 = .ok (.iastore, 1) := by decide +kernel
theorem dX0_visit_102 : decode cX0_visit 102 = .ok (.aload_n 0, 1) := by decide +kernel
theorem dX0_visit_103 : decode cX0_visit 103 = .ok (.dup, 1) := by decide +kernel
theorem dX0_visit_104 : decode cX0_visit 104 = .ok (.getfield 15, 3) := by decide +kernel
theorem dX0_visit_107 : decode cX0_visit 107 = .ok (.iconst 1, 1) := by decide +kernel
theorem dX0_visit_108 : decode cX0_visit 108 = .ok (.iadd, 1) := by decide +kernel
theorem dX0_visit_109 : decode cX0_visit 109 = .ok (.putfield 15, 3) := by decide +kernel
theorem dX0_visit_112 : decode cX0_visit 112 = .ok (.goto 37, 3) := by decide +kernel
theorem dX0_visit_115 : decode cX0_visit 115 = .ok (.aload_n 0, 1) := by decide +kernel
theorem dX0_visit_116 : decode cX0_visit 116 = .ok (.getfield 48, 3) := by decide +kernel
theorem dX0_visit_119 : decode cX0_visit 119 = .ok (.getfield 173, 3) := by decide +kernel
theorem dX0_visit_122 : decode cX0_visit 122 = .ok (.iload_n 3, 1) := by decide +kernel
theorem dX0_visit_123 : decode cX0_visit 123 = .ok (.iload 4, 2) := by decide +kernel
theorem dX0_visit_125 : decode cX0_visit 125 = .ok (.iastore, 1) := by decide +kernel
theorem dX0_visit_126 : decode cX0_visit 126 = .ok (.aload_n 0, 1) := by decide +kernel
theorem dX0_visit_127 : decode cX0_visit 127 = .ok (.getfield 48, 3) := by decide +kernel
theorem dX0_visit_130 : decode cX0_visit 130 = .ok (.getfield 176, 3) := by decide +kernel
theorem dX0_visit_133 : decode cX0_visit 133 = .ok (.iload_n 3, 1) := by decide +kernel
theorem dX0_visit_134 : decode cX0_visit 134 = .ok (.dup2, 1) := by decide +kernel
theorem dX0_visit_135 : decode cX0_visit 135 = .ok (.iaload, 1) := by decide +kernel
theorem dX0_visit_136 : decode cX0_visit 136 = .ok (.iconst 1, 1) := by decide +kernel
theorem dX0_visit_137 : decode cX0_visit 137 = .ok (.iadd, 1) := by decide +kernel
theorem dX0_visit_138 : decode cX0_visit 138 = .ok (.iastore, 1) := by decide +kernel
theorem dX0_visit_139 : decode cX0_visit 139 = .ok (.aload_n 0, 1) := by decide +kernel
theorem dX0_visit_140 : decode cX0_visit 140 = .ok (.dup, 1) := by decide +kernel
theorem dX0_visit_141 : decode cX0_visit 141 = .ok (.getfield 9, 3) := by decide +kernel
theorem dX0_visit_144 : decode cX0_visit 144 = .ok (.iconst 1, 1) := by decide +kernel
theorem dX0_visit_145 : decode cX0_visit 145 = .ok (.iadd, 1) := by decide +kernel
theorem dX0_visit_146 : decode cX0_visit 146 = .ok (.putfield 9, 3) := by decide +kernel
theorem dX0_visit_149 : decode cX0_visit 149 = .ok (.return_, 1) := by decide +kernel
theorem dX0_seat_0 : decode cX0_seat 0 = .ok (.aload_n 0, 1) := by decide +kernel
theorem dX0_seat_1 : decode cX0_seat 1 = .ok (.getfield 59, 3) := by decide +kernel
theorem dX0_seat_4 : decode cX0_seat 4 = .ok (.iconst 0, 1) := by decide +kernel
theorem dX0_seat_5 : decode cX0_seat 5 = .ok (.invokestatic 179, 3) := by decide +kernel
theorem dX0_seat_8 : decode cX0_seat 8 = .ok (.aload_n 0, 1) := by decide +kernel
theorem dX0_seat_9 : decode cX0_seat 9 = .ok (.getfield 41, 3) := by decide +kernel
theorem dX0_seat_12 : decode cX0_seat 12 = .ok (.iconst 2, 1) := by decide +kernel
theorem dX0_seat_13 : decode cX0_seat 13 = .ok (.invokevirtual 121, 3) := by decide +kernel
theorem dX0_seat_16 : decode cX0_seat 16 = .ok (.istore_n 2, 1) := by decide +kernel
theorem dX0_seat_17 : decode cX0_seat 17 = .ok (.iconst 0, 1) := by decide +kernel
theorem dX0_seat_18 : decode cX0_seat 18 = .ok (.istore_n 3, 1) := by decide +kernel
theorem dX0_seat_19 : decode cX0_seat 19 = .ok (.iload_n 3, 1) := by decide +kernel
theorem dX0_seat_20 : decode cX0_seat 20 = .ok (.iload_n 2, 1) := by decide +kernel
theorem dX0_seat_21 : decode cX0_seat 21 = .ok (.if_icmp .ge 62, 3) := by decide +kernel
theorem dX0_seat_24 : decode cX0_seat 24 = .ok (.aload_n 0, 1) := by decide +kernel
theorem dX0_seat_25 : decode cX0_seat 25 = .ok (.getfield 48, 3) := by decide +kernel
theorem dX0_seat_28 : decode cX0_seat 28 = .ok (.getfield 173, 3) := by decide +kernel
theorem dX0_seat_31 : decode cX0_seat 31 = .ok (.iload_n 3, 1) := by decide +kernel
theorem dX0_seat_32 : decode cX0_seat 32 = .ok (.iaload, 1) := by decide +kernel
theorem dX0_seat_33 : decode cX0_seat 33 = .ok (.istore 4, 2) := by decide +kernel
theorem dX0_seat_35 : decode cX0_seat 35 = .ok (.iload 4, 2) := by decide +kernel
theorem dX0_seat_37 : decode cX0_seat 37 = .ok (.ifCond .lt 40, 3) := by decide +kernel
theorem dX0_seat_40 : decode cX0_seat 40 = .ok (.iload 4, 2) := by decide +kernel
theorem dX0_seat_42 : decode cX0_seat 42 = .ok (.bipush 6, 2) := by decide +kernel
theorem dX0_seat_44 : decode cX0_seat 44 = .ok (.if_icmp .ge 33, 3) := by decide +kernel
theorem dX0_seat_47 : decode cX0_seat 47 = .ok (.aload_n 0, 1) := by decide +kernel
theorem dX0_seat_48 : decode cX0_seat 48 = .ok (.getfield 48, 3) := by decide +kernel
theorem dX0_seat_51 : decode cX0_seat 51 = .ok (.iload 4, 2) := by decide +kernel
theorem dX0_seat_53 : decode cX0_seat 53 = .ok (.invokevirtual 182, 3) := by decide +kernel
theorem dX0_seat_56 : decode cX0_seat 56 = .ok (.ifCond .ne 21, 3) := by decide +kernel
theorem dX0_seat_59 : decode cX0_seat 59 = .ok (.aload_n 0, 1) := by decide +kernel
theorem dX0_seat_60 : decode cX0_seat 60 = .ok (.getfield 59, 3) := by decide +kernel
theorem dX0_seat_63 : decode cX0_seat 63 = .ok (.iload 4, 2) := by decide +kernel
theorem dX0_seat_65 : decode cX0_seat 65 = .ok (.dup2, 1) := by decide +kernel
theorem dX0_seat_66 : decode cX0_seat 66 = .ok (.iaload, 1) := by decide +kernel
theorem dX0_seat_67 : decode cX0_seat 67 = .ok (.aload_n 0, 1) := by decide +kernel
theorem dX0_seat_68 : decode cX0_seat 68 = .ok (.iload_n 1, 1) := by decide +kernel
theorem dX0_seat_69 : decode cX0_seat 69 = .ok (.iload_n 3, 1) := by decide +kernel
theorem dX0_seat_70 : decode cX0_seat 70 = .ok (.iload 4, 2) := by decide +kernel
theorem dX0_seat_72 : decode cX0_seat 72 = .ok (.invokevirtual 160, 3) := by decide +kernel
theorem dX0_seat_75 : decode cX0_seat 75 = .ok (.iadd, 1) := by decide +kernel
theorem dX0_seat_76 : decode cX0_seat 76 = .ok (.iastore, 1) := by decide +kernel
theorem dX0_seat_77 : decode cX0_seat 77 = .ok (.iinc 3 1, 3) := by decide +kernel
theorem dX0_seat_80 : decode cX0_seat 80 = .ok (.goto (-61), 3) := by decide +kernel
theorem dX0_seat_83 : decode cX0_seat 83 = .ok (.iconst (-1), 1) := by decide +kernel
theorem dX0_seat_84 : decode cX0_seat 84 = .ok (.istore_n 3, 1) := by decide +kernel
theorem dX0_seat_85 : decode cX0_seat 85 = .ok (.aload_n 0, 1) := by decide +kernel
theorem dX0_seat_86 : decode cX0_seat 86 = .ok (.getfield 41, 3) := by decide +kernel
theorem dX0_seat_89 : decode cX0_seat 89 = .ok (.iconst 0, 1) := by decide +kernel
theorem dX0_seat_90 : decode cX0_seat 90 = .ok (.invokevirtual 121, 3) := by decide +kernel
theorem dX0_seat_93 : decode cX0_seat 93 = .ok (.istore 4, 2) := by decide +kernel
theorem dX0_seat_95 : decode cX0_seat 95 = .ok (.iconst 0, 1) := by decide +kernel
theorem dX0_seat_96 : decode cX0_seat 96 = .ok (.istore 5, 2) := by decide +kernel
theorem dX0_seat_98 : decode cX0_seat 98 = .ok (.iload 5, 2) := by decide +kernel
theorem dX0_seat_100 : decode cX0_seat 100 = .ok (.iload 4, 2) := by decide +kernel
theorem dX0_seat_102 : decode cX0_seat 102 = .ok (.if_icmp .ge 45, 3) := by decide +kernel
theorem dX0_seat_105 : decode cX0_seat 105 = .ok (.aload_n 0, 1) := by decide +kernel
theorem dX0_seat_106 : decode cX0_seat 106 = .ok (.getfield 48, 3) := by decide +kernel
theorem dX0_seat_109 : decode cX0_seat 109 = .ok (.iload 5, 2) := by decide +kernel
theorem dX0_seat_111 : decode cX0_seat 111 = .ok (.invokevirtual 182, 3) := by decide +kernel
theorem dX0_seat_114 : decode cX0_seat 114 = .ok (.ifCond .ne 27, 3) := by decide +kernel
theorem dX0_seat_117 : decode cX0_seat 117 = .ok (.iload_n 3, 1) := by decide +kernel
theorem dX0_seat_118 : decode cX0_seat 118 = .ok (.iconst (-1), 1) := by decide +kernel
theorem dX0_seat_119 : decode cX0_seat 119 = .ok (.if_icmp .eq 19, 3) := by decide +kernel
theorem dX0_seat_122 : decode cX0_seat 122 = .ok (.aload_n 0, 1) := by decide +kernel
theorem dX0_seat_123 : decode cX0_seat 123 = .ok (.getfield 59, 3) := by decide +kernel
theorem dX0_seat_126 : decode cX0_seat 126 = .ok (.iload 5, 2) := by decide +kernel
theorem dX0_seat_128 : decode cX0_seat 128 = .ok (.iaload, 1) := by decide +kernel
theorem dX0_seat_129 : decode cX0_seat 129 = .ok (.aload_n 0, 1) := by decide +kernel
theorem dX0_seat_130 : decode cX0_seat 130 = .ok (.getfield 59, 3) := by decide +kernel
theorem dX0_seat_133 : decode cX0_seat 133 = .ok (.iload_n 3, 1) := by decide +kernel
theorem dX0_seat_134 : decode cX0_seat 134 = .ok (.iaload, 1) := by decide +kernel
theorem dX0_seat_135 : decode cX0_seat 135 = .ok (.if_icmp .le 6, 3) := by decide +kernel
theorem dX0_seat_138 : decode cX0_seat 138 = .ok (.iload 5, 2) := by decide +kernel
theorem dX0_seat_140 : decode cX0_seat 140 = .ok (.istore_n 3, 1) := by decide +kernel
theorem dX0_seat_141 : decode cX0_seat 141 = .ok (.iinc 5 1, 3) := by decide +kernel
theorem dX0_seat_144 : decode cX0_seat 144 = .ok (.goto (-46), 3) := by decide +kernel
theorem dX0_seat_147 : decode cX0_seat 147 = .ok (.iload_n 3, 1) := by decide +kernel
theorem dX0_seat_148 : decode cX0_seat 148 = .ok (.ireturn, 1) := by decide +kernel
theorem dX0_leastLiked_0 : decode cX0_leastLiked 0 = .ok (.iconst (-1), 1) := by decide +kernel
theorem dX0_leastLiked_1 : decode cX0_leastLiked 1 = .ok (.istore_n 3, 1) := by decide +kernel
theorem dX0_leastLiked_2 : decode cX0_leastLiked 2 = .ok (.iconst 0, 1) := by decide +kernel
theorem dX0_leastLiked_3 : decode cX0_leastLiked 3 = .ok (.istore 4, 2) := by decide +kernel
theorem dX0_leastLiked_5 : decode cX0_leastLiked 5 = .ok (.aload_n 0, 1) := by decide +kernel
theorem dX0_leastLiked_6 : decode cX0_leastLiked 6 = .ok (.getfield 41, 3) := by decide +kernel
theorem dX0_leastLiked_9 : decode cX0_leastLiked 9 = .ok (.iconst 2, 1) := by decide +kernel
theorem dX0_leastLiked_10 : decode cX0_leastLiked 10 = .ok (.invokevirtual 121, 3) := by decide +kernel
theorem dX0_leastLiked_13 : decode cX0_leastLiked 13 = .ok (.istore 5, 2) := by decide +kernel
theorem dX0_leastLiked_15 : decode cX0_leastLiked 15 = .ok (.iconst 0, 1) := by decide +kernel
theorem dX0_leastLiked_16 : decode cX0_leastLiked 16 = .ok (.istore 6, 2) := by decide +kernel
theorem dX0_leastLiked_18 : decode cX0_leastLiked 18 = .ok (.iload 6, 2) := by decide +kernel
theorem dX0_leastLiked_20 : decode cX0_leastLiked 20 = .ok (.iload 5, 2) := by decide +kernel
theorem dX0_leastLiked_22 : decode cX0_leastLiked 22 = .ok (.if_icmp .ge 55, 3) := by decide +kernel
theorem dX0_leastLiked_25 : decode cX0_leastLiked 25 = .ok (.aload_n 0, 1) := by decide +kernel
theorem dX0_leastLiked_26 : decode cX0_leastLiked 26 = .ok (.getfield 48, 3) := by decide +kernel
theorem dX0_leastLiked_29 : decode cX0_leastLiked 29 = .ok (.getfield 173, 3) := by decide +kernel
theorem dX0_leastLiked_32 : decode cX0_leastLiked 32 = .ok (.iload 6, 2) := by decide +kernel
theorem dX0_leastLiked_34 : decode cX0_leastLiked 34 = .ok (.iaload, 1) := by decide +kernel
theorem dX0_leastLiked_35 : decode cX0_leastLiked 35 = .ok (.iload_n 2, 1) := by decide +kernel
theorem dX0_leastLiked_36 : decode cX0_leastLiked 36 = .ok (.if_icmp .eq 6, 3) := by decide +kernel
theorem dX0_leastLiked_39 : decode cX0_leastLiked 39 = .ok (.goto 32, 3) := by decide +kernel
theorem dX0_leastLiked_42 : decode cX0_leastLiked 42 = .ok (.aload_n 0, 1) := by decide +kernel
theorem dX0_leastLiked_43 : decode cX0_leastLiked 43 = .ok (.iload_n 1, 1) := by decide +kernel
theorem dX0_leastLiked_44 : decode cX0_leastLiked 44 = .ok (.iload 6, 2) := by decide +kernel
theorem dX0_leastLiked_46 : decode cX0_leastLiked 46 = .ok (.iload_n 2, 1) := by decide +kernel
theorem dX0_leastLiked_47 : decode cX0_leastLiked 47 = .ok (.invokevirtual 160, 3) := by decide +kernel
theorem dX0_leastLiked_50 : decode cX0_leastLiked 50 = .ok (.istore 7, 2) := by decide +kernel
theorem dX0_leastLiked_52 : decode cX0_leastLiked 52 = .ok (.iload_n 3, 1) := by decide +kernel
theorem dX0_leastLiked_53 : decode cX0_leastLiked 53 = .ok (.iconst (-1), 1) := by decide +kernel
theorem dX0_leastLiked_54 : decode cX0_leastLiked 54 = .ok (.if_icmp .eq 10, 3) := by decide +kernel
theorem dX0_leastLiked_57 : decode cX0_leastLiked 57 = .ok (.iload 7, 2) := by decide +kernel
theorem dX0_leastLiked_59 : decode cX0_leastLiked 59 = .ok (.iload 4, 2) := by decide +kernel
theorem dX0_leastLiked_61 : decode cX0_leastLiked 61 = .ok (.if_icmp .ge 10, 3) := by decide +kernel
theorem dX0_leastLiked_64 : decode cX0_leastLiked 64 = .ok (.iload 6, 2) := by decide +kernel
theorem dX0_leastLiked_66 : decode cX0_leastLiked 66 = .ok (.istore_n 3, 1) := by decide +kernel
theorem dX0_leastLiked_67 : decode cX0_leastLiked 67 = .ok (.iload 7, 2) := by decide +kernel
theorem dX0_leastLiked_69 : decode cX0_leastLiked 69 = .ok (.istore 4, 2) := by decide +kernel
theorem dX0_leastLiked_71 : decode cX0_leastLiked 71 = .ok (.iinc 6 1, 3) := by decide +kernel
theorem dX0_leastLiked_74 : decode cX0_leastLiked 74 = .ok (.goto (-56), 3) := by decide +kernel
theorem dX0_leastLiked_77 : decode cX0_leastLiked 77 = .ok (.iload_n 3, 1) := by decide +kernel
theorem dX0_leastLiked_78 : decode cX0_leastLiked 78 = .ok (.ireturn, 1) := by decide +kernel
theorem dX0_likes_0 : decode cX0_likes 0 = .ok (.iload_n 1, 1) := by decide +kernel
theorem dX0_likes_1 : decode cX0_likes 1 = .ok (.ifCond .lt 19, 3) := by decide +kernel
theorem dX0_likes_4 : decode cX0_likes 4 = .ok (.iload_n 1, 1) := by decide +kernel
theorem dX0_likes_5 : decode cX0_likes 5 = .ok (.bipush 6, 2) := by decide +kernel
theorem dX0_likes_7 : decode cX0_likes 7 = .ok (.if_icmp .ge 13, 3) := by decide +kernel
theorem dX0_likes_10 : decode cX0_likes 10 = .ok (.iload_n 2, 1) := by decide +kernel
theorem dX0_likes_11 : decode cX0_likes 11 = .ok (.ifCond .lt 9, 3) := by decide +kernel
theorem dX0_likes_14 : decode cX0_likes 14 = .ok (.iload_n 2, 1) := by decide +kernel
theorem dX0_likes_15 : decode cX0_likes 15 = .ok (.bipush 8, 2) := by decide +kernel
theorem dX0_likes_17 : decode cX0_likes 17 = .ok (.if_icmp .lt 5, 3) := by decide +kernel
theorem dX0_likes_20 : decode cX0_likes 20 = .ok (.iconst 0, 1) := by decide +kernel
theorem dX0_likes_21 : decode cX0_likes 21 = .ok (.ireturn, 1) := by decide +kernel
theorem dX0_likes_22 : decode cX0_likes 22 = .ok (.iload_n 1, 1) := by decide +kernel
theorem dX0_likes_23 : decode cX0_likes 23 = .ok (.bipush 8, 2) := by decide +kernel
theorem dX0_likes_25 : decode cX0_likes 25 = .ok (.imul, 1) := by decide +kernel
theorem dX0_likes_26 : decode cX0_likes 26 = .ok (.iload_n 2, 1) := by decide +kernel
theorem dX0_likes_27 : decode cX0_likes 27 = .ok (.iadd, 1) := by decide +kernel
theorem dX0_likes_28 : decode cX0_likes 28 = .ok (.istore 4, 2) := by decide +kernel
theorem dX0_likes_30 : decode cX0_likes 30 = .ok (.aload_n 0, 1) := by decide +kernel
theorem dX0_likes_31 : decode cX0_likes 31 = .ok (.getfield 69, 3) := by decide +kernel
theorem dX0_likes_34 : decode cX0_likes 34 = .ok (.aload_n 0, 1) := by decide +kernel
theorem dX0_likes_35 : decode cX0_likes 35 = .ok (.iload_n 1, 1) := by decide +kernel
theorem dX0_likes_36 : decode cX0_likes 36 = .ok (.invokevirtual 185, 3) := by decide +kernel
theorem dX0_likes_39 : decode cX0_likes 39 = .ok (.i2l, 1) := by decide +kernel
theorem dX0_likes_40 : decode cX0_likes 40 = .ok (.ladd, 1) := by decide +kernel
theorem dX0_likes_41 : decode cX0_likes 41 = .ok (.aload_n 0, 1) := by decide +kernel
theorem dX0_likes_42 : decode cX0_likes 42 = .ok (.getfield 72, 3) := by decide +kernel
theorem dX0_likes_45 : decode cX0_likes 45 = .ok (.ifCond .eq 16, 3) := by decide +kernel
theorem dX0_likes_48 : decode cX0_likes 48 = .ok (.aload_n 0, 1) := by decide +kernel
theorem dX0_likes_49 : decode cX0_likes 49 = .ok (.iload_n 3, 1) := by decide +kernel
theorem dX0_likes_50 : decode cX0_likes 50 = .ok (.invokevirtual 188, 3) := by decide +kernel
theorem dX0_likes_53 : decode cX0_likes 53 = .ok (.i2l, 1) := by decide +kernel
theorem dX0_likes_54 : decode cX0_likes 54 = .ok (.ldc2_w 191, 3) := by decide +kernel
theorem dX0_likes_57 : decode cX0_likes 57 = .ok (.lmul, 1) := by decide +kernel
theorem dX0_likes_58 : decode cX0_likes 58 = .ok (.goto 4, 3) := by decide +kernel
theorem dX0_likes_61 : decode cX0_likes 61 = .ok (.lconst 0, 1) := by decide +kernel
theorem dX0_likes_62 : decode cX0_likes 62 = .ok (.ladd, 1) := by decide +kernel
theorem dX0_likes_63 : decode cX0_likes 63 = .ok (.lstore 5, 2) := by decide +kernel
theorem dX0_likes_65 : decode cX0_likes 65 = .ok (.aload_n 0, 1) := by decide +kernel
theorem dX0_likes_66 : decode cX0_likes 66 = .ok (.getfield 63, 3) := by decide +kernel
theorem dX0_likes_69 : decode cX0_likes 69 = .ok (.iload 4, 2) := by decide +kernel
theorem dX0_likes_71 : decode cX0_likes 71 = .ok (.laload, 1) := by decide +kernel
theorem dX0_likes_72 : decode cX0_likes 72 = .ok (.lload 5, 2) := by decide +kernel
theorem dX0_likes_74 : decode cX0_likes 74 = .ok (.lcmp, 1) := by decide +kernel
theorem dX0_likes_75 : decode cX0_likes 75 = .ok (.ifCond .eq 67, 3) := by decide +kernel
theorem dX0_likes_78 : decode cX0_likes 78 = .ok (.aload_n 0, 1) := by decide +kernel
theorem dX0_likes_79 : decode cX0_likes 79 = .ok (.iload_n 1, 1) := by decide +kernel
theorem dX0_likes_80 : decode cX0_likes 80 = .ok (.iload_n 2, 1) := by decide +kernel
theorem dX0_likes_81 : decode cX0_likes 81 = .ok (.iload_n 3, 1) := by decide +kernel
theorem dX0_likes_82 : decode cX0_likes 82 = .ok (.invokevirtual 131, 3) := by decide +kernel
theorem dX0_likes_85 : decode cX0_likes 85 = .ok (.aload_n 0, 1) := by decide +kernel
theorem dX0_likes_86 : decode cX0_likes 86 = .ok (.getfield 41, 3) := by decide +kernel
theorem dX0_likes_89 : decode cX0_likes 89 = .ok (.getfield 103, 3) := by decide +kernel
theorem dX0_likes_92 : decode cX0_likes 92 = .ok (.aload_n 0, 1) := by decide +kernel
theorem dX0_likes_93 : decode cX0_likes 93 = .ok (.getfield 55, 3) := by decide +kernel
theorem dX0_likes_96 : decode cX0_likes 96 = .ok (.invokevirtual 138, 3) := by decide +kernel
theorem dX0_likes_99 : decode cX0_likes 99 = .ok (.lstore 7, 2) := by decide +kernel
theorem dX0_likes_101 : decode cX0_likes 101 = .ok (.aload_n 0, 1) := by decide +kernel
theorem dX0_likes_102 : decode cX0_likes 102 = .ok (.getfield 66, 3) := by decide +kernel
theorem dX0_likes_105 : decode cX0_likes 105 = .ok (.iload 4, 2) := by decide +kernel
theorem dX0_likes_107 : decode cX0_likes 107 = .ok (.lload 7, 2) := by decide +kernel
theorem dX0_likes_109 : decode cX0_likes 109 = .ok (.ldc2_w 142, 3) := by decide +kernel
theorem dX0_likes_112 : decode cX0_likes 112 = .ok (.lcmp, 1) := by decide +kernel
theorem dX0_likes_113 : decode cX0_likes 113 = .ok (.ifCond .ne 12, 3) := by decide +kernel
theorem dX0_likes_116 : decode cX0_likes 116 = .ok (.aload_n 0, 1) := by decide +kernel
theorem dX0_likes_117 : decode cX0_likes 117 = .ok (.iload_n 1, 1) := by decide +kernel
theorem dX0_likes_118 : decode cX0_likes 118 = .ok (.iload_n 2, 1) := by decide +kernel
theorem dX0_likes_119 : decode cX0_likes 119 = .ok (.invokevirtual 193, 3) := by decide +kernel
theorem dX0_likes_122 : decode cX0_likes 122 = .ok (.goto 10, 3) := by decide +kernel
theorem dX0_likes_125 : decode cX0_likes 125 = .ok (.lload 7, 2) := by decide +kernel
theorem dX0_likes_127 : decode cX0_likes 127 = .ok (.bipush 99, 2) := by decide +kernel
theorem dX0_likes_129 : decode cX0_likes 129 = .ok (.invokestatic 196, 3) := by decide +kernel
theorem dX0_likes_132 : decode cX0_likes 132 = .ok (.iastore, 1) := by decide +kernel
theorem dX0_likes_133 : decode cX0_likes 133 = .ok (.aload_n 0, 1) := by decide +kernel
theorem dX0_likes_134 : decode cX0_likes 134 = .ok (.getfield 63, 3) := by decide +kernel
theorem dX0_likes_137 : decode cX0_likes 137 = .ok (.iload 4, 2) := by decide +kernel
theorem dX0_likes_139 : decode cX0_likes 139 = .ok (.lload 5, 2) := by decide +kernel
theorem dX0_likes_141 : decode cX0_likes 141 = .ok (.lastore, 1) := by decide +kernel
theorem dX0_likes_142 : decode cX0_likes 142 = .ok (.aload_n 0, 1) := by decide +kernel
theorem dX0_likes_143 : decode cX0_likes 143 = .ok (.getfield 66, 3) := by decide +kernel
theorem dX0_likes_146 : decode cX0_likes 146 = .ok (.iload 4, 2) := by decide +kernel
theorem dX0_likes_148 : decode cX0_likes 148 = .ok (.iaload, 1) := by decide +kernel
theorem dX0_likes_149 : decode cX0_likes 149 = .ok (.ireturn, 1) := by decide +kernel
theorem dX0_plainLiking_0 : decode cX0_plainLiking 0 = .ok (.aload_n 0, 1) := by decide +kernel
theorem dX0_plainLiking_1 : decode cX0_plainLiking 1 = .ok (.getfield 41, 3) := by decide +kernel
theorem dX0_plainLiking_4 : decode cX0_plainLiking 4 = .ok (.getfield 200, 3) := by decide +kernel
theorem dX0_plainLiking_7 : decode cX0_plainLiking 7 = .ok (.iload_n 2, 1) := by decide +kernel
theorem dX0_plainLiking_8 : decode cX0_plainLiking 8 = .ok (.iaload, 1) := by decide +kernel
theorem dX0_plainLiking_9 : decode cX0_plainLiking 9 = .ok (.aload_n 0, 1) := by decide +kernel
theorem dX0_plainLiking_10 : decode cX0_plainLiking 10 = .ok (.iload_n 1, 1) := by decide +kernel
theorem dX0_plainLiking_11 : decode cX0_plainLiking 11 = .ok (.invokevirtual 185, 3) := by decide +kernel
theorem dX0_plainLiking_14 : decode cX0_plainLiking 14 = .ok (.isub, 1) := by decide +kernel
theorem dX0_plainLiking_15 : decode cX0_plainLiking 15 = .ok (.invokestatic 203, 3) := by decide +kernel
theorem dX0_plainLiking_18 : decode cX0_plainLiking 18 = .ok (.istore_n 3, 1) := by decide +kernel
theorem dX0_plainLiking_19 : decode cX0_plainLiking 19 = .ok (.bipush 50, 2) := by decide +kernel
theorem dX0_plainLiking_21 : decode cX0_plainLiking 21 = .ok (.iconst 5, 1) := by decide +kernel
theorem dX0_plainLiking_22 : decode cX0_plainLiking 22 = .ok (.iload_n 3, 1) := by decide +kernel
theorem dX0_plainLiking_23 : decode cX0_plainLiking 23 = .ok (.imul, 1) := by decide +kernel
theorem dX0_plainLiking_24 : decode cX0_plainLiking 24 = .ok (.isub, 1) := by decide +kernel
theorem dX0_plainLiking_25 : decode cX0_plainLiking 25 = .ok (.aload_n 0, 1) := by decide +kernel
theorem dX0_plainLiking_26 : decode cX0_plainLiking 26 = .ok (.getfield 41, 3) := by decide +kernel
theorem dX0_plainLiking_29 : decode cX0_plainLiking 29 = .ok (.getfield 208, 3) := by decide +kernel
theorem dX0_plainLiking_32 : decode cX0_plainLiking 32 = .ok (.iload_n 2, 1) := by decide +kernel
theorem dX0_plainLiking_33 : decode cX0_plainLiking 33 = .ok (.iaload, 1) := by decide +kernel
theorem dX0_plainLiking_34 : decode cX0_plainLiking 34 = .ok (.aload_n 0, 1) := by decide +kernel
theorem dX0_plainLiking_35 : decode cX0_plainLiking 35 = .ok (.getfield 41, 3) := by decide +kernel
theorem dX0_plainLiking_38 : decode cX0_plainLiking 38 = .ok (.getfield 211, 3) := by decide +kernel
theorem dX0_plainLiking_41 : decode cX0_plainLiking 41 = .ok (.iload_n 1, 1) := by decide +kernel
theorem dX0_plainLiking_42 : decode cX0_plainLiking 42 = .ok (.iaload, 1) := by decide +kernel
theorem dX0_plainLiking_43 : decode cX0_plainLiking 43 = .ok (.if_icmp .ne 8, 3) := by decide +kernel
theorem dX0_plainLiking_46 : decode cX0_plainLiking 46 = .ok (.bipush 20, 2) := by decide +kernel
theorem dX0_plainLiking_48 : decode cX0_plainLiking 48 = .ok (.goto 4, 3) := by decide +kernel
theorem dX0_plainLiking_51 : decode cX0_plainLiking 51 = .ok (.iconst 0, 1) := by decide +kernel
theorem dX0_plainLiking_52 : decode cX0_plainLiking 52 = .ok (.iadd, 1) := by decide +kernel
theorem dX0_plainLiking_53 : decode cX0_plainLiking 53 = .ok (.ireturn, 1) := by decide +kernel
theorem dX0_bears_0 : decode cX0_bears 0 = .ok (.aload_n 0, 1) := by decide +kernel
theorem dX0_bears_1 : decode cX0_bears 1 = .ok (.iload_n 1, 1) := by decide +kernel
theorem dX0_bears_2 : decode cX0_bears 2 = .ok (.iload_n 2, 1) := by decide +kernel
theorem dX0_bears_3 : decode cX0_bears 3 = .ok (.iload_n 3, 1) := by decide +kernel
theorem dX0_bears_4 : decode cX0_bears 4 = .ok (.invokevirtual 131, 3) := by decide +kernel
theorem dX0_bears_7 : decode cX0_bears 7 = .ok (.aload_n 0, 1) := by decide +kernel
theorem dX0_bears_8 : decode cX0_bears 8 = .ok (.getfield 41, 3) := by decide +kernel
theorem dX0_bears_11 : decode cX0_bears 11 = .ok (.getfield 214, 3) := by decide +kernel
theorem dX0_bears_14 : decode cX0_bears 14 = .ok (.aload_n 0, 1) := by decide +kernel
theorem dX0_bears_15 : decode cX0_bears 15 = .ok (.getfield 55, 3) := by decide +kernel
theorem dX0_bears_18 : decode cX0_bears 18 = .ok (.invokevirtual 138, 3) := by decide +kernel
theorem dX0_bears_21 : decode cX0_bears 21 = .ok (.lstore 4, 2) := by decide +kernel
theorem dX0_bears_23 : decode cX0_bears 23 = .ok (.lload 4, 2) := by decide +kernel
theorem dX0_bears_25 : decode cX0_bears 25 = .ok (.ldc2_w 142, 3) := by decide +kernel
theorem dX0_bears_28 : decode cX0_bears 28 = .ok (.lcmp, 1) := by decide +kernel
theorem dX0_bears_29 : decode cX0_bears 29 = .ok (.ifCond .ne 8, 3) := by decide +kernel
theorem dX0_bears_32 : decode cX0_bears 32 = .ok (.bipush 30, 2) := by decide +kernel
theorem dX0_bears_34 : decode cX0_bears 34 = .ok (.goto 10, 3) := by decide +kernel
theorem dX0_bears_37 : decode cX0_bears 37 = .ok (.lload 4, 2) := by decide +kernel
theorem dX0_bears_39 : decode cX0_bears 39 = .ok (.bipush 100, 2) := by decide +kernel
theorem dX0_bears_41 : decode cX0_bears 41 = .ok (.invokestatic 196, 3) := by decide +kernel
theorem dX0_bears_44 : decode cX0_bears 44 = .ok (.ireturn, 1) := by decide +kernel
theorem dX0_within_0 : decode cX0_within 0 = .ok (.lconst 0, 1) := by decide +kernel
theorem dX0_within_1 : decode cX0_within 1 = .ok (.iload_n 2, 1) := by decide +kernel
theorem dX0_within_2 : decode cX0_within 2 = .ok (.i2l, 1) := by decide +kernel
theorem dX0_within_3 : decode cX0_within 3 = .ok (.lload_n 0, 1) := by decide +kernel
theorem dX0_within_4 : decode cX0_within 4 = .ok (.invokestatic 217, 3) := by decide +kernel
theorem dX0_within_7 : decode cX0_within 7 = .ok (.invokestatic 221, 3) := by decide +kernel
theorem dX0_within_10 : decode cX0_within 10 = .ok (.l2i, 1) := by decide +kernel
theorem dX0_within_11 : decode cX0_within 11 = .ok (.ireturn, 1) := by decide +kernel
theorem dX0_tasteOf_0 : decode cX0_tasteOf 0 = .ok (.iload_n 1, 1) := by decide +kernel
theorem dX0_tasteOf_1 : decode cX0_tasteOf 1 = .ok (.aload_n 0, 1) := by decide +kernel
theorem dX0_tasteOf_2 : decode cX0_tasteOf 2 = .ok (.getfield 25, 3) := by decide +kernel
theorem dX0_tasteOf_5 : decode cX0_tasteOf 5 = .ok (.if_icmp .ne 10, 3) := by decide +kernel
theorem dX0_tasteOf_8 : decode cX0_tasteOf 8 = .ok (.aload_n 0, 1) := by decide +kernel
theorem dX0_tasteOf_9 : decode cX0_tasteOf 9 = .ok (.getfield 28, 3) := by decide +kernel
theorem dX0_tasteOf_12 : decode cX0_tasteOf 12 = .ok (.goto 12, 3) := by decide +kernel
theorem dX0_tasteOf_15 : decode cX0_tasteOf 15 = .ok (.aload_n 0, 1) := by decide +kernel
theorem dX0_tasteOf_16 : decode cX0_tasteOf 16 = .ok (.getfield 41, 3) := by decide +kernel
theorem dX0_tasteOf_19 : decode cX0_tasteOf 19 = .ok (.getfield 224, 3) := by decide +kernel
theorem dX0_tasteOf_22 : decode cX0_tasteOf 22 = .ok (.iload_n 1, 1) := by decide +kernel
theorem dX0_tasteOf_23 : decode cX0_tasteOf 23 = .ok (.iaload, 1) := by decide +kernel
theorem dX0_tasteOf_24 : decode cX0_tasteOf 24 = .ok (.ireturn, 1) := by decide +kernel
theorem dX0_warmth_0 : decode cX0_warmth 0 = .ok (.iload_n 1, 1) := by decide +kernel
theorem dX0_warmth_1 : decode cX0_warmth 1 = .ok (.ifCond .lt 21, 3) := by decide +kernel
theorem dX0_warmth_4 : decode cX0_warmth 4 = .ok (.iload_n 1, 1) := by decide +kernel
theorem dX0_warmth_5 : decode cX0_warmth 5 = .ok (.bipush 6, 2) := by decide +kernel
theorem dX0_warmth_7 : decode cX0_warmth 7 = .ok (.if_icmp .ge 15, 3) := by decide +kernel
theorem dX0_warmth_10 : decode cX0_warmth 10 = .ok (.aload_n 0, 1) := by decide +kernel
theorem dX0_warmth_11 : decode cX0_warmth 11 = .ok (.getfield 48, 3) := by decide +kernel
theorem dX0_warmth_14 : decode cX0_warmth 14 = .ok (.getfield 150, 3) := by decide +kernel
theorem dX0_warmth_17 : decode cX0_warmth 17 = .ok (.iload_n 1, 1) := by decide +kernel
theorem dX0_warmth_18 : decode cX0_warmth 18 = .ok (.iaload, 1) := by decide +kernel
theorem dX0_warmth_19 : decode cX0_warmth 19 = .ok (.goto 4, 3) := by decide +kernel
theorem dX0_warmth_22 : decode cX0_warmth 22 = .ok (.iconst 0, 1) := by decide +kernel
theorem dX0_warmth_23 : decode cX0_warmth 23 = .ok (.ireturn, 1) := by decide +kernel
theorem dX0_value_0 : decode cX0_value 0 = .ok (.aload_n 0, 1) := by decide +kernel
theorem dX0_value_1 : decode cX0_value 1 = .ok (.iload_n 2, 1) := by decide +kernel
theorem dX0_value_2 : decode cX0_value 2 = .ok (.iload_n 3, 1) := by decide +kernel
theorem dX0_value_3 : decode cX0_value 3 = .ok (.iload 4, 2) := by decide +kernel
theorem dX0_value_5 : decode cX0_value 5 = .ok (.invokevirtual 131, 3) := by decide +kernel
theorem dX0_value_8 : decode cX0_value 8 = .ok (.aload_n 0, 1) := by decide +kernel
theorem dX0_value_9 : decode cX0_value 9 = .ok (.getfield 41, 3) := by decide +kernel
theorem dX0_value_12 : decode cX0_value 12 = .ok (.iload_n 1, 1) := by decide +kernel
theorem dX0_value_13 : decode cX0_value 13 = .ok (.invokevirtual 227, 3) := by decide +kernel
theorem dX0_value_16 : decode cX0_value 16 = .ok (.aload_n 0, 1) := by decide +kernel
theorem dX0_value_17 : decode cX0_value 17 = .ok (.getfield 55, 3) := by decide +kernel
theorem dX0_value_20 : decode cX0_value 20 = .ok (.invokevirtual 138, 3) := by decide +kernel
theorem dX0_value_23 : decode cX0_value 23 = .ok (.lreturn, 1) := by decide +kernel
theorem dX0_tellNames_0 : decode cX0_tellNames 0 = .ok (.aload_n 0, 1) := by decide +kernel
theorem dX0_tellNames_1 : decode cX0_tellNames 1 = .ok (.getfield 41, 3) := by decide +kernel
theorem dX0_tellNames_4 : decode cX0_tellNames 4 = .ok (.iconst 2, 1) := by decide +kernel
theorem dX0_tellNames_5 : decode cX0_tellNames 5 = .ok (.iload_n 2, 1) := by decide +kernel
theorem dX0_tellNames_6 : decode cX0_tellNames 6 = .ok (.invokevirtual 231, 3) := by decide +kernel
theorem dX0_tellNames_9 : decode cX0_tellNames 9 = .ok (.istore 4, 2) := by decide +kernel
theorem dX0_tellNames_11 : decode cX0_tellNames 11 = .ok (.aload_n 0, 1) := by decide +kernel
theorem dX0_tellNames_12 : decode cX0_tellNames 12 = .ok (.getfield 55, 3) := by decide +kernel
theorem dX0_tellNames_15 : decode cX0_tellNames 15 = .ok (.iconst 0, 1) := by decide +kernel
theorem dX0_tellNames_16 : decode cX0_tellNames 16 = .ok (.iload 4, 2) := by decide +kernel
theorem dX0_tellNames_18 : decode cX0_tellNames 18 = .ok (.ifCond .eq 16, 3) := by decide +kernel
theorem dX0_tellNames_21 : decode cX0_tellNames 21 = .ok (.aload_n 0, 1) := by decide +kernel
theorem dX0_tellNames_22 : decode cX0_tellNames 22 = .ok (.getfield 41, 3) := by decide +kernel
theorem dX0_tellNames_25 : decode cX0_tellNames 25 = .ok (.getfield 200, 3) := by decide +kernel
theorem dX0_tellNames_28 : decode cX0_tellNames 28 = .ok (.iload_n 2, 1) := by decide +kernel
theorem dX0_tellNames_29 : decode cX0_tellNames 29 = .ok (.iaload, 1) := by decide +kernel
theorem dX0_tellNames_30 : decode cX0_tellNames 30 = .ok (.i2l, 1) := by decide +kernel
theorem dX0_tellNames_31 : decode cX0_tellNames 31 = .ok (.goto 4, 3) := by decide +kernel
theorem dX0_tellNames_34 : decode cX0_tellNames 34 = .ok (.lconst 0, 1) := by decide +kernel
theorem dX0_tellNames_35 : decode cX0_tellNames 35 = .ok (.lastore, 1) := by decide +kernel
theorem dX0_tellNames_36 : decode cX0_tellNames 36 = .ok (.aload_n 0, 1) := by decide +kernel
theorem dX0_tellNames_37 : decode cX0_tellNames 37 = .ok (.getfield 55, 3) := by decide +kernel
theorem dX0_tellNames_40 : decode cX0_tellNames 40 = .ok (.iconst 1, 1) := by decide +kernel
theorem dX0_tellNames_41 : decode cX0_tellNames 41 = .ok (.iload 4, 2) := by decide +kernel
theorem dX0_tellNames_43 : decode cX0_tellNames 43 = .ok (.ifCond .eq 16, 3) := by decide +kernel
theorem dX0_tellNames_46 : decode cX0_tellNames 46 = .ok (.aload_n 0, 1) := by decide +kernel
theorem dX0_tellNames_47 : decode cX0_tellNames 47 = .ok (.getfield 41, 3) := by decide +kernel
theorem dX0_tellNames_50 : decode cX0_tellNames 50 = .ok (.getfield 208, 3) := by decide +kernel
theorem dX0_tellNames_53 : decode cX0_tellNames 53 = .ok (.iload_n 2, 1) := by decide +kernel
theorem dX0_tellNames_54 : decode cX0_tellNames 54 = .ok (.iaload, 1) := by decide +kernel
theorem dX0_tellNames_55 : decode cX0_tellNames 55 = .ok (.i2l, 1) := by decide +kernel
theorem dX0_tellNames_56 : decode cX0_tellNames 56 = .ok (.goto 4, 3) := by decide +kernel
theorem dX0_tellNames_59 : decode cX0_tellNames 59 = .ok (.lconst 0, 1) := by decide +kernel
theorem dX0_tellNames_60 : decode cX0_tellNames 60 = .ok (.lastore, 1) := by decide +kernel
theorem dX0_tellNames_61 : decode cX0_tellNames 61 = .ok (.aload_n 0, 1) := by decide +kernel
theorem dX0_tellNames_62 : decode cX0_tellNames 62 = .ok (.getfield 55, 3) := by decide +kernel
theorem dX0_tellNames_65 : decode cX0_tellNames 65 = .ok (.iconst 2, 1) := by decide +kernel
theorem dX0_tellNames_66 : decode cX0_tellNames 66 = .ok (.aload_n 0, 1) := by decide +kernel
theorem dX0_tellNames_67 : decode cX0_tellNames 67 = .ok (.iload_n 1, 1) := by decide +kernel
theorem dX0_tellNames_68 : decode cX0_tellNames 68 = .ok (.invokevirtual 185, 3) := by decide +kernel
theorem dX0_tellNames_71 : decode cX0_tellNames 71 = .ok (.i2l, 1) := by decide +kernel
theorem dX0_tellNames_72 : decode cX0_tellNames 72 = .ok (.lastore, 1) := by decide +kernel
theorem dX0_tellNames_73 : decode cX0_tellNames 73 = .ok (.aload_n 0, 1) := by decide +kernel
theorem dX0_tellNames_74 : decode cX0_tellNames 74 = .ok (.getfield 55, 3) := by decide +kernel
theorem dX0_tellNames_77 : decode cX0_tellNames 77 = .ok (.iconst 3, 1) := by decide +kernel
theorem dX0_tellNames_78 : decode cX0_tellNames 78 = .ok (.aload_n 0, 1) := by decide +kernel
theorem dX0_tellNames_79 : decode cX0_tellNames 79 = .ok (.getfield 41, 3) := by decide +kernel
theorem dX0_tellNames_82 : decode cX0_tellNames 82 = .ok (.getfield 211, 3) := by decide +kernel
theorem dX0_tellNames_85 : decode cX0_tellNames 85 = .ok (.iload_n 1, 1) := by decide +kernel
theorem dX0_tellNames_86 : decode cX0_tellNames 86 = .ok (.iaload, 1) := by decide +kernel
theorem dX0_tellNames_87 : decode cX0_tellNames 87 = .ok (.i2l, 1) := by decide +kernel
theorem dX0_tellNames_88 : decode cX0_tellNames 88 = .ok (.lastore, 1) := by decide +kernel
theorem dX0_tellNames_89 : decode cX0_tellNames 89 = .ok (.aload_n 0, 1) := by decide +kernel
theorem dX0_tellNames_90 : decode cX0_tellNames 90 = .ok (.getfield 55, 3) := by decide +kernel
theorem dX0_tellNames_93 : decode cX0_tellNames 93 = .ok (.iconst 4, 1) := by decide +kernel
theorem dX0_tellNames_94 : decode cX0_tellNames 94 = .ok (.aload_n 0, 1) := by decide +kernel
theorem dX0_tellNames_95 : decode cX0_tellNames 95 = .ok (.iload_n 3, 1) := by decide +kernel
theorem dX0_tellNames_96 : decode cX0_tellNames 96 = .ok (.invokevirtual 188, 3) := by decide +kernel
theorem dX0_tellNames_99 : decode cX0_tellNames 99 = .ok (.i2l, 1) := by decide +kernel
theorem dX0_tellNames_100 : decode cX0_tellNames 100 = .ok (.lastore, 1) := by decide +kernel
theorem dX0_tellNames_101 : decode cX0_tellNames 101 = .ok (.aload_n 0, 1) := by decide +kernel
theorem dX0_tellNames_102 : decode cX0_tellNames 102 = .ok (.getfield 55, 3) := by decide +kernel
theorem dX0_tellNames_105 : decode cX0_tellNames 105 = .ok (.iconst 5, 1) := by decide +kernel
theorem dX0_tellNames_106 : decode cX0_tellNames 106 = .ok (.aload_n 0, 1) := by decide +kernel
theorem dX0_tellNames_107 : decode cX0_tellNames 107 = .ok (.getfield 52, 3) := by decide +kernel
theorem dX0_tellNames_110 : decode cX0_tellNames 110 = .ok (.i2l, 1) := by decide +kernel
theorem dX0_tellNames_111 : decode cX0_tellNames 111 = .ok (.lastore, 1) := by decide +kernel
theorem dX0_tellNames_112 : decode cX0_tellNames 112 = .ok (.aload_n 0, 1) := by decide +kernel
theorem dX0_tellNames_113 : decode cX0_tellNames 113 = .ok (.getfield 55, 3) := by decide +kernel
theorem dX0_tellNames_116 : decode cX0_tellNames 116 = .ok (.bipush 6, 2) := by decide +kernel
theorem dX0_tellNames_118 : decode cX0_tellNames 118 = .ok (.aload_n 0, 1) := by decide +kernel
theorem dX0_tellNames_119 : decode cX0_tellNames 119 = .ok (.getfield 48, 3) := by decide +kernel
theorem dX0_tellNames_122 : decode cX0_tellNames 122 = .ok (.getfield 96, 3) := by decide +kernel
theorem dX0_tellNames_125 : decode cX0_tellNames 125 = .ok (.i2l, 1) := by decide +kernel
theorem dX0_tellNames_126 : decode cX0_tellNames 126 = .ok (.lastore, 1) := by decide +kernel
theorem dX0_tellNames_127 : decode cX0_tellNames 127 = .ok (.return_, 1) := by decide +kernel
