theorem dX7_init_0 : decode cX7_init 0 = .ok (.aload_n 0, 1) := by decide +kernel
theorem dX7_init_1 : decode cX7_init 1 = .ok (.invokespecial 3, 3) := by decide +kernel
theorem dX7_init_4 : decode cX7_init 4 = .ok (.aload_n 0, 1) := by decide +kernel
theorem dX7_init_5 : decode cX7_init 5 = .ok (.bipush 8, 2) := by decide +kernel
theorem dX7_init_7 : decode cX7_init 7 = .ok (.newarray .int, 2) := by decide +kernel
theorem dX7_init_9 : decode cX7_init 9 = .ok (.putfield 9, 3) := by decide +kernel
theorem dX7_init_12 : decode cX7_init 12 = .ok (.aload_n 0, 1) := by decide +kernel
theorem dX7_init_13 : decode cX7_init 13 = .ok (.bipush 8, 2) := by decide +kernel
theorem dX7_init_15 : decode cX7_init 15 = .ok (.newarray .int, 2) := by decide +kernel
theorem dX7_init_17 : decode cX7_init 17 = .ok (.putfield 15, 3) := by decide +kernel
theorem dX7_init_20 : decode cX7_init 20 = .ok (.aload_n 0, 1) := by decide +kernel
theorem dX7_init_21 : decode cX7_init 21 = .ok (.bipush 8, 2) := by decide +kernel
theorem dX7_init_23 : decode cX7_init 23 = .ok (.newarray .int, 2) := by decide +kernel
theorem dX7_init_25 : decode cX7_init 25 = .ok (.putfield 18, 3) := by decide +kernel
theorem dX7_init_28 : decode cX7_init 28 = .ok (.aload_n 0, 1) := by decide +kernel
theorem dX7_init_29 : decode cX7_init 29 = .ok (.bipush 6, 2) := by decide +kernel
theorem dX7_init_31 : decode cX7_init 31 = .ok (.newarray .int, 2) := by decide +kernel
theorem dX7_init_33 : decode cX7_init 33 = .ok (.putfield 21, 3) := by decide +kernel
theorem dX7_init_36 : decode cX7_init 36 = .ok (.aload_n 0, 1) := by decide +kernel
theorem dX7_init_37 : decode cX7_init 37 = .ok (.bipush 6, 2) := by decide +kernel
theorem dX7_init_39 : decode cX7_init 39 = .ok (.newarray .int, 2) := by decide +kernel
theorem dX7_init_41 : decode cX7_init 41 = .ok (.putfield 24, 3) := by decide +kernel
theorem dX7_init_44 : decode cX7_init 44 = .ok (.aload_n 0, 1) := by decide +kernel
theorem dX7_init_45 : decode cX7_init 45 = .ok (.iconst 0, 1) := by decide +kernel
theorem dX7_init_46 : decode cX7_init 46 = .ok (.putfield 27, 3) := by decide +kernel
theorem dX7_init_49 : decode cX7_init 49 = .ok (.aload_n 0, 1) := by decide +kernel
theorem dX7_init_50 : decode cX7_init 50 = .ok (.iconst 0, 1) := by decide +kernel
theorem dX7_init_51 : decode cX7_init 51 = .ok (.putfield 31, 3) := by decide +kernel
theorem dX7_init_54 : decode cX7_init 54 = .ok (.aload_n 0, 1) := by decide +kernel
theorem dX7_init_55 : decode cX7_init 55 = .ok (.getfield 9, 3) := by decide +kernel
theorem dX7_init_58 : decode cX7_init 58 = .ok (.iconst (-1), 1) := by decide +kernel
theorem dX7_init_59 : decode cX7_init 59 = .ok (.invokestatic 34, 3) := by decide +kernel
theorem dX7_init_62 : decode cX7_init 62 = .ok (.return_, 1) := by decide +kernel
theorem dX7_enter_0 : decode cX7_enter 0 = .ok (.aload_n 0, 1) := by decide +kernel
theorem dX7_enter_1 : decode cX7_enter 1 = .ok (.getfield 9, 3) := by decide +kernel
theorem dX7_enter_4 : decode cX7_enter 4 = .ok (.iconst (-1), 1) := by decide +kernel
theorem dX7_enter_5 : decode cX7_enter 5 = .ok (.invokestatic 34, 3) := by decide +kernel
theorem dX7_enter_8 : decode cX7_enter 8 = .ok (.iconst 0, 1) := by decide +kernel
theorem dX7_enter_9 : decode cX7_enter 9 = .ok (.istore_n 2, 1) := by decide +kernel
theorem dX7_enter_10 : decode cX7_enter 10 = .ok (.iload_n 2, 1) := by decide +kernel
theorem dX7_enter_11 : decode cX7_enter 11 = .ok (.aload_n 1, 1) := by decide +kernel
theorem dX7_enter_12 : decode cX7_enter 12 = .ok (.iconst 2, 1) := by decide +kernel
theorem dX7_enter_13 : decode cX7_enter 13 = .ok (.invokevirtual 40, 3) := by decide +kernel
theorem dX7_enter_16 : decode cX7_enter 16 = .ok (.if_icmp .ge 30, 3) := by decide +kernel
theorem dX7_enter_19 : decode cX7_enter 19 = .ok (.iload_n 2, 1) := by decide +kernel
theorem dX7_enter_20 : decode cX7_enter 20 = .ok (.aload_n 0, 1) := by decide +kernel
theorem dX7_enter_21 : decode cX7_enter 21 = .ok (.getfield 9, 3) := by decide +kernel
theorem dX7_enter_24 : decode cX7_enter 24 = .ok (.arraylength, 1) := by decide +kernel
theorem dX7_enter_25 : decode cX7_enter 25 = .ok (.if_icmp .ge 21, 3) := by decide +kernel
theorem dX7_enter_28 : decode cX7_enter 28 = .ok (.aload_n 0, 1) := by decide +kernel
theorem dX7_enter_29 : decode cX7_enter 29 = .ok (.getfield 9, 3) := by decide +kernel
theorem dX7_enter_32 : decode cX7_enter 32 = .ok (.iload_n 2, 1) := by decide +kernel
theorem dX7_enter_33 : decode cX7_enter 33 = .ok (.aload_n 1, 1) := by decide +kernel
theorem dX7_enter_34 : decode cX7_enter 34 = .ok (.getfield 46, 3) := by decide +kernel
theorem dX7_enter_37 : decode cX7_enter 37 = .ok (.iload_n 2, 1) := by decide +kernel
theorem dX7_enter_38 : decode cX7_enter 38 = .ok (.iaload, 1) := by decide +kernel
theorem dX7_enter_39 : decode cX7_enter 39 = .ok (.iastore, 1) := by decide +kernel
theorem dX7_enter_40 : decode cX7_enter 40 = .ok (.iinc 2 1, 3) := by decide +kernel
theorem dX7_enter_43 : decode cX7_enter 43 = .ok (.goto (-33), 3) := by decide +kernel
theorem dX7_enter_46 : decode cX7_enter 46 = .ok (.aload_n 0, 1) := by decide +kernel
theorem dX7_enter_47 : decode cX7_enter 47 = .ok (.getfield 15, 3) := by decide +kernel
theorem dX7_enter_50 : decode cX7_enter 50 = .ok (.iconst 0, 1) := by decide +kernel
theorem dX7_enter_51 : decode cX7_enter 51 = .ok (.invokestatic 34, 3) := by decide +kernel
theorem dX7_enter_54 : decode cX7_enter 54 = .ok (.aload_n 0, 1) := by decide +kernel
theorem dX7_enter_55 : decode cX7_enter 55 = .ok (.getfield 18, 3) := by decide +kernel
theorem dX7_enter_58 : decode cX7_enter 58 = .ok (.iconst 0, 1) := by decide +kernel
theorem dX7_enter_59 : decode cX7_enter 59 = .ok (.invokestatic 34, 3) := by decide +kernel
theorem dX7_enter_62 : decode cX7_enter 62 = .ok (.aload_n 0, 1) := by decide +kernel
theorem dX7_enter_63 : decode cX7_enter 63 = .ok (.getfield 21, 3) := by decide +kernel
theorem dX7_enter_66 : decode cX7_enter 66 = .ok (.iconst 0, 1) := by decide +kernel
theorem dX7_enter_67 : decode cX7_enter 67 = .ok (.invokestatic 34, 3) := by decide +kernel
theorem dX7_enter_70 : decode cX7_enter 70 = .ok (.aload_n 0, 1) := by decide +kernel
theorem dX7_enter_71 : decode cX7_enter 71 = .ok (.getfield 24, 3) := by decide +kernel
theorem dX7_enter_74 : decode cX7_enter 74 = .ok (.iconst 0, 1) := by decide +kernel
theorem dX7_enter_75 : decode cX7_enter 75 = .ok (.invokestatic 34, 3) := by decide +kernel
theorem dX7_enter_78 : decode cX7_enter 78 = .ok (.aload_n 0, 1) := by decide +kernel
theorem dX7_enter_79 : decode cX7_enter 79 = .ok (.iconst 0, 1) := by decide +kernel
theorem dX7_enter_80 : decode cX7_enter 80 = .ok (.putfield 27, 3) := by decide +kernel
theorem dX7_enter_83 : decode cX7_enter 83 = .ok (.aload_n 0, 1) := by decide +kernel
theorem dX7_enter_84 : decode cX7_enter 84 = .ok (.iconst 0, 1) := by decide +kernel
theorem dX7_enter_85 : decode cX7_enter 85 = .ok (.putfield 31, 3) := by decide +kernel
theorem dX7_enter_88 : decode cX7_enter 88 = .ok (.return_, 1) := by decide +kernel
theorem dX7_copy_0 : decode cX7_copy 0 = .ok (.aload_n 1, 1) := by decide +kernel
theorem dX7_copy_1 : decode cX7_copy 1 = .ok (.getfield 9, 3) := by decide +kernel
theorem dX7_copy_4 : decode cX7_copy 4 = .ok (.iconst 0, 1) := by decide +kernel
theorem dX7_copy_5 : decode cX7_copy 5 = .ok (.aload_n 0, 1) := by decide +kernel
theorem dX7_copy_6 : decode cX7_copy 6 = .ok (.getfield 9, 3) := by decide +kernel
theorem dX7_copy_9 : decode cX7_copy 9 = .ok (.iconst 0, 1) := by decide +kernel
theorem dX7_copy_10 : decode cX7_copy 10 = .ok (.bipush 8, 2) := by decide +kernel
theorem dX7_copy_12 : decode cX7_copy 12 = .ok (.invokestatic 49, 3) := by decide +kernel
theorem dX7_copy_15 : decode cX7_copy 15 = .ok (.aload_n 1, 1) := by decide +kernel
theorem dX7_copy_16 : decode cX7_copy 16 = .ok (.getfield 15, 3) := by decide +kernel
theorem dX7_copy_19 : decode cX7_copy 19 = .ok (.iconst 0, 1) := by decide +kernel
theorem dX7_copy_20 : decode cX7_copy 20 = .ok (.aload_n 0, 1) := by decide +kernel
theorem dX7_copy_21 : decode cX7_copy 21 = .ok (.getfield 15, 3) := by decide +kernel
theorem dX7_copy_24 : decode cX7_copy 24 = .ok (.iconst 0, 1) := by decide +kernel
theorem dX7_copy_25 : decode cX7_copy 25 = .ok (.bipush 8, 2) := by decide +kernel
theorem dX7_copy_27 : decode cX7_copy 27 = .ok (.invokestatic 49, 3) := by decide +kernel
theorem dX7_copy_30 : decode cX7_copy 30 = .ok (.aload_n 1, 1) := by decide +kernel
theorem dX7_copy_31 : decode cX7_copy 31 = .ok (.getfield 18, 3) := by decide +kernel
theorem dX7_copy_34 : decode cX7_copy 34 = .ok (.iconst 0, 1) := by decide +kernel
theorem dX7_copy_35 : decode cX7_copy 35 = .ok (.aload_n 0, 1) := by decide +kernel
theorem dX7_copy_36 : decode cX7_copy 36 = .ok (.getfield 18, 3) := by decide +kernel
theorem dX7_copy_39 : decode cX7_copy 39 = .ok (.iconst 0, 1) := by decide +kernel
theorem dX7_copy_40 : decode cX7_copy 40 = .ok (.bipush 8, 2) := by decide +kernel
theorem dX7_copy_42 : decode cX7_copy 42 = .ok (.invokestatic 49, 3) := by decide +kernel
theorem dX7_copy_45 : decode cX7_copy 45 = .ok (.aload_n 1, 1) := by decide +kernel
theorem dX7_copy_46 : decode cX7_copy 46 = .ok (.getfield 21, 3) := by decide +kernel
theorem dX7_copy_49 : decode cX7_copy 49 = .ok (.iconst 0, 1) := by decide +kernel
theorem dX7_copy_50 : decode cX7_copy 50 = .ok (.aload_n 0, 1) := by decide +kernel
theorem dX7_copy_51 : decode cX7_copy 51 = .ok (.getfield 21, 3) := by decide +kernel
theorem dX7_copy_54 : decode cX7_copy 54 = .ok (.iconst 0, 1) := by decide +kernel
theorem dX7_copy_55 : decode cX7_copy 55 = .ok (.bipush 6, 2) := by decide +kernel
theorem dX7_copy_57 : decode cX7_copy 57 = .ok (.invokestatic 49, 3) := by decide +kernel
theorem dX7_copy_60 : decode cX7_copy 60 = .ok (.aload_n 1, 1) := by decide +kernel
theorem dX7_copy_61 : decode cX7_copy 61 = .ok (.getfield 24, 3) := by decide +kernel
theorem dX7_copy_64 : decode cX7_copy 64 = .ok (.iconst 0, 1) := by decide +kernel
theorem dX7_copy_65 : decode cX7_copy 65 = .ok (.aload_n 0, 1) := by decide +kernel
theorem dX7_copy_66 : decode cX7_copy 66 = .ok (.getfield 24, 3) := by decide +kernel
theorem dX7_copy_69 : decode cX7_copy 69 = .ok (.iconst 0, 1) := by decide +kernel
theorem dX7_copy_70 : decode cX7_copy 70 = .ok (.bipush 6, 2) := by decide +kernel
theorem dX7_copy_72 : decode cX7_copy 72 = .ok (.invokestatic 49, 3) := by decide +kernel
theorem dX7_copy_75 : decode cX7_copy 75 = .ok (.aload_n 0, 1) := by decide +kernel
theorem dX7_copy_76 : decode cX7_copy 76 = .ok (.aload_n 1, 1) := by decide +kernel
theorem dX7_copy_77 : decode cX7_copy 77 = .ok (.getfield 27, 3) := by decide +kernel
theorem dX7_copy_80 : decode cX7_copy 80 = .ok (.putfield 27, 3) := by decide +kernel
theorem dX7_copy_83 : decode cX7_copy 83 = .ok (.aload_n 0, 1) := by decide +kernel
theorem dX7_copy_84 : decode cX7_copy 84 = .ok (.aload_n 1, 1) := by decide +kernel
theorem dX7_copy_85 : decode cX7_copy 85 = .ok (.getfield 31, 3) := by decide +kernel
theorem dX7_copy_88 : decode cX7_copy 88 = .ok (.putfield 31, 3) := by decide +kernel
theorem dX7_copy_91 : decode cX7_copy 91 = .ok (.return_, 1) := by decide +kernel
theorem dX7_isRoped_0 : decode cX7_isRoped 0 = .ok (.aload_n 0, 1) := by decide +kernel
theorem dX7_isRoped_1 : decode cX7_isRoped 1 = .ok (.getfield 27, 3) := by decide +kernel
theorem dX7_isRoped_4 : decode cX7_isRoped 4 = .ok (.iconst 1, 1) := by decide +kernel
theorem dX7_isRoped_5 : decode cX7_isRoped 5 = .ok (.iload_n 1, 1) := by decide +kernel
theorem dX7_isRoped_6 : decode cX7_isRoped 6 = .ok (.ishl, 1) := by decide +kernel
theorem dX7_isRoped_7 : decode cX7_isRoped 7 = .ok (.iand, 1) := by decide +kernel
theorem dX7_isRoped_8 : decode cX7_isRoped 8 = .ok (.ifCond .eq 7, 3) := by decide +kernel
theorem dX7_isRoped_11 : decode cX7_isRoped 11 = .ok (.iconst 1, 1) := by decide +kernel
theorem dX7_isRoped_12 : decode cX7_isRoped 12 = .ok (.goto 4, 3) := by decide +kernel
theorem dX7_isRoped_15 : decode cX7_isRoped 15 = .ok (.iconst 0, 1) := by decide +kernel
theorem dX7_isRoped_16 : decode cX7_isRoped 16 = .ok (.ireturn, 1) := by decide +kernel
theorem dX7_setRoped_0 : decode cX7_setRoped 0 = .ok (.aload_n 0, 1) := by decide +kernel
theorem dX7_setRoped_1 : decode cX7_setRoped 1 = .ok (.iload_n 2, 1) := by decide +kernel
theorem dX7_setRoped_2 : decode cX7_setRoped 2 = .ok (.ifCond .eq 14, 3) := by decide +kernel
theorem dX7_setRoped_5 : decode cX7_setRoped 5 = .ok (.aload_n 0, 1) := by decide +kernel
theorem dX7_setRoped_6 : decode cX7_setRoped 6 = .ok (.getfield 27, 3) := by decide +kernel
theorem dX7_setRoped_9 : decode cX7_setRoped 9 = .ok (.iconst 1, 1) := by decide +kernel
theorem dX7_setRoped_10 : decode cX7_setRoped 10 = .ok (.iload_n 1, 1) := by decide +kernel
theorem dX7_setRoped_11 : decode cX7_setRoped 11 = .ok (.ishl, 1) := by decide +kernel
theorem dX7_setRoped_12 : decode cX7_setRoped 12 = .ok (.ior, 1) := by decide +kernel
theorem dX7_setRoped_13 : decode cX7_setRoped 13 = .ok (.goto 13, 3) := by decide +kernel
theorem dX7_setRoped_16 : decode cX7_setRoped 16 = .ok (.aload_n 0, 1) := by decide +kernel
theorem dX7_setRoped_17 : decode cX7_setRoped 17 = .ok (.getfield 27, 3) := by decide +kernel
theorem dX7_setRoped_20 : decode cX7_setRoped 20 = .ok (.iconst 1, 1) := by decide +kernel
theorem dX7_setRoped_21 : decode cX7_setRoped 21 = .ok (.iload_n 1, 1) := by decide +kernel
theorem dX7_setRoped_22 : decode cX7_setRoped 22 = .ok (.ishl, 1) := by decide +kernel
theorem dX7_setRoped_23 : decode cX7_setRoped 23 = .ok (.iconst (-1), 1) := by decide +kernel
theorem dX7_setRoped_24 : decode cX7_setRoped 24 = .ok (.ixor, 1) := by decide +kernel
theorem dX7_setRoped_25 : decode cX7_setRoped 25 = .ok (.iand, 1) := by decide +kernel
theorem dX7_setRoped_26 : decode cX7_setRoped 26 = .ok (.putfield 27, 3) := by decide +kernel
theorem dX7_setRoped_29 : decode cX7_setRoped 29 = .ok (.return_, 1) := by decide +kernel
theorem dX7_thingsIn_0 : decode cX7_thingsIn 0 = .ok (.iconst 0, 1) := by decide +kernel
theorem dX7_thingsIn_1 : decode cX7_thingsIn 1 = .ok (.istore_n 2, 1) := by decide +kernel
theorem dX7_thingsIn_2 : decode cX7_thingsIn 2 = .ok (.iconst 0, 1) := by decide +kernel
theorem dX7_thingsIn_3 : decode cX7_thingsIn 3 = .ok (.istore_n 3, 1) := by decide +kernel
theorem dX7_thingsIn_4 : decode cX7_thingsIn 4 = .ok (.iload_n 3, 1) := by decide +kernel
theorem dX7_thingsIn_5 : decode cX7_thingsIn 5 = .ok (.aload_n 0, 1) := by decide +kernel
theorem dX7_thingsIn_6 : decode cX7_thingsIn 6 = .ok (.getfield 9, 3) := by decide +kernel
theorem dX7_thingsIn_9 : decode cX7_thingsIn 9 = .ok (.arraylength, 1) := by decide +kernel
theorem dX7_thingsIn_10 : decode cX7_thingsIn 10 = .ok (.if_icmp .ge 25, 3) := by decide +kernel
theorem dX7_thingsIn_13 : decode cX7_thingsIn 13 = .ok (.aload_n 0, 1) := by decide +kernel
theorem dX7_thingsIn_14 : decode cX7_thingsIn 14 = .ok (.getfield 9, 3) := by decide +kernel
theorem dX7_thingsIn_17 : decode cX7_thingsIn 17 = .ok (.iload_n 3, 1) := by decide +kernel
theorem dX7_thingsIn_18 : decode cX7_thingsIn 18 = .ok (.iaload, 1) := by decide +kernel
theorem dX7_thingsIn_19 : decode cX7_thingsIn 19 = .ok (.iload_n 1, 1) := by decide +kernel
theorem dX7_thingsIn_20 : decode cX7_thingsIn 20 = .ok (.if_icmp .ne 9, 3) := by decide +kernel
theorem dX7_thingsIn_23 : decode cX7_thingsIn 23 = .ok (.iload_n 2, 1) := by decide +kernel
theorem dX7_thingsIn_24 : decode cX7_thingsIn 24 = .ok (.iconst 1, 1) := by decide +kernel
theorem dX7_thingsIn_25 : decode cX7_thingsIn 25 = .ok (.iload_n 3, 1) := by decide +kernel
theorem dX7_thingsIn_26 : decode cX7_thingsIn 26 = .ok (.ishl, 1) := by decide +kernel
theorem dX7_thingsIn_27 : decode cX7_thingsIn 27 = .ok (.ior, 1) := by decide +kernel
theorem dX7_thingsIn_28 : decode cX7_thingsIn 28 = .ok (.istore_n 2, 1) := by decide +kernel
theorem dX7_thingsIn_29 : decode cX7_thingsIn 29 = .ok (.iinc 3 1, 3) := by decide +kernel
theorem dX7_thingsIn_32 : decode cX7_thingsIn 32 = .ok (.goto (-28), 3) := by decide +kernel
theorem dX7_thingsIn_35 : decode cX7_thingsIn 35 = .ok (.iload_n 2, 1) := by decide +kernel
theorem dX7_thingsIn_36 : decode cX7_thingsIn 36 = .ok (.ireturn, 1) := by decide +kernel
theorem dX7_hangAll_0 : decode cX7_hangAll 0 = .ok (.iconst 0, 1) := by decide +kernel
theorem dX7_hangAll_1 : decode cX7_hangAll 1 = .ok (.istore_n 3, 1) := by decide +kernel
theorem dX7_hangAll_2 : decode cX7_hangAll 2 = .ok (.iload_n 3, 1) := by decide +kernel
theorem dX7_hangAll_3 : decode cX7_hangAll 3 = .ok (.aload_n 0, 1) := by decide +kernel
theorem dX7_hangAll_4 : decode cX7_hangAll 4 = .ok (.getfield 9, 3) := by decide +kernel
theorem dX7_hangAll_7 : decode cX7_hangAll 7 = .ok (.arraylength, 1) := by decide +kernel
theorem dX7_hangAll_8 : decode cX7_hangAll 8 = .ok (.if_icmp .ge 24, 3) := by decide +kernel
theorem dX7_hangAll_11 : decode cX7_hangAll 11 = .ok (.iload_n 1, 1) := by decide +kernel
theorem dX7_hangAll_12 : decode cX7_hangAll 12 = .ok (.iconst 1, 1) := by decide +kernel
theorem dX7_hangAll_13 : decode cX7_hangAll 13 = .ok (.iload_n 3, 1) := by decide +kernel
theorem dX7_hangAll_14 : decode cX7_hangAll 14 = .ok (.ishl, 1) := by decide +kernel
theorem dX7_hangAll_15 : decode cX7_hangAll 15 = .ok (.iand, 1) := by decide +kernel
theorem dX7_hangAll_16 : decode cX7_hangAll 16 = .ok (.ifCond .eq 10, 3) := by decide +kernel
theorem dX7_hangAll_19 : decode cX7_hangAll 19 = .ok (.aload_n 0, 1) := by decide +kernel
theorem dX7_hangAll_20 : decode cX7_hangAll 20 = .ok (.getfield 9, 3) := by decide +kernel
theorem dX7_hangAll_23 : decode cX7_hangAll 23 = .ok (.iload_n 3, 1) := by decide +kernel
theorem dX7_hangAll_24 : decode cX7_hangAll 24 = .ok (.iload_n 2, 1) := by decide +kernel
theorem dX7_hangAll_25 : decode cX7_hangAll 25 = .ok (.iastore, 1) := by decide +kernel
theorem dX7_hangAll_26 : decode cX7_hangAll 26 = .ok (.iinc 3 1, 3) := by decide +kernel
theorem dX7_hangAll_29 : decode cX7_hangAll 29 = .ok (.goto (-27), 3) := by decide +kernel
theorem dX7_hangAll_32 : decode cX7_hangAll 32 = .ok (.return_, 1) := by decide +kernel
