theorem dX10_init_0 : decode cX10_init 0 = .ok (.aload_n 0, 1) := by decide +kernel
theorem dX10_init_1 : decode cX10_init 1 = .ok (.invokespecial 3, 3) := by decide +kernel
theorem dX10_init_4 : decode cX10_init 4 = .ok (.aload_n 0, 1) := by decide +kernel
theorem dX10_init_5 : decode cX10_init 5 = .ok (.sipush 700, 3) := by decide +kernel
theorem dX10_init_8 : decode cX10_init 8 = .ok (.newarray .int, 2) := by decide +kernel
theorem dX10_init_10 : decode cX10_init 10 = .ok (.putfield 11, 3) := by decide +kernel
theorem dX10_init_13 : decode cX10_init 13 = .ok (.aload_n 0, 1) := by decide +kernel
theorem dX10_init_14 : decode cX10_init 14 = .ok (.iconst 0, 1) := by decide +kernel
theorem dX10_init_15 : decode cX10_init 15 = .ok (.putfield 15, 3) := by decide +kernel
theorem dX10_init_18 : decode cX10_init 18 = .ok (.aload_n 0, 1) := by decide +kernel
theorem dX10_init_19 : decode cX10_init 19 = .ok (.new 19, 3) := by decide +kernel
theorem dX10_init_22 : decode cX10_init 22 = .ok (.dup, 1) := by decide +kernel
theorem dX10_init_23 : decode cX10_init 23 = .ok (.invokespecial 21, 3) := by decide +kernel
theorem dX10_init_26 : decode cX10_init 26 = .ok (.putfield 22, 3) := by decide +kernel
theorem dX10_init_29 : decode cX10_init 29 = .ok (.aload_n 0, 1) := by decide +kernel
theorem dX10_init_30 : decode cX10_init 30 = .ok (.new 26, 3) := by decide +kernel
theorem dX10_init_33 : decode cX10_init 33 = .ok (.dup, 1) := by decide +kernel
theorem dX10_init_34 : decode cX10_init 34 = .ok (.invokespecial 28, 3) := by decide +kernel
theorem dX10_init_37 : decode cX10_init 37 = .ok (.putfield 29, 3) := by decide +kernel
theorem dX10_init_40 : decode cX10_init 40 = .ok (.aload_n 0, 1) := by decide +kernel
theorem dX10_init_41 : decode cX10_init 41 = .ok (.new 33, 3) := by decide +kernel
theorem dX10_init_44 : decode cX10_init 44 = .ok (.dup, 1) := by decide +kernel
theorem dX10_init_45 : decode cX10_init 45 = .ok (.invokespecial 35, 3) := by decide +kernel
theorem dX10_init_48 : decode cX10_init 48 = .ok (.putfield 36, 3) := by decide +kernel
theorem dX10_init_51 : decode cX10_init 51 = .ok (.aload_n 0, 1) := by decide +kernel
theorem dX10_init_52 : decode cX10_init 52 = .ok (.new 33, 3) := by decide +kernel
theorem dX10_init_55 : decode cX10_init 55 = .ok (.dup, 1) := by decide +kernel
theorem dX10_init_56 : decode cX10_init 56 = .ok (.invokespecial 35, 3) := by decide +kernel
theorem dX10_init_59 : decode cX10_init 59 = .ok (.putfield 40, 3) := by decide +kernel
theorem dX10_init_62 : decode cX10_init 62 = .ok (.aload_n 0, 1) := by decide +kernel
theorem dX10_init_63 : decode cX10_init 63 = .ok (.iconst 0, 1) := by decide +kernel
theorem dX10_init_64 : decode cX10_init 64 = .ok (.putfield 43, 3) := by decide +kernel
theorem dX10_init_67 : decode cX10_init 67 = .ok (.aload_n 0, 1) := by decide +kernel
theorem dX10_init_68 : decode cX10_init 68 = .ok (.new 33, 3) := by decide +kernel
theorem dX10_init_71 : decode cX10_init 71 = .ok (.dup, 1) := by decide +kernel
theorem dX10_init_72 : decode cX10_init 72 = .ok (.invokespecial 35, 3) := by decide +kernel
theorem dX10_init_75 : decode cX10_init 75 = .ok (.putfield 47, 3) := by decide +kernel
theorem dX10_init_78 : decode cX10_init 78 = .ok (.aload_n 0, 1) := by decide +kernel
theorem dX10_init_79 : decode cX10_init 79 = .ok (.new 50, 3) := by decide +kernel
theorem dX10_init_82 : decode cX10_init 82 = .ok (.dup, 1) := by decide +kernel
theorem dX10_init_83 : decode cX10_init 83 = .ok (.invokespecial 52, 3) := by decide +kernel
theorem dX10_init_86 : decode cX10_init 86 = .ok (.putfield 53, 3) := by decide +kernel
theorem dX10_init_89 : decode cX10_init 89 = .ok (.aload_n 0, 1) := by decide +kernel
theorem dX10_init_90 : decode cX10_init 90 = .ok (.new 57, 3) := by decide +kernel
theorem dX10_init_93 : decode cX10_init 93 = .ok (.dup, 1) := by decide +kernel
theorem dX10_init_94 : decode cX10_init 94 = .ok (.invokespecial 59, 3) := by decide +kernel
theorem dX10_init_97 : decode cX10_init 97 = .ok (.putfield 60, 3) := by decide +kernel
theorem dX10_init_100 : decode cX10_init 100 = .ok (.aload_n 0, 1) := by decide +kernel
theorem dX10_init_101 : decode cX10_init 101 = .ok (.new 64, 3) := by decide +kernel
theorem dX10_init_104 : decode cX10_init 104 = .ok (.dup, 1) := by decide +kernel
theorem dX10_init_105 : decode cX10_init 105 = .ok (.invokespecial 66, 3) := by decide +kernel
theorem dX10_init_108 : decode cX10_init 108 = .ok (.putfield 67, 3) := by decide +kernel
theorem dX10_init_111 : decode cX10_init 111 = .ok (.aload_n 0, 1) := by decide +kernel
theorem dX10_init_112 : decode cX10_init 112 = .ok (.new 71, 3) := by decide +kernel
theorem dX10_init_115 : decode cX10_init 115 = .ok (.dup, 1) := by decide +kernel
theorem dX10_init_116 : decode cX10_init 116 = .ok (.invokespecial 73, 3) := by decide +kernel
theorem dX10_init_119 : decode cX10_init 119 = .ok (.putfield 74, 3) := by decide +kernel
theorem dX10_init_122 : decode cX10_init 122 = .ok (.aload_n 0, 1) := by decide +kernel
theorem dX10_init_123 : decode cX10_init 123 = .ok (.new 78, 3) := by decide +kernel
theorem dX10_init_126 : decode cX10_init 126 = .ok (.dup, 1) := by decide +kernel
theorem dX10_init_127 : decode cX10_init 127 = .ok (.invokespecial 80, 3) := by decide +kernel
theorem dX10_init_130 : decode cX10_init 130 = .ok (.putfield 81, 3) := by decide +kernel
theorem dX10_init_133 : decode cX10_init 133 = .ok (.return_, 1) := by decide +kernel
theorem dX10_feed_0 : decode cX10_feed 0 = .ok (.aload_n 0, 1) := by decide +kernel
theorem dX10_feed_1 : decode cX10_feed 1 = .ok (.getfield 15, 3) := by decide +kernel
theorem dX10_feed_4 : decode cX10_feed 4 = .ok (.bipush 20, 2) := by decide +kernel
theorem dX10_feed_6 : decode cX10_feed 6 = .ok (.iadd, 1) := by decide +kernel
theorem dX10_feed_7 : decode cX10_feed 7 = .ok (.sipush 700, 3) := by decide +kernel
theorem dX10_feed_10 : decode cX10_feed 10 = .ok (.if_icmp .le 5, 3) := by decide +kernel
theorem dX10_feed_13 : decode cX10_feed 13 = .ok (.iconst (-1), 1) := by decide +kernel
theorem dX10_feed_14 : decode cX10_feed 14 = .ok (.ireturn, 1) := by decide +kernel
theorem dX10_feed_15 : decode cX10_feed 15 = .ok (.aload_n 0, 1) := by decide +kernel
theorem dX10_feed_16 : decode cX10_feed 16 = .ok (.iload_n 1, 1) := by decide +kernel
theorem dX10_feed_17 : decode cX10_feed 17 = .ok (.invokevirtual 85, 3) := by decide +kernel
theorem dX10_feed_20 : decode cX10_feed 20 = .ok (.aload_n 0, 1) := by decide +kernel
theorem dX10_feed_21 : decode cX10_feed 21 = .ok (.iload_n 2, 1) := by decide +kernel
theorem dX10_feed_22 : decode cX10_feed 22 = .ok (.invokevirtual 85, 3) := by decide +kernel
theorem dX10_feed_25 : decode cX10_feed 25 = .ok (.aload_n 0, 1) := by decide +kernel
theorem dX10_feed_26 : decode cX10_feed 26 = .ok (.iload_n 3, 1) := by decide +kernel
theorem dX10_feed_27 : decode cX10_feed 27 = .ok (.invokevirtual 85, 3) := by decide +kernel
theorem dX10_feed_30 : decode cX10_feed 30 = .ok (.aload_n 0, 1) := by decide +kernel
theorem dX10_feed_31 : decode cX10_feed 31 = .ok (.iload 4, 2) := by decide +kernel
theorem dX10_feed_33 : decode cX10_feed 33 = .ok (.invokevirtual 85, 3) := by decide +kernel
theorem dX10_feed_36 : decode cX10_feed 36 = .ok (.aload_n 0, 1) := by decide +kernel
theorem dX10_feed_37 : decode cX10_feed 37 = .ok (.iload 5, 2) := by decide +kernel
theorem dX10_feed_39 : decode cX10_feed 39 = .ok (.invokevirtual 85, 3) := by decide +kernel
theorem dX10_feed_42 : decode cX10_feed 42 = .ok (.aload_n 0, 1) := by decide +kernel
theorem dX10_feed_43 : decode cX10_feed 43 = .ok (.getfield 15, 3) := by decide +kernel
theorem dX10_feed_46 : decode cX10_feed 46 = .ok (.ireturn, 1) := by decide +kernel
theorem dX10_putFour_0 : decode cX10_putFour 0 = .ok (.bipush 24, 2) := by decide +kernel
theorem dX10_putFour_2 : decode cX10_putFour 2 = .ok (.istore_n 2, 1) := by decide +kernel
theorem dX10_putFour_3 : decode cX10_putFour 3 = .ok (.iload_n 2, 1) := by decide +kernel
theorem dX10_putFour_4 : decode cX10_putFour 4 = .ok (.ifCond .lt 54, 3) := by decide +kernel
theorem dX10_putFour_7 : decode cX10_putFour 7 = .ok (.aload_n 0, 1) := by decide +kernel
theorem dX10_putFour_8 : decode cX10_putFour 8 = .ok (.getfield 15, 3) := by decide +kernel
theorem dX10_putFour_11 : decode cX10_putFour 11 = .ok (.ifCond .lt 41, 3) := by decide +kernel
theorem dX10_putFour_14 : decode cX10_putFour 14 = .ok (.aload_n 0, 1) := by decide +kernel
theorem dX10_putFour_15 : decode cX10_putFour 15 = .ok (.getfield 15, 3) := by decide +kernel
theorem dX10_putFour_18 : decode cX10_putFour 18 = .ok (.aload_n 0, 1) := by decide +kernel
theorem dX10_putFour_19 : decode cX10_putFour 19 = .ok (.getfield 11, 3) := by decide +kernel
theorem dX10_putFour_22 : decode cX10_putFour 22 = .ok (.arraylength, 1) := by decide +kernel
theorem dX10_putFour_23 : decode cX10_putFour 23 = .ok (.if_icmp .ge 29, 3) := by decide +kernel
theorem dX10_putFour_26 : decode cX10_putFour 26 = .ok (.aload_n 0, 1) := by decide +kernel
theorem dX10_putFour_27 : decode cX10_putFour 27 = .ok (.getfield 11, 3) := by decide +kernel
theorem dX10_putFour_30 : decode cX10_putFour 30 = .ok (.aload_n 0, 1) := by decide +kernel
theorem dX10_putFour_31 : decode cX10_putFour 31 = .ok (.getfield 15, 3) := by decide +kernel
theorem dX10_putFour_34 : decode cX10_putFour 34 = .ok (.iload_n 1, 1) := by decide +kernel
theorem dX10_putFour_35 : decode cX10_putFour 35 = .ok (.iload_n 2, 1) := by decide +kernel
theorem dX10_putFour_36 : decode cX10_putFour 36 = .ok (.iushr, 1) := by decide +kernel
theorem dX10_putFour_37 : decode cX10_putFour 37 = .ok (.sipush 255, 3) := by decide +kernel
theorem dX10_putFour_40 : decode cX10_putFour 40 = .ok (.iand, 1) := by decide +kernel
theorem dX10_putFour_41 : decode cX10_putFour 41 = .ok (.iastore, 1) := by decide +kernel
theorem dX10_putFour_42 : decode cX10_putFour 42 = .ok (.aload_n 0, 1) := by decide +kernel
theorem dX10_putFour_43 : decode cX10_putFour 43 = .ok (.dup, 1) := by decide +kernel
theorem dX10_putFour_44 : decode cX10_putFour 44 = .ok (.getfield 15, 3) := by decide +kernel
theorem dX10_putFour_47 : decode cX10_putFour 47 = .ok (.iconst 1, 1) := by decide +kernel
theorem dX10_putFour_48 : decode cX10_putFour 48 = .ok (.iadd, 1) := by decide +kernel
theorem dX10_putFour_49 : decode cX10_putFour 49 = .ok (.putfield 15, 3) := by decide +kernel
theorem dX10_putFour_52 : decode cX10_putFour 52 = .ok (.iinc 2 (-8), 3) := by decide +kernel
theorem dX10_putFour_55 : decode cX10_putFour 55 = .ok (.goto (-52), 3) := by decide +kernel
theorem dX10_putFour_58 : decode cX10_putFour 58 = .ok (.return_, 1) := by decide +kernel
theorem dX10_text_0 : decode cX10_text 0 = .ok (.iload_n 1, 1) := by decide +kernel
theorem dX10_text_1 : decode cX10_text 1 = .ok (.ifCond .lt 11, 3) := by decide +kernel
theorem dX10_text_4 : decode cX10_text 4 = .ok (.iload_n 1, 1) := by decide +kernel
theorem dX10_text_5 : decode cX10_text 5 = .ok (.aload_n 0, 1) := by decide +kernel
theorem dX10_text_6 : decode cX10_text 6 = .ok (.getfield 15, 3) := by decide +kernel
theorem dX10_text_9 : decode cX10_text 9 = .ok (.if_icmp .le 6, 3) := by decide +kernel
theorem dX10_text_12 : decode cX10_text 12 = .ok (.bipush (-2), 2) := by decide +kernel
theorem dX10_text_14 : decode cX10_text 14 = .ok (.ireturn, 1) := by decide +kernel
theorem dX10_text_15 : decode cX10_text 15 = .ok (.aload_n 0, 1) := by decide +kernel
theorem dX10_text_16 : decode cX10_text 16 = .ok (.iconst 0, 1) := by decide +kernel
theorem dX10_text_17 : decode cX10_text 17 = .ok (.putfield 15, 3) := by decide +kernel
theorem dX10_text_20 : decode cX10_text 20 = .ok (.aload_n 0, 1) := by decide +kernel
theorem dX10_text_21 : decode cX10_text 21 = .ok (.getfield 29, 3) := by decide +kernel
theorem dX10_text_24 : decode cX10_text 24 = .ok (.aload_n 0, 1) := by decide +kernel
theorem dX10_text_25 : decode cX10_text 25 = .ok (.getfield 11, 3) := by decide +kernel
theorem dX10_text_28 : decode cX10_text 28 = .ok (.iload_n 1, 1) := by decide +kernel
theorem dX10_text_29 : decode cX10_text 29 = .ok (.invokevirtual 89, 3) := by decide +kernel
theorem dX10_text_32 : decode cX10_text 32 = .ok (.ifCond .ne 5, 3) := by decide +kernel
theorem dX10_text_35 : decode cX10_text 35 = .ok (.iconst (-1), 1) := by decide +kernel
theorem dX10_text_36 : decode cX10_text 36 = .ok (.ireturn, 1) := by decide +kernel
theorem dX10_text_37 : decode cX10_text 37 = .ok (.aload_n 0, 1) := by decide +kernel
theorem dX10_text_38 : decode cX10_text 38 = .ok (.aload_n 0, 1) := by decide +kernel
theorem dX10_text_39 : decode cX10_text 39 = .ok (.getfield 29, 3) := by decide +kernel
theorem dX10_text_42 : decode cX10_text 42 = .ok (.aload_n 0, 1) := by decide +kernel
theorem dX10_text_43 : decode cX10_text 43 = .ok (.getfield 22, 3) := by decide +kernel
theorem dX10_text_46 : decode cX10_text 46 = .ok (.invokevirtual 93, 3) := by decide +kernel
theorem dX10_text_49 : decode cX10_text 49 = .ok (.putfield 22, 3) := by decide +kernel
theorem dX10_text_52 : decode cX10_text 52 = .ok (.aload_n 0, 1) := by decide +kernel
theorem dX10_text_53 : decode cX10_text 53 = .ok (.getfield 36, 3) := by decide +kernel
theorem dX10_text_56 : decode cX10_text 56 = .ok (.aload_n 0, 1) := by decide +kernel
theorem dX10_text_57 : decode cX10_text 57 = .ok (.getfield 22, 3) := by decide +kernel
theorem dX10_text_60 : decode cX10_text 60 = .ok (.invokevirtual 97, 3) := by decide +kernel
theorem dX10_text_63 : decode cX10_text 63 = .ok (.aload_n 0, 1) := by decide +kernel
theorem dX10_text_64 : decode cX10_text 64 = .ok (.getfield 60, 3) := by decide +kernel
theorem dX10_text_67 : decode cX10_text 67 = .ok (.invokevirtual 101, 3) := by decide +kernel
theorem dX10_text_70 : decode cX10_text 70 = .ok (.aload_n 0, 1) := by decide +kernel
theorem dX10_text_71 : decode cX10_text 71 = .ok (.getfield 67, 3) := by decide +kernel
theorem dX10_text_74 : decode cX10_text 74 = .ok (.invokevirtual 104, 3) := by decide +kernel
theorem dX10_text_77 : decode cX10_text 77 = .ok (.aload_n 0, 1) := by decide +kernel
theorem dX10_text_78 : decode cX10_text 78 = .ok (.iconst 0, 1) := by decide +kernel
theorem dX10_text_79 : decode cX10_text 79 = .ok (.putfield 43, 3) := by decide +kernel
theorem dX10_text_82 : decode cX10_text 82 = .ok (.aload_n 0, 1) := by decide +kernel
theorem dX10_text_83 : decode cX10_text 83 = .ok (.getfield 53, 3) := by decide +kernel
theorem dX10_text_86 : decode cX10_text 86 = .ok (.invokevirtual 105, 3) := by decide +kernel
theorem dX10_text_89 : decode cX10_text 89 = .ok (.aload_n 0, 1) := by decide +kernel
theorem dX10_text_90 : decode cX10_text 90 = .ok (.getfield 22, 3) := by decide +kernel
theorem dX10_text_93 : decode cX10_text 93 = .ok (.getfield 108, 3) := by decide +kernel
theorem dX10_text_96 : decode cX10_text 96 = .ok (.ireturn, 1) := by decide +kernel
theorem dX10_fault_0 : decode cX10_fault 0 = .ok (.iload_n 1, 1) := by decide +kernel
theorem dX10_fault_1 : decode cX10_fault 1 = .ok (.ifCond .ne 11, 3) := by decide +kernel
theorem dX10_fault_4 : decode cX10_fault 4 = .ok (.aload_n 0, 1) := by decide +kernel
theorem dX10_fault_5 : decode cX10_fault 5 = .ok (.getfield 29, 3) := by decide +kernel
theorem dX10_fault_8 : decode cX10_fault 8 = .ok (.getfield 111, 3) := by decide +kernel
theorem dX10_fault_11 : decode cX10_fault 11 = .ok (.ireturn, 1) := by decide +kernel
theorem dX10_fault_12 : decode cX10_fault 12 = .ok (.iload_n 1, 1) := by decide +kernel
theorem dX10_fault_13 : decode cX10_fault 13 = .ok (.iconst 1, 1) := by decide +kernel
theorem dX10_fault_14 : decode cX10_fault 14 = .ok (.if_icmp .ne 13, 3) := by decide +kernel
theorem dX10_fault_17 : decode cX10_fault 17 = .ok (.aload_n 0, 1) := by decide +kernel
theorem dX10_fault_18 : decode cX10_fault 18 = .ok (.getfield 29, 3) := by decide +kernel
theorem dX10_fault_21 : decode cX10_fault 21 = .ok (.getfield 114, 3) := by decide +kernel
theorem dX10_fault_24 : decode cX10_fault 24 = .ok (.goto 4, 3) := by decide +kernel
theorem dX10_fault_27 : decode cX10_fault 27 = .ok (.iconst (-1), 1) := by decide +kernel
theorem dX10_fault_28 : decode cX10_fault 28 = .ok (.ireturn, 1) := by decide +kernel
theorem dX10_named_0 : decode cX10_named 0 = .ok (.iload_n 1, 1) := by decide +kernel
theorem dX10_named_1 : decode cX10_named 1 = .ok (.tableswitch 57 0 2 #[27, 37, 47], 27) := by decide +kernel
theorem dX10_named_28 : decode cX10_named 28 = .ok (.aload_n 0, 1) := by decide +kernel
theorem dX10_named_29 : decode cX10_named 29 = .ok (.getfield 22, 3) := by decide +kernel
theorem dX10_named_32 : decode cX10_named 32 = .ok (.iconst 0, 1) := by decide +kernel
theorem dX10_named_33 : decode cX10_named 33 = .ok (.iload_n 2, 1) := by decide +kernel
theorem dX10_named_34 : decode cX10_named 34 = .ok (.invokevirtual 117, 3) := by decide +kernel
theorem dX10_named_37 : decode cX10_named 37 = .ok (.ireturn, 1) := by decide +kernel
theorem dX10_named_38 : decode cX10_named 38 = .ok (.aload_n 0, 1) := by decide +kernel
theorem dX10_named_39 : decode cX10_named 39 = .ok (.getfield 22, 3) := by decide +kernel
theorem dX10_named_42 : decode cX10_named 42 = .ok (.iconst 2, 1) := by decide +kernel
theorem dX10_named_43 : decode cX10_named 43 = .ok (.iload_n 2, 1) := by decide +kernel
theorem dX10_named_44 : decode cX10_named 44 = .ok (.invokevirtual 117, 3) := by decide +kernel
theorem dX10_named_47 : decode cX10_named 47 = .ok (.ireturn, 1) := by decide +kernel
theorem dX10_named_48 : decode cX10_named 48 = .ok (.aload_n 0, 1) := by decide +kernel
theorem dX10_named_49 : decode cX10_named 49 = .ok (.getfield 22, 3) := by decide +kernel
theorem dX10_named_52 : decode cX10_named 52 = .ok (.iconst 3, 1) := by decide +kernel
theorem dX10_named_53 : decode cX10_named 53 = .ok (.iload_n 2, 1) := by decide +kernel
theorem dX10_named_54 : decode cX10_named 54 = .ok (.invokevirtual 117, 3) := by decide +kernel
theorem dX10_named_57 : decode cX10_named 57 = .ok (.ireturn, 1) := by decide +kernel
theorem dX10_named_58 : decode cX10_named 58 = .ok (.iconst (-1), 1) := by decide +kernel
theorem dX10_named_59 : decode cX10_named 59 = .ok (.ireturn, 1) := by decide +kernel
theorem dX10_thing_0 : decode cX10_thing 0 = .ok (.aload_n 0, 1) := by decide +kernel
theorem dX10_thing_1 : decode cX10_thing 1 = .ok (.getfield 22, 3) := by decide +kernel
theorem dX10_thing_4 : decode cX10_thing 4 = .ok (.iconst 2, 1) := by decide +kernel
theorem dX10_thing_5 : decode cX10_thing 5 = .ok (.iload_n 1, 1) := by decide +kernel
theorem dX10_thing_6 : decode cX10_thing 6 = .ok (.invokevirtual 121, 3) := by decide +kernel
theorem dX10_thing_9 : decode cX10_thing 9 = .ok (.ifCond .ne 13, 3) := by decide +kernel
theorem dX10_thing_12 : decode cX10_thing 12 = .ok (.new 125, 3) := by decide +kernel
theorem dX10_thing_15 : decode cX10_thing 15 = .ok (.dup, 1) := by decide +kernel
theorem dX10_thing_16 : decode cX10_thing 16 = .ok (.ldc 127, 2) := by decide +kernel
theorem dX10_thing_18 : decode cX10_thing 18 = .ok (.invokespecial 129, 3) := by decide +kernel
theorem dX10_thing_21 : decode cX10_thing 21 = .ok (.athrow, 1) := by decide +kernel
theorem dX10_thing_22 : decode cX10_thing 22 = .ok (.iload_n 2, 1) := by decide +kernel
theorem dX10_thing_23 : decode cX10_thing 23 = .ok (.tableswitch 83 0 4 #[33, 43, 53, 63, 73], 33) := by decide +kernel
theorem dX10_thing_56 : decode cX10_thing 56 = .ok (.aload_n 0, 1) := by decide +kernel
theorem dX10_thing_57 : decode cX10_thing 57 = .ok (.getfield 36, 3) := by decide +kernel
theorem dX10_thing_60 : decode cX10_thing 60 = .ok (.getfield 132, 3) := by decide +kernel
theorem dX10_thing_63 : decode cX10_thing 63 = .ok (.iload_n 1, 1) := by decide +kernel
theorem dX10_thing_64 : decode cX10_thing 64 = .ok (.iaload, 1) := by decide +kernel
theorem dX10_thing_65 : decode cX10_thing 65 = .ok (.ireturn, 1) := by decide +kernel
theorem dX10_thing_66 : decode cX10_thing 66 = .ok (.aload_n 0, 1) := by decide +kernel
theorem dX10_thing_67 : decode cX10_thing 67 = .ok (.getfield 22, 3) := by decide +kernel
theorem dX10_thing_70 : decode cX10_thing 70 = .ok (.getfield 135, 3) := by decide +kernel
theorem dX10_thing_73 : decode cX10_thing 73 = .ok (.iload_n 1, 1) := by decide +kernel
theorem dX10_thing_74 : decode cX10_thing 74 = .ok (.iaload, 1) := by decide +kernel
theorem dX10_thing_75 : decode cX10_thing 75 = .ok (.ireturn, 1) := by decide +kernel
theorem dX10_thing_76 : decode cX10_thing 76 = .ok (.aload_n 0, 1) := by decide +kernel
theorem dX10_thing_77 : decode cX10_thing 77 = .ok (.getfield 22, 3) := by decide +kernel
theorem dX10_thing_80 : decode cX10_thing 80 = .ok (.getfield 138, 3) := by decide +kernel
theorem dX10_thing_83 : decode cX10_thing 83 = .ok (.iload_n 1, 1) := by decide +kernel
theorem dX10_thing_84 : decode cX10_thing 84 = .ok (.iaload, 1) := by decide +kernel
theorem dX10_thing_85 : decode cX10_thing 85 = .ok (.ireturn, 1) := by decide +kernel
theorem dX10_thing_86 : decode cX10_thing 86 = .ok (.aload_n 0, 1) := by decide +kernel
theorem dX10_thing_87 : decode cX10_thing 87 = .ok (.getfield 36, 3) := by decide +kernel
theorem dX10_thing_90 : decode cX10_thing 90 = .ok (.getfield 141, 3) := by decide +kernel
theorem dX10_thing_93 : decode cX10_thing 93 = .ok (.iload_n 1, 1) := by decide +kernel
theorem dX10_thing_94 : decode cX10_thing 94 = .ok (.iaload, 1) := by decide +kernel
theorem dX10_thing_95 : decode cX10_thing 95 = .ok (.ireturn, 1) := by decide +kernel
theorem dX10_thing_96 : decode cX10_thing 96 = .ok (.aload_n 0, 1) := by decide +kernel
theorem dX10_thing_97 : decode cX10_thing 97 = .ok (.getfield 36, 3) := by decide +kernel
theorem dX10_thing_100 : decode cX10_thing 100 = .ok (.getfield 144, 3) := by decide +kernel
theorem dX10_thing_103 : decode cX10_thing 103 = .ok (.iload_n 1, 1) := by decide +kernel
theorem dX10_thing_104 : decode cX10_thing 104 = .ok (.iaload, 1) := by decide +kernel
theorem dX10_thing_105 : decode cX10_thing 105 = .ok (.ireturn, 1) := by decide +kernel
theorem dX10_thing_106 : decode cX10_thing 106 = .ok (.new 147, 3) := by decide +kernel
theorem dX10_thing_109 : decode cX10_thing 109 = .ok (.dup, 1) := by decide +kernel
theorem dX10_thing_110 : decode cX10_thing 110 = .ok (.ldc 149, 2) := by decide +kernel
theorem dX10_thing_112 : decode cX10_thing 112 = .ok (.invokespecial 151, 3) := by decide +kernel
theorem dX10_thing_115 : decode cX10_thing 115 = .ok (.athrow, 1) := by decide +kernel
theorem dX10_room_0 : decode cX10_room 0 = .ok (.aload_n 0, 1) := by decide +kernel
theorem dX10_room_1 : decode cX10_room 1 = .ok (.getfield 22, 3) := by decide +kernel
theorem dX10_room_4 : decode cX10_room 4 = .ok (.iconst 0, 1) := by decide +kernel
theorem dX10_room_5 : decode cX10_room 5 = .ok (.iload_n 1, 1) := by decide +kernel
theorem dX10_room_6 : decode cX10_room 6 = .ok (.invokevirtual 121, 3) := by decide +kernel
theorem dX10_room_9 : decode cX10_room 9 = .ok (.ifCond .ne 5, 3) := by decide +kernel
theorem dX10_room_12 : decode cX10_room 12 = .ok (.iconst (-1), 1) := by decide +kernel
theorem dX10_room_13 : decode cX10_room 13 = .ok (.ireturn, 1) := by decide +kernel
theorem dX10_room_14 : decode cX10_room 14 = .ok (.iload_n 2, 1) := by decide +kernel
theorem dX10_room_15 : decode cX10_room 15 = .ok (.tableswitch 77 0 3 #[29, 39, 56, 68], 29) := by decide +kernel
theorem dX10_room_44 : decode cX10_room 44 = .ok (.aload_n 0, 1) := by decide +kernel
theorem dX10_room_45 : decode cX10_room 45 = .ok (.getfield 36, 3) := by decide +kernel
theorem dX10_room_48 : decode cX10_room 48 = .ok (.getfield 152, 3) := by decide +kernel
theorem dX10_room_51 : decode cX10_room 51 = .ok (.iload_n 1, 1) := by decide +kernel
theorem dX10_room_52 : decode cX10_room 52 = .ok (.iaload, 1) := by decide +kernel
theorem dX10_room_53 : decode cX10_room 53 = .ok (.ireturn, 1) := by decide +kernel
theorem dX10_room_54 : decode cX10_room 54 = .ok (.aload_n 0, 1) := by decide +kernel
theorem dX10_room_55 : decode cX10_room 55 = .ok (.getfield 36, 3) := by decide +kernel
theorem dX10_room_58 : decode cX10_room 58 = .ok (.iload_n 1, 1) := by decide +kernel
theorem dX10_room_59 : decode cX10_room 59 = .ok (.invokevirtual 155, 3) := by decide +kernel
theorem dX10_room_62 : decode cX10_room 62 = .ok (.ifCond .eq 7, 3) := by decide +kernel
theorem dX10_room_65 : decode cX10_room 65 = .ok (.iconst 1, 1) := by decide +kernel
theorem dX10_room_66 : decode cX10_room 66 = .ok (.goto 4, 3) := by decide +kernel
theorem dX10_room_69 : decode cX10_room 69 = .ok (.iconst 0, 1) := by decide +kernel
theorem dX10_room_70 : decode cX10_room 70 = .ok (.ireturn, 1) := by decide +kernel
theorem dX10_room_71 : decode cX10_room 71 = .ok (.aload_n 0, 1) := by decide +kernel
theorem dX10_room_72 : decode cX10_room 72 = .ok (.getfield 36, 3) := by decide +kernel
theorem dX10_room_75 : decode cX10_room 75 = .ok (.iload_n 1, 1) := by decide +kernel
theorem dX10_room_76 : decode cX10_room 76 = .ok (.invokevirtual 159, 3) := by decide +kernel
theorem dX10_room_79 : decode cX10_room 79 = .ok (.invokestatic 163, 3) := by decide +kernel
theorem dX10_room_82 : decode cX10_room 82 = .ok (.ireturn, 1) := by decide +kernel
theorem dX10_room_83 : decode cX10_room 83 = .ok (.aload_n 0, 1) := by decide +kernel
theorem dX10_room_84 : decode cX10_room 84 = .ok (.getfield 36, 3) := by decide +kernel
theorem dX10_room_87 : decode cX10_room 87 = .ok (.iload_n 1, 1) := by decide +kernel
theorem dX10_room_88 : decode cX10_room 88 = .ok (.invokevirtual 159, 3) := by decide +kernel
theorem dX10_room_91 : decode cX10_room 91 = .ok (.ireturn, 1) := by decide +kernel
theorem dX10_room_92 : decode cX10_room 92 = .ok (.iconst (-1), 1) := by decide +kernel
theorem dX10_room_93 : decode cX10_room 93 = .ok (.ireturn, 1) := by decide +kernel
theorem dX10_dead_0 : decode cX10_dead 0 = .ok (.aload_n 0, 1) := by decide +kernel
theorem dX10_dead_1 : decode cX10_dead 1 = .ok (.getfield 22, 3) := by decide +kernel
theorem dX10_dead_4 : decode cX10_dead 4 = .ok (.iconst 3, 1) := by decide +kernel
theorem dX10_dead_5 : decode cX10_dead 5 = .ok (.iload_n 1, 1) := by decide +kernel
theorem dX10_dead_6 : decode cX10_dead 6 = .ok (.invokevirtual 121, 3) := by decide +kernel
theorem dX10_dead_9 : decode cX10_dead 9 = .ok (.ifCond .ne 5, 3) := by decide +kernel
theorem dX10_dead_12 : decode cX10_dead 12 = .ok (.iconst (-1), 1) := by decide +kernel
theorem dX10_dead_13 : decode cX10_dead 13 = .ok (.ireturn, 1) := by decide +kernel
theorem dX10_dead_14 : decode cX10_dead 14 = .ok (.iload_n 2, 1) := by decide +kernel
theorem dX10_dead_15 : decode cX10_dead 15 = .ok (.tableswitch 83 0 4 #[33, 43, 53, 63, 73], 33) := by decide +kernel
theorem dX10_dead_48 : decode cX10_dead 48 = .ok (.aload_n 0, 1) := by decide +kernel
theorem dX10_dead_49 : decode cX10_dead 49 = .ok (.getfield 22, 3) := by decide +kernel
theorem dX10_dead_52 : decode cX10_dead 52 = .ok (.getfield 168, 3) := by decide +kernel
theorem dX10_dead_55 : decode cX10_dead 55 = .ok (.iload_n 1, 1) := by decide +kernel
theorem dX10_dead_56 : decode cX10_dead 56 = .ok (.iaload, 1) := by decide +kernel
theorem dX10_dead_57 : decode cX10_dead 57 = .ok (.ireturn, 1) := by decide +kernel
theorem dX10_dead_58 : decode cX10_dead 58 = .ok (.aload_n 0, 1) := by decide +kernel
theorem dX10_dead_59 : decode cX10_dead 59 = .ok (.getfield 22, 3) := by decide +kernel
theorem dX10_dead_62 : decode cX10_dead 62 = .ok (.getfield 171, 3) := by decide +kernel
theorem dX10_dead_65 : decode cX10_dead 65 = .ok (.iload_n 1, 1) := by decide +kernel
theorem dX10_dead_66 : decode cX10_dead 66 = .ok (.iaload, 1) := by decide +kernel
theorem dX10_dead_67 : decode cX10_dead 67 = .ok (.ireturn, 1) := by decide +kernel
theorem dX10_dead_68 : decode cX10_dead 68 = .ok (.aload_n 0, 1) := by decide +kernel
theorem dX10_dead_69 : decode cX10_dead 69 = .ok (.getfield 22, 3) := by decide +kernel
theorem dX10_dead_72 : decode cX10_dead 72 = .ok (.getfield 174, 3) := by decide +kernel
theorem dX10_dead_75 : decode cX10_dead 75 = .ok (.iload_n 1, 1) := by decide +kernel
theorem dX10_dead_76 : decode cX10_dead 76 = .ok (.iaload, 1) := by decide +kernel
theorem dX10_dead_77 : decode cX10_dead 77 = .ok (.ireturn, 1) := by decide +kernel
theorem dX10_dead_78 : decode cX10_dead 78 = .ok (.aload_n 0, 1) := by decide +kernel
theorem dX10_dead_79 : decode cX10_dead 79 = .ok (.getfield 22, 3) := by decide +kernel
theorem dX10_dead_82 : decode cX10_dead 82 = .ok (.getfield 177, 3) := by decide +kernel
theorem dX10_dead_85 : decode cX10_dead 85 = .ok (.iload_n 1, 1) := by decide +kernel
theorem dX10_dead_86 : decode cX10_dead 86 = .ok (.iaload, 1) := by decide +kernel
theorem dX10_dead_87 : decode cX10_dead 87 = .ok (.ireturn, 1) := by decide +kernel
theorem dX10_dead_88 : decode cX10_dead 88 = .ok (.aload_n 0, 1) := by decide +kernel
theorem dX10_dead_89 : decode cX10_dead 89 = .ok (.getfield 36, 3) := by decide +kernel
theorem dX10_dead_92 : decode cX10_dead 92 = .ok (.getfield 180, 3) := by decide +kernel
theorem dX10_dead_95 : decode cX10_dead 95 = .ok (.iload_n 1, 1) := by decide +kernel
theorem dX10_dead_96 : decode cX10_dead 96 = .ok (.iaload, 1) := by decide +kernel
theorem dX10_dead_97 : decode cX10_dead 97 = .ok (.ireturn, 1) := by decide +kernel
theorem dX10_dead_98 : decode cX10_dead 98 = .ok (.iconst (-1), 1) := by decide +kernel
theorem dX10_dead_99 : decode cX10_dead 99 = .ok (.ireturn, 1) := by decide +kernel
theorem dX10_door_0 : decode cX10_door 0 = .ok (.aload_n 0, 1) := by decide +kernel
theorem dX10_door_1 : decode cX10_door 1 = .ok (.getfield 22, 3) := by decide +kernel
theorem dX10_door_4 : decode cX10_door 4 = .ok (.iconst 0, 1) := by decide +kernel
theorem dX10_door_5 : decode cX10_door 5 = .ok (.iload_n 1, 1) := by decide +kernel
theorem dX10_door_6 : decode cX10_door 6 = .ok (.invokevirtual 121, 3) := by decide +kernel
theorem dX10_door_9 : decode cX10_door 9 = .ok (.ifCond .eq 15, 3) := by decide +kernel
theorem dX10_door_12 : decode cX10_door 12 = .ok (.aload_n 0, 1) := by decide +kernel
theorem dX10_door_13 : decode cX10_door 13 = .ok (.getfield 22, 3) := by decide +kernel
theorem dX10_door_16 : decode cX10_door 16 = .ok (.iconst 0, 1) := by decide +kernel
theorem dX10_door_17 : decode cX10_door 17 = .ok (.iload_n 2, 1) := by decide +kernel
theorem dX10_door_18 : decode cX10_door 18 = .ok (.invokevirtual 121, 3) := by decide +kernel
theorem dX10_door_21 : decode cX10_door 21 = .ok (.ifCond .ne 5, 3) := by decide +kernel
theorem dX10_door_24 : decode cX10_door 24 = .ok (.iconst (-1), 1) := by decide +kernel
theorem dX10_door_25 : decode cX10_door 25 = .ok (.ireturn, 1) := by decide +kernel
theorem dX10_door_26 : decode cX10_door 26 = .ok (.aload_n 0, 1) := by decide +kernel
theorem dX10_door_27 : decode cX10_door 27 = .ok (.getfield 22, 3) := by decide +kernel
theorem dX10_door_30 : decode cX10_door 30 = .ok (.iload_n 1, 1) := by decide +kernel
theorem dX10_door_31 : decode cX10_door 31 = .ok (.iload_n 2, 1) := by decide +kernel
theorem dX10_door_32 : decode cX10_door 32 = .ok (.invokevirtual 183, 3) := by decide +kernel
theorem dX10_door_35 : decode cX10_door 35 = .ok (.ifCond .eq 7, 3) := by decide +kernel
theorem dX10_door_38 : decode cX10_door 38 = .ok (.iconst 1, 1) := by decide +kernel
theorem dX10_door_39 : decode cX10_door 39 = .ok (.goto 4, 3) := by decide +kernel
theorem dX10_door_42 : decode cX10_door 42 = .ok (.iconst 0, 1) := by decide +kernel
theorem dX10_door_43 : decode cX10_door 43 = .ok (.ireturn, 1) := by decide +kernel
theorem dX10_gauge_0 : decode cX10_gauge 0 = .ok (.iload_n 1, 1) := by decide +kernel
theorem dX10_gauge_1 : decode cX10_gauge 1 = .ok (.ifCond .lt 10, 3) := by decide +kernel
theorem dX10_gauge_4 : decode cX10_gauge 4 = .ok (.iload_n 1, 1) := by decide +kernel
theorem dX10_gauge_5 : decode cX10_gauge 5 = .ok (.sipush 9999, 3) := by decide +kernel
theorem dX10_gauge_8 : decode cX10_gauge 8 = .ok (.if_icmp .le 7, 3) := by decide +kernel
theorem dX10_gauge_11 : decode cX10_gauge 11 = .ok (.iconst (-1), 1) := by decide +kernel
theorem dX10_gauge_12 : decode cX10_gauge 12 = .ok (.goto 11, 3) := by decide +kernel
theorem dX10_gauge_15 : decode cX10_gauge 15 = .ok (.aload_n 0, 1) := by decide +kernel
theorem dX10_gauge_16 : decode cX10_gauge 16 = .ok (.getfield 22, 3) := by decide +kernel
theorem dX10_gauge_19 : decode cX10_gauge 19 = .ok (.iload_n 1, 1) := by decide +kernel
theorem dX10_gauge_20 : decode cX10_gauge 20 = .ok (.invokevirtual 186, 3) := by decide +kernel
theorem dX10_gauge_23 : decode cX10_gauge 23 = .ok (.ireturn, 1) := by decide +kernel
theorem dX10_liking_0 : decode cX10_liking 0 = .ok (.aload_n 0, 1) := by decide +kernel
theorem dX10_liking_1 : decode cX10_liking 1 = .ok (.getfield 22, 3) := by decide +kernel
theorem dX10_liking_4 : decode cX10_liking 4 = .ok (.iconst 3, 1) := by decide +kernel
theorem dX10_liking_5 : decode cX10_liking 5 = .ok (.iload_n 1, 1) := by decide +kernel
theorem dX10_liking_6 : decode cX10_liking 6 = .ok (.invokevirtual 121, 3) := by decide +kernel
theorem dX10_liking_9 : decode cX10_liking 9 = .ok (.ifCond .eq 15, 3) := by decide +kernel
theorem dX10_liking_12 : decode cX10_liking 12 = .ok (.aload_n 0, 1) := by decide +kernel
theorem dX10_liking_13 : decode cX10_liking 13 = .ok (.getfield 22, 3) := by decide +kernel
theorem dX10_liking_16 : decode cX10_liking 16 = .ok (.iconst 2, 1) := by decide +kernel
theorem dX10_liking_17 : decode cX10_liking 17 = .ok (.iload_n 2, 1) := by decide +kernel
theorem dX10_liking_18 : decode cX10_liking 18 = .ok (.invokevirtual 121, 3) := by decide +kernel
theorem dX10_liking_21 : decode cX10_liking 21 = .ok (.ifCond .ne 5, 3) := by decide +kernel
theorem dX10_liking_24 : decode cX10_liking 24 = .ok (.iconst (-1), 1) := by decide +kernel
theorem dX10_liking_25 : decode cX10_liking 25 = .ok (.ireturn, 1) := by decide +kernel
theorem dX10_liking_26 : decode cX10_liking 26 = .ok (.aload_n 0, 1) := by decide +kernel
theorem dX10_liking_27 : decode cX10_liking 27 = .ok (.getfield 53, 3) := by decide +kernel
theorem dX10_liking_30 : decode cX10_liking 30 = .ok (.aload_n 0, 1) := by decide +kernel
theorem dX10_liking_31 : decode cX10_liking 31 = .ok (.getfield 22, 3) := by decide +kernel
theorem dX10_liking_34 : decode cX10_liking 34 = .ok (.aload_n 0, 1) := by decide +kernel
theorem dX10_liking_35 : decode cX10_liking 35 = .ok (.getfield 36, 3) := by decide +kernel
theorem dX10_liking_38 : decode cX10_liking 38 = .ok (.invokevirtual 189, 3) := by decide +kernel
theorem dX10_liking_41 : decode cX10_liking 41 = .ok (.aload_n 0, 1) := by decide +kernel
theorem dX10_liking_42 : decode cX10_liking 42 = .ok (.getfield 53, 3) := by decide +kernel
theorem dX10_liking_45 : decode cX10_liking 45 = .ok (.iload_n 1, 1) := by decide +kernel
theorem dX10_liking_46 : decode cX10_liking 46 = .ok (.iload_n 2, 1) := by decide +kernel
theorem dX10_liking_47 : decode cX10_liking 47 = .ok (.aload_n 0, 1) := by decide +kernel
theorem dX10_liking_48 : decode cX10_liking 48 = .ok (.getfield 36, 3) := by decide +kernel
theorem dX10_liking_51 : decode cX10_liking 51 = .ok (.getfield 132, 3) := by decide +kernel
theorem dX10_liking_54 : decode cX10_liking 54 = .ok (.iload_n 2, 1) := by decide +kernel
theorem dX10_liking_55 : decode cX10_liking 55 = .ok (.iaload, 1) := by decide +kernel
theorem dX10_liking_56 : decode cX10_liking 56 = .ok (.invokevirtual 193, 3) := by decide +kernel
theorem dX10_liking_59 : decode cX10_liking 59 = .ok (.ireturn, 1) := by decide +kernel
theorem dX10_law_0 : decode cX10_law 0 = .ok (.iload_n 1, 1) := by decide +kernel
theorem dX10_law_1 : decode cX10_law 1 = .ok (.ifCond .lt 20, 3) := by decide +kernel
theorem dX10_law_4 : decode cX10_law 4 = .ok (.iload_n 1, 1) := by decide +kernel
theorem dX10_law_5 : decode cX10_law 5 = .ok (.iconst 2, 1) := by decide +kernel
theorem dX10_law_6 : decode cX10_law 6 = .ok (.if_icmp .gt 15, 3) := by decide +kernel
theorem dX10_law_9 : decode cX10_law 9 = .ok (.aload_n 0, 1) := by decide +kernel
theorem dX10_law_10 : decode cX10_law 10 = .ok (.getfield 22, 3) := by decide +kernel
theorem dX10_law_13 : decode cX10_law 13 = .ok (.iconst 3, 1) := by decide +kernel
theorem dX10_law_14 : decode cX10_law 14 = .ok (.iload_n 2, 1) := by decide +kernel
theorem dX10_law_15 : decode cX10_law 15 = .ok (.invokevirtual 121, 3) := by decide +kernel
theorem dX10_law_18 : decode cX10_law 18 = .ok (.ifCond .ne 7, 3) := by decide +kernel
theorem dX10_law_21 : decode cX10_law 21 = .ok (.ldc2_w 197, 3) := by decide +kernel
theorem dX10_law_24 : decode cX10_law 24 = .ok (.lreturn, 1) := by decide +kernel
theorem dX10_law_25 : decode cX10_law 25 = .ok (.iload_n 1, 1) := by decide +kernel
theorem dX10_law_26 : decode cX10_law 26 = .ok (.iconst 2, 1) := by decide +kernel
theorem dX10_law_27 : decode cX10_law 27 = .ok (.if_icmp .eq 19, 3) := by decide +kernel
theorem dX10_law_30 : decode cX10_law 30 = .ok (.aload_n 0, 1) := by decide +kernel
theorem dX10_law_31 : decode cX10_law 31 = .ok (.getfield 22, 3) := by decide +kernel
theorem dX10_law_34 : decode cX10_law 34 = .ok (.iconst 2, 1) := by decide +kernel
theorem dX10_law_35 : decode cX10_law 35 = .ok (.iload_n 3, 1) := by decide +kernel
theorem dX10_law_36 : decode cX10_law 36 = .ok (.invokevirtual 121, 3) := by decide +kernel
theorem dX10_law_39 : decode cX10_law 39 = .ok (.ifCond .ne 7, 3) := by decide +kernel
theorem dX10_law_42 : decode cX10_law 42 = .ok (.ldc2_w 197, 3) := by decide +kernel
theorem dX10_law_45 : decode cX10_law 45 = .ok (.lreturn, 1) := by decide +kernel
theorem dX10_law_46 : decode cX10_law 46 = .ok (.aload_n 0, 1) := by decide +kernel
theorem dX10_law_47 : decode cX10_law 47 = .ok (.getfield 53, 3) := by decide +kernel
theorem dX10_law_50 : decode cX10_law 50 = .ok (.aload_n 0, 1) := by decide +kernel
theorem dX10_law_51 : decode cX10_law 51 = .ok (.getfield 22, 3) := by decide +kernel
theorem dX10_law_54 : decode cX10_law 54 = .ok (.aload_n 0, 1) := by decide +kernel
theorem dX10_law_55 : decode cX10_law 55 = .ok (.getfield 36, 3) := by decide +kernel
theorem dX10_law_58 : decode cX10_law 58 = .ok (.invokevirtual 189, 3) := by decide +kernel
theorem dX10_law_61 : decode cX10_law 61 = .ok (.iload_n 1, 1) := by decide +kernel
theorem dX10_law_62 : decode cX10_law 62 = .ok (.iconst 2, 1) := by decide +kernel
theorem dX10_law_63 : decode cX10_law 63 = .ok (.if_icmp .ne 17, 3) := by decide +kernel
theorem dX10_law_66 : decode cX10_law 66 = .ok (.aload_n 0, 1) := by decide +kernel
theorem dX10_law_67 : decode cX10_law 67 = .ok (.getfield 53, 3) := by decide +kernel
theorem dX10_law_70 : decode cX10_law 70 = .ok (.iload_n 1, 1) := by decide +kernel
theorem dX10_law_71 : decode cX10_law 71 = .ok (.iload_n 2, 1) := by decide +kernel
theorem dX10_law_72 : decode cX10_law 72 = .ok (.iconst (-1), 1) := by decide +kernel
theorem dX10_law_73 : decode cX10_law 73 = .ok (.iconst (-1), 1) := by decide +kernel
theorem dX10_law_74 : decode cX10_law 74 = .ok (.invokevirtual 199, 3) := by decide +kernel
theorem dX10_law_77 : decode cX10_law 77 = .ok (.goto 22, 3) := by decide +kernel
theorem dX10_law_80 : decode cX10_law 80 = .ok (.aload_n 0, 1) := by decide +kernel
theorem dX10_law_81 : decode cX10_law 81 = .ok (.getfield 53, 3) := by decide +kernel
theorem dX10_law_84 : decode cX10_law 84 = .ok (.iload_n 1, 1) := by decide +kernel
theorem dX10_law_85 : decode cX10_law 85 = .ok (.iload_n 2, 1) := by decide +kernel
theorem dX10_law_86 : decode cX10_law 86 = .ok (.iload_n 3, 1) := by decide +kernel
theorem dX10_law_87 : decode cX10_law 87 = .ok (.aload_n 0, 1) := by decide +kernel
theorem dX10_law_88 : decode cX10_law 88 = .ok (.getfield 36, 3) := by decide +kernel
theorem dX10_law_91 : decode cX10_law 91 = .ok (.getfield 132, 3) := by decide +kernel
theorem dX10_law_94 : decode cX10_law 94 = .ok (.iload_n 3, 1) := by decide +kernel
theorem dX10_law_95 : decode cX10_law 95 = .ok (.iaload, 1) := by decide +kernel
theorem dX10_law_96 : decode cX10_law 96 = .ok (.invokevirtual 199, 3) := by decide +kernel
theorem dX10_law_99 : decode cX10_law 99 = .ok (.lreturn, 1) := by decide +kernel
theorem dX10_count_0 : decode cX10_count 0 = .ok (.iload_n 1, 1) := by decide +kernel
theorem dX10_count_1 : decode cX10_count 1 = .ok (.tableswitch 185 0 12 #[67, 76, 85, 94, 103, 112, 120, 128, 139, 150, 161, 169, 177], 67) := by decide +kernel
theorem dX10_count_68 : decode cX10_count 68 = .ok (.aload_n 0, 1) := by decide +kernel
theorem dX10_count_69 : decode cX10_count 69 = .ok (.getfield 22, 3) := by decide +kernel
theorem dX10_count_72 : decode cX10_count 72 = .ok (.iconst 0, 1) := by decide +kernel
theorem dX10_count_73 : decode cX10_count 73 = .ok (.invokevirtual 203, 3) := by decide +kernel
theorem dX10_count_76 : decode cX10_count 76 = .ok (.ireturn, 1) := by decide +kernel
theorem dX10_count_77 : decode cX10_count 77 = .ok (.aload_n 0, 1) := by decide +kernel
theorem dX10_count_78 : decode cX10_count 78 = .ok (.getfield 22, 3) := by decide +kernel
theorem dX10_count_81 : decode cX10_count 81 = .ok (.iconst 1, 1) := by decide +kernel
theorem dX10_count_82 : decode cX10_count 82 = .ok (.invokevirtual 203, 3) := by decide +kernel
theorem dX10_count_85 : decode cX10_count 85 = .ok (.ireturn, 1) := by decide +kernel
theorem dX10_count_86 : decode cX10_count 86 = .ok (.aload_n 0, 1) := by decide +kernel
theorem dX10_count_87 : decode cX10_count 87 = .ok (.getfield 22, 3) := by decide +kernel
theorem dX10_count_90 : decode cX10_count 90 = .ok (.iconst 2, 1) := by decide +kernel
theorem dX10_count_91 : decode cX10_count 91 = .ok (.invokevirtual 203, 3) := by decide +kernel
theorem dX10_count_94 : decode cX10_count 94 = .ok (.ireturn, 1) := by decide +kernel
theorem dX10_count_95 : decode cX10_count 95 = .ok (.aload_n 0, 1) := by decide +kernel
theorem dX10_count_96 : decode cX10_count 96 = .ok (.getfield 22, 3) := by decide +kernel
theorem dX10_count_99 : decode cX10_count 99 = .ok (.iconst 3, 1) := by decide +kernel
theorem dX10_count_100 : decode cX10_count 100 = .ok (.invokevirtual 203, 3) := by decide +kernel
theorem dX10_count_103 : decode cX10_count 103 = .ok (.ireturn, 1) := by decide +kernel
theorem dX10_count_104 : decode cX10_count 104 = .ok (.aload_n 0, 1) := by decide +kernel
theorem dX10_count_105 : decode cX10_count 105 = .ok (.getfield 22, 3) := by decide +kernel
theorem dX10_count_108 : decode cX10_count 108 = .ok (.iconst 4, 1) := by decide +kernel
theorem dX10_count_109 : decode cX10_count 109 = .ok (.invokevirtual 203, 3) := by decide +kernel
theorem dX10_count_112 : decode cX10_count 112 = .ok (.ireturn, 1) := by decide +kernel
theorem dX10_count_113 : decode cX10_count 113 = .ok (.aload_n 0, 1) := by decide +kernel
theorem dX10_count_114 : decode cX10_count 114 = .ok (.getfield 22, 3) := by decide +kernel
theorem dX10_count_117 : decode cX10_count 117 = .ok (.getfield 206, 3) := by decide +kernel
theorem dX10_count_120 : decode cX10_count 120 = .ok (.ireturn, 1) := by decide +kernel
theorem dX10_count_121 : decode cX10_count 121 = .ok (.aload_n 0, 1) := by decide +kernel
theorem dX10_count_122 : decode cX10_count 122 = .ok (.getfield 36, 3) := by decide +kernel
theorem dX10_count_125 : decode cX10_count 125 = .ok (.getfield 209, 3) := by decide +kernel
theorem dX10_count_128 : decode cX10_count 128 = .ok (.ireturn, 1) := by decide +kernel
theorem dX10_count_129 : decode cX10_count 129 = .ok (.aload_n 0, 1) := by decide +kernel
theorem dX10_count_130 : decode cX10_count 130 = .ok (.getfield 36, 3) := by decide +kernel
theorem dX10_count_133 : decode cX10_count 133 = .ok (.getfield 141, 3) := by decide +kernel
theorem dX10_count_136 : decode cX10_count 136 = .ok (.invokestatic 212, 3) := by decide +kernel
theorem dX10_count_139 : decode cX10_count 139 = .ok (.ireturn, 1) := by decide +kernel
theorem dX10_count_140 : decode cX10_count 140 = .ok (.aload_n 0, 1) := by decide +kernel
theorem dX10_count_141 : decode cX10_count 141 = .ok (.getfield 36, 3) := by decide +kernel
theorem dX10_count_144 : decode cX10_count 144 = .ok (.getfield 144, 3) := by decide +kernel
theorem dX10_count_147 : decode cX10_count 147 = .ok (.invokestatic 212, 3) := by decide +kernel
theorem dX10_count_150 : decode cX10_count 150 = .ok (.ireturn, 1) := by decide +kernel
theorem dX10_count_151 : decode cX10_count 151 = .ok (.aload_n 0, 1) := by decide +kernel
theorem dX10_count_152 : decode cX10_count 152 = .ok (.getfield 36, 3) := by decide +kernel
theorem dX10_count_155 : decode cX10_count 155 = .ok (.getfield 180, 3) := by decide +kernel
theorem dX10_count_158 : decode cX10_count 158 = .ok (.invokestatic 212, 3) := by decide +kernel
theorem dX10_count_161 : decode cX10_count 161 = .ok (.ireturn, 1) := by decide +kernel
theorem dX10_count_162 : decode cX10_count 162 = .ok (.aload_n 0, 1) := by decide +kernel
theorem dX10_count_163 : decode cX10_count 163 = .ok (.getfield 60, 3) := by decide +kernel
theorem dX10_count_166 : decode cX10_count 166 = .ok (.getfield 216, 3) := by decide +kernel
theorem dX10_count_169 : decode cX10_count 169 = .ok (.ireturn, 1) := by decide +kernel
theorem dX10_count_170 : decode cX10_count 170 = .ok (.aload_n 0, 1) := by decide +kernel
theorem dX10_count_171 : decode cX10_count 171 = .ok (.getfield 60, 3) := by decide +kernel
theorem dX10_count_174 : decode cX10_count 174 = .ok (.invokevirtual 219, 3) := by decide +kernel
theorem dX10_count_177 : decode cX10_count 177 = .ok (.ireturn, 1) := by decide +kernel
theorem dX10_count_178 : decode cX10_count 178 = .ok (.aload_n 0, 1) := by decide +kernel
theorem dX10_count_179 : decode cX10_count 179 = .ok (.getfield 67, 3) := by decide +kernel
theorem dX10_count_182 : decode cX10_count 182 = .ok (.getfield 223, 3) := by decide +kernel
theorem dX10_count_185 : decode cX10_count 185 = .ok (.ireturn, 1) := by decide +kernel
theorem dX10_count_186 : decode cX10_count 186 = .ok (.iconst (-1), 1) := by decide +kernel
theorem dX10_count_187 : decode cX10_count 187 = .ok (.ireturn, 1) := by decide +kernel
theorem dX10_sum_0 : decode cX10_sum 0 = .ok (.iconst 0, 1) := by decide +kernel
theorem dX10_sum_1 : decode cX10_sum 1 = .ok (.istore_n 1, 1) := by decide +kernel
theorem dX10_sum_2 : decode cX10_sum 2 = .ok (.aload_n 0, 1) := by decide +kernel
theorem dX10_sum_3 : decode cX10_sum 3 = .ok (.astore_n 2, 1) := by decide +kernel
theorem dX10_sum_4 : decode cX10_sum 4 = .ok (.aload_n 2, 1) := by decide +kernel
theorem dX10_sum_5 : decode cX10_sum 5 = .ok (.arraylength, 1) := by decide +kernel
theorem dX10_sum_6 : decode cX10_sum 6 = .ok (.istore_n 3, 1) := by decide +kernel
theorem dX10_sum_7 : decode cX10_sum 7 = .ok (.iconst 0, 1) := by decide +kernel
theorem dX10_sum_8 : decode cX10_sum 8 = .ok (.istore 4, 2) := by decide +kernel
theorem dX10_sum_10 : decode cX10_sum 10 = .ok (.iload 4, 2) := by decide +kernel
theorem dX10_sum_12 : decode cX10_sum 12 = .ok (.iload_n 3, 1) := by decide +kernel
theorem dX10_sum_13 : decode cX10_sum 13 = .ok (.if_icmp .ge 20, 3) := by decide +kernel
theorem dX10_sum_16 : decode cX10_sum 16 = .ok (.aload_n 2, 1) := by decide +kernel
theorem dX10_sum_17 : decode cX10_sum 17 = .ok (.iload 4, 2) := by decide +kernel
theorem dX10_sum_19 : decode cX10_sum 19 = .ok (.iaload, 1) := by decide +kernel
theorem dX10_sum_20 : decode cX10_sum 20 = .ok (.istore 5, 2) := by decide +kernel
theorem dX10_sum_22 : decode cX10_sum 22 = .ok (.iload_n 1, 1) := by decide +kernel
theorem dX10_sum_23 : decode cX10_sum 23 = .ok (.iload 5, 2) := by decide +kernel
theorem dX10_sum_25 : decode cX10_sum 25 = .ok (.iadd, 1) := by decide +kernel
theorem dX10_sum_26 : decode cX10_sum 26 = .ok (.istore_n 1, 1) := by decide +kernel
theorem dX10_sum_27 : decode cX10_sum 27 = .ok (.iinc 4 1, 3) := by decide +kernel
theorem dX10_sum_30 : decode cX10_sum 30 = .ok (.goto (-20), 3) := by decide +kernel
theorem dX10_sum_33 : decode cX10_sum 33 = .ok (.iload_n 1, 1) := by decide +kernel
theorem dX10_sum_34 : decode cX10_sum 34 = .ok (.ireturn, 1) := by decide +kernel
theorem dX10_hang_0 : decode cX10_hang 0 = .ok (.aload_n 0, 1) := by decide +kernel
theorem dX10_hang_1 : decode cX10_hang 1 = .ok (.getfield 22, 3) := by decide +kernel
theorem dX10_hang_4 : decode cX10_hang 4 = .ok (.iconst 2, 1) := by decide +kernel
theorem dX10_hang_5 : decode cX10_hang 5 = .ok (.iload_n 1, 1) := by decide +kernel
theorem dX10_hang_6 : decode cX10_hang 6 = .ok (.invokevirtual 121, 3) := by decide +kernel
theorem dX10_hang_9 : decode cX10_hang 9 = .ok (.ifCond .eq 15, 3) := by decide +kernel
theorem dX10_hang_12 : decode cX10_hang 12 = .ok (.aload_n 0, 1) := by decide +kernel
theorem dX10_hang_13 : decode cX10_hang 13 = .ok (.getfield 22, 3) := by decide +kernel
theorem dX10_hang_16 : decode cX10_hang 16 = .ok (.iconst 0, 1) := by decide +kernel
theorem dX10_hang_17 : decode cX10_hang 17 = .ok (.iload_n 2, 1) := by decide +kernel
theorem dX10_hang_18 : decode cX10_hang 18 = .ok (.invokevirtual 121, 3) := by decide +kernel
theorem dX10_hang_21 : decode cX10_hang 21 = .ok (.ifCond .ne 5, 3) := by decide +kernel
theorem dX10_hang_24 : decode cX10_hang 24 = .ok (.iconst 0, 1) := by decide +kernel
theorem dX10_hang_25 : decode cX10_hang 25 = .ok (.ireturn, 1) := by decide +kernel
theorem dX10_hang_26 : decode cX10_hang 26 = .ok (.aload_n 0, 1) := by decide +kernel
theorem dX10_hang_27 : decode cX10_hang 27 = .ok (.getfield 36, 3) := by decide +kernel
theorem dX10_hang_30 : decode cX10_hang 30 = .ok (.getfield 132, 3) := by decide +kernel
theorem dX10_hang_33 : decode cX10_hang 33 = .ok (.iload_n 1, 1) := by decide +kernel
theorem dX10_hang_34 : decode cX10_hang 34 = .ok (.iaload, 1) := by decide +kernel
theorem dX10_hang_35 : decode cX10_hang 35 = .ok (.iload_n 2, 1) := by decide +kernel
theorem dX10_hang_36 : decode cX10_hang 36 = .ok (.if_icmp .ne 5, 3) := by decide +kernel
theorem dX10_hang_39 : decode cX10_hang 39 = .ok (.iconst 0, 1) := by decide +kernel
theorem dX10_hang_40 : decode cX10_hang 40 = .ok (.ireturn, 1) := by decide +kernel
theorem dX10_hang_41 : decode cX10_hang 41 = .ok (.aload_n 0, 1) := by decide +kernel
theorem dX10_hang_42 : decode cX10_hang 42 = .ok (.getfield 67, 3) := by decide +kernel
theorem dX10_hang_45 : decode cX10_hang 45 = .ok (.iconst 0, 1) := by decide +kernel
theorem dX10_hang_46 : decode cX10_hang 46 = .ok (.iload_n 1, 1) := by decide +kernel
theorem dX10_hang_47 : decode cX10_hang 47 = .ok (.aload_n 0, 1) := by decide +kernel
theorem dX10_hang_48 : decode cX10_hang 48 = .ok (.getfield 36, 3) := by decide +kernel
theorem dX10_hang_51 : decode cX10_hang 51 = .ok (.getfield 132, 3) := by decide +kernel
theorem dX10_hang_54 : decode cX10_hang 54 = .ok (.iload_n 1, 1) := by decide +kernel
theorem dX10_hang_55 : decode cX10_hang 55 = .ok (.iaload, 1) := by decide +kernel
theorem dX10_hang_56 : decode cX10_hang 56 = .ok (.invokevirtual 224, 3) := by decide +kernel
theorem dX10_hang_59 : decode cX10_hang 59 = .ok (.aload_n 0, 1) := by decide +kernel
theorem dX10_hang_60 : decode cX10_hang 60 = .ok (.getfield 36, 3) := by decide +kernel
theorem dX10_hang_63 : decode cX10_hang 63 = .ok (.getfield 132, 3) := by decide +kernel
theorem dX10_hang_66 : decode cX10_hang 66 = .ok (.iload_n 1, 1) := by decide +kernel
theorem dX10_hang_67 : decode cX10_hang 67 = .ok (.iload_n 2, 1) := by decide +kernel
theorem dX10_hang_68 : decode cX10_hang 68 = .ok (.iastore, 1) := by decide +kernel
theorem dX10_hang_69 : decode cX10_hang 69 = .ok (.iconst 1, 1) := by decide +kernel
theorem dX10_hang_70 : decode cX10_hang 70 = .ok (.ireturn, 1) := by decide +kernel
theorem dX10_rope_0 : decode cX10_rope 0 = .ok (.aload_n 0, 1) := by decide +kernel
theorem dX10_rope_1 : decode cX10_rope 1 = .ok (.getfield 22, 3) := by decide +kernel
theorem dX10_rope_4 : decode cX10_rope 4 = .ok (.iconst 0, 1) := by decide +kernel
theorem dX10_rope_5 : decode cX10_rope 5 = .ok (.iload_n 1, 1) := by decide +kernel
theorem dX10_rope_6 : decode cX10_rope 6 = .ok (.invokevirtual 121, 3) := by decide +kernel
theorem dX10_rope_9 : decode cX10_rope 9 = .ok (.ifCond .eq 15, 3) := by decide +kernel
theorem dX10_rope_12 : decode cX10_rope 12 = .ok (.aload_n 0, 1) := by decide +kernel
theorem dX10_rope_13 : decode cX10_rope 13 = .ok (.getfield 36, 3) := by decide +kernel
theorem dX10_rope_16 : decode cX10_rope 16 = .ok (.iload_n 1, 1) := by decide +kernel
theorem dX10_rope_17 : decode cX10_rope 17 = .ok (.invokevirtual 155, 3) := by decide +kernel
theorem dX10_rope_20 : decode cX10_rope 20 = .ok (.iload_n 2, 1) := by decide +kernel
theorem dX10_rope_21 : decode cX10_rope 21 = .ok (.if_icmp .ne 5, 3) := by decide +kernel
theorem dX10_rope_24 : decode cX10_rope 24 = .ok (.iconst 0, 1) := by decide +kernel
theorem dX10_rope_25 : decode cX10_rope 25 = .ok (.ireturn, 1) := by decide +kernel
theorem dX10_rope_26 : decode cX10_rope 26 = .ok (.aload_n 0, 1) := by decide +kernel
theorem dX10_rope_27 : decode cX10_rope 27 = .ok (.getfield 67, 3) := by decide +kernel
theorem dX10_rope_30 : decode cX10_rope 30 = .ok (.iconst 1, 1) := by decide +kernel
theorem dX10_rope_31 : decode cX10_rope 31 = .ok (.iload_n 1, 1) := by decide +kernel
theorem dX10_rope_32 : decode cX10_rope 32 = .ok (.iload_n 2, 1) := by decide +kernel
theorem dX10_rope_33 : decode cX10_rope 33 = .ok (.ifCond .eq 7, 3) := by decide +kernel
theorem dX10_rope_36 : decode cX10_rope 36 = .ok (.iconst 0, 1) := by decide +kernel
theorem dX10_rope_37 : decode cX10_rope 37 = .ok (.goto 4, 3) := by decide +kernel
theorem dX10_rope_40 : decode cX10_rope 40 = .ok (.iconst 1, 1) := by decide +kernel
theorem dX10_rope_41 : decode cX10_rope 41 = .ok (.invokevirtual 224, 3) := by decide +kernel
theorem dX10_rope_44 : decode cX10_rope 44 = .ok (.aload_n 0, 1) := by decide +kernel
theorem dX10_rope_45 : decode cX10_rope 45 = .ok (.getfield 36, 3) := by decide +kernel
theorem dX10_rope_48 : decode cX10_rope 48 = .ok (.iload_n 1, 1) := by decide +kernel
theorem dX10_rope_49 : decode cX10_rope 49 = .ok (.iload_n 2, 1) := by decide +kernel
theorem dX10_rope_50 : decode cX10_rope 50 = .ok (.invokevirtual 228, 3) := by decide +kernel
theorem dX10_rope_53 : decode cX10_rope 53 = .ok (.iconst 1, 1) := by decide +kernel
theorem dX10_rope_54 : decode cX10_rope 54 = .ok (.ireturn, 1) := by decide +kernel
theorem dX10_dust_0 : decode cX10_dust 0 = .ok (.aload_n 0, 1) := by decide +kernel
theorem dX10_dust_1 : decode cX10_dust 1 = .ok (.getfield 22, 3) := by decide +kernel
theorem dX10_dust_4 : decode cX10_dust 4 = .ok (.iconst 0, 1) := by decide +kernel
theorem dX10_dust_5 : decode cX10_dust 5 = .ok (.iload_n 1, 1) := by decide +kernel
theorem dX10_dust_6 : decode cX10_dust 6 = .ok (.invokevirtual 121, 3) := by decide +kernel
theorem dX10_dust_9 : decode cX10_dust 9 = .ok (.ifCond .eq 15, 3) := by decide +kernel
theorem dX10_dust_12 : decode cX10_dust 12 = .ok (.aload_n 0, 1) := by decide +kernel
theorem dX10_dust_13 : decode cX10_dust 13 = .ok (.getfield 36, 3) := by decide +kernel
theorem dX10_dust_16 : decode cX10_dust 16 = .ok (.getfield 152, 3) := by decide +kernel
theorem dX10_dust_19 : decode cX10_dust 19 = .ok (.iload_n 1, 1) := by decide +kernel
theorem dX10_dust_20 : decode cX10_dust 20 = .ok (.iaload, 1) := by decide +kernel
theorem dX10_dust_21 : decode cX10_dust 21 = .ok (.ifCond .ne 5, 3) := by decide +kernel
theorem dX10_dust_24 : decode cX10_dust 24 = .ok (.iconst 0, 1) := by decide +kernel
theorem dX10_dust_25 : decode cX10_dust 25 = .ok (.ireturn, 1) := by decide +kernel
theorem dX10_dust_26 : decode cX10_dust 26 = .ok (.aload_n 0, 1) := by decide +kernel
theorem dX10_dust_27 : decode cX10_dust 27 = .ok (.getfield 67, 3) := by decide +kernel
theorem dX10_dust_30 : decode cX10_dust 30 = .ok (.iconst 2, 1) := by decide +kernel
theorem dX10_dust_31 : decode cX10_dust 31 = .ok (.iload_n 1, 1) := by decide +kernel
theorem dX10_dust_32 : decode cX10_dust 32 = .ok (.aload_n 0, 1) := by decide +kernel
theorem dX10_dust_33 : decode cX10_dust 33 = .ok (.getfield 36, 3) := by decide +kernel
theorem dX10_dust_36 : decode cX10_dust 36 = .ok (.getfield 152, 3) := by decide +kernel
theorem dX10_dust_39 : decode cX10_dust 39 = .ok (.iload_n 1, 1) := by decide +kernel
theorem dX10_dust_40 : decode cX10_dust 40 = .ok (.iaload, 1) := by decide +kernel
theorem dX10_dust_41 : decode cX10_dust 41 = .ok (.invokevirtual 224, 3) := by decide +kernel
theorem dX10_dust_44 : decode cX10_dust 44 = .ok (.aload_n 0, 1) := by decide +kernel
theorem dX10_dust_45 : decode cX10_dust 45 = .ok (.getfield 36, 3) := by decide +kernel
theorem dX10_dust_48 : decode cX10_dust 48 = .ok (.getfield 152, 3) := by decide +kernel
theorem dX10_dust_51 : decode cX10_dust 51 = .ok (.iload_n 1, 1) := by decide +kernel
theorem dX10_dust_52 : decode cX10_dust 52 = .ok (.iconst 0, 1) := by decide +kernel
theorem dX10_dust_53 : decode cX10_dust 53 = .ok (.iastore, 1) := by decide +kernel
theorem dX10_dust_54 : decode cX10_dust 54 = .ok (.iconst 1, 1) := by decide +kernel
theorem dX10_dust_55 : decode cX10_dust 55 = .ok (.ireturn, 1) := by decide +kernel
theorem dX10_undo_0 : decode cX10_undo 0 = .ok (.aload_n 0, 1) := by decide +kernel
theorem dX10_undo_1 : decode cX10_undo 1 = .ok (.getfield 67, 3) := by decide +kernel
theorem dX10_undo_4 : decode cX10_undo 4 = .ok (.getfield 223, 3) := by decide +kernel
theorem dX10_undo_7 : decode cX10_undo 7 = .ok (.ifCond .ne 5, 3) := by decide +kernel
theorem dX10_undo_10 : decode cX10_undo 10 = .ok (.iconst (-1), 1) := by decide +kernel
theorem dX10_undo_11 : decode cX10_undo 11 = .ok (.ireturn, 1) := by decide +kernel
theorem dX10_undo_12 : decode cX10_undo 12 = .ok (.aload_n 0, 1) := by decide +kernel
theorem dX10_undo_13 : decode cX10_undo 13 = .ok (.getfield 67, 3) := by decide +kernel
theorem dX10_undo_16 : decode cX10_undo 16 = .ok (.aload_n 0, 1) := by decide +kernel
theorem dX10_undo_17 : decode cX10_undo 17 = .ok (.getfield 36, 3) := by decide +kernel
theorem dX10_undo_20 : decode cX10_undo 20 = .ok (.invokevirtual 232, 3) := by decide +kernel
theorem dX10_undo_23 : decode cX10_undo 23 = .ok (.aload_n 0, 1) := by decide +kernel
theorem dX10_undo_24 : decode cX10_undo 24 = .ok (.getfield 67, 3) := by decide +kernel
theorem dX10_undo_27 : decode cX10_undo 27 = .ok (.getfield 223, 3) := by decide +kernel
theorem dX10_undo_30 : decode cX10_undo 30 = .ok (.ireturn, 1) := by decide +kernel
theorem dX10_keep_0 : decode cX10_keep 0 = .ok (.aload_n 0, 1) := by decide +kernel
theorem dX10_keep_1 : decode cX10_keep 1 = .ok (.getfield 40, 3) := by decide +kernel
theorem dX10_keep_4 : decode cX10_keep 4 = .ok (.aload_n 0, 1) := by decide +kernel
theorem dX10_keep_5 : decode cX10_keep 5 = .ok (.getfield 36, 3) := by decide +kernel
theorem dX10_keep_8 : decode cX10_keep 8 = .ok (.invokevirtual 236, 3) := by decide +kernel
theorem dX10_keep_11 : decode cX10_keep 11 = .ok (.aload_n 0, 1) := by decide +kernel
theorem dX10_keep_12 : decode cX10_keep 12 = .ok (.iconst 1, 1) := by decide +kernel
theorem dX10_keep_13 : decode cX10_keep 13 = .ok (.putfield 43, 3) := by decide +kernel
theorem dX10_keep_16 : decode cX10_keep 16 = .ok (.aload_n 0, 1) := by decide +kernel
theorem dX10_keep_17 : decode cX10_keep 17 = .ok (.getfield 36, 3) := by decide +kernel
theorem dX10_keep_20 : decode cX10_keep 20 = .ok (.getfield 209, 3) := by decide +kernel
theorem dX10_keep_23 : decode cX10_keep 23 = .ok (.ireturn, 1) := by decide +kernel
theorem dX10_back_0 : decode cX10_back 0 = .ok (.aload_n 0, 1) := by decide +kernel
theorem dX10_back_1 : decode cX10_back 1 = .ok (.getfield 43, 3) := by decide +kernel
theorem dX10_back_4 : decode cX10_back 4 = .ok (.ifCond .ne 5, 3) := by decide +kernel
theorem dX10_back_7 : decode cX10_back 7 = .ok (.iconst (-1), 1) := by decide +kernel
theorem dX10_back_8 : decode cX10_back 8 = .ok (.ireturn, 1) := by decide +kernel
theorem dX10_back_9 : decode cX10_back 9 = .ok (.aload_n 0, 1) := by decide +kernel
theorem dX10_back_10 : decode cX10_back 10 = .ok (.getfield 36, 3) := by decide +kernel
theorem dX10_back_13 : decode cX10_back 13 = .ok (.aload_n 0, 1) := by decide +kernel
theorem dX10_back_14 : decode cX10_back 14 = .ok (.getfield 40, 3) := by decide +kernel
theorem dX10_back_17 : decode cX10_back 17 = .ok (.invokevirtual 236, 3) := by decide +kernel
theorem dX10_back_20 : decode cX10_back 20 = .ok (.aload_n 0, 1) := by decide +kernel
theorem dX10_back_21 : decode cX10_back 21 = .ok (.getfield 67, 3) := by decide +kernel
theorem dX10_back_24 : decode cX10_back 24 = .ok (.invokevirtual 104, 3) := by decide +kernel
theorem dX10_back_27 : decode cX10_back 27 = .ok (.aload_n 0, 1) := by decide +kernel
theorem dX10_back_28 : decode cX10_back 28 = .ok (.getfield 36, 3) := by decide +kernel
theorem dX10_back_31 : decode cX10_back 31 = .ok (.getfield 209, 3) := by decide +kernel
theorem dX10_back_34 : decode cX10_back 34 = .ok (.ireturn, 1) := by decide +kernel
theorem dX10_go_0 : decode cX10_go 0 = .ok (.iload_n 1, 1) := by decide +kernel
theorem dX10_go_1 : decode cX10_go 1 = .ok (.ifCond .lt 24, 3) := by decide +kernel
theorem dX10_go_4 : decode cX10_go 4 = .ok (.iload_n 1, 1) := by decide +kernel
theorem dX10_go_5 : decode cX10_go 5 = .ok (.bipush 99, 2) := by decide +kernel
theorem dX10_go_7 : decode cX10_go 7 = .ok (.if_icmp .gt 18, 3) := by decide +kernel
theorem dX10_go_10 : decode cX10_go 10 = .ok (.aload_n 0, 1) := by decide +kernel
theorem dX10_go_11 : decode cX10_go 11 = .ok (.getfield 36, 3) := by decide +kernel
theorem dX10_go_14 : decode cX10_go 14 = .ok (.getfield 209, 3) := by decide +kernel
theorem dX10_go_17 : decode cX10_go 17 = .ok (.iload_n 1, 1) := by decide +kernel
theorem dX10_go_18 : decode cX10_go 18 = .ok (.iadd, 1) := by decide +kernel
theorem dX10_go_19 : decode cX10_go 19 = .ok (.sipush 9900, 3) := by decide +kernel
theorem dX10_go_22 : decode cX10_go 22 = .ok (.if_icmp .le 5, 3) := by decide +kernel
theorem dX10_go_25 : decode cX10_go 25 = .ok (.iconst (-1), 1) := by decide +kernel
theorem dX10_go_26 : decode cX10_go 26 = .ok (.ireturn, 1) := by decide +kernel
theorem dX10_go_27 : decode cX10_go 27 = .ok (.aload_n 0, 1) := by decide +kernel
theorem dX10_go_28 : decode cX10_go 28 = .ok (.getfield 53, 3) := by decide +kernel
theorem dX10_go_31 : decode cX10_go 31 = .ok (.aload_n 0, 1) := by decide +kernel
theorem dX10_go_32 : decode cX10_go 32 = .ok (.getfield 22, 3) := by decide +kernel
theorem dX10_go_35 : decode cX10_go 35 = .ok (.aload_n 0, 1) := by decide +kernel
theorem dX10_go_36 : decode cX10_go 36 = .ok (.getfield 36, 3) := by decide +kernel
theorem dX10_go_39 : decode cX10_go 39 = .ok (.invokevirtual 189, 3) := by decide +kernel
theorem dX10_go_42 : decode cX10_go 42 = .ok (.aload_n 0, 1) := by decide +kernel
theorem dX10_go_43 : decode cX10_go 43 = .ok (.getfield 53, 3) := by decide +kernel
theorem dX10_go_46 : decode cX10_go 46 = .ok (.iload_n 1, 1) := by decide +kernel
theorem dX10_go_47 : decode cX10_go 47 = .ok (.invokevirtual 239, 3) := by decide +kernel
theorem dX10_go_50 : decode cX10_go 50 = .ok (.iload_n 1, 1) := by decide +kernel
theorem dX10_go_51 : decode cX10_go 51 = .ok (.ifCond .le 10, 3) := by decide +kernel
theorem dX10_go_54 : decode cX10_go 54 = .ok (.aload_n 0, 1) := by decide +kernel
theorem dX10_go_55 : decode cX10_go 55 = .ok (.getfield 67, 3) := by decide +kernel
theorem dX10_go_58 : decode cX10_go 58 = .ok (.invokevirtual 104, 3) := by decide +kernel
theorem dX10_go_61 : decode cX10_go 61 = .ok (.aload_n 0, 1) := by decide +kernel
theorem dX10_go_62 : decode cX10_go 62 = .ok (.getfield 36, 3) := by decide +kernel
theorem dX10_go_65 : decode cX10_go 65 = .ok (.getfield 209, 3) := by decide +kernel
theorem dX10_go_68 : decode cX10_go 68 = .ok (.ireturn, 1) := by decide +kernel
theorem dX10_tryFromNow_0 : decode cX10_tryFromNow 0 = .ok (.aload_n 0, 1) := by decide +kernel
theorem dX10_tryFromNow_1 : decode cX10_tryFromNow 1 = .ok (.getfield 47, 3) := by decide +kernel
theorem dX10_tryFromNow_4 : decode cX10_tryFromNow 4 = .ok (.aload_n 0, 1) := by decide +kernel
theorem dX10_tryFromNow_5 : decode cX10_tryFromNow 5 = .ok (.getfield 36, 3) := by decide +kernel
theorem dX10_tryFromNow_8 : decode cX10_tryFromNow 8 = .ok (.invokevirtual 236, 3) := by decide +kernel
theorem dX10_tryFromNow_11 : decode cX10_tryFromNow 11 = .ok (.aload_n 0, 1) := by decide +kernel
theorem dX10_tryFromNow_12 : decode cX10_tryFromNow 12 = .ok (.getfield 53, 3) := by decide +kernel
theorem dX10_tryFromNow_15 : decode cX10_tryFromNow 15 = .ok (.aload_n 0, 1) := by decide +kernel
theorem dX10_tryFromNow_16 : decode cX10_tryFromNow 16 = .ok (.getfield 22, 3) := by decide +kernel
theorem dX10_tryFromNow_19 : decode cX10_tryFromNow 19 = .ok (.aload_n 0, 1) := by decide +kernel
theorem dX10_tryFromNow_20 : decode cX10_tryFromNow 20 = .ok (.getfield 47, 3) := by decide +kernel
theorem dX10_tryFromNow_23 : decode cX10_tryFromNow 23 = .ok (.invokevirtual 189, 3) := by decide +kernel
theorem dX10_tryFromNow_26 : decode cX10_tryFromNow 26 = .ok (.return_, 1) := by decide +kernel
theorem dX10_ahead_0 : decode cX10_ahead 0 = .ok (.iload_n 1, 1) := by decide +kernel
theorem dX10_ahead_1 : decode cX10_ahead 1 = .ok (.ifCond .lt 18, 3) := by decide +kernel
theorem dX10_ahead_4 : decode cX10_ahead 4 = .ok (.iload_n 1, 1) := by decide +kernel
theorem dX10_ahead_5 : decode cX10_ahead 5 = .ok (.bipush 60, 2) := by decide +kernel
theorem dX10_ahead_7 : decode cX10_ahead 7 = .ok (.if_icmp .gt 12, 3) := by decide +kernel
theorem dX10_ahead_10 : decode cX10_ahead 10 = .ok (.iload_n 2, 1) := by decide +kernel
theorem dX10_ahead_11 : decode cX10_ahead 11 = .ok (.ifCond .lt 8, 3) := by decide +kernel
theorem dX10_ahead_14 : decode cX10_ahead 14 = .ok (.iload_n 2, 1) := by decide +kernel
theorem dX10_ahead_15 : decode cX10_ahead 15 = .ok (.iconst 2, 1) := by decide +kernel
theorem dX10_ahead_16 : decode cX10_ahead 16 = .ok (.if_icmp .le 5, 3) := by decide +kernel
theorem dX10_ahead_19 : decode cX10_ahead 19 = .ok (.iconst (-1), 1) := by decide +kernel
theorem dX10_ahead_20 : decode cX10_ahead 20 = .ok (.ireturn, 1) := by decide +kernel
theorem dX10_ahead_21 : decode cX10_ahead 21 = .ok (.iload_n 2, 1) := by decide +kernel
theorem dX10_ahead_22 : decode cX10_ahead 22 = .ok (.ifCond .ne 17, 3) := by decide +kernel
theorem dX10_ahead_25 : decode cX10_ahead 25 = .ok (.aload_n 0, 1) := by decide +kernel
theorem dX10_ahead_26 : decode cX10_ahead 26 = .ok (.getfield 22, 3) := by decide +kernel
theorem dX10_ahead_29 : decode cX10_ahead 29 = .ok (.iconst 2, 1) := by decide +kernel
theorem dX10_ahead_30 : decode cX10_ahead 30 = .ok (.iload_n 3, 1) := by decide +kernel
theorem dX10_ahead_31 : decode cX10_ahead 31 = .ok (.invokevirtual 121, 3) := by decide +kernel
theorem dX10_ahead_34 : decode cX10_ahead 34 = .ok (.ifCond .ne 5, 3) := by decide +kernel
theorem dX10_ahead_37 : decode cX10_ahead 37 = .ok (.iconst (-1), 1) := by decide +kernel
theorem dX10_ahead_38 : decode cX10_ahead 38 = .ok (.ireturn, 1) := by decide +kernel
theorem dX10_ahead_39 : decode cX10_ahead 39 = .ok (.aload_n 0, 1) := by decide +kernel
theorem dX10_ahead_40 : decode cX10_ahead 40 = .ok (.invokevirtual 242, 3) := by decide +kernel
theorem dX10_ahead_43 : decode cX10_ahead 43 = .ok (.aload_n 0, 1) := by decide +kernel
theorem dX10_ahead_44 : decode cX10_ahead 44 = .ok (.getfield 53, 3) := by decide +kernel
theorem dX10_ahead_47 : decode cX10_ahead 47 = .ok (.iload_n 1, 1) := by decide +kernel
theorem dX10_ahead_48 : decode cX10_ahead 48 = .ok (.invokevirtual 239, 3) := by decide +kernel
theorem dX10_ahead_51 : decode cX10_ahead 51 = .ok (.iload_n 2, 1) := by decide +kernel
theorem dX10_ahead_52 : decode cX10_ahead 52 = .ok (.ifCond .ne 13, 3) := by decide +kernel
theorem dX10_ahead_55 : decode cX10_ahead 55 = .ok (.aload_n 0, 1) := by decide +kernel
theorem dX10_ahead_56 : decode cX10_ahead 56 = .ok (.getfield 47, 3) := by decide +kernel
theorem dX10_ahead_59 : decode cX10_ahead 59 = .ok (.getfield 132, 3) := by decide +kernel
theorem dX10_ahead_62 : decode cX10_ahead 62 = .ok (.iload_n 3, 1) := by decide +kernel
theorem dX10_ahead_63 : decode cX10_ahead 63 = .ok (.iaload, 1) := by decide +kernel
theorem dX10_ahead_64 : decode cX10_ahead 64 = .ok (.ireturn, 1) := by decide +kernel
theorem dX10_ahead_65 : decode cX10_ahead 65 = .ok (.iload_n 2, 1) := by decide +kernel
theorem dX10_ahead_66 : decode cX10_ahead 66 = .ok (.iconst 1, 1) := by decide +kernel
theorem dX10_ahead_67 : decode cX10_ahead 67 = .ok (.if_icmp .ne 13, 3) := by decide +kernel
theorem dX10_ahead_70 : decode cX10_ahead 70 = .ok (.aload_n 0, 1) := by decide +kernel
theorem dX10_ahead_71 : decode cX10_ahead 71 = .ok (.getfield 53, 3) := by decide +kernel
theorem dX10_ahead_74 : decode cX10_ahead 74 = .ok (.getfield 245, 3) := by decide +kernel
theorem dX10_ahead_77 : decode cX10_ahead 77 = .ok (.goto 10, 3) := by decide +kernel
theorem dX10_ahead_80 : decode cX10_ahead 80 = .ok (.aload_n 0, 1) := by decide +kernel
theorem dX10_ahead_81 : decode cX10_ahead 81 = .ok (.getfield 53, 3) := by decide +kernel
theorem dX10_ahead_84 : decode cX10_ahead 84 = .ok (.getfield 248, 3) := by decide +kernel
theorem dX10_ahead_87 : decode cX10_ahead 87 = .ok (.ireturn, 1) := by decide +kernel
theorem dX10_comes_0 : decode cX10_comes 0 = .ok (.aload_n 0, 1) := by decide +kernel
theorem dX10_comes_1 : decode cX10_comes 1 = .ok (.getfield 53, 3) := by decide +kernel
theorem dX10_comes_4 : decode cX10_comes 4 = .ok (.aload_n 0, 1) := by decide +kernel
theorem dX10_comes_5 : decode cX10_comes 5 = .ok (.getfield 22, 3) := by decide +kernel
theorem dX10_comes_8 : decode cX10_comes 8 = .ok (.aload_n 0, 1) := by decide +kernel
theorem dX10_comes_9 : decode cX10_comes 9 = .ok (.getfield 36, 3) := by decide +kernel
theorem dX10_comes_12 : decode cX10_comes 12 = .ok (.invokevirtual 189, 3) := by decide +kernel
theorem dX10_comes_15 : decode cX10_comes 15 = .ok (.aload_n 0, 1) := by decide +kernel
theorem dX10_comes_16 : decode cX10_comes 16 = .ok (.getfield 53, 3) := by decide +kernel
theorem dX10_comes_19 : decode cX10_comes 19 = .ok (.invokevirtual 251, 3) := by decide +kernel
theorem dX10_comes_22 : decode cX10_comes 22 = .ok (.ireturn, 1) := by decide +kernel
theorem dX10_sits_0 : decode cX10_sits 0 = .ok (.aload_n 0, 1) := by decide +kernel
theorem dX10_sits_1 : decode cX10_sits 1 = .ok (.getfield 22, 3) := by decide +kernel
theorem dX10_sits_4 : decode cX10_sits 4 = .ok (.iconst 3, 1) := by decide +kernel
theorem dX10_sits_5 : decode cX10_sits 5 = .ok (.iload_n 1, 1) := by decide +kernel
theorem dX10_sits_6 : decode cX10_sits 6 = .ok (.invokevirtual 121, 3) := by decide +kernel
theorem dX10_sits_9 : decode cX10_sits 9 = .ok (.ifCond .eq 14, 3) := by decide +kernel
theorem dX10_sits_12 : decode cX10_sits 12 = .ok (.aload_n 0, 1) := by decide +kernel
theorem dX10_sits_13 : decode cX10_sits 13 = .ok (.getfield 22, 3) := by decide +kernel
theorem dX10_sits_16 : decode cX10_sits 16 = .ok (.iconst 0, 1) := by decide +kernel
theorem dX10_sits_17 : decode cX10_sits 17 = .ok (.invokevirtual 203, 3) := by decide +kernel
theorem dX10_sits_20 : decode cX10_sits 20 = .ok (.ifCond .ne 5, 3) := by decide +kernel
theorem dX10_sits_23 : decode cX10_sits 23 = .ok (.iconst (-1), 1) := by decide +kernel
theorem dX10_sits_24 : decode cX10_sits 24 = .ok (.ireturn, 1) := by decide +kernel
theorem dX10_sits_25 : decode cX10_sits 25 = .ok (.aload_n 0, 1) := by decide +kernel
theorem dX10_sits_26 : decode cX10_sits 26 = .ok (.getfield 53, 3) := by decide +kernel
theorem dX10_sits_29 : decode cX10_sits 29 = .ok (.aload_n 0, 1) := by decide +kernel
theorem dX10_sits_30 : decode cX10_sits 30 = .ok (.getfield 22, 3) := by decide +kernel
theorem dX10_sits_33 : decode cX10_sits 33 = .ok (.aload_n 0, 1) := by decide +kernel
theorem dX10_sits_34 : decode cX10_sits 34 = .ok (.getfield 36, 3) := by decide +kernel
theorem dX10_sits_37 : decode cX10_sits 37 = .ok (.invokevirtual 189, 3) := by decide +kernel
theorem dX10_sits_40 : decode cX10_sits 40 = .ok (.aload_n 0, 1) := by decide +kernel
theorem dX10_sits_41 : decode cX10_sits 41 = .ok (.getfield 53, 3) := by decide +kernel
theorem dX10_sits_44 : decode cX10_sits 44 = .ok (.iload_n 1, 1) := by decide +kernel
theorem dX10_sits_45 : decode cX10_sits 45 = .ok (.invokevirtual 254, 3) := by decide +kernel
theorem dX10_sits_48 : decode cX10_sits 48 = .ok (.istore_n 2, 1) := by decide +kernel
theorem dX10_sits_49 : decode cX10_sits 49 = .ok (.iload_n 2, 1) := by decide +kernel
theorem dX10_sits_50 : decode cX10_sits 50 = .ok (.ifCond .ge 8, 3) := by decide +kernel
theorem dX10_sits_53 : decode cX10_sits 53 = .ok (.bipush (-2), 2) := by decide +kernel
theorem dX10_sits_55 : decode cX10_sits 55 = .ok (.goto 4, 3) := by decide +kernel
theorem dX10_sits_58 : decode cX10_sits 58 = .ok (.iload_n 2, 1) := by decide +kernel
theorem dX10_sits_59 : decode cX10_sits 59 = .ok (.ireturn, 1) := by decide +kernel
theorem dX10_quiet_0 : decode cX10_quiet 0 = .ok (.aload_n 0, 1) := by decide +kernel
theorem dX10_quiet_1 : decode cX10_quiet 1 = .ok (.invokevirtual 242, 3) := by decide +kernel
theorem dX10_quiet_4 : decode cX10_quiet 4 = .ok (.iconst 0, 1) := by decide +kernel
theorem dX10_quiet_5 : decode cX10_quiet 5 = .ok (.istore_n 1, 1) := by decide +kernel
theorem dX10_quiet_6 : decode cX10_quiet 6 = .ok (.iload_n 1, 1) := by decide +kernel
theorem dX10_quiet_7 : decode cX10_quiet 7 = .ok (.bipush 99, 2) := by decide +kernel
theorem dX10_quiet_9 : decode cX10_quiet 9 = .ok (.if_icmp .gt 54, 3) := by decide +kernel
theorem dX10_quiet_12 : decode cX10_quiet 12 = .ok (.aload_n 0, 1) := by decide +kernel
theorem dX10_quiet_13 : decode cX10_quiet 13 = .ok (.getfield 53, 3) := by decide +kernel
theorem dX10_quiet_16 : decode cX10_quiet 16 = .ok (.getfield 245, 3) := by decide +kernel
theorem dX10_quiet_19 : decode cX10_quiet 19 = .ok (.aload_n 0, 1) := by decide +kernel
theorem dX10_quiet_20 : decode cX10_quiet 20 = .ok (.getfield 53, 3) := by decide +kernel
theorem dX10_quiet_23 : decode cX10_quiet 23 = .ok (.getfield 248, 3) := by decide +kernel
theorem dX10_quiet_26 : decode cX10_quiet 26 = .ok (.iadd, 1) := by decide +kernel
theorem dX10_quiet_27 : decode cX10_quiet 27 = .ok (.istore_n 2, 1) := by decide +kernel
theorem dX10_quiet_28 : decode cX10_quiet 28 = .ok (.aload_n 0, 1) := by decide +kernel
theorem dX10_quiet_29 : decode cX10_quiet 29 = .ok (.getfield 53, 3) := by decide +kernel
theorem dX10_quiet_32 : decode cX10_quiet 32 = .ok (.iconst 1, 1) := by decide +kernel
theorem dX10_quiet_33 : decode cX10_quiet 33 = .ok (.invokevirtual 239, 3) := by decide +kernel
theorem dX10_quiet_36 : decode cX10_quiet 36 = .ok (.aload_n 0, 1) := by decide +kernel
theorem dX10_quiet_37 : decode cX10_quiet 37 = .ok (.getfield 53, 3) := by decide +kernel
theorem dX10_quiet_40 : decode cX10_quiet 40 = .ok (.getfield 245, 3) := by decide +kernel
theorem dX10_quiet_43 : decode cX10_quiet 43 = .ok (.aload_n 0, 1) := by decide +kernel
theorem dX10_quiet_44 : decode cX10_quiet 44 = .ok (.getfield 53, 3) := by decide +kernel
theorem dX10_quiet_47 : decode cX10_quiet 47 = .ok (.getfield 248, 3) := by decide +kernel
theorem dX10_quiet_50 : decode cX10_quiet 50 = .ok (.iadd, 1) := by decide +kernel
theorem dX10_quiet_51 : decode cX10_quiet 51 = .ok (.iload_n 2, 1) := by decide +kernel
theorem dX10_quiet_52 : decode cX10_quiet 52 = .ok (.if_icmp .ne 5, 3) := by decide +kernel
theorem dX10_quiet_55 : decode cX10_quiet 55 = .ok (.iload_n 1, 1) := by decide +kernel
theorem dX10_quiet_56 : decode cX10_quiet 56 = .ok (.ireturn, 1) := by decide +kernel
theorem dX10_quiet_57 : decode cX10_quiet 57 = .ok (.iinc 1 1, 3) := by decide +kernel
theorem dX10_quiet_60 : decode cX10_quiet 60 = .ok (.goto (-54), 3) := by decide +kernel
theorem dX10_quiet_63 : decode cX10_quiet 63 = .ok (.bipush (-2), 2) := by decide +kernel
theorem dX10_quiet_65 : decode cX10_quiet 65 = .ok (.ireturn, 1) := by decide +kernel
theorem dX10_leastMoved_0 : decode cX10_leastMoved 0 = .ok (.aload_n 0, 1) := by decide +kernel
theorem dX10_leastMoved_1 : decode cX10_leastMoved 1 = .ok (.getfield 22, 3) := by decide +kernel
theorem dX10_leastMoved_4 : decode cX10_leastMoved 4 = .ok (.iconst 2, 1) := by decide +kernel
theorem dX10_leastMoved_5 : decode cX10_leastMoved 5 = .ok (.iload_n 1, 1) := by decide +kernel
theorem dX10_leastMoved_6 : decode cX10_leastMoved 6 = .ok (.invokevirtual 121, 3) := by decide +kernel
theorem dX10_leastMoved_9 : decode cX10_leastMoved 9 = .ok (.ifCond .eq 23, 3) := by decide +kernel
theorem dX10_leastMoved_12 : decode cX10_leastMoved 12 = .ok (.iload_n 2, 1) := by decide +kernel
theorem dX10_leastMoved_13 : decode cX10_leastMoved 13 = .ok (.iconst 1, 1) := by decide +kernel
theorem dX10_leastMoved_14 : decode cX10_leastMoved 14 = .ok (.if_icmp .lt 18, 3) := by decide +kernel
theorem dX10_leastMoved_17 : decode cX10_leastMoved 17 = .ok (.iload_n 2, 1) := by decide +kernel
theorem dX10_leastMoved_18 : decode cX10_leastMoved 18 = .ok (.bipush 60, 2) := by decide +kernel
theorem dX10_leastMoved_20 : decode cX10_leastMoved 20 = .ok (.if_icmp .gt 12, 3) := by decide +kernel
theorem dX10_leastMoved_23 : decode cX10_leastMoved 23 = .ok (.iload_n 3, 1) := by decide +kernel
theorem dX10_leastMoved_24 : decode cX10_leastMoved 24 = .ok (.ifCond .lt 8, 3) := by decide +kernel
theorem dX10_leastMoved_27 : decode cX10_leastMoved 27 = .ok (.iload_n 3, 1) := by decide +kernel
theorem dX10_leastMoved_28 : decode cX10_leastMoved 28 = .ok (.iconst 1, 1) := by decide +kernel
theorem dX10_leastMoved_29 : decode cX10_leastMoved 29 = .ok (.if_icmp .le 5, 3) := by decide +kernel
theorem dX10_leastMoved_32 : decode cX10_leastMoved 32 = .ok (.iconst (-1), 1) := by decide +kernel
theorem dX10_leastMoved_33 : decode cX10_leastMoved 33 = .ok (.ireturn, 1) := by decide +kernel
theorem dX10_leastMoved_34 : decode cX10_leastMoved 34 = .ok (.iconst (-1), 1) := by decide +kernel
theorem dX10_leastMoved_35 : decode cX10_leastMoved 35 = .ok (.istore 4, 2) := by decide +kernel
theorem dX10_leastMoved_37 : decode cX10_leastMoved 37 = .ok (.iconst 0, 1) := by decide +kernel
theorem dX10_leastMoved_38 : decode cX10_leastMoved 38 = .ok (.istore 5, 2) := by decide +kernel
theorem dX10_leastMoved_40 : decode cX10_leastMoved 40 = .ok (.iconst 0, 1) := by decide +kernel
theorem dX10_leastMoved_41 : decode cX10_leastMoved 41 = .ok (.istore 6, 2) := by decide +kernel
theorem dX10_leastMoved_43 : decode cX10_leastMoved 43 = .ok (.iload 6, 2) := by decide +kernel
theorem dX10_leastMoved_45 : decode cX10_leastMoved 45 = .ok (.aload_n 0, 1) := by decide +kernel
theorem dX10_leastMoved_46 : decode cX10_leastMoved 46 = .ok (.getfield 22, 3) := by decide +kernel
theorem dX10_leastMoved_49 : decode cX10_leastMoved 49 = .ok (.iconst 0, 1) := by decide +kernel
theorem dX10_leastMoved_50 : decode cX10_leastMoved 50 = .ok (.invokevirtual 203, 3) := by decide +kernel
theorem dX10_leastMoved_53 : decode cX10_leastMoved 53 = .ok (.if_icmp .ge 70, 3) := by decide +kernel
theorem dX10_leastMoved_56 : decode cX10_leastMoved 56 = .ok (.aload_n 0, 1) := by decide +kernel
theorem dX10_leastMoved_57 : decode cX10_leastMoved 57 = .ok (.invokevirtual 242, 3) := by decide +kernel
theorem dX10_leastMoved_60 : decode cX10_leastMoved 60 = .ok (.aload_n 0, 1) := by decide +kernel
theorem dX10_leastMoved_61 : decode cX10_leastMoved 61 = .ok (.getfield 47, 3) := by decide +kernel
theorem dX10_leastMoved_64 : decode cX10_leastMoved 64 = .ok (.getfield 132, 3) := by decide +kernel
theorem dX10_leastMoved_67 : decode cX10_leastMoved 67 = .ok (.iload_n 1, 1) := by decide +kernel
theorem dX10_leastMoved_68 : decode cX10_leastMoved 68 = .ok (.iload 6, 2) := by decide +kernel
theorem dX10_leastMoved_70 : decode cX10_leastMoved 70 = .ok (.iastore, 1) := by decide +kernel
theorem dX10_leastMoved_71 : decode cX10_leastMoved 71 = .ok (.aload_n 0, 1) := by decide +kernel
theorem dX10_leastMoved_72 : decode cX10_leastMoved 72 = .ok (.getfield 53, 3) := by decide +kernel
theorem dX10_leastMoved_75 : decode cX10_leastMoved 75 = .ok (.iload_n 2, 1) := by decide +kernel
theorem dX10_leastMoved_76 : decode cX10_leastMoved 76 = .ok (.invokevirtual 239, 3) := by decide +kernel
theorem dX10_leastMoved_79 : decode cX10_leastMoved 79 = .ok (.aload_n 0, 1) := by decide +kernel
theorem dX10_leastMoved_80 : decode cX10_leastMoved 80 = .ok (.getfield 53, 3) := by decide +kernel
theorem dX10_leastMoved_83 : decode cX10_leastMoved 83 = .ok (.getfield 245, 3) := by decide +kernel
theorem dX10_leastMoved_86 : decode cX10_leastMoved 86 = .ok (.aload_n 0, 1) := by decide +kernel
theorem dX10_leastMoved_87 : decode cX10_leastMoved 87 = .ok (.getfield 53, 3) := by decide +kernel
theorem dX10_leastMoved_90 : decode cX10_leastMoved 90 = .ok (.getfield 248, 3) := by decide +kernel
theorem dX10_leastMoved_93 : decode cX10_leastMoved 93 = .ok (.iadd, 1) := by decide +kernel
theorem dX10_leastMoved_94 : decode cX10_leastMoved 94 = .ok (.istore 7, 2) := by decide +kernel
theorem dX10_leastMoved_96 : decode cX10_leastMoved 96 = .ok (.iload 4, 2) := by decide +kernel
theorem dX10_leastMoved_98 : decode cX10_leastMoved 98 = .ok (.iconst (-1), 1) := by decide +kernel
theorem dX10_leastMoved_99 : decode cX10_leastMoved 99 = .ok (.if_icmp .eq 10, 3) := by decide +kernel
theorem dX10_leastMoved_102 : decode cX10_leastMoved 102 = .ok (.iload 7, 2) := by decide +kernel
theorem dX10_leastMoved_104 : decode cX10_leastMoved 104 = .ok (.iload 5, 2) := by decide +kernel
theorem dX10_leastMoved_106 : decode cX10_leastMoved 106 = .ok (.if_icmp .ge 11, 3) := by decide +kernel
theorem dX10_leastMoved_109 : decode cX10_leastMoved 109 = .ok (.iload 6, 2) := by decide +kernel
theorem dX10_leastMoved_111 : decode cX10_leastMoved 111 = .ok (.istore 4, 2) := by decide +kernel
theorem dX10_leastMoved_113 : decode cX10_leastMoved 113 = .ok (.iload 7, 2) := by decide +kernel
theorem dX10_leastMoved_115 : decode cX10_leastMoved 115 = .ok (.istore 5, 2) := by decide +kernel
theorem dX10_leastMoved_117 : decode cX10_leastMoved 117 = .ok (.iinc 6 1, 3) := by decide +kernel
theorem dX10_leastMoved_120 : decode cX10_leastMoved 120 = .ok (.goto (-77), 3) := by decide +kernel
theorem dX10_leastMoved_123 : decode cX10_leastMoved 123 = .ok (.iload_n 3, 1) := by decide +kernel
theorem dX10_leastMoved_124 : decode cX10_leastMoved 124 = .ok (.ifCond .ne 8, 3) := by decide +kernel
theorem dX10_leastMoved_127 : decode cX10_leastMoved 127 = .ok (.iload 4, 2) := by decide +kernel
theorem dX10_leastMoved_129 : decode cX10_leastMoved 129 = .ok (.goto 5, 3) := by decide +kernel
theorem dX10_leastMoved_132 : decode cX10_leastMoved 132 = .ok (.iload 5, 2) := by decide +kernel
theorem dX10_leastMoved_134 : decode cX10_leastMoved 134 = .ok (.ireturn, 1) := by decide +kernel
theorem dX10_tickets_0 : decode cX10_tickets 0 = .ok (.iload_n 1, 1) := by decide +kernel
theorem dX10_tickets_1 : decode cX10_tickets 1 = .ok (.iconst 1, 1) := by decide +kernel
theorem dX10_tickets_2 : decode cX10_tickets 2 = .ok (.if_icmp .lt 9, 3) := by decide +kernel
theorem dX10_tickets_5 : decode cX10_tickets 5 = .ok (.iload_n 1, 1) := by decide +kernel
theorem dX10_tickets_6 : decode cX10_tickets 6 = .ok (.bipush 99, 2) := by decide +kernel
theorem dX10_tickets_8 : decode cX10_tickets 8 = .ok (.if_icmp .le 5, 3) := by decide +kernel
theorem dX10_tickets_11 : decode cX10_tickets 11 = .ok (.iconst (-1), 1) := by decide +kernel
theorem dX10_tickets_12 : decode cX10_tickets 12 = .ok (.ireturn, 1) := by decide +kernel
theorem dX10_tickets_13 : decode cX10_tickets 13 = .ok (.aload_n 0, 1) := by decide +kernel
theorem dX10_tickets_14 : decode cX10_tickets 14 = .ok (.invokevirtual 242, 3) := by decide +kernel
theorem dX10_tickets_17 : decode cX10_tickets 17 = .ok (.iconst 0, 1) := by decide +kernel
theorem dX10_tickets_18 : decode cX10_tickets 18 = .ok (.istore_n 2, 1) := by decide +kernel
theorem dX10_tickets_19 : decode cX10_tickets 19 = .ok (.iconst 0, 1) := by decide +kernel
theorem dX10_tickets_20 : decode cX10_tickets 20 = .ok (.istore_n 3, 1) := by decide +kernel
theorem dX10_tickets_21 : decode cX10_tickets 21 = .ok (.iload_n 3, 1) := by decide +kernel
theorem dX10_tickets_22 : decode cX10_tickets 22 = .ok (.iload_n 1, 1) := by decide +kernel
theorem dX10_tickets_23 : decode cX10_tickets 23 = .ok (.if_icmp .ge 44, 3) := by decide +kernel
theorem dX10_tickets_26 : decode cX10_tickets 26 = .ok (.aload_n 0, 1) := by decide +kernel
theorem dX10_tickets_27 : decode cX10_tickets 27 = .ok (.getfield 53, 3) := by decide +kernel
theorem dX10_tickets_30 : decode cX10_tickets 30 = .ok (.invokevirtual 257, 3) := by decide +kernel
theorem dX10_tickets_33 : decode cX10_tickets 33 = .ok (.iload_n 2, 1) := by decide +kernel
theorem dX10_tickets_34 : decode cX10_tickets 34 = .ok (.aload_n 0, 1) := by decide +kernel
theorem dX10_tickets_35 : decode cX10_tickets 35 = .ok (.getfield 53, 3) := by decide +kernel
theorem dX10_tickets_38 : decode cX10_tickets 38 = .ok (.invokevirtual 251, 3) := by decide +kernel
theorem dX10_tickets_41 : decode cX10_tickets 41 = .ok (.invokestatic 163, 3) := by decide +kernel
theorem dX10_tickets_44 : decode cX10_tickets 44 = .ok (.invokestatic 260, 3) := by decide +kernel
theorem dX10_tickets_47 : decode cX10_tickets 47 = .ok (.istore_n 2, 1) := by decide +kernel
theorem dX10_tickets_48 : decode cX10_tickets 48 = .ok (.aload_n 0, 1) := by decide +kernel
theorem dX10_tickets_49 : decode cX10_tickets 49 = .ok (.getfield 47, 3) := by decide +kernel
theorem dX10_tickets_52 : decode cX10_tickets 52 = .ok (.dup, 1) := by decide +kernel
theorem dX10_tickets_53 : decode cX10_tickets 53 = .ok (.getfield 209, 3) := by decide +kernel
theorem dX10_tickets_56 : decode cX10_tickets 56 = .ok (.iconst 1, 1) := by decide +kernel
theorem dX10_tickets_57 : decode cX10_tickets 57 = .ok (.iadd, 1) := by decide +kernel
theorem dX10_tickets_58 : decode cX10_tickets 58 = .ok (.putfield 209, 3) := by decide +kernel
theorem dX10_tickets_61 : decode cX10_tickets 61 = .ok (.iinc 3 1, 3) := by decide +kernel
theorem dX10_tickets_64 : decode cX10_tickets 64 = .ok (.goto (-43), 3) := by decide +kernel
theorem dX10_tickets_67 : decode cX10_tickets 67 = .ok (.iload_n 2, 1) := by decide +kernel
theorem dX10_tickets_68 : decode cX10_tickets 68 = .ok (.ireturn, 1) := by decide +kernel
theorem dX10_chance_0 : decode cX10_chance 0 = .ok (.iload_n 1, 1) := by decide +kernel
theorem dX10_chance_1 : decode cX10_chance 1 = .ok (.ifCond .lt 14, 3) := by decide +kernel
theorem dX10_chance_4 : decode cX10_chance 4 = .ok (.iload_n 2, 1) := by decide +kernel
theorem dX10_chance_5 : decode cX10_chance 5 = .ok (.iconst 1, 1) := by decide +kernel
theorem dX10_chance_6 : decode cX10_chance 6 = .ok (.if_icmp .lt 9, 3) := by decide +kernel
theorem dX10_chance_9 : decode cX10_chance 9 = .ok (.iload_n 2, 1) := by decide +kernel
theorem dX10_chance_10 : decode cX10_chance 10 = .ok (.bipush 60, 2) := by decide +kernel
theorem dX10_chance_12 : decode cX10_chance 12 = .ok (.if_icmp .le 5, 3) := by decide +kernel
theorem dX10_chance_15 : decode cX10_chance 15 = .ok (.iconst (-1), 1) := by decide +kernel
theorem dX10_chance_16 : decode cX10_chance 16 = .ok (.ireturn, 1) := by decide +kernel
theorem dX10_chance_17 : decode cX10_chance 17 = .ok (.aload_n 0, 1) := by decide +kernel
theorem dX10_chance_18 : decode cX10_chance 18 = .ok (.getfield 22, 3) := by decide +kernel
theorem dX10_chance_21 : decode cX10_chance 21 = .ok (.iconst 2, 1) := by decide +kernel
theorem dX10_chance_22 : decode cX10_chance 22 = .ok (.iload_n 3, 1) := by decide +kernel
theorem dX10_chance_23 : decode cX10_chance 23 = .ok (.invokevirtual 121, 3) := by decide +kernel
theorem dX10_chance_26 : decode cX10_chance 26 = .ok (.ifCond .eq 16, 3) := by decide +kernel
theorem dX10_chance_29 : decode cX10_chance 29 = .ok (.aload_n 0, 1) := by decide +kernel
theorem dX10_chance_30 : decode cX10_chance 30 = .ok (.getfield 22, 3) := by decide +kernel
theorem dX10_chance_33 : decode cX10_chance 33 = .ok (.iconst 0, 1) := by decide +kernel
theorem dX10_chance_34 : decode cX10_chance 34 = .ok (.iload 4, 2) := by decide +kernel
theorem dX10_chance_36 : decode cX10_chance 36 = .ok (.invokevirtual 121, 3) := by decide +kernel
theorem dX10_chance_39 : decode cX10_chance 39 = .ok (.ifCond .ne 5, 3) := by decide +kernel
theorem dX10_chance_42 : decode cX10_chance 42 = .ok (.iconst (-1), 1) := by decide +kernel
theorem dX10_chance_43 : decode cX10_chance 43 = .ok (.ireturn, 1) := by decide +kernel
theorem dX10_chance_44 : decode cX10_chance 44 = .ok (.iconst 0, 1) := by decide +kernel
theorem dX10_chance_45 : decode cX10_chance 45 = .ok (.istore 5, 2) := by decide +kernel
theorem dX10_chance_47 : decode cX10_chance 47 = .ok (.iload_n 1, 1) := by decide +kernel
theorem dX10_chance_48 : decode cX10_chance 48 = .ok (.i2l, 1) := by decide +kernel
theorem dX10_chance_49 : decode cX10_chance 49 = .ok (.lstore 6, 2) := by decide +kernel
theorem dX10_chance_51 : decode cX10_chance 51 = .ok (.iconst 0, 1) := by decide +kernel
theorem dX10_chance_52 : decode cX10_chance 52 = .ok (.istore 8, 2) := by decide +kernel
theorem dX10_chance_54 : decode cX10_chance 54 = .ok (.iload 8, 2) := by decide +kernel
theorem dX10_chance_56 : decode cX10_chance 56 = .ok (.bipush 10, 2) := by decide +kernel
theorem dX10_chance_58 : decode cX10_chance 58 = .ok (.if_icmp .ge 56, 3) := by decide +kernel
theorem dX10_chance_61 : decode cX10_chance 61 = .ok (.aload_n 0, 1) := by decide +kernel
theorem dX10_chance_62 : decode cX10_chance 62 = .ok (.invokevirtual 242, 3) := by decide +kernel
theorem dX10_chance_65 : decode cX10_chance 65 = .ok (.aload_n 0, 1) := by decide +kernel
theorem dX10_chance_66 : decode cX10_chance 66 = .ok (.getfield 53, 3) := by decide +kernel
theorem dX10_chance_69 : decode cX10_chance 69 = .ok (.lload 6, 2) := by decide +kernel
theorem dX10_chance_71 : decode cX10_chance 71 = .ok (.invokevirtual 265, 3) := by decide +kernel
theorem dX10_chance_74 : decode cX10_chance 74 = .ok (.aload_n 0, 1) := by decide +kernel
theorem dX10_chance_75 : decode cX10_chance 75 = .ok (.getfield 53, 3) := by decide +kernel
theorem dX10_chance_78 : decode cX10_chance 78 = .ok (.iload_n 2, 1) := by decide +kernel
theorem dX10_chance_79 : decode cX10_chance 79 = .ok (.invokevirtual 239, 3) := by decide +kernel
theorem dX10_chance_82 : decode cX10_chance 82 = .ok (.aload_n 0, 1) := by decide +kernel
theorem dX10_chance_83 : decode cX10_chance 83 = .ok (.getfield 53, 3) := by decide +kernel
theorem dX10_chance_86 : decode cX10_chance 86 = .ok (.getfield 269, 3) := by decide +kernel
theorem dX10_chance_89 : decode cX10_chance 89 = .ok (.lstore 6, 2) := by decide +kernel
theorem dX10_chance_91 : decode cX10_chance 91 = .ok (.aload_n 0, 1) := by decide +kernel
theorem dX10_chance_92 : decode cX10_chance 92 = .ok (.getfield 47, 3) := by decide +kernel
theorem dX10_chance_95 : decode cX10_chance 95 = .ok (.getfield 132, 3) := by decide +kernel
theorem dX10_chance_98 : decode cX10_chance 98 = .ok (.iload_n 3, 1) := by decide +kernel
theorem dX10_chance_99 : decode cX10_chance 99 = .ok (.iaload, 1) := by decide +kernel
theorem dX10_chance_100 : decode cX10_chance 100 = .ok (.iload 4, 2) := by decide +kernel
theorem dX10_chance_102 : decode cX10_chance 102 = .ok (.if_icmp .ne 6, 3) := by decide +kernel
theorem dX10_chance_105 : decode cX10_chance 105 = .ok (.iinc 5 1, 3) := by decide +kernel
theorem dX10_chance_108 : decode cX10_chance 108 = .ok (.iinc 8 1, 3) := by decide +kernel
theorem dX10_chance_111 : decode cX10_chance 111 = .ok (.goto (-57), 3) := by decide +kernel
theorem dX10_chance_114 : decode cX10_chance 114 = .ok (.iload 5, 2) := by decide +kernel
theorem dX10_chance_116 : decode cX10_chance 116 = .ok (.ireturn, 1) := by decide +kernel
theorem dX10_tried_0 : decode cX10_tried 0 = .ok (.iload_n 1, 1) := by decide +kernel
theorem dX10_tried_1 : decode cX10_tried 1 = .ok (.ifCond .lt 18, 3) := by decide +kernel
theorem dX10_tried_4 : decode cX10_tried 4 = .ok (.iload_n 1, 1) := by decide +kernel
theorem dX10_tried_5 : decode cX10_tried 5 = .ok (.iconst 5, 1) := by decide +kernel
theorem dX10_tried_6 : decode cX10_tried 6 = .ok (.if_icmp .gt 13, 3) := by decide +kernel
theorem dX10_tried_9 : decode cX10_tried 9 = .ok (.iload_n 3, 1) := by decide +kernel
theorem dX10_tried_10 : decode cX10_tried 10 = .ok (.ifCond .lt 9, 3) := by decide +kernel
theorem dX10_tried_13 : decode cX10_tried 13 = .ok (.iload_n 3, 1) := by decide +kernel
theorem dX10_tried_14 : decode cX10_tried 14 = .ok (.bipush 60, 2) := by decide +kernel
theorem dX10_tried_16 : decode cX10_tried 16 = .ok (.if_icmp .le 5, 3) := by decide +kernel
theorem dX10_tried_19 : decode cX10_tried 19 = .ok (.iconst (-1), 1) := by decide +kernel
theorem dX10_tried_20 : decode cX10_tried 20 = .ok (.ireturn, 1) := by decide +kernel
theorem dX10_tried_21 : decode cX10_tried 21 = .ok (.iload_n 1, 1) := by decide +kernel
theorem dX10_tried_22 : decode cX10_tried 22 = .ok (.iconst 2, 1) := by decide +kernel
theorem dX10_tried_23 : decode cX10_tried 23 = .ok (.if_icmp .ne 15, 3) := by decide +kernel
theorem dX10_tried_26 : decode cX10_tried 26 = .ok (.aload_n 0, 1) := by decide +kernel
theorem dX10_tried_27 : decode cX10_tried 27 = .ok (.getfield 22, 3) := by decide +kernel
theorem dX10_tried_30 : decode cX10_tried 30 = .ok (.iconst 3, 1) := by decide +kernel
theorem dX10_tried_31 : decode cX10_tried 31 = .ok (.iload_n 2, 1) := by decide +kernel
theorem dX10_tried_32 : decode cX10_tried 32 = .ok (.invokevirtual 121, 3) := by decide +kernel
theorem dX10_tried_35 : decode cX10_tried 35 = .ok (.goto 29, 3) := by decide +kernel
theorem dX10_tried_38 : decode cX10_tried 38 = .ok (.iload_n 1, 1) := by decide +kernel
theorem dX10_tried_39 : decode cX10_tried 39 = .ok (.iconst 5, 1) := by decide +kernel
theorem dX10_tried_40 : decode cX10_tried 40 = .ok (.if_icmp .ne 15, 3) := by decide +kernel
theorem dX10_tried_43 : decode cX10_tried 43 = .ok (.aload_n 0, 1) := by decide +kernel
theorem dX10_tried_44 : decode cX10_tried 44 = .ok (.getfield 22, 3) := by decide +kernel
theorem dX10_tried_47 : decode cX10_tried 47 = .ok (.iconst 2, 1) := by decide +kernel
theorem dX10_tried_48 : decode cX10_tried 48 = .ok (.iload_n 2, 1) := by decide +kernel
theorem dX10_tried_49 : decode cX10_tried 49 = .ok (.invokevirtual 121, 3) := by decide +kernel
theorem dX10_tried_52 : decode cX10_tried 52 = .ok (.goto 12, 3) := by decide +kernel
theorem dX10_tried_55 : decode cX10_tried 55 = .ok (.iload_n 2, 1) := by decide +kernel
theorem dX10_tried_56 : decode cX10_tried 56 = .ok (.ifCond .ne 7, 3) := by decide +kernel
theorem dX10_tried_59 : decode cX10_tried 59 = .ok (.iconst 1, 1) := by decide +kernel
theorem dX10_tried_60 : decode cX10_tried 60 = .ok (.goto 4, 3) := by decide +kernel
theorem dX10_tried_63 : decode cX10_tried 63 = .ok (.iconst 0, 1) := by decide +kernel
theorem dX10_tried_64 : decode cX10_tried 64 = .ok (.istore 4, 2) := by decide +kernel
theorem dX10_tried_66 : decode cX10_tried 66 = .ok (.iload 4, 2) := by decide +kernel
theorem dX10_tried_68 : decode cX10_tried 68 = .ok (.ifCond .ne 5, 3) := by decide +kernel
theorem dX10_tried_71 : decode cX10_tried 71 = .ok (.iconst (-1), 1) := by decide +kernel
theorem dX10_tried_72 : decode cX10_tried 72 = .ok (.ireturn, 1) := by decide +kernel
theorem dX10_tried_73 : decode cX10_tried 73 = .ok (.iload_n 1, 1) := by decide +kernel
theorem dX10_tried_74 : decode cX10_tried 74 = .ok (.iconst 4, 1) := by decide +kernel
theorem dX10_tried_75 : decode cX10_tried 75 = .ok (.if_icmp .ne 5, 3) := by decide +kernel
theorem dX10_tried_78 : decode cX10_tried 78 = .ok (.iconst 0, 1) := by decide +kernel
theorem dX10_tried_79 : decode cX10_tried 79 = .ok (.ireturn, 1) := by decide +kernel
theorem dX10_tried_80 : decode cX10_tried 80 = .ok (.aload_n 0, 1) := by decide +kernel
theorem dX10_tried_81 : decode cX10_tried 81 = .ok (.invokevirtual 242, 3) := by decide +kernel
theorem dX10_tried_84 : decode cX10_tried 84 = .ok (.iload_n 1, 1) := by decide +kernel
theorem dX10_tried_85 : decode cX10_tried 85 = .ok (.iconst 1, 1) := by decide +kernel
theorem dX10_tried_86 : decode cX10_tried 86 = .ok (.if_icmp .ne 11, 3) := by decide +kernel
theorem dX10_tried_89 : decode cX10_tried 89 = .ok (.aload_n 0, 1) := by decide +kernel
theorem dX10_tried_90 : decode cX10_tried 90 = .ok (.getfield 47, 3) := by decide +kernel
theorem dX10_tried_93 : decode cX10_tried 93 = .ok (.iconst 0, 1) := by decide +kernel
theorem dX10_tried_94 : decode cX10_tried 94 = .ok (.putfield 273, 3) := by decide +kernel
theorem dX10_tried_97 : decode cX10_tried 97 = .ok (.iload_n 1, 1) := by decide +kernel
theorem dX10_tried_98 : decode cX10_tried 98 = .ok (.iconst 2, 1) := by decide +kernel
theorem dX10_tried_99 : decode cX10_tried 99 = .ok (.if_icmp .ne 11, 3) := by decide +kernel
theorem dX10_tried_102 : decode cX10_tried 102 = .ok (.aload_n 0, 1) := by decide +kernel
theorem dX10_tried_103 : decode cX10_tried 103 = .ok (.getfield 53, 3) := by decide +kernel
theorem dX10_tried_106 : decode cX10_tried 106 = .ok (.iload_n 2, 1) := by decide +kernel
theorem dX10_tried_107 : decode cX10_tried 107 = .ok (.putfield 276, 3) := by decide +kernel
theorem dX10_tried_110 : decode cX10_tried 110 = .ok (.iload_n 1, 1) := by decide +kernel
theorem dX10_tried_111 : decode cX10_tried 111 = .ok (.iconst 3, 1) := by decide +kernel
theorem dX10_tried_112 : decode cX10_tried 112 = .ok (.if_icmp .ne 11, 3) := by decide +kernel
theorem dX10_tried_115 : decode cX10_tried 115 = .ok (.aload_n 0, 1) := by decide +kernel
theorem dX10_tried_116 : decode cX10_tried 116 = .ok (.getfield 53, 3) := by decide +kernel
theorem dX10_tried_119 : decode cX10_tried 119 = .ok (.iconst 1, 1) := by decide +kernel
theorem dX10_tried_120 : decode cX10_tried 120 = .ok (.putfield 279, 3) := by decide +kernel
theorem dX10_tried_123 : decode cX10_tried 123 = .ok (.iload_n 1, 1) := by decide +kernel
theorem dX10_tried_124 : decode cX10_tried 124 = .ok (.iconst 5, 1) := by decide +kernel
theorem dX10_tried_125 : decode cX10_tried 125 = .ok (.if_icmp .ne 13, 3) := by decide +kernel
theorem dX10_tried_128 : decode cX10_tried 128 = .ok (.aload_n 0, 1) := by decide +kernel
theorem dX10_tried_129 : decode cX10_tried 129 = .ok (.getfield 47, 3) := by decide +kernel
theorem dX10_tried_132 : decode cX10_tried 132 = .ok (.getfield 132, 3) := by decide +kernel
theorem dX10_tried_135 : decode cX10_tried 135 = .ok (.iload_n 2, 1) := by decide +kernel
theorem dX10_tried_136 : decode cX10_tried 136 = .ok (.iconst (-1), 1) := by decide +kernel
theorem dX10_tried_137 : decode cX10_tried 137 = .ok (.iastore, 1) := by decide +kernel
theorem dX10_tried_138 : decode cX10_tried 138 = .ok (.aload_n 0, 1) := by decide +kernel
theorem dX10_tried_139 : decode cX10_tried 139 = .ok (.getfield 53, 3) := by decide +kernel
theorem dX10_tried_142 : decode cX10_tried 142 = .ok (.iload_n 3, 1) := by decide +kernel
theorem dX10_tried_143 : decode cX10_tried 143 = .ok (.invokevirtual 239, 3) := by decide +kernel
theorem dX10_tried_146 : decode cX10_tried 146 = .ok (.aload_n 0, 1) := by decide +kernel
theorem dX10_tried_147 : decode cX10_tried 147 = .ok (.getfield 53, 3) := by decide +kernel
theorem dX10_tried_150 : decode cX10_tried 150 = .ok (.getfield 245, 3) := by decide +kernel
theorem dX10_tried_153 : decode cX10_tried 153 = .ok (.aload_n 0, 1) := by decide +kernel
theorem dX10_tried_154 : decode cX10_tried 154 = .ok (.getfield 53, 3) := by decide +kernel
theorem dX10_tried_157 : decode cX10_tried 157 = .ok (.getfield 248, 3) := by decide +kernel
theorem dX10_tried_160 : decode cX10_tried 160 = .ok (.iadd, 1) := by decide +kernel
theorem dX10_tried_161 : decode cX10_tried 161 = .ok (.ireturn, 1) := by decide +kernel
theorem dX10_hanging_0 : decode cX10_hanging 0 = .ok (.iload_n 1, 1) := by decide +kernel
theorem dX10_hanging_1 : decode cX10_hanging 1 = .ok (.ifCond .lt 19, 3) := by decide +kernel
theorem dX10_hanging_4 : decode cX10_hanging 4 = .ok (.iload_n 1, 1) := by decide +kernel
theorem dX10_hanging_5 : decode cX10_hanging 5 = .ok (.iconst 4, 1) := by decide +kernel
theorem dX10_hanging_6 : decode cX10_hanging 6 = .ok (.if_icmp .gt 14, 3) := by decide +kernel
theorem dX10_hanging_9 : decode cX10_hanging 9 = .ok (.aload_n 0, 1) := by decide +kernel
theorem dX10_hanging_10 : decode cX10_hanging 10 = .ok (.getfield 22, 3) := by decide +kernel
theorem dX10_hanging_13 : decode cX10_hanging 13 = .ok (.iconst 0, 1) := by decide +kernel
theorem dX10_hanging_14 : decode cX10_hanging 14 = .ok (.invokevirtual 203, 3) := by decide +kernel
theorem dX10_hanging_17 : decode cX10_hanging 17 = .ok (.ifCond .ne 5, 3) := by decide +kernel
theorem dX10_hanging_20 : decode cX10_hanging 20 = .ok (.iconst (-1), 1) := by decide +kernel
theorem dX10_hanging_21 : decode cX10_hanging 21 = .ok (.ireturn, 1) := by decide +kernel
theorem dX10_hanging_22 : decode cX10_hanging 22 = .ok (.iload_n 1, 1) := by decide +kernel
theorem dX10_hanging_23 : decode cX10_hanging 23 = .ok (.iconst 4, 1) := by decide +kernel
theorem dX10_hanging_24 : decode cX10_hanging 24 = .ok (.if_icmp .ge 18, 3) := by decide +kernel
theorem dX10_hanging_27 : decode cX10_hanging 27 = .ok (.aload_n 0, 1) := by decide +kernel
theorem dX10_hanging_28 : decode cX10_hanging 28 = .ok (.getfield 22, 3) := by decide +kernel
theorem dX10_hanging_31 : decode cX10_hanging 31 = .ok (.iconst 2, 1) := by decide +kernel
theorem dX10_hanging_32 : decode cX10_hanging 32 = .ok (.iload_n 1, 1) := by decide +kernel
theorem dX10_hanging_33 : decode cX10_hanging 33 = .ok (.invokevirtual 121, 3) := by decide +kernel
theorem dX10_hanging_36 : decode cX10_hanging 36 = .ok (.ifCond .ne 6, 3) := by decide +kernel
theorem dX10_hanging_39 : decode cX10_hanging 39 = .ok (.bipush (-2), 2) := by decide +kernel
theorem dX10_hanging_41 : decode cX10_hanging 41 = .ok (.ireturn, 1) := by decide +kernel
theorem dX10_hanging_42 : decode cX10_hanging 42 = .ok (.aload_n 0, 1) := by decide +kernel
theorem dX10_hanging_43 : decode cX10_hanging 43 = .ok (.getfield 53, 3) := by decide +kernel
theorem dX10_hanging_46 : decode cX10_hanging 46 = .ok (.aload_n 0, 1) := by decide +kernel
theorem dX10_hanging_47 : decode cX10_hanging 47 = .ok (.getfield 22, 3) := by decide +kernel
theorem dX10_hanging_50 : decode cX10_hanging 50 = .ok (.aload_n 0, 1) := by decide +kernel
theorem dX10_hanging_51 : decode cX10_hanging 51 = .ok (.getfield 36, 3) := by decide +kernel
theorem dX10_hanging_54 : decode cX10_hanging 54 = .ok (.invokevirtual 189, 3) := by decide +kernel
theorem dX10_hanging_57 : decode cX10_hanging 57 = .ok (.aload_n 0, 1) := by decide +kernel
theorem dX10_hanging_58 : decode cX10_hanging 58 = .ok (.getfield 74, 3) := by decide +kernel
theorem dX10_hanging_61 : decode cX10_hanging 61 = .ok (.aload_n 0, 1) := by decide +kernel
theorem dX10_hanging_62 : decode cX10_hanging 62 = .ok (.getfield 22, 3) := by decide +kernel
theorem dX10_hanging_65 : decode cX10_hanging 65 = .ok (.aload_n 0, 1) := by decide +kernel
theorem dX10_hanging_66 : decode cX10_hanging 66 = .ok (.getfield 36, 3) := by decide +kernel
theorem dX10_hanging_69 : decode cX10_hanging 69 = .ok (.aload_n 0, 1) := by decide +kernel
theorem dX10_hanging_70 : decode cX10_hanging 70 = .ok (.getfield 53, 3) := by decide +kernel
theorem dX10_hanging_73 : decode cX10_hanging 73 = .ok (.invokevirtual 282, 3) := by decide +kernel
theorem dX10_hanging_76 : decode cX10_hanging 76 = .ok (.iload_n 1, 1) := by decide +kernel
theorem dX10_hanging_77 : decode cX10_hanging 77 = .ok (.iconst 4, 1) := by decide +kernel
theorem dX10_hanging_78 : decode cX10_hanging 78 = .ok (.if_icmp .ne 13, 3) := by decide +kernel
theorem dX10_hanging_81 : decode cX10_hanging 81 = .ok (.aload_n 0, 1) := by decide +kernel
theorem dX10_hanging_82 : decode cX10_hanging 82 = .ok (.getfield 74, 3) := by decide +kernel
theorem dX10_hanging_85 : decode cX10_hanging 85 = .ok (.getfield 286, 3) := by decide +kernel
theorem dX10_hanging_88 : decode cX10_hanging 88 = .ok (.goto 12, 3) := by decide +kernel
theorem dX10_hanging_91 : decode cX10_hanging 91 = .ok (.aload_n 0, 1) := by decide +kernel
theorem dX10_hanging_92 : decode cX10_hanging 92 = .ok (.getfield 74, 3) := by decide +kernel
theorem dX10_hanging_95 : decode cX10_hanging 95 = .ok (.getfield 289, 3) := by decide +kernel
theorem dX10_hanging_98 : decode cX10_hanging 98 = .ok (.iload_n 1, 1) := by decide +kernel
theorem dX10_hanging_99 : decode cX10_hanging 99 = .ok (.iaload, 1) := by decide +kernel
theorem dX10_hanging_100 : decode cX10_hanging 100 = .ok (.ireturn, 1) := by decide +kernel
theorem dX10_steer_0 : decode cX10_steer 0 = .ok (.aload_n 0, 1) := by decide +kernel
theorem dX10_steer_1 : decode cX10_steer 1 = .ok (.getfield 22, 3) := by decide +kernel
theorem dX10_steer_4 : decode cX10_steer 4 = .ok (.iconst 3, 1) := by decide +kernel
theorem dX10_steer_5 : decode cX10_steer 5 = .ok (.iload_n 1, 1) := by decide +kernel
theorem dX10_steer_6 : decode cX10_steer 6 = .ok (.invokevirtual 121, 3) := by decide +kernel
theorem dX10_steer_9 : decode cX10_steer 9 = .ok (.ifCond .eq 15, 3) := by decide +kernel
theorem dX10_steer_12 : decode cX10_steer 12 = .ok (.aload_n 0, 1) := by decide +kernel
theorem dX10_steer_13 : decode cX10_steer 13 = .ok (.getfield 22, 3) := by decide +kernel
theorem dX10_steer_16 : decode cX10_steer 16 = .ok (.iconst 0, 1) := by decide +kernel
theorem dX10_steer_17 : decode cX10_steer 17 = .ok (.iload_n 2, 1) := by decide +kernel
theorem dX10_steer_18 : decode cX10_steer 18 = .ok (.invokevirtual 121, 3) := by decide +kernel
theorem dX10_steer_21 : decode cX10_steer 21 = .ok (.ifCond .ne 5, 3) := by decide +kernel
theorem dX10_steer_24 : decode cX10_steer 24 = .ok (.iconst (-1), 1) := by decide +kernel
theorem dX10_steer_25 : decode cX10_steer 25 = .ok (.ireturn, 1) := by decide +kernel
theorem dX10_steer_26 : decode cX10_steer 26 = .ok (.aload_n 0, 1) := by decide +kernel
theorem dX10_steer_27 : decode cX10_steer 27 = .ok (.getfield 36, 3) := by decide +kernel
theorem dX10_steer_30 : decode cX10_steer 30 = .ok (.iload_n 2, 1) := by decide +kernel
theorem dX10_steer_31 : decode cX10_steer 31 = .ok (.invokevirtual 155, 3) := by decide +kernel
theorem dX10_steer_34 : decode cX10_steer 34 = .ok (.ifCond .eq 6, 3) := by decide +kernel
theorem dX10_steer_37 : decode cX10_steer 37 = .ok (.bipush (-2), 2) := by decide +kernel
theorem dX10_steer_39 : decode cX10_steer 39 = .ok (.ireturn, 1) := by decide +kernel
theorem dX10_steer_40 : decode cX10_steer 40 = .ok (.aload_n 0, 1) := by decide +kernel
theorem dX10_steer_41 : decode cX10_steer 41 = .ok (.getfield 36, 3) := by decide +kernel
theorem dX10_steer_44 : decode cX10_steer 44 = .ok (.iload_n 2, 1) := by decide +kernel
theorem dX10_steer_45 : decode cX10_steer 45 = .ok (.invokevirtual 159, 3) := by decide +kernel
theorem dX10_steer_48 : decode cX10_steer 48 = .ok (.istore_n 3, 1) := by decide +kernel
theorem dX10_steer_49 : decode cX10_steer 49 = .ok (.bipush (-2), 2) := by decide +kernel
theorem dX10_steer_51 : decode cX10_steer 51 = .ok (.istore 4, 2) := by decide +kernel
theorem dX10_steer_53 : decode cX10_steer 53 = .ok (.bipush 9, 2) := by decide +kernel
theorem dX10_steer_55 : decode cX10_steer 55 = .ok (.istore 5, 2) := by decide +kernel
theorem dX10_steer_57 : decode cX10_steer 57 = .ok (.iconst 0, 1) := by decide +kernel
theorem dX10_steer_58 : decode cX10_steer 58 = .ok (.istore 6, 2) := by decide +kernel
theorem dX10_steer_60 : decode cX10_steer 60 = .ok (.iload 6, 2) := by decide +kernel
theorem dX10_steer_62 : decode cX10_steer 62 = .ok (.iconst 1, 1) := by decide +kernel
theorem dX10_steer_63 : decode cX10_steer 63 = .ok (.aload_n 0, 1) := by decide +kernel
theorem dX10_steer_64 : decode cX10_steer 64 = .ok (.getfield 22, 3) := by decide +kernel
theorem dX10_steer_67 : decode cX10_steer 67 = .ok (.iconst 2, 1) := by decide +kernel
theorem dX10_steer_68 : decode cX10_steer 68 = .ok (.invokevirtual 203, 3) := by decide +kernel
theorem dX10_steer_71 : decode cX10_steer 71 = .ok (.ishl, 1) := by decide +kernel
theorem dX10_steer_72 : decode cX10_steer 72 = .ok (.if_icmp .ge 66, 3) := by decide +kernel
theorem dX10_steer_75 : decode cX10_steer 75 = .ok (.iload 6, 2) := by decide +kernel
theorem dX10_steer_77 : decode cX10_steer 77 = .ok (.iload_n 3, 1) := by decide +kernel
theorem dX10_steer_78 : decode cX10_steer 78 = .ok (.iand, 1) := by decide +kernel
theorem dX10_steer_79 : decode cX10_steer 79 = .ok (.ifCond .ne 53, 3) := by decide +kernel
theorem dX10_steer_82 : decode cX10_steer 82 = .ok (.iload 6, 2) := by decide +kernel
theorem dX10_steer_84 : decode cX10_steer 84 = .ok (.invokestatic 163, 3) := by decide +kernel
theorem dX10_steer_87 : decode cX10_steer 87 = .ok (.iload 5, 2) := by decide +kernel
theorem dX10_steer_89 : decode cX10_steer 89 = .ok (.if_icmp .lt 6, 3) := by decide +kernel
theorem dX10_steer_92 : decode cX10_steer 92 = .ok (.goto 40, 3) := by decide +kernel
theorem dX10_steer_95 : decode cX10_steer 95 = .ok (.aload_n 0, 1) := by decide +kernel
theorem dX10_steer_96 : decode cX10_steer 96 = .ok (.invokevirtual 242, 3) := by decide +kernel
theorem dX10_steer_99 : decode cX10_steer 99 = .ok (.aload_n 0, 1) := by decide +kernel
theorem dX10_steer_100 : decode cX10_steer 100 = .ok (.getfield 47, 3) := by decide +kernel
theorem dX10_steer_103 : decode cX10_steer 103 = .ok (.iload 6, 2) := by decide +kernel
theorem dX10_steer_105 : decode cX10_steer 105 = .ok (.iload_n 2, 1) := by decide +kernel
theorem dX10_steer_106 : decode cX10_steer 106 = .ok (.invokevirtual 292, 3) := by decide +kernel
theorem dX10_steer_109 : decode cX10_steer 109 = .ok (.aload_n 0, 1) := by decide +kernel
theorem dX10_steer_110 : decode cX10_steer 110 = .ok (.getfield 53, 3) := by decide +kernel
theorem dX10_steer_113 : decode cX10_steer 113 = .ok (.iload_n 1, 1) := by decide +kernel
theorem dX10_steer_114 : decode cX10_steer 114 = .ok (.invokevirtual 254, 3) := by decide +kernel
theorem dX10_steer_117 : decode cX10_steer 117 = .ok (.iload_n 2, 1) := by decide +kernel
theorem dX10_steer_118 : decode cX10_steer 118 = .ok (.if_icmp .ne 14, 3) := by decide +kernel
theorem dX10_steer_121 : decode cX10_steer 121 = .ok (.iload 6, 2) := by decide +kernel
theorem dX10_steer_123 : decode cX10_steer 123 = .ok (.istore 4, 2) := by decide +kernel
theorem dX10_steer_125 : decode cX10_steer 125 = .ok (.iload 6, 2) := by decide +kernel
theorem dX10_steer_127 : decode cX10_steer 127 = .ok (.invokestatic 163, 3) := by decide +kernel
theorem dX10_steer_130 : decode cX10_steer 130 = .ok (.istore 5, 2) := by decide +kernel
theorem dX10_steer_132 : decode cX10_steer 132 = .ok (.iinc 6 1, 3) := by decide +kernel
theorem dX10_steer_135 : decode cX10_steer 135 = .ok (.goto (-75), 3) := by decide +kernel
theorem dX10_steer_138 : decode cX10_steer 138 = .ok (.iload 4, 2) := by decide +kernel
theorem dX10_steer_140 : decode cX10_steer 140 = .ok (.ireturn, 1) := by decide +kernel
theorem dX10_rests_0 : decode cX10_rests 0 = .ok (.aload_n 0, 1) := by decide +kernel
theorem dX10_rests_1 : decode cX10_rests 1 = .ok (.getfield 22, 3) := by decide +kernel
theorem dX10_rests_4 : decode cX10_rests 4 = .ok (.iconst 0, 1) := by decide +kernel
theorem dX10_rests_5 : decode cX10_rests 5 = .ok (.invokevirtual 203, 3) := by decide +kernel
theorem dX10_rests_8 : decode cX10_rests 8 = .ok (.ifCond .ne 5, 3) := by decide +kernel
theorem dX10_rests_11 : decode cX10_rests 11 = .ok (.iconst (-1), 1) := by decide +kernel
theorem dX10_rests_12 : decode cX10_rests 12 = .ok (.ireturn, 1) := by decide +kernel
theorem dX10_rests_13 : decode cX10_rests 13 = .ok (.aload_n 0, 1) := by decide +kernel
theorem dX10_rests_14 : decode cX10_rests 14 = .ok (.getfield 53, 3) := by decide +kernel
theorem dX10_rests_17 : decode cX10_rests 17 = .ok (.aload_n 0, 1) := by decide +kernel
theorem dX10_rests_18 : decode cX10_rests 18 = .ok (.getfield 22, 3) := by decide +kernel
theorem dX10_rests_21 : decode cX10_rests 21 = .ok (.aload_n 0, 1) := by decide +kernel
theorem dX10_rests_22 : decode cX10_rests 22 = .ok (.getfield 36, 3) := by decide +kernel
theorem dX10_rests_25 : decode cX10_rests 25 = .ok (.invokevirtual 189, 3) := by decide +kernel
theorem dX10_rests_28 : decode cX10_rests 28 = .ok (.aload_n 0, 1) := by decide +kernel
theorem dX10_rests_29 : decode cX10_rests 29 = .ok (.getfield 81, 3) := by decide +kernel
theorem dX10_rests_32 : decode cX10_rests 32 = .ok (.aload_n 0, 1) := by decide +kernel
theorem dX10_rests_33 : decode cX10_rests 33 = .ok (.getfield 22, 3) := by decide +kernel
theorem dX10_rests_36 : decode cX10_rests 36 = .ok (.aload_n 0, 1) := by decide +kernel
theorem dX10_rests_37 : decode cX10_rests 37 = .ok (.getfield 36, 3) := by decide +kernel
theorem dX10_rests_40 : decode cX10_rests 40 = .ok (.aload_n 0, 1) := by decide +kernel
theorem dX10_rests_41 : decode cX10_rests 41 = .ok (.getfield 53, 3) := by decide +kernel
theorem dX10_rests_44 : decode cX10_rests 44 = .ok (.invokevirtual 296, 3) := by decide +kernel
theorem dX10_rests_47 : decode cX10_rests 47 = .ok (.aload_n 0, 1) := by decide +kernel
theorem dX10_rests_48 : decode cX10_rests 48 = .ok (.getfield 81, 3) := by decide +kernel
theorem dX10_rests_51 : decode cX10_rests 51 = .ok (.getfield 297, 3) := by decide +kernel
theorem dX10_rests_54 : decode cX10_rests 54 = .ok (.ireturn, 1) := by decide +kernel
theorem dX10_rest_0 : decode cX10_rest 0 = .ok (.aload_n 0, 1) := by decide +kernel
theorem dX10_rest_1 : decode cX10_rest 1 = .ok (.getfield 22, 3) := by decide +kernel
theorem dX10_rest_4 : decode cX10_rest 4 = .ok (.iconst 0, 1) := by decide +kernel
theorem dX10_rest_5 : decode cX10_rest 5 = .ok (.invokevirtual 203, 3) := by decide +kernel
theorem dX10_rest_8 : decode cX10_rest 8 = .ok (.ifCond .eq 7, 3) := by decide +kernel
theorem dX10_rest_11 : decode cX10_rest 11 = .ok (.iload_n 1, 1) := by decide +kernel
theorem dX10_rest_12 : decode cX10_rest 12 = .ok (.ifCond .ge 5, 3) := by decide +kernel
theorem dX10_rest_15 : decode cX10_rest 15 = .ok (.iconst (-1), 1) := by decide +kernel
theorem dX10_rest_16 : decode cX10_rest 16 = .ok (.ireturn, 1) := by decide +kernel
theorem dX10_rest_17 : decode cX10_rest 17 = .ok (.aload_n 0, 1) := by decide +kernel
theorem dX10_rest_18 : decode cX10_rest 18 = .ok (.getfield 53, 3) := by decide +kernel
theorem dX10_rest_21 : decode cX10_rest 21 = .ok (.aload_n 0, 1) := by decide +kernel
theorem dX10_rest_22 : decode cX10_rest 22 = .ok (.getfield 22, 3) := by decide +kernel
theorem dX10_rest_25 : decode cX10_rest 25 = .ok (.aload_n 0, 1) := by decide +kernel
theorem dX10_rest_26 : decode cX10_rest 26 = .ok (.getfield 36, 3) := by decide +kernel
theorem dX10_rest_29 : decode cX10_rest 29 = .ok (.invokevirtual 189, 3) := by decide +kernel
theorem dX10_rest_32 : decode cX10_rest 32 = .ok (.aload_n 0, 1) := by decide +kernel
theorem dX10_rest_33 : decode cX10_rest 33 = .ok (.getfield 81, 3) := by decide +kernel
theorem dX10_rest_36 : decode cX10_rest 36 = .ok (.aload_n 0, 1) := by decide +kernel
theorem dX10_rest_37 : decode cX10_rest 37 = .ok (.getfield 22, 3) := by decide +kernel
theorem dX10_rest_40 : decode cX10_rest 40 = .ok (.aload_n 0, 1) := by decide +kernel
theorem dX10_rest_41 : decode cX10_rest 41 = .ok (.getfield 36, 3) := by decide +kernel
theorem dX10_rest_44 : decode cX10_rest 44 = .ok (.aload_n 0, 1) := by decide +kernel
theorem dX10_rest_45 : decode cX10_rest 45 = .ok (.getfield 53, 3) := by decide +kernel
theorem dX10_rest_48 : decode cX10_rest 48 = .ok (.invokevirtual 296, 3) := by decide +kernel
theorem dX10_rest_51 : decode cX10_rest 51 = .ok (.iload_n 1, 1) := by decide +kernel
theorem dX10_rest_52 : decode cX10_rest 52 = .ok (.aload_n 0, 1) := by decide +kernel
theorem dX10_rest_53 : decode cX10_rest 53 = .ok (.getfield 81, 3) := by decide +kernel
theorem dX10_rest_56 : decode cX10_rest 56 = .ok (.getfield 297, 3) := by decide +kernel
theorem dX10_rest_59 : decode cX10_rest 59 = .ok (.if_icmp .ge 15, 3) := by decide +kernel
theorem dX10_rest_62 : decode cX10_rest 62 = .ok (.aload_n 0, 1) := by decide +kernel
theorem dX10_rest_63 : decode cX10_rest 63 = .ok (.getfield 81, 3) := by decide +kernel
theorem dX10_rest_66 : decode cX10_rest 66 = .ok (.getfield 298, 3) := by decide +kernel
theorem dX10_rest_69 : decode cX10_rest 69 = .ok (.iload_n 1, 1) := by decide +kernel
theorem dX10_rest_70 : decode cX10_rest 70 = .ok (.iaload, 1) := by decide +kernel
theorem dX10_rest_71 : decode cX10_rest 71 = .ok (.goto 5, 3) := by decide +kernel
theorem dX10_rest_74 : decode cX10_rest 74 = .ok (.bipush (-2), 2) := by decide +kernel
theorem dX10_rest_76 : decode cX10_rest 76 = .ok (.ireturn, 1) := by decide +kernel
theorem dX10_way_0 : decode cX10_way 0 = .ok (.aload_n 0, 1) := by decide +kernel
theorem dX10_way_1 : decode cX10_way 1 = .ok (.getfield 22, 3) := by decide +kernel
theorem dX10_way_4 : decode cX10_way 4 = .ok (.iconst 0, 1) := by decide +kernel
theorem dX10_way_5 : decode cX10_way 5 = .ok (.iload_n 1, 1) := by decide +kernel
theorem dX10_way_6 : decode cX10_way 6 = .ok (.invokevirtual 121, 3) := by decide +kernel
theorem dX10_way_9 : decode cX10_way 9 = .ok (.ifCond .eq 15, 3) := by decide +kernel
theorem dX10_way_12 : decode cX10_way 12 = .ok (.aload_n 0, 1) := by decide +kernel
theorem dX10_way_13 : decode cX10_way 13 = .ok (.getfield 22, 3) := by decide +kernel
theorem dX10_way_16 : decode cX10_way 16 = .ok (.iconst 0, 1) := by decide +kernel
theorem dX10_way_17 : decode cX10_way 17 = .ok (.iload_n 2, 1) := by decide +kernel
theorem dX10_way_18 : decode cX10_way 18 = .ok (.invokevirtual 121, 3) := by decide +kernel
theorem dX10_way_21 : decode cX10_way 21 = .ok (.ifCond .ne 5, 3) := by decide +kernel
theorem dX10_way_24 : decode cX10_way 24 = .ok (.iconst (-1), 1) := by decide +kernel
theorem dX10_way_25 : decode cX10_way 25 = .ok (.ireturn, 1) := by decide +kernel
theorem dX10_way_26 : decode cX10_way 26 = .ok (.iconst 1, 1) := by decide +kernel
theorem dX10_way_27 : decode cX10_way 27 = .ok (.iload_n 1, 1) := by decide +kernel
theorem dX10_way_28 : decode cX10_way 28 = .ok (.ishl, 1) := by decide +kernel
theorem dX10_way_29 : decode cX10_way 29 = .ok (.istore_n 3, 1) := by decide +kernel
theorem dX10_way_30 : decode cX10_way 30 = .ok (.iconst 0, 1) := by decide +kernel
theorem dX10_way_31 : decode cX10_way 31 = .ok (.istore 4, 2) := by decide +kernel
theorem dX10_way_33 : decode cX10_way 33 = .ok (.iload 4, 2) := by decide +kernel
theorem dX10_way_35 : decode cX10_way 35 = .ok (.bipush 6, 2) := by decide +kernel
theorem dX10_way_37 : decode cX10_way 37 = .ok (.if_icmp .ge 31, 3) := by decide +kernel
theorem dX10_way_40 : decode cX10_way 40 = .ok (.iload_n 3, 1) := by decide +kernel
theorem dX10_way_41 : decode cX10_way 41 = .ok (.iconst 1, 1) := by decide +kernel
theorem dX10_way_42 : decode cX10_way 42 = .ok (.iload_n 2, 1) := by decide +kernel
theorem dX10_way_43 : decode cX10_way 43 = .ok (.ishl, 1) := by decide +kernel
theorem dX10_way_44 : decode cX10_way 44 = .ok (.iand, 1) := by decide +kernel
theorem dX10_way_45 : decode cX10_way 45 = .ok (.ifCond .eq 6, 3) := by decide +kernel
theorem dX10_way_48 : decode cX10_way 48 = .ok (.iload 4, 2) := by decide +kernel
theorem dX10_way_50 : decode cX10_way 50 = .ok (.ireturn, 1) := by decide +kernel
theorem dX10_way_51 : decode cX10_way 51 = .ok (.iload_n 3, 1) := by decide +kernel
theorem dX10_way_52 : decode cX10_way 52 = .ok (.aload_n 0, 1) := by decide +kernel
theorem dX10_way_53 : decode cX10_way 53 = .ok (.getfield 22, 3) := by decide +kernel
theorem dX10_way_56 : decode cX10_way 56 = .ok (.iload_n 3, 1) := by decide +kernel
theorem dX10_way_57 : decode cX10_way 57 = .ok (.invokevirtual 301, 3) := by decide +kernel
theorem dX10_way_60 : decode cX10_way 60 = .ok (.ior, 1) := by decide +kernel
theorem dX10_way_61 : decode cX10_way 61 = .ok (.istore_n 3, 1) := by decide +kernel
theorem dX10_way_62 : decode cX10_way 62 = .ok (.iinc 4 1, 3) := by decide +kernel
theorem dX10_way_65 : decode cX10_way 65 = .ok (.goto (-32), 3) := by decide +kernel
theorem dX10_way_68 : decode cX10_way 68 = .ok (.bipush (-2), 2) := by decide +kernel
theorem dX10_way_70 : decode cX10_way 70 = .ok (.ireturn, 1) := by decide +kernel
theorem dX10_likely_0 : decode cX10_likely 0 = .ok (.aload_n 0, 1) := by decide +kernel
theorem dX10_likely_1 : decode cX10_likely 1 = .ok (.getfield 22, 3) := by decide +kernel
theorem dX10_likely_4 : decode cX10_likely 4 = .ok (.iconst 3, 1) := by decide +kernel
theorem dX10_likely_5 : decode cX10_likely 5 = .ok (.iload_n 1, 1) := by decide +kernel
theorem dX10_likely_6 : decode cX10_likely 6 = .ok (.invokevirtual 121, 3) := by decide +kernel
theorem dX10_likely_9 : decode cX10_likely 9 = .ok (.ifCond .eq 22, 3) := by decide +kernel
theorem dX10_likely_12 : decode cX10_likely 12 = .ok (.iload_n 2, 1) := by decide +kernel
theorem dX10_likely_13 : decode cX10_likely 13 = .ok (.ifCond .lt 18, 3) := by decide +kernel
theorem dX10_likely_16 : decode cX10_likely 16 = .ok (.iload_n 2, 1) := by decide +kernel
theorem dX10_likely_17 : decode cX10_likely 17 = .ok (.bipush 8, 2) := by decide +kernel
theorem dX10_likely_19 : decode cX10_likely 19 = .ok (.if_icmp .gt 12, 3) := by decide +kernel
theorem dX10_likely_22 : decode cX10_likely 22 = .ok (.iload_n 3, 1) := by decide +kernel
theorem dX10_likely_23 : decode cX10_likely 23 = .ok (.ifCond .lt 8, 3) := by decide +kernel
theorem dX10_likely_26 : decode cX10_likely 26 = .ok (.iload_n 3, 1) := by decide +kernel
theorem dX10_likely_27 : decode cX10_likely 27 = .ok (.iload_n 2, 1) := by decide +kernel
theorem dX10_likely_28 : decode cX10_likely 28 = .ok (.if_icmp .le 7, 3) := by decide +kernel
theorem dX10_likely_31 : decode cX10_likely 31 = .ok (.ldc2_w 304, 3) := by decide +kernel
theorem dX10_likely_34 : decode cX10_likely 34 = .ok (.lreturn, 1) := by decide +kernel
theorem dX10_likely_35 : decode cX10_likely 35 = .ok (.iload 4, 2) := by decide +kernel
theorem dX10_likely_37 : decode cX10_likely 37 = .ok (.ifCond .lt 9, 3) := by decide +kernel
theorem dX10_likely_40 : decode cX10_likely 40 = .ok (.iload 4, 2) := by decide +kernel
theorem dX10_likely_42 : decode cX10_likely 42 = .ok (.iconst 1, 1) := by decide +kernel
theorem dX10_likely_43 : decode cX10_likely 43 = .ok (.if_icmp .le 7, 3) := by decide +kernel
theorem dX10_likely_46 : decode cX10_likely 46 = .ok (.ldc2_w 304, 3) := by decide +kernel
theorem dX10_likely_49 : decode cX10_likely 49 = .ok (.lreturn, 1) := by decide +kernel
theorem dX10_likely_50 : decode cX10_likely 50 = .ok (.lconst 1, 1) := by decide +kernel
theorem dX10_likely_51 : decode cX10_likely 51 = .ok (.lstore 5, 2) := by decide +kernel
theorem dX10_likely_53 : decode cX10_likely 53 = .ok (.lconst 1, 1) := by decide +kernel
theorem dX10_likely_54 : decode cX10_likely 54 = .ok (.lstore 7, 2) := by decide +kernel
theorem dX10_likely_56 : decode cX10_likely 56 = .ok (.bipush 100, 2) := by decide +kernel
theorem dX10_likely_58 : decode cX10_likely 58 = .ok (.aload_n 0, 1) := by decide +kernel
theorem dX10_likely_59 : decode cX10_likely 59 = .ok (.getfield 22, 3) := by decide +kernel
theorem dX10_likely_62 : decode cX10_likely 62 = .ok (.getfield 177, 3) := by decide +kernel
theorem dX10_likely_65 : decode cX10_likely 65 = .ok (.iload_n 1, 1) := by decide +kernel
theorem dX10_likely_66 : decode cX10_likely 66 = .ok (.iaload, 1) := by decide +kernel
theorem dX10_likely_67 : decode cX10_likely 67 = .ok (.isub, 1) := by decide +kernel
theorem dX10_likely_68 : decode cX10_likely 68 = .ok (.i2l, 1) := by decide +kernel
theorem dX10_likely_69 : decode cX10_likely 69 = .ok (.lstore 9, 2) := by decide +kernel
theorem dX10_likely_71 : decode cX10_likely 71 = .ok (.iconst 0, 1) := by decide +kernel
theorem dX10_likely_72 : decode cX10_likely 72 = .ok (.istore 11, 2) := by decide +kernel
theorem dX10_likely_74 : decode cX10_likely 74 = .ok (.iload 11, 2) := by decide +kernel
theorem dX10_likely_76 : decode cX10_likely 76 = .ok (.iload_n 2, 1) := by decide +kernel
theorem dX10_likely_77 : decode cX10_likely 77 = .ok (.if_icmp .ge 39, 3) := by decide +kernel
theorem dX10_likely_80 : decode cX10_likely 80 = .ok (.lload 5, 2) := by decide +kernel
theorem dX10_likely_82 : decode cX10_likely 82 = .ok (.iload 11, 2) := by decide +kernel
theorem dX10_likely_84 : decode cX10_likely 84 = .ok (.iload_n 3, 1) := by decide +kernel
theorem dX10_likely_85 : decode cX10_likely 85 = .ok (.if_icmp .ge 8, 3) := by decide +kernel
theorem dX10_likely_88 : decode cX10_likely 88 = .ok (.lload 9, 2) := by decide +kernel
theorem dX10_likely_90 : decode cX10_likely 90 = .ok (.goto 9, 3) := by decide +kernel
theorem dX10_likely_93 : decode cX10_likely 93 = .ok (.ldc2_w 306, 3) := by decide +kernel
theorem dX10_likely_96 : decode cX10_likely 96 = .ok (.lload 9, 2) := by decide +kernel
theorem dX10_likely_98 : decode cX10_likely 98 = .ok (.lsub, 1) := by decide +kernel
theorem dX10_likely_99 : decode cX10_likely 99 = .ok (.lmul, 1) := by decide +kernel
theorem dX10_likely_100 : decode cX10_likely 100 = .ok (.lstore 5, 2) := by decide +kernel
theorem dX10_likely_102 : decode cX10_likely 102 = .ok (.lload 7, 2) := by decide +kernel
theorem dX10_likely_104 : decode cX10_likely 104 = .ok (.ldc2_w 306, 3) := by decide +kernel
theorem dX10_likely_107 : decode cX10_likely 107 = .ok (.lmul, 1) := by decide +kernel
theorem dX10_likely_108 : decode cX10_likely 108 = .ok (.lstore 7, 2) := by decide +kernel
theorem dX10_likely_110 : decode cX10_likely 110 = .ok (.iinc 11 1, 3) := by decide +kernel
theorem dX10_likely_113 : decode cX10_likely 113 = .ok (.goto (-39), 3) := by decide +kernel
theorem dX10_likely_116 : decode cX10_likely 116 = .ok (.lload 5, 2) := by decide +kernel
theorem dX10_likely_118 : decode cX10_likely 118 = .ok (.iload_n 2, 1) := by decide +kernel
theorem dX10_likely_119 : decode cX10_likely 119 = .ok (.iload_n 3, 1) := by decide +kernel
theorem dX10_likely_120 : decode cX10_likely 120 = .ok (.invokestatic 308, 3) := by decide +kernel
theorem dX10_likely_123 : decode cX10_likely 123 = .ok (.lmul, 1) := by decide +kernel
theorem dX10_likely_124 : decode cX10_likely 124 = .ok (.lstore 5, 2) := by decide +kernel
theorem dX10_likely_126 : decode cX10_likely 126 = .ok (.lload 5, 2) := by decide +kernel
theorem dX10_likely_128 : decode cX10_likely 128 = .ok (.lload 7, 2) := by decide +kernel
theorem dX10_likely_130 : decode cX10_likely 130 = .ok (.invokestatic 312, 3) := by decide +kernel
theorem dX10_likely_133 : decode cX10_likely 133 = .ok (.lstore 11, 2) := by decide +kernel
theorem dX10_likely_135 : decode cX10_likely 135 = .ok (.lload 11, 2) := by decide +kernel
theorem dX10_likely_137 : decode cX10_likely 137 = .ok (.lconst 0, 1) := by decide +kernel
theorem dX10_likely_138 : decode cX10_likely 138 = .ok (.lcmp, 1) := by decide +kernel
theorem dX10_likely_139 : decode cX10_likely 139 = .ok (.ifCond .gt 7, 3) := by decide +kernel
theorem dX10_likely_142 : decode cX10_likely 142 = .ok (.ldc2_w 304, 3) := by decide +kernel
theorem dX10_likely_145 : decode cX10_likely 145 = .ok (.lreturn, 1) := by decide +kernel
theorem dX10_likely_146 : decode cX10_likely 146 = .ok (.iload 4, 2) := by decide +kernel
theorem dX10_likely_148 : decode cX10_likely 148 = .ok (.ifCond .ne 11, 3) := by decide +kernel
theorem dX10_likely_151 : decode cX10_likely 151 = .ok (.lload 5, 2) := by decide +kernel
theorem dX10_likely_153 : decode cX10_likely 153 = .ok (.lload 11, 2) := by decide +kernel
theorem dX10_likely_155 : decode cX10_likely 155 = .ok (.ldiv, 1) := by decide +kernel
theorem dX10_likely_156 : decode cX10_likely 156 = .ok (.goto 8, 3) := by decide +kernel
theorem dX10_likely_159 : decode cX10_likely 159 = .ok (.lload 7, 2) := by decide +kernel
theorem dX10_likely_161 : decode cX10_likely 161 = .ok (.lload 11, 2) := by decide +kernel
theorem dX10_likely_163 : decode cX10_likely 163 = .ok (.ldiv, 1) := by decide +kernel
theorem dX10_likely_164 : decode cX10_likely 164 = .ok (.lreturn, 1) := by decide +kernel
theorem dX10_ways_0 : decode cX10_ways 0 = .ok (.lconst 1, 1) := by decide +kernel
theorem dX10_ways_1 : decode cX10_ways 1 = .ok (.lstore_n 2, 1) := by decide +kernel
theorem dX10_ways_2 : decode cX10_ways 2 = .ok (.iconst 1, 1) := by decide +kernel
theorem dX10_ways_3 : decode cX10_ways 3 = .ok (.istore 4, 2) := by decide +kernel
theorem dX10_ways_5 : decode cX10_ways 5 = .ok (.iload 4, 2) := by decide +kernel
theorem dX10_ways_7 : decode cX10_ways 7 = .ok (.iload_n 1, 1) := by decide +kernel
theorem dX10_ways_8 : decode cX10_ways 8 = .ok (.if_icmp .gt 23, 3) := by decide +kernel
theorem dX10_ways_11 : decode cX10_ways 11 = .ok (.lload_n 2, 1) := by decide +kernel
theorem dX10_ways_12 : decode cX10_ways 12 = .ok (.iload_n 0, 1) := by decide +kernel
theorem dX10_ways_13 : decode cX10_ways 13 = .ok (.iload_n 1, 1) := by decide +kernel
theorem dX10_ways_14 : decode cX10_ways 14 = .ok (.isub, 1) := by decide +kernel
theorem dX10_ways_15 : decode cX10_ways 15 = .ok (.iload 4, 2) := by decide +kernel
theorem dX10_ways_17 : decode cX10_ways 17 = .ok (.iadd, 1) := by decide +kernel
theorem dX10_ways_18 : decode cX10_ways 18 = .ok (.i2l, 1) := by decide +kernel
theorem dX10_ways_19 : decode cX10_ways 19 = .ok (.lmul, 1) := by decide +kernel
theorem dX10_ways_20 : decode cX10_ways 20 = .ok (.iload 4, 2) := by decide +kernel
theorem dX10_ways_22 : decode cX10_ways 22 = .ok (.i2l, 1) := by decide +kernel
theorem dX10_ways_23 : decode cX10_ways 23 = .ok (.ldiv, 1) := by decide +kernel
theorem dX10_ways_24 : decode cX10_ways 24 = .ok (.lstore_n 2, 1) := by decide +kernel
theorem dX10_ways_25 : decode cX10_ways 25 = .ok (.iinc 4 1, 3) := by decide +kernel
theorem dX10_ways_28 : decode cX10_ways 28 = .ok (.goto (-23), 3) := by decide +kernel
theorem dX10_ways_31 : decode cX10_ways 31 = .ok (.lload_n 2, 1) := by decide +kernel
theorem dX10_ways_32 : decode cX10_ways 32 = .ok (.lreturn, 1) := by decide +kernel
theorem dX10_greatestShared_0 : decode cX10_greatestShared 0 = .ok (.lload_n 2, 1) := by decide +kernel
theorem dX10_greatestShared_1 : decode cX10_greatestShared 1 = .ok (.lstore 4, 2) := by decide +kernel
theorem dX10_greatestShared_3 : decode cX10_greatestShared 3 = .ok (.lload_n 0, 1) := by decide +kernel
theorem dX10_greatestShared_4 : decode cX10_greatestShared 4 = .ok (.lstore 6, 2) := by decide +kernel
theorem dX10_greatestShared_6 : decode cX10_greatestShared 6 = .ok (.iconst 0, 1) := by decide +kernel
theorem dX10_greatestShared_7 : decode cX10_greatestShared 7 = .ok (.istore 8, 2) := by decide +kernel
theorem dX10_greatestShared_9 : decode cX10_greatestShared 9 = .ok (.iload 8, 2) := by decide +kernel
theorem dX10_greatestShared_11 : decode cX10_greatestShared 11 = .ok (.sipush 1000, 3) := by decide +kernel
theorem dX10_greatestShared_14 : decode cX10_greatestShared 14 = .ok (.if_icmp .ge 31, 3) := by decide +kernel
theorem dX10_greatestShared_17 : decode cX10_greatestShared 17 = .ok (.lload 6, 2) := by decide +kernel
theorem dX10_greatestShared_19 : decode cX10_greatestShared 19 = .ok (.lconst 0, 1) := by decide +kernel
theorem dX10_greatestShared_20 : decode cX10_greatestShared 20 = .ok (.lcmp, 1) := by decide +kernel
theorem dX10_greatestShared_21 : decode cX10_greatestShared 21 = .ok (.ifCond .eq 24, 3) := by decide +kernel
theorem dX10_greatestShared_24 : decode cX10_greatestShared 24 = .ok (.lload 4, 2) := by decide +kernel
theorem dX10_greatestShared_26 : decode cX10_greatestShared 26 = .ok (.lload 6, 2) := by decide +kernel
theorem dX10_greatestShared_28 : decode cX10_greatestShared 28 = .ok (.lrem, 1) := by decide +kernel
theorem dX10_greatestShared_29 : decode cX10_greatestShared 29 = .ok (.lstore 9, 2) := by decide +kernel
theorem dX10_greatestShared_31 : decode cX10_greatestShared 31 = .ok (.lload 6, 2) := by decide +kernel
theorem dX10_greatestShared_33 : decode cX10_greatestShared 33 = .ok (.lstore 4, 2) := by decide +kernel
theorem dX10_greatestShared_35 : decode cX10_greatestShared 35 = .ok (.lload 9, 2) := by decide +kernel
theorem dX10_greatestShared_37 : decode cX10_greatestShared 37 = .ok (.lstore 6, 2) := by decide +kernel
theorem dX10_greatestShared_39 : decode cX10_greatestShared 39 = .ok (.iinc 8 1, 3) := by decide +kernel
theorem dX10_greatestShared_42 : decode cX10_greatestShared 42 = .ok (.goto (-33), 3) := by decide +kernel
theorem dX10_greatestShared_45 : decode cX10_greatestShared 45 = .ok (.lload 4, 2) := by decide +kernel
theorem dX10_greatestShared_47 : decode cX10_greatestShared 47 = .ok (.lreturn, 1) := by decide +kernel
theorem dX10_shunned_0 : decode cX10_shunned 0 = .ok (.aload_n 0, 1) := by decide +kernel
theorem dX10_shunned_1 : decode cX10_shunned 1 = .ok (.getfield 53, 3) := by decide +kernel
theorem dX10_shunned_4 : decode cX10_shunned 4 = .ok (.aload_n 0, 1) := by decide +kernel
theorem dX10_shunned_5 : decode cX10_shunned 5 = .ok (.getfield 22, 3) := by decide +kernel
theorem dX10_shunned_8 : decode cX10_shunned 8 = .ok (.aload_n 0, 1) := by decide +kernel
theorem dX10_shunned_9 : decode cX10_shunned 9 = .ok (.getfield 36, 3) := by decide +kernel
theorem dX10_shunned_12 : decode cX10_shunned 12 = .ok (.invokevirtual 189, 3) := by decide +kernel
theorem dX10_shunned_15 : decode cX10_shunned 15 = .ok (.iconst 0, 1) := by decide +kernel
theorem dX10_shunned_16 : decode cX10_shunned 16 = .ok (.istore_n 1, 1) := by decide +kernel
theorem dX10_shunned_17 : decode cX10_shunned 17 = .ok (.iconst 0, 1) := by decide +kernel
theorem dX10_shunned_18 : decode cX10_shunned 18 = .ok (.istore_n 2, 1) := by decide +kernel
theorem dX10_shunned_19 : decode cX10_shunned 19 = .ok (.iload_n 2, 1) := by decide +kernel
theorem dX10_shunned_20 : decode cX10_shunned 20 = .ok (.aload_n 0, 1) := by decide +kernel
theorem dX10_shunned_21 : decode cX10_shunned 21 = .ok (.getfield 22, 3) := by decide +kernel
theorem dX10_shunned_24 : decode cX10_shunned 24 = .ok (.iconst 2, 1) := by decide +kernel
theorem dX10_shunned_25 : decode cX10_shunned 25 = .ok (.invokevirtual 203, 3) := by decide +kernel
theorem dX10_shunned_28 : decode cX10_shunned 28 = .ok (.if_icmp .ge 69, 3) := by decide +kernel
theorem dX10_shunned_31 : decode cX10_shunned 31 = .ok (.iconst 0, 1) := by decide +kernel
theorem dX10_shunned_32 : decode cX10_shunned 32 = .ok (.istore_n 3, 1) := by decide +kernel
theorem dX10_shunned_33 : decode cX10_shunned 33 = .ok (.iconst 0, 1) := by decide +kernel
theorem dX10_shunned_34 : decode cX10_shunned 34 = .ok (.istore 4, 2) := by decide +kernel
theorem dX10_shunned_36 : decode cX10_shunned 36 = .ok (.iload 4, 2) := by decide +kernel
theorem dX10_shunned_38 : decode cX10_shunned 38 = .ok (.aload_n 0, 1) := by decide +kernel
theorem dX10_shunned_39 : decode cX10_shunned 39 = .ok (.getfield 22, 3) := by decide +kernel
theorem dX10_shunned_42 : decode cX10_shunned 42 = .ok (.iconst 3, 1) := by decide +kernel
theorem dX10_shunned_43 : decode cX10_shunned 43 = .ok (.invokevirtual 203, 3) := by decide +kernel
theorem dX10_shunned_46 : decode cX10_shunned 46 = .ok (.if_icmp .ge 35, 3) := by decide +kernel
theorem dX10_shunned_49 : decode cX10_shunned 49 = .ok (.aload_n 0, 1) := by decide +kernel
theorem dX10_shunned_50 : decode cX10_shunned 50 = .ok (.getfield 53, 3) := by decide +kernel
theorem dX10_shunned_53 : decode cX10_shunned 53 = .ok (.iload 4, 2) := by decide +kernel
theorem dX10_shunned_55 : decode cX10_shunned 55 = .ok (.iload_n 2, 1) := by decide +kernel
theorem dX10_shunned_56 : decode cX10_shunned 56 = .ok (.aload_n 0, 1) := by decide +kernel
theorem dX10_shunned_57 : decode cX10_shunned 57 = .ok (.getfield 36, 3) := by decide +kernel
theorem dX10_shunned_60 : decode cX10_shunned 60 = .ok (.getfield 132, 3) := by decide +kernel
theorem dX10_shunned_63 : decode cX10_shunned 63 = .ok (.iload_n 2, 1) := by decide +kernel
theorem dX10_shunned_64 : decode cX10_shunned 64 = .ok (.iaload, 1) := by decide +kernel
theorem dX10_shunned_65 : decode cX10_shunned 65 = .ok (.invokevirtual 193, 3) := by decide +kernel
theorem dX10_shunned_68 : decode cX10_shunned 68 = .ok (.bipush 30, 2) := by decide +kernel
theorem dX10_shunned_70 : decode cX10_shunned 70 = .ok (.if_icmp .lt 5, 3) := by decide +kernel
theorem dX10_shunned_73 : decode cX10_shunned 73 = .ok (.iconst 1, 1) := by decide +kernel
theorem dX10_shunned_74 : decode cX10_shunned 74 = .ok (.istore_n 3, 1) := by decide +kernel
theorem dX10_shunned_75 : decode cX10_shunned 75 = .ok (.iinc 4 1, 3) := by decide +kernel
theorem dX10_shunned_78 : decode cX10_shunned 78 = .ok (.goto (-42), 3) := by decide +kernel
theorem dX10_shunned_81 : decode cX10_shunned 81 = .ok (.iload_n 3, 1) := by decide +kernel
theorem dX10_shunned_82 : decode cX10_shunned 82 = .ok (.ifCond .ne 9, 3) := by decide +kernel
theorem dX10_shunned_85 : decode cX10_shunned 85 = .ok (.iload_n 1, 1) := by decide +kernel
theorem dX10_shunned_86 : decode cX10_shunned 86 = .ok (.iconst 1, 1) := by decide +kernel
theorem dX10_shunned_87 : decode cX10_shunned 87 = .ok (.iload_n 2, 1) := by decide +kernel
theorem dX10_shunned_88 : decode cX10_shunned 88 = .ok (.ishl, 1) := by decide +kernel
theorem dX10_shunned_89 : decode cX10_shunned 89 = .ok (.ior, 1) := by decide +kernel
theorem dX10_shunned_90 : decode cX10_shunned 90 = .ok (.istore_n 1, 1) := by decide +kernel
theorem dX10_shunned_91 : decode cX10_shunned 91 = .ok (.iinc 2 1, 3) := by decide +kernel
theorem dX10_shunned_94 : decode cX10_shunned 94 = .ok (.goto (-75), 3) := by decide +kernel
theorem dX10_shunned_97 : decode cX10_shunned 97 = .ok (.iload_n 1, 1) := by decide +kernel
theorem dX10_shunned_98 : decode cX10_shunned 98 = .ok (.ireturn, 1) := by decide +kernel
theorem dX10_loved_0 : decode cX10_loved 0 = .ok (.iload_n 1, 1) := by decide +kernel
theorem dX10_loved_1 : decode cX10_loved 1 = .ok (.ifCond .lt 19, 3) := by decide +kernel
theorem dX10_loved_4 : decode cX10_loved 4 = .ok (.iload_n 1, 1) := by decide +kernel
theorem dX10_loved_5 : decode cX10_loved 5 = .ok (.iconst 1, 1) := by decide +kernel
theorem dX10_loved_6 : decode cX10_loved 6 = .ok (.if_icmp .gt 14, 3) := by decide +kernel
theorem dX10_loved_9 : decode cX10_loved 9 = .ok (.aload_n 0, 1) := by decide +kernel
theorem dX10_loved_10 : decode cX10_loved 10 = .ok (.getfield 22, 3) := by decide +kernel
theorem dX10_loved_13 : decode cX10_loved 13 = .ok (.iconst 2, 1) := by decide +kernel
theorem dX10_loved_14 : decode cX10_loved 14 = .ok (.invokevirtual 203, 3) := by decide +kernel
theorem dX10_loved_17 : decode cX10_loved 17 = .ok (.ifCond .ne 5, 3) := by decide +kernel
theorem dX10_loved_20 : decode cX10_loved 20 = .ok (.iconst (-1), 1) := by decide +kernel
theorem dX10_loved_21 : decode cX10_loved 21 = .ok (.ireturn, 1) := by decide +kernel
theorem dX10_loved_22 : decode cX10_loved 22 = .ok (.aload_n 0, 1) := by decide +kernel
theorem dX10_loved_23 : decode cX10_loved 23 = .ok (.getfield 53, 3) := by decide +kernel
theorem dX10_loved_26 : decode cX10_loved 26 = .ok (.aload_n 0, 1) := by decide +kernel
theorem dX10_loved_27 : decode cX10_loved 27 = .ok (.getfield 22, 3) := by decide +kernel
theorem dX10_loved_30 : decode cX10_loved 30 = .ok (.aload_n 0, 1) := by decide +kernel
theorem dX10_loved_31 : decode cX10_loved 31 = .ok (.getfield 36, 3) := by decide +kernel
theorem dX10_loved_34 : decode cX10_loved 34 = .ok (.invokevirtual 189, 3) := by decide +kernel
theorem dX10_loved_37 : decode cX10_loved 37 = .ok (.iconst (-1), 1) := by decide +kernel
theorem dX10_loved_38 : decode cX10_loved 38 = .ok (.istore_n 2, 1) := by decide +kernel
theorem dX10_loved_39 : decode cX10_loved 39 = .ok (.iconst 0, 1) := by decide +kernel
theorem dX10_loved_40 : decode cX10_loved 40 = .ok (.istore_n 3, 1) := by decide +kernel
theorem dX10_loved_41 : decode cX10_loved 41 = .ok (.iconst 0, 1) := by decide +kernel
theorem dX10_loved_42 : decode cX10_loved 42 = .ok (.istore 4, 2) := by decide +kernel
theorem dX10_loved_44 : decode cX10_loved 44 = .ok (.iload 4, 2) := by decide +kernel
theorem dX10_loved_46 : decode cX10_loved 46 = .ok (.aload_n 0, 1) := by decide +kernel
theorem dX10_loved_47 : decode cX10_loved 47 = .ok (.getfield 22, 3) := by decide +kernel
theorem dX10_loved_50 : decode cX10_loved 50 = .ok (.iconst 2, 1) := by decide +kernel
theorem dX10_loved_51 : decode cX10_loved 51 = .ok (.invokevirtual 203, 3) := by decide +kernel
theorem dX10_loved_54 : decode cX10_loved 54 = .ok (.if_icmp .ge 77, 3) := by decide +kernel
theorem dX10_loved_57 : decode cX10_loved 57 = .ok (.iconst 0, 1) := by decide +kernel
theorem dX10_loved_58 : decode cX10_loved 58 = .ok (.istore 5, 2) := by decide +kernel
theorem dX10_loved_60 : decode cX10_loved 60 = .ok (.iconst 0, 1) := by decide +kernel
theorem dX10_loved_61 : decode cX10_loved 61 = .ok (.istore 6, 2) := by decide +kernel
theorem dX10_loved_63 : decode cX10_loved 63 = .ok (.iload 6, 2) := by decide +kernel
theorem dX10_loved_65 : decode cX10_loved 65 = .ok (.aload_n 0, 1) := by decide +kernel
theorem dX10_loved_66 : decode cX10_loved 66 = .ok (.getfield 22, 3) := by decide +kernel
theorem dX10_loved_69 : decode cX10_loved 69 = .ok (.iconst 3, 1) := by decide +kernel
theorem dX10_loved_70 : decode cX10_loved 70 = .ok (.invokevirtual 203, 3) := by decide +kernel
theorem dX10_loved_73 : decode cX10_loved 73 = .ok (.if_icmp .ge 35, 3) := by decide +kernel
theorem dX10_loved_76 : decode cX10_loved 76 = .ok (.iload 5, 2) := by decide +kernel
theorem dX10_loved_78 : decode cX10_loved 78 = .ok (.aload_n 0, 1) := by decide +kernel
theorem dX10_loved_79 : decode cX10_loved 79 = .ok (.getfield 53, 3) := by decide +kernel
theorem dX10_loved_82 : decode cX10_loved 82 = .ok (.iload 6, 2) := by decide +kernel
theorem dX10_loved_84 : decode cX10_loved 84 = .ok (.iload 4, 2) := by decide +kernel
theorem dX10_loved_86 : decode cX10_loved 86 = .ok (.aload_n 0, 1) := by decide +kernel
theorem dX10_loved_87 : decode cX10_loved 87 = .ok (.getfield 36, 3) := by decide +kernel
theorem dX10_loved_90 : decode cX10_loved 90 = .ok (.getfield 132, 3) := by decide +kernel
theorem dX10_loved_93 : decode cX10_loved 93 = .ok (.iload 4, 2) := by decide +kernel
theorem dX10_loved_95 : decode cX10_loved 95 = .ok (.iaload, 1) := by decide +kernel
theorem dX10_loved_96 : decode cX10_loved 96 = .ok (.invokevirtual 193, 3) := by decide +kernel
theorem dX10_loved_99 : decode cX10_loved 99 = .ok (.iadd, 1) := by decide +kernel
theorem dX10_loved_100 : decode cX10_loved 100 = .ok (.istore 5, 2) := by decide +kernel
theorem dX10_loved_102 : decode cX10_loved 102 = .ok (.iinc 6 1, 3) := by decide +kernel
theorem dX10_loved_105 : decode cX10_loved 105 = .ok (.goto (-42), 3) := by decide +kernel
theorem dX10_loved_108 : decode cX10_loved 108 = .ok (.iload_n 2, 1) := by decide +kernel
theorem dX10_loved_109 : decode cX10_loved 109 = .ok (.iconst (-1), 1) := by decide +kernel
theorem dX10_loved_110 : decode cX10_loved 110 = .ok (.if_icmp .eq 9, 3) := by decide +kernel
theorem dX10_loved_113 : decode cX10_loved 113 = .ok (.iload 5, 2) := by decide +kernel
theorem dX10_loved_115 : decode cX10_loved 115 = .ok (.iload_n 3, 1) := by decide +kernel
theorem dX10_loved_116 : decode cX10_loved 116 = .ok (.if_icmp .le 9, 3) := by decide +kernel
theorem dX10_loved_119 : decode cX10_loved 119 = .ok (.iload 4, 2) := by decide +kernel
theorem dX10_loved_121 : decode cX10_loved 121 = .ok (.istore_n 2, 1) := by decide +kernel
theorem dX10_loved_122 : decode cX10_loved 122 = .ok (.iload 5, 2) := by decide +kernel
theorem dX10_loved_124 : decode cX10_loved 124 = .ok (.istore_n 3, 1) := by decide +kernel
theorem dX10_loved_125 : decode cX10_loved 125 = .ok (.iinc 4 1, 3) := by decide +kernel
theorem dX10_loved_128 : decode cX10_loved 128 = .ok (.goto (-84), 3) := by decide +kernel
theorem dX10_loved_131 : decode cX10_loved 131 = .ok (.iload_n 1, 1) := by decide +kernel
theorem dX10_loved_132 : decode cX10_loved 132 = .ok (.ifCond .ne 7, 3) := by decide +kernel
theorem dX10_loved_135 : decode cX10_loved 135 = .ok (.iload_n 2, 1) := by decide +kernel
theorem dX10_loved_136 : decode cX10_loved 136 = .ok (.goto 4, 3) := by decide +kernel
theorem dX10_loved_139 : decode cX10_loved 139 = .ok (.iload_n 3, 1) := by decide +kernel
theorem dX10_loved_140 : decode cX10_loved 140 = .ok (.ireturn, 1) := by decide +kernel
theorem dX10_note_0 : decode cX10_note 0 = .ok (.iload_n 1, 1) := by decide +kernel
theorem dX10_note_1 : decode cX10_note 1 = .ok (.iconst 1, 1) := by decide +kernel
theorem dX10_note_2 : decode cX10_note 2 = .ok (.if_icmp .lt 9, 3) := by decide +kernel
theorem dX10_note_5 : decode cX10_note 5 = .ok (.iload_n 1, 1) := by decide +kernel
theorem dX10_note_6 : decode cX10_note 6 = .ok (.bipush 30, 2) := by decide +kernel
theorem dX10_note_8 : decode cX10_note 8 = .ok (.if_icmp .le 5, 3) := by decide +kernel
theorem dX10_note_11 : decode cX10_note 11 = .ok (.iconst (-1), 1) := by decide +kernel
theorem dX10_note_12 : decode cX10_note 12 = .ok (.ireturn, 1) := by decide +kernel
theorem dX10_note_13 : decode cX10_note 13 = .ok (.aload_n 0, 1) := by decide +kernel
theorem dX10_note_14 : decode cX10_note 14 = .ok (.getfield 22, 3) := by decide +kernel
theorem dX10_note_17 : decode cX10_note 17 = .ok (.iconst 2, 1) := by decide +kernel
theorem dX10_note_18 : decode cX10_note 18 = .ok (.iload_n 2, 1) := by decide +kernel
theorem dX10_note_19 : decode cX10_note 19 = .ok (.invokevirtual 121, 3) := by decide +kernel
theorem dX10_note_22 : decode cX10_note 22 = .ok (.ifCond .eq 15, 3) := by decide +kernel
theorem dX10_note_25 : decode cX10_note 25 = .ok (.aload_n 0, 1) := by decide +kernel
theorem dX10_note_26 : decode cX10_note 26 = .ok (.getfield 22, 3) := by decide +kernel
theorem dX10_note_29 : decode cX10_note 29 = .ok (.iconst 0, 1) := by decide +kernel
theorem dX10_note_30 : decode cX10_note 30 = .ok (.iload_n 3, 1) := by decide +kernel
theorem dX10_note_31 : decode cX10_note 31 = .ok (.invokevirtual 121, 3) := by decide +kernel
theorem dX10_note_34 : decode cX10_note 34 = .ok (.ifCond .ne 5, 3) := by decide +kernel
theorem dX10_note_37 : decode cX10_note 37 = .ok (.iconst (-1), 1) := by decide +kernel
theorem dX10_note_38 : decode cX10_note 38 = .ok (.ireturn, 1) := by decide +kernel
theorem dX10_note_39 : decode cX10_note 39 = .ok (.aload_n 0, 1) := by decide +kernel
theorem dX10_note_40 : decode cX10_note 40 = .ok (.getfield 60, 3) := by decide +kernel
theorem dX10_note_43 : decode cX10_note 43 = .ok (.iload_n 1, 1) := by decide +kernel
theorem dX10_note_44 : decode cX10_note 44 = .ok (.iload_n 2, 1) := by decide +kernel
theorem dX10_note_45 : decode cX10_note 45 = .ok (.iload_n 3, 1) := by decide +kernel
theorem dX10_note_46 : decode cX10_note 46 = .ok (.iload 4, 2) := by decide +kernel
theorem dX10_note_48 : decode cX10_note 48 = .ok (.invokevirtual 316, 3) := by decide +kernel
theorem dX10_note_51 : decode cX10_note 51 = .ok (.ireturn, 1) := by decide +kernel
theorem dX10_out_0 : decode cX10_out 0 = .ok (.iload_n 1, 1) := by decide +kernel
theorem dX10_out_1 : decode cX10_out 1 = .ok (.ifCond .lt 14, 3) := by decide +kernel
theorem dX10_out_4 : decode cX10_out 4 = .ok (.iload_n 1, 1) := by decide +kernel
theorem dX10_out_5 : decode cX10_out 5 = .ok (.aload_n 0, 1) := by decide +kernel
theorem dX10_out_6 : decode cX10_out 6 = .ok (.getfield 60, 3) := by decide +kernel
theorem dX10_out_9 : decode cX10_out 9 = .ok (.getfield 216, 3) := by decide +kernel
theorem dX10_out_12 : decode cX10_out 12 = .ok (.if_icmp .lt 7, 3) := by decide +kernel
theorem dX10_out_15 : decode cX10_out 15 = .ok (.iconst (-1), 1) := by decide +kernel
theorem dX10_out_16 : decode cX10_out 16 = .ok (.goto 11, 3) := by decide +kernel
theorem dX10_out_19 : decode cX10_out 19 = .ok (.aload_n 0, 1) := by decide +kernel
theorem dX10_out_20 : decode cX10_out 20 = .ok (.getfield 60, 3) := by decide +kernel
theorem dX10_out_23 : decode cX10_out 23 = .ok (.iload_n 1, 1) := by decide +kernel
theorem dX10_out_24 : decode cX10_out 24 = .ok (.invokevirtual 319, 3) := by decide +kernel
theorem dX10_out_27 : decode cX10_out 27 = .ok (.ireturn, 1) := by decide +kernel
theorem dX10_known_0 : decode cX10_known 0 = .ok (.iload_n 1, 1) := by decide +kernel
theorem dX10_known_1 : decode cX10_known 1 = .ok (.iconst (-1), 1) := by decide +kernel
theorem dX10_known_2 : decode cX10_known 2 = .ok (.if_icmp .lt 14, 3) := by decide +kernel
theorem dX10_known_5 : decode cX10_known 5 = .ok (.iload_n 1, 1) := by decide +kernel
theorem dX10_known_6 : decode cX10_known 6 = .ok (.aload_n 0, 1) := by decide +kernel
theorem dX10_known_7 : decode cX10_known 7 = .ok (.getfield 60, 3) := by decide +kernel
theorem dX10_known_10 : decode cX10_known 10 = .ok (.getfield 216, 3) := by decide +kernel
theorem dX10_known_13 : decode cX10_known 13 = .ok (.if_icmp .le 5, 3) := by decide +kernel
theorem dX10_known_16 : decode cX10_known 16 = .ok (.iconst 0, 1) := by decide +kernel
theorem dX10_known_17 : decode cX10_known 17 = .ok (.ireturn, 1) := by decide +kernel
theorem dX10_known_18 : decode cX10_known 18 = .ok (.aload_n 0, 1) := by decide +kernel
theorem dX10_known_19 : decode cX10_known 19 = .ok (.getfield 60, 3) := by decide +kernel
theorem dX10_known_22 : decode cX10_known 22 = .ok (.iload_n 1, 1) := by decide +kernel
theorem dX10_known_23 : decode cX10_known 23 = .ok (.putfield 322, 3) := by decide +kernel
theorem dX10_known_26 : decode cX10_known 26 = .ok (.iconst 1, 1) := by decide +kernel
theorem dX10_known_27 : decode cX10_known 27 = .ok (.ireturn, 1) := by decide +kernel
theorem dX10_tastes_0 : decode cX10_tastes 0 = .ok (.aload_n 0, 1) := by decide +kernel
theorem dX10_tastes_1 : decode cX10_tastes 1 = .ok (.getfield 22, 3) := by decide +kernel
theorem dX10_tastes_4 : decode cX10_tastes 4 = .ok (.iconst 3, 1) := by decide +kernel
theorem dX10_tastes_5 : decode cX10_tastes 5 = .ok (.iload_n 1, 1) := by decide +kernel
theorem dX10_tastes_6 : decode cX10_tastes 6 = .ok (.invokevirtual 121, 3) := by decide +kernel
theorem dX10_tastes_9 : decode cX10_tastes 9 = .ok (.ifCond .ne 5, 3) := by decide +kernel
theorem dX10_tastes_12 : decode cX10_tastes 12 = .ok (.iconst (-1), 1) := by decide +kernel
theorem dX10_tastes_13 : decode cX10_tastes 13 = .ok (.ireturn, 1) := by decide +kernel
theorem dX10_tastes_14 : decode cX10_tastes 14 = .ok (.aload_n 0, 1) := by decide +kernel
theorem dX10_tastes_15 : decode cX10_tastes 15 = .ok (.getfield 60, 3) := by decide +kernel
theorem dX10_tastes_18 : decode cX10_tastes 18 = .ok (.invokevirtual 325, 3) := by decide +kernel
theorem dX10_tastes_21 : decode cX10_tastes 21 = .ok (.iconst 0, 1) := by decide +kernel
theorem dX10_tastes_22 : decode cX10_tastes 22 = .ok (.istore_n 2, 1) := by decide +kernel
theorem dX10_tastes_23 : decode cX10_tastes 23 = .ok (.iconst 0, 1) := by decide +kernel
theorem dX10_tastes_24 : decode cX10_tastes 24 = .ok (.istore_n 3, 1) := by decide +kernel
theorem dX10_tastes_25 : decode cX10_tastes 25 = .ok (.iload_n 3, 1) := by decide +kernel
theorem dX10_tastes_26 : decode cX10_tastes 26 = .ok (.bipush 9, 2) := by decide +kernel
theorem dX10_tastes_28 : decode cX10_tastes 28 = .ok (.if_icmp .gt 75, 3) := by decide +kernel
theorem dX10_tastes_31 : decode cX10_tastes 31 = .ok (.aload_n 0, 1) := by decide +kernel
theorem dX10_tastes_32 : decode cX10_tastes 32 = .ok (.getfield 47, 3) := by decide +kernel
theorem dX10_tastes_35 : decode cX10_tastes 35 = .ok (.aload_n 0, 1) := by decide +kernel
theorem dX10_tastes_36 : decode cX10_tastes 36 = .ok (.getfield 22, 3) := by decide +kernel
theorem dX10_tastes_39 : decode cX10_tastes 39 = .ok (.invokevirtual 97, 3) := by decide +kernel
theorem dX10_tastes_42 : decode cX10_tastes 42 = .ok (.aload_n 0, 1) := by decide +kernel
theorem dX10_tastes_43 : decode cX10_tastes 43 = .ok (.getfield 53, 3) := by decide +kernel
theorem dX10_tastes_46 : decode cX10_tastes 46 = .ok (.aload_n 0, 1) := by decide +kernel
theorem dX10_tastes_47 : decode cX10_tastes 47 = .ok (.getfield 22, 3) := by decide +kernel
theorem dX10_tastes_50 : decode cX10_tastes 50 = .ok (.aload_n 0, 1) := by decide +kernel
theorem dX10_tastes_51 : decode cX10_tastes 51 = .ok (.getfield 47, 3) := by decide +kernel
theorem dX10_tastes_54 : decode cX10_tastes 54 = .ok (.invokevirtual 189, 3) := by decide +kernel
theorem dX10_tastes_57 : decode cX10_tastes 57 = .ok (.aload_n 0, 1) := by decide +kernel
theorem dX10_tastes_58 : decode cX10_tastes 58 = .ok (.getfield 53, 3) := by decide +kernel
theorem dX10_tastes_61 : decode cX10_tastes 61 = .ok (.iload_n 1, 1) := by decide +kernel
theorem dX10_tastes_62 : decode cX10_tastes 62 = .ok (.putfield 328, 3) := by decide +kernel
theorem dX10_tastes_65 : decode cX10_tastes 65 = .ok (.aload_n 0, 1) := by decide +kernel
theorem dX10_tastes_66 : decode cX10_tastes 66 = .ok (.getfield 53, 3) := by decide +kernel
theorem dX10_tastes_69 : decode cX10_tastes 69 = .ok (.iload_n 3, 1) := by decide +kernel
theorem dX10_tastes_70 : decode cX10_tastes 70 = .ok (.putfield 331, 3) := by decide +kernel
theorem dX10_tastes_73 : decode cX10_tastes 73 = .ok (.aload_n 0, 1) := by decide +kernel
theorem dX10_tastes_74 : decode cX10_tastes 74 = .ok (.getfield 60, 3) := by decide +kernel
theorem dX10_tastes_77 : decode cX10_tastes 77 = .ok (.aload_n 0, 1) := by decide +kernel
theorem dX10_tastes_78 : decode cX10_tastes 78 = .ok (.getfield 53, 3) := by decide +kernel
theorem dX10_tastes_81 : decode cX10_tastes 81 = .ok (.aload_n 0, 1) := by decide +kernel
theorem dX10_tastes_82 : decode cX10_tastes 82 = .ok (.getfield 47, 3) := by decide +kernel
theorem dX10_tastes_85 : decode cX10_tastes 85 = .ok (.invokevirtual 334, 3) := by decide +kernel
theorem dX10_tastes_88 : decode cX10_tastes 88 = .ok (.ifCond .eq 9, 3) := by decide +kernel
theorem dX10_tastes_91 : decode cX10_tastes 91 = .ok (.iload_n 2, 1) := by decide +kernel
theorem dX10_tastes_92 : decode cX10_tastes 92 = .ok (.iconst 1, 1) := by decide +kernel
theorem dX10_tastes_93 : decode cX10_tastes 93 = .ok (.iload_n 3, 1) := by decide +kernel
theorem dX10_tastes_94 : decode cX10_tastes 94 = .ok (.ishl, 1) := by decide +kernel
theorem dX10_tastes_95 : decode cX10_tastes 95 = .ok (.ior, 1) := by decide +kernel
theorem dX10_tastes_96 : decode cX10_tastes 96 = .ok (.istore_n 2, 1) := by decide +kernel
theorem dX10_tastes_97 : decode cX10_tastes 97 = .ok (.iinc 3 1, 3) := by decide +kernel
theorem dX10_tastes_100 : decode cX10_tastes 100 = .ok (.goto (-75), 3) := by decide +kernel
theorem dX10_tastes_103 : decode cX10_tastes 103 = .ok (.iload_n 2, 1) := by decide +kernel
theorem dX10_tastes_104 : decode cX10_tastes 104 = .ok (.ireturn, 1) := by decide +kernel
