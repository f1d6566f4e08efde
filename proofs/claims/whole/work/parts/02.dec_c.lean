theorem dX7_init_0 : decode cX7_init 0 = .ok (.aload_n 0, 1) := by decide +kernel
theorem dX7_init_1 : decode cX7_init 1 = .ok (.invokespecial 1, 3) := by decide +kernel
theorem dX7_init_4 : decode cX7_init 4 = .ok (.aload_n 0, 1) := by decide +kernel
theorem dX7_init_5 : decode cX7_init 5 = .ok (.sipush 382, 3) := by decide +kernel
theorem dX7_init_8 : decode cX7_init 8 = .ok (.newarray .int, 2) := by decide +kernel
theorem dX7_init_10 : decode cX7_init 10 = .ok (.putfield 7, 3) := by decide +kernel
theorem dX7_init_13 : decode cX7_init 13 = .ok (.aload_n 0, 1) := by decide +kernel
theorem dX7_init_14 : decode cX7_init 14 = .ok (.sipush 382, 3) := by decide +kernel
theorem dX7_init_17 : decode cX7_init 17 = .ok (.newarray .int, 2) := by decide +kernel
theorem dX7_init_19 : decode cX7_init 19 = .ok (.putfield 13, 3) := by decide +kernel
theorem dX7_init_22 : decode cX7_init 22 = .ok (.aload_n 0, 1) := by decide +kernel
theorem dX7_init_23 : decode cX7_init 23 = .ok (.bipush 7, 2) := by decide +kernel
theorem dX7_init_25 : decode cX7_init 25 = .ok (.newarray .int, 2) := by decide +kernel
theorem dX7_init_27 : decode cX7_init 27 = .ok (.putfield 16, 3) := by decide +kernel
theorem dX7_init_30 : decode cX7_init 30 = .ok (.aload_n 0, 1) := by decide +kernel
theorem dX7_init_31 : decode cX7_init 31 = .ok (.bipush 124, 2) := by decide +kernel
theorem dX7_init_33 : decode cX7_init 33 = .ok (.newarray .int, 2) := by decide +kernel
theorem dX7_init_35 : decode cX7_init 35 = .ok (.putfield 19, 3) := by decide +kernel
theorem dX7_init_38 : decode cX7_init 38 = .ok (.aload_n 0, 1) := by decide +kernel
theorem dX7_init_39 : decode cX7_init 39 = .ok (.sipush 128, 3) := by decide +kernel
theorem dX7_init_42 : decode cX7_init 42 = .ok (.newarray .int, 2) := by decide +kernel
theorem dX7_init_44 : decode cX7_init 44 = .ok (.putfield 22, 3) := by decide +kernel
theorem dX7_init_47 : decode cX7_init 47 = .ok (.aload_n 0, 1) := by decide +kernel
theorem dX7_init_48 : decode cX7_init 48 = .ok (.bipush 64, 2) := by decide +kernel
theorem dX7_init_50 : decode cX7_init 50 = .ok (.newarray .int, 2) := by decide +kernel
theorem dX7_init_52 : decode cX7_init 52 = .ok (.putfield 25, 3) := by decide +kernel
theorem dX7_init_55 : decode cX7_init 55 = .ok (.aload_n 0, 1) := by decide +kernel
theorem dX7_init_56 : decode cX7_init 56 = .ok (.sipush 1210, 3) := by decide +kernel
theorem dX7_init_59 : decode cX7_init 59 = .ok (.newarray .int, 2) := by decide +kernel
theorem dX7_init_61 : decode cX7_init 61 = .ok (.putfield 28, 3) := by decide +kernel
theorem dX7_init_64 : decode cX7_init 64 = .ok (.aload_n 0, 1) := by decide +kernel
theorem dX7_init_65 : decode cX7_init 65 = .ok (.bipush 10, 2) := by decide +kernel
theorem dX7_init_67 : decode cX7_init 67 = .ok (.newarray .int, 2) := by decide +kernel
theorem dX7_init_69 : decode cX7_init 69 = .ok (.putfield 31, 3) := by decide +kernel
theorem dX7_init_72 : decode cX7_init 72 = .ok (.aload_n 0, 1) := by decide +kernel
theorem dX7_init_73 : decode cX7_init 73 = .ok (.bipush 30, 2) := by decide +kernel
theorem dX7_init_75 : decode cX7_init 75 = .ok (.newarray .int, 2) := by decide +kernel
theorem dX7_init_77 : decode cX7_init 77 = .ok (.putfield 34, 3) := by decide +kernel
theorem dX7_init_80 : decode cX7_init 80 = .ok (.aload_n 0, 1) := by decide +kernel
theorem dX7_init_81 : decode cX7_init 81 = .ok (.iconst 4, 1) := by decide +kernel
theorem dX7_init_82 : decode cX7_init 82 = .ok (.newarray .int, 2) := by decide +kernel
theorem dX7_init_84 : decode cX7_init 84 = .ok (.putfield 37, 3) := by decide +kernel
theorem dX7_init_87 : decode cX7_init 87 = .ok (.aload_n 0, 1) := by decide +kernel
theorem dX7_init_88 : decode cX7_init 88 = .ok (.iconst 4, 1) := by decide +kernel
theorem dX7_init_89 : decode cX7_init 89 = .ok (.newarray .int, 2) := by decide +kernel
theorem dX7_init_91 : decode cX7_init 91 = .ok (.putfield 40, 3) := by decide +kernel
theorem dX7_init_94 : decode cX7_init 94 = .ok (.aload_n 0, 1) := by decide +kernel
theorem dX7_init_95 : decode cX7_init 95 = .ok (.bipush 96, 2) := by decide +kernel
theorem dX7_init_97 : decode cX7_init 97 = .ok (.newarray .int, 2) := by decide +kernel
theorem dX7_init_99 : decode cX7_init 99 = .ok (.putfield 43, 3) := by decide +kernel
theorem dX7_init_102 : decode cX7_init 102 = .ok (.aload_n 0, 1) := by decide +kernel
theorem dX7_init_103 : decode cX7_init 103 = .ok (.bipush 24, 2) := by decide +kernel
theorem dX7_init_105 : decode cX7_init 105 = .ok (.newarray .int, 2) := by decide +kernel
theorem dX7_init_107 : decode cX7_init 107 = .ok (.putfield 46, 3) := by decide +kernel
theorem dX7_init_110 : decode cX7_init 110 = .ok (.aload_n 0, 1) := by decide +kernel
theorem dX7_init_111 : decode cX7_init 111 = .ok (.getfield 7, 3) := by decide +kernel
theorem dX7_init_114 : decode cX7_init 114 = .ok (.iconst 2, 1) := by decide +kernel
theorem dX7_init_115 : decode cX7_init 115 = .ok (.iconst 1, 1) := by decide +kernel
theorem dX7_init_116 : decode cX7_init 116 = .ok (.iastore, 1) := by decide +kernel
theorem dX7_init_117 : decode cX7_init 117 = .ok (.return_, 1) := by decide +kernel
theorem dX7_error_0 : decode cX7_error 0 = .ok (.aload_n 0, 1) := by decide +kernel
theorem dX7_error_1 : decode cX7_error 1 = .ok (.getfield 16, 3) := by decide +kernel
theorem dX7_error_4 : decode cX7_error 4 = .ok (.iload_n 1, 1) := by decide +kernel
theorem dX7_error_5 : decode cX7_error 5 = .ok (.dup2, 1) := by decide +kernel
theorem dX7_error_6 : decode cX7_error 6 = .ok (.iaload, 1) := by decide +kernel
theorem dX7_error_7 : decode cX7_error 7 = .ok (.iconst 1, 1) := by decide +kernel
theorem dX7_error_8 : decode cX7_error 8 = .ok (.iadd, 1) := by decide +kernel
theorem dX7_error_9 : decode cX7_error 9 = .ok (.iastore, 1) := by decide +kernel
theorem dX7_error_10 : decode cX7_error 10 = .ok (.ldc 49, 2) := by decide +kernel
theorem dX7_error_12 : decode cX7_error 12 = .ok (.iload_n 1, 1) := by decide +kernel
theorem dX7_error_13 : decode cX7_error 13 = .ok (.isub, 1) := by decide +kernel
theorem dX7_error_14 : decode cX7_error 14 = .ok (.ireturn, 1) := by decide +kernel
theorem dX7_in_0 : decode cX7_in 0 = .ok (.iload_n 0, 1) := by decide +kernel
theorem dX7_in_1 : decode cX7_in 1 = .ok (.iload_n 1, 1) := by decide +kernel
theorem dX7_in_2 : decode cX7_in 2 = .ok (.if_icmp .lt 12, 3) := by decide +kernel
theorem dX7_in_5 : decode cX7_in 5 = .ok (.iload_n 0, 1) := by decide +kernel
theorem dX7_in_6 : decode cX7_in 6 = .ok (.iload_n 2, 1) := by decide +kernel
theorem dX7_in_7 : decode cX7_in 7 = .ok (.if_icmp .gt 7, 3) := by decide +kernel
theorem dX7_in_10 : decode cX7_in 10 = .ok (.iconst 1, 1) := by decide +kernel
theorem dX7_in_11 : decode cX7_in 11 = .ok (.goto 4, 3) := by decide +kernel
theorem dX7_in_14 : decode cX7_in 14 = .ok (.iconst 0, 1) := by decide +kernel
theorem dX7_in_15 : decode cX7_in 15 = .ok (.ireturn, 1) := by decide +kernel
theorem dX7_held_0 : decode cX7_held 0 = .ok (.iload_n 0, 1) := by decide +kernel
theorem dX7_held_1 : decode cX7_held 1 = .ok (.iload_n 1, 1) := by decide +kernel
theorem dX7_held_2 : decode cX7_held 2 = .ok (.if_icmp .ge 7, 3) := by decide +kernel
theorem dX7_held_5 : decode cX7_held 5 = .ok (.iload_n 1, 1) := by decide +kernel
theorem dX7_held_6 : decode cX7_held 6 = .ok (.goto 13, 3) := by decide +kernel
theorem dX7_held_9 : decode cX7_held 9 = .ok (.iload_n 0, 1) := by decide +kernel
theorem dX7_held_10 : decode cX7_held 10 = .ok (.iload_n 2, 1) := by decide +kernel
theorem dX7_held_11 : decode cX7_held 11 = .ok (.if_icmp .le 7, 3) := by decide +kernel
theorem dX7_held_14 : decode cX7_held 14 = .ok (.iload_n 2, 1) := by decide +kernel
theorem dX7_held_15 : decode cX7_held 15 = .ok (.goto 4, 3) := by decide +kernel
theorem dX7_held_18 : decode cX7_held 18 = .ok (.iload_n 0, 1) := by decide +kernel
theorem dX7_held_19 : decode cX7_held 19 = .ok (.ireturn, 1) := by decide +kernel
theorem dX7_copyAll_0 : decode cX7_copyAll 0 = .ok (.iconst 0, 1) := by decide +kernel
theorem dX7_copyAll_1 : decode cX7_copyAll 1 = .ok (.istore_n 2, 1) := by decide +kernel
theorem dX7_copyAll_2 : decode cX7_copyAll 2 = .ok (.iload_n 2, 1) := by decide +kernel
theorem dX7_copyAll_3 : decode cX7_copyAll 3 = .ok (.sipush 382, 3) := by decide +kernel
theorem dX7_copyAll_6 : decode cX7_copyAll 6 = .ok (.if_icmp .ge 15, 3) := by decide +kernel
theorem dX7_copyAll_9 : decode cX7_copyAll 9 = .ok (.aload_n 1, 1) := by decide +kernel
theorem dX7_copyAll_10 : decode cX7_copyAll 10 = .ok (.iload_n 2, 1) := by decide +kernel
theorem dX7_copyAll_11 : decode cX7_copyAll 11 = .ok (.aload_n 0, 1) := by decide +kernel
theorem dX7_copyAll_12 : decode cX7_copyAll 12 = .ok (.iload_n 2, 1) := by decide +kernel
theorem dX7_copyAll_13 : decode cX7_copyAll 13 = .ok (.iaload, 1) := by decide +kernel
theorem dX7_copyAll_14 : decode cX7_copyAll 14 = .ok (.iastore, 1) := by decide +kernel
theorem dX7_copyAll_15 : decode cX7_copyAll 15 = .ok (.iinc 2 1, 3) := by decide +kernel
theorem dX7_copyAll_18 : decode cX7_copyAll 18 = .ok (.goto (-16), 3) := by decide +kernel
theorem dX7_copyAll_21 : decode cX7_copyAll 21 = .ok (.return_, 1) := by decide +kernel
theorem dX7_isHouse_0 : decode cX7_isHouse 0 = .ok (.iload_n 1, 1) := by decide +kernel
theorem dX7_isHouse_1 : decode cX7_isHouse 1 = .ok (.iconst 0, 1) := by decide +kernel
theorem dX7_isHouse_2 : decode cX7_isHouse 2 = .ok (.aload_n 0, 1) := by decide +kernel
theorem dX7_isHouse_3 : decode cX7_isHouse 3 = .ok (.getfield 7, 3) := by decide +kernel
theorem dX7_isHouse_6 : decode cX7_isHouse 6 = .ok (.iconst 5, 1) := by decide +kernel
theorem dX7_isHouse_7 : decode cX7_isHouse 7 = .ok (.iaload, 1) := by decide +kernel
theorem dX7_isHouse_8 : decode cX7_isHouse 8 = .ok (.iconst 1, 1) := by decide +kernel
theorem dX7_isHouse_9 : decode cX7_isHouse 9 = .ok (.isub, 1) := by decide +kernel
theorem dX7_isHouse_10 : decode cX7_isHouse 10 = .ok (.invokestatic 50, 3) := by decide +kernel
theorem dX7_isHouse_13 : decode cX7_isHouse 13 = .ok (.ireturn, 1) := by decide +kernel
theorem dX7_isNumber_0 : decode cX7_isNumber 0 = .ok (.iload_n 0, 1) := by decide +kernel
theorem dX7_isNumber_1 : decode cX7_isNumber 1 = .ok (.iconst 1, 1) := by decide +kernel
theorem dX7_isNumber_2 : decode cX7_isNumber 2 = .ok (.sipush 999, 3) := by decide +kernel
theorem dX7_isNumber_5 : decode cX7_isNumber 5 = .ok (.invokestatic 50, 3) := by decide +kernel
theorem dX7_isNumber_8 : decode cX7_isNumber 8 = .ok (.ireturn, 1) := by decide +kernel
theorem dX7_its_0 : decode cX7_its 0 = .ok (.aload_n 0, 1) := by decide +kernel
theorem dX7_its_1 : decode cX7_its 1 = .ok (.getfield 7, 3) := by decide +kernel
theorem dX7_its_4 : decode cX7_its 4 = .ok (.bipush 8, 2) := by decide +kernel
theorem dX7_its_6 : decode cX7_its 6 = .ok (.iconst 4, 1) := by decide +kernel
theorem dX7_its_7 : decode cX7_its 7 = .ok (.iload_n 1, 1) := by decide +kernel
theorem dX7_its_8 : decode cX7_its 8 = .ok (.imul, 1) := by decide +kernel
theorem dX7_its_9 : decode cX7_its 9 = .ok (.iadd, 1) := by decide +kernel
theorem dX7_its_10 : decode cX7_its 10 = .ok (.iload_n 2, 1) := by decide +kernel
theorem dX7_its_11 : decode cX7_its 11 = .ok (.iadd, 1) := by decide +kernel
theorem dX7_its_12 : decode cX7_its 12 = .ok (.iaload, 1) := by decide +kernel
theorem dX7_its_13 : decode cX7_its 13 = .ok (.ireturn, 1) := by decide +kernel
theorem dX7_lays1_0 : decode cX7_lays1 0 = .ok (.aload_n 0, 1) := by decide +kernel
theorem dX7_lays1_1 : decode cX7_lays1 1 = .ok (.getfield 7, 3) := by decide +kernel
theorem dX7_lays1_4 : decode cX7_lays1 4 = .ok (.bipush 8, 2) := by decide +kernel
theorem dX7_lays1_6 : decode cX7_lays1 6 = .ok (.iconst 4, 1) := by decide +kernel
theorem dX7_lays1_7 : decode cX7_lays1 7 = .ok (.iload_n 1, 1) := by decide +kernel
theorem dX7_lays1_8 : decode cX7_lays1 8 = .ok (.imul, 1) := by decide +kernel
theorem dX7_lays1_9 : decode cX7_lays1 9 = .ok (.iadd, 1) := by decide +kernel
theorem dX7_lays1_10 : decode cX7_lays1 10 = .ok (.iload_n 2, 1) := by decide +kernel
theorem dX7_lays1_11 : decode cX7_lays1 11 = .ok (.iadd, 1) := by decide +kernel
theorem dX7_lays1_12 : decode cX7_lays1 12 = .ok (.iload_n 3, 1) := by decide +kernel
theorem dX7_lays1_13 : decode cX7_lays1 13 = .ok (.iastore, 1) := by decide +kernel
theorem dX7_lays1_14 : decode cX7_lays1 14 = .ok (.return_, 1) := by decide +kernel
theorem dX7_change1_0 : decode cX7_change1 0 = .ok (.aload_n 0, 1) := by decide +kernel
theorem dX7_change1_1 : decode cX7_change1 1 = .ok (.getfield 7, 3) := by decide +kernel
theorem dX7_change1_4 : decode cX7_change1 4 = .ok (.iload_n 1, 1) := by decide +kernel
theorem dX7_change1_5 : decode cX7_change1 5 = .ok (.iaload, 1) := by decide +kernel
theorem dX7_change1_6 : decode cX7_change1 6 = .ok (.istore_n 3, 1) := by decide +kernel
theorem dX7_change1_7 : decode cX7_change1 7 = .ok (.aload_n 0, 1) := by decide +kernel
theorem dX7_change1_8 : decode cX7_change1 8 = .ok (.getfield 7, 3) := by decide +kernel
theorem dX7_change1_11 : decode cX7_change1 11 = .ok (.iload_n 1, 1) := by decide +kernel
theorem dX7_change1_12 : decode cX7_change1 12 = .ok (.iload_n 2, 1) := by decide +kernel
theorem dX7_change1_13 : decode cX7_change1 13 = .ok (.iastore, 1) := by decide +kernel
theorem dX7_change1_14 : decode cX7_change1 14 = .ok (.iload_n 3, 1) := by decide +kernel
theorem dX7_change1_15 : decode cX7_change1 15 = .ok (.ireturn, 1) := by decide +kernel
theorem dX7_at1_0 : decode cX7_at1 0 = .ok (.iconst 0, 1) := by decide +kernel
theorem dX7_at1_1 : decode cX7_at1 1 = .ok (.istore_n 2, 1) := by decide +kernel
theorem dX7_at1_2 : decode cX7_at1 2 = .ok (.aload_n 0, 1) := by decide +kernel
theorem dX7_at1_3 : decode cX7_at1 3 = .ok (.iload_n 2, 1) := by decide +kernel
theorem dX7_at1_4 : decode cX7_at1 4 = .ok (.iconst 3, 1) := by decide +kernel
theorem dX7_at1_5 : decode cX7_at1 5 = .ok (.invokevirtual 54, 3) := by decide +kernel
theorem dX7_at1_8 : decode cX7_at1 8 = .ok (.iload_n 1, 1) := by decide +kernel
theorem dX7_at1_9 : decode cX7_at1 9 = .ok (.if_icmp .eq 9, 3) := by decide +kernel
theorem dX7_at1_12 : decode cX7_at1 12 = .ok (.iinc 2 1, 3) := by decide +kernel
theorem dX7_at1_15 : decode cX7_at1 15 = .ok (.goto (-13), 3) := by decide +kernel
theorem dX7_at1_18 : decode cX7_at1 18 = .ok (.iload_n 2, 1) := by decide +kernel
theorem dX7_at1_19 : decode cX7_at1 19 = .ok (.ireturn, 1) := by decide +kernel
theorem dX7_feed_0 : decode cX7_feed 0 = .ok (.iload_n 3, 1) := by decide +kernel
theorem dX7_feed_1 : decode cX7_feed 1 = .ok (.iconst 1, 1) := by decide +kernel
theorem dX7_feed_2 : decode cX7_feed 2 = .ok (.bipush 8, 2) := by decide +kernel
theorem dX7_feed_4 : decode cX7_feed 4 = .ok (.invokestatic 50, 3) := by decide +kernel
theorem dX7_feed_7 : decode cX7_feed 7 = .ok (.ifCond .ne 9, 3) := by decide +kernel
theorem dX7_feed_10 : decode cX7_feed 10 = .ok (.aload_n 0, 1) := by decide +kernel
theorem dX7_feed_11 : decode cX7_feed 11 = .ok (.iconst 1, 1) := by decide +kernel
theorem dX7_feed_12 : decode cX7_feed 12 = .ok (.invokevirtual 58, 3) := by decide +kernel
theorem dX7_feed_15 : decode cX7_feed 15 = .ok (.ireturn, 1) := by decide +kernel
theorem dX7_feed_16 : decode cX7_feed 16 = .ok (.aload_n 0, 1) := by decide +kernel
theorem dX7_feed_17 : decode cX7_feed 17 = .ok (.getfield 7, 3) := by decide +kernel
theorem dX7_feed_20 : decode cX7_feed 20 = .ok (.iconst 3, 1) := by decide +kernel
theorem dX7_feed_21 : decode cX7_feed 21 = .ok (.iaload, 1) := by decide +kernel
theorem dX7_feed_22 : decode cX7_feed 22 = .ok (.iload_n 3, 1) := by decide +kernel
theorem dX7_feed_23 : decode cX7_feed 23 = .ok (.iadd, 1) := by decide +kernel
theorem dX7_feed_24 : decode cX7_feed 24 = .ok (.bipush 60, 2) := by decide +kernel
theorem dX7_feed_26 : decode cX7_feed 26 = .ok (.if_icmp .le 9, 3) := by decide +kernel
theorem dX7_feed_29 : decode cX7_feed 29 = .ok (.aload_n 0, 1) := by decide +kernel
theorem dX7_feed_30 : decode cX7_feed 30 = .ok (.iconst 4, 1) := by decide +kernel
theorem dX7_feed_31 : decode cX7_feed 31 = .ok (.invokevirtual 58, 3) := by decide +kernel
theorem dX7_feed_34 : decode cX7_feed 34 = .ok (.ireturn, 1) := by decide +kernel
theorem dX7_feed_35 : decode cX7_feed 35 = .ok (.iconst 0, 1) := by decide +kernel
theorem dX7_feed_36 : decode cX7_feed 36 = .ok (.istore 4, 2) := by decide +kernel
theorem dX7_feed_38 : decode cX7_feed 38 = .ok (.iload 4, 2) := by decide +kernel
theorem dX7_feed_40 : decode cX7_feed 40 = .ok (.iload_n 3, 1) := by decide +kernel
theorem dX7_feed_41 : decode cX7_feed 41 = .ok (.if_icmp .ge 46, 3) := by decide +kernel
theorem dX7_feed_44 : decode cX7_feed 44 = .ok (.aload_n 0, 1) := by decide +kernel
theorem dX7_feed_45 : decode cX7_feed 45 = .ok (.getfield 7, 3) := by decide +kernel
theorem dX7_feed_48 : decode cX7_feed 48 = .ok (.sipush 298, 3) := by decide +kernel
theorem dX7_feed_51 : decode cX7_feed 51 = .ok (.aload_n 0, 1) := by decide +kernel
theorem dX7_feed_52 : decode cX7_feed 52 = .ok (.getfield 7, 3) := by decide +kernel
theorem dX7_feed_55 : decode cX7_feed 55 = .ok (.iconst 3, 1) := by decide +kernel
theorem dX7_feed_56 : decode cX7_feed 56 = .ok (.iaload, 1) := by decide +kernel
theorem dX7_feed_57 : decode cX7_feed 57 = .ok (.iadd, 1) := by decide +kernel
theorem dX7_feed_58 : decode cX7_feed 58 = .ok (.lload_n 1, 1) := by decide +kernel
theorem dX7_feed_59 : decode cX7_feed 59 = .ok (.bipush 8, 2) := by decide +kernel
theorem dX7_feed_61 : decode cX7_feed 61 = .ok (.iload 4, 2) := by decide +kernel
theorem dX7_feed_63 : decode cX7_feed 63 = .ok (.imul, 1) := by decide +kernel
theorem dX7_feed_64 : decode cX7_feed 64 = .ok (.lshr, 1) := by decide +kernel
theorem dX7_feed_65 : decode cX7_feed 65 = .ok (.ldc2_w 62, 3) := by decide +kernel
theorem dX7_feed_68 : decode cX7_feed 68 = .ok (.land, 1) := by decide +kernel
theorem dX7_feed_69 : decode cX7_feed 69 = .ok (.l2i, 1) := by decide +kernel
theorem dX7_feed_70 : decode cX7_feed 70 = .ok (.iastore, 1) := by decide +kernel
theorem dX7_feed_71 : decode cX7_feed 71 = .ok (.aload_n 0, 1) := by decide +kernel
theorem dX7_feed_72 : decode cX7_feed 72 = .ok (.getfield 7, 3) := by decide +kernel
theorem dX7_feed_75 : decode cX7_feed 75 = .ok (.iconst 3, 1) := by decide +kernel
theorem dX7_feed_76 : decode cX7_feed 76 = .ok (.dup2, 1) := by decide +kernel
theorem dX7_feed_77 : decode cX7_feed 77 = .ok (.iaload, 1) := by decide +kernel
theorem dX7_feed_78 : decode cX7_feed 78 = .ok (.iconst 1, 1) := by decide +kernel
theorem dX7_feed_79 : decode cX7_feed 79 = .ok (.iadd, 1) := by decide +kernel
theorem dX7_feed_80 : decode cX7_feed 80 = .ok (.iastore, 1) := by decide +kernel
theorem dX7_feed_81 : decode cX7_feed 81 = .ok (.iinc 4 1, 3) := by decide +kernel
theorem dX7_feed_84 : decode cX7_feed 84 = .ok (.goto (-46), 3) := by decide +kernel
theorem dX7_feed_87 : decode cX7_feed 87 = .ok (.aload_n 0, 1) := by decide +kernel
theorem dX7_feed_88 : decode cX7_feed 88 = .ok (.getfield 7, 3) := by decide +kernel
theorem dX7_feed_91 : decode cX7_feed 91 = .ok (.iconst 3, 1) := by decide +kernel
theorem dX7_feed_92 : decode cX7_feed 92 = .ok (.iaload, 1) := by decide +kernel
theorem dX7_feed_93 : decode cX7_feed 93 = .ok (.ireturn, 1) := by decide +kernel
theorem dX7_look_0 : decode cX7_look 0 = .ok (.aload_n 0, 1) := by decide +kernel
theorem dX7_look_1 : decode cX7_look 1 = .ok (.getfield 64, 3) := by decide +kernel
theorem dX7_look_4 : decode cX7_look 4 = .ok (.aload_n 0, 1) := by decide +kernel
theorem dX7_look_5 : decode cX7_look 5 = .ok (.getfield 7, 3) := by decide +kernel
theorem dX7_look_8 : decode cX7_look 8 = .ok (.iconst 3, 1) := by decide +kernel
theorem dX7_look_9 : decode cX7_look 9 = .ok (.iaload, 1) := by decide +kernel
theorem dX7_look_10 : decode cX7_look 10 = .ok (.if_icmp .ge 19, 3) := by decide +kernel
theorem dX7_look_13 : decode cX7_look 13 = .ok (.aload_n 0, 1) := by decide +kernel
theorem dX7_look_14 : decode cX7_look 14 = .ok (.getfield 7, 3) := by decide +kernel
theorem dX7_look_17 : decode cX7_look 17 = .ok (.sipush 298, 3) := by decide +kernel
theorem dX7_look_20 : decode cX7_look 20 = .ok (.aload_n 0, 1) := by decide +kernel
theorem dX7_look_21 : decode cX7_look 21 = .ok (.getfield 64, 3) := by decide +kernel
theorem dX7_look_24 : decode cX7_look 24 = .ok (.iadd, 1) := by decide +kernel
theorem dX7_look_25 : decode cX7_look 25 = .ok (.iaload, 1) := by decide +kernel
theorem dX7_look_26 : decode cX7_look 26 = .ok (.goto 4, 3) := by decide +kernel
theorem dX7_look_29 : decode cX7_look 29 = .ok (.iconst (-1), 1) := by decide +kernel
theorem dX7_look_30 : decode cX7_look 30 = .ok (.ireturn, 1) := by decide +kernel
theorem dX7_isName_0 : decode cX7_isName 0 = .ok (.iload_n 1, 1) := by decide +kernel
theorem dX7_isName_1 : decode cX7_isName 1 = .ok (.bipush 121, 2) := by decide +kernel
theorem dX7_isName_3 : decode cX7_isName 3 = .ok (.if_icmp .ne 5, 3) := by decide +kernel
theorem dX7_isName_6 : decode cX7_isName 6 = .ok (.iconst 1, 1) := by decide +kernel
theorem dX7_isName_7 : decode cX7_isName 7 = .ok (.ireturn, 1) := by decide +kernel
theorem dX7_isName_8 : decode cX7_isName 8 = .ok (.aload_n 0, 1) := by decide +kernel
theorem dX7_isName_9 : decode cX7_isName 9 = .ok (.getfield 68, 3) := by decide +kernel
theorem dX7_isName_12 : decode cX7_isName 12 = .ok (.ifCond .ne 23, 3) := by decide +kernel
theorem dX7_isName_15 : decode cX7_isName 15 = .ok (.iload_n 1, 1) := by decide +kernel
theorem dX7_isName_16 : decode cX7_isName 16 = .ok (.bipush 104, 2) := by decide +kernel
theorem dX7_isName_18 : decode cX7_isName 18 = .ok (.if_icmp .eq 9, 3) := by decide +kernel
theorem dX7_isName_21 : decode cX7_isName 21 = .ok (.iload_n 1, 1) := by decide +kernel
theorem dX7_isName_22 : decode cX7_isName 22 = .ok (.bipush 111, 2) := by decide +kernel
theorem dX7_isName_24 : decode cX7_isName 24 = .ok (.if_icmp .ne 7, 3) := by decide +kernel
theorem dX7_isName_27 : decode cX7_isName 27 = .ok (.iconst 1, 1) := by decide +kernel
theorem dX7_isName_28 : decode cX7_isName 28 = .ok (.goto 24, 3) := by decide +kernel
theorem dX7_isName_31 : decode cX7_isName 31 = .ok (.iconst 0, 1) := by decide +kernel
theorem dX7_isName_32 : decode cX7_isName 32 = .ok (.goto 20, 3) := by decide +kernel
theorem dX7_isName_35 : decode cX7_isName 35 = .ok (.iload_n 1, 1) := by decide +kernel
theorem dX7_isName_36 : decode cX7_isName 36 = .ok (.bipush 98, 2) := by decide +kernel
theorem dX7_isName_38 : decode cX7_isName 38 = .ok (.if_icmp .eq 9, 3) := by decide +kernel
theorem dX7_isName_41 : decode cX7_isName 41 = .ok (.iload_n 1, 1) := by decide +kernel
theorem dX7_isName_42 : decode cX7_isName 42 = .ok (.bipush 115, 2) := by decide +kernel
theorem dX7_isName_44 : decode cX7_isName 44 = .ok (.if_icmp .ne 7, 3) := by decide +kernel
theorem dX7_isName_47 : decode cX7_isName 47 = .ok (.iconst 1, 1) := by decide +kernel
theorem dX7_isName_48 : decode cX7_isName 48 = .ok (.goto 4, 3) := by decide +kernel
theorem dX7_isName_51 : decode cX7_isName 51 = .ok (.iconst 0, 1) := by decide +kernel
theorem dX7_isName_52 : decode cX7_isName 52 = .ok (.ireturn, 1) := by decide +kernel
theorem dX7_step1_0 : decode cX7_step1 0 = .ok (.aload_n 0, 1) := by decide +kernel
theorem dX7_step1_1 : decode cX7_step1 1 = .ok (.getfield 19, 3) := by decide +kernel
theorem dX7_step1_4 : decode cX7_step1 4 = .ok (.iconst 2, 1) := by decide +kernel
theorem dX7_step1_5 : decode cX7_step1 5 = .ok (.aload_n 0, 1) := by decide +kernel
theorem dX7_step1_6 : decode cX7_step1 6 = .ok (.getfield 71, 3) := by decide +kernel
theorem dX7_step1_9 : decode cX7_step1 9 = .ok (.imul, 1) := by decide +kernel
theorem dX7_step1_10 : decode cX7_step1 10 = .ok (.iload_n 1, 1) := by decide +kernel
theorem dX7_step1_11 : decode cX7_step1 11 = .ok (.iastore, 1) := by decide +kernel
theorem dX7_step1_12 : decode cX7_step1 12 = .ok (.aload_n 0, 1) := by decide +kernel
theorem dX7_step1_13 : decode cX7_step1 13 = .ok (.getfield 19, 3) := by decide +kernel
theorem dX7_step1_16 : decode cX7_step1 16 = .ok (.iconst 2, 1) := by decide +kernel
theorem dX7_step1_17 : decode cX7_step1 17 = .ok (.aload_n 0, 1) := by decide +kernel
theorem dX7_step1_18 : decode cX7_step1 18 = .ok (.getfield 71, 3) := by decide +kernel
theorem dX7_step1_21 : decode cX7_step1 21 = .ok (.imul, 1) := by decide +kernel
theorem dX7_step1_22 : decode cX7_step1 22 = .ok (.iconst 1, 1) := by decide +kernel
theorem dX7_step1_23 : decode cX7_step1 23 = .ok (.iadd, 1) := by decide +kernel
theorem dX7_step1_24 : decode cX7_step1 24 = .ok (.iload_n 2, 1) := by decide +kernel
theorem dX7_step1_25 : decode cX7_step1 25 = .ok (.iastore, 1) := by decide +kernel
theorem dX7_step1_26 : decode cX7_step1 26 = .ok (.aload_n 0, 1) := by decide +kernel
theorem dX7_step1_27 : decode cX7_step1 27 = .ok (.dup, 1) := by decide +kernel
theorem dX7_step1_28 : decode cX7_step1 28 = .ok (.getfield 71, 3) := by decide +kernel
theorem dX7_step1_31 : decode cX7_step1 31 = .ok (.iconst 1, 1) := by decide +kernel
theorem dX7_step1_32 : decode cX7_step1 32 = .ok (.iadd, 1) := by decide +kernel
theorem dX7_step1_33 : decode cX7_step1 33 = .ok (.putfield 71, 3) := by decide +kernel
theorem dX7_step1_36 : decode cX7_step1 36 = .ok (.return_, 1) := by decide +kernel
theorem dX7_whole_0 : decode cX7_whole 0 = .ok (.aload_n 0, 1) := by decide +kernel
theorem dX7_whole_1 : decode cX7_whole 1 = .ok (.invokevirtual 74, 3) := by decide +kernel
theorem dX7_whole_4 : decode cX7_whole 4 = .ok (.ifCond .ne 5, 3) := by decide +kernel
theorem dX7_whole_7 : decode cX7_whole 7 = .ok (.iconst 0, 1) := by decide +kernel
theorem dX7_whole_8 : decode cX7_whole 8 = .ok (.ireturn, 1) := by decide +kernel
theorem dX7_whole_9 : decode cX7_whole 9 = .ok (.aload_n 0, 1) := by decide +kernel
theorem dX7_whole_10 : decode cX7_whole 10 = .ok (.invokevirtual 78, 3) := by decide +kernel
theorem dX7_whole_13 : decode cX7_whole 13 = .ok (.bipush 124, 2) := by decide +kernel
theorem dX7_whole_15 : decode cX7_whole 15 = .ok (.if_icmp .ne 32, 3) := by decide +kernel
theorem dX7_whole_18 : decode cX7_whole 18 = .ok (.aload_n 0, 1) := by decide +kernel
theorem dX7_whole_19 : decode cX7_whole 19 = .ok (.dup, 1) := by decide +kernel
theorem dX7_whole_20 : decode cX7_whole 20 = .ok (.getfield 64, 3) := by decide +kernel
theorem dX7_whole_23 : decode cX7_whole 23 = .ok (.iconst 1, 1) := by decide +kernel
theorem dX7_whole_24 : decode cX7_whole 24 = .ok (.iadd, 1) := by decide +kernel
theorem dX7_whole_25 : decode cX7_whole 25 = .ok (.putfield 64, 3) := by decide +kernel
theorem dX7_whole_28 : decode cX7_whole 28 = .ok (.aload_n 0, 1) := by decide +kernel
theorem dX7_whole_29 : decode cX7_whole 29 = .ok (.invokevirtual 74, 3) := by decide +kernel
theorem dX7_whole_32 : decode cX7_whole 32 = .ok (.ifCond .ne 5, 3) := by decide +kernel
theorem dX7_whole_35 : decode cX7_whole 35 = .ok (.iconst 0, 1) := by decide +kernel
theorem dX7_whole_36 : decode cX7_whole 36 = .ok (.ireturn, 1) := by decide +kernel
theorem dX7_whole_37 : decode cX7_whole 37 = .ok (.aload_n 0, 1) := by decide +kernel
theorem dX7_whole_38 : decode cX7_whole 38 = .ok (.iconst 3, 1) := by decide +kernel
theorem dX7_whole_39 : decode cX7_whole 39 = .ok (.bipush 124, 2) := by decide +kernel
theorem dX7_whole_41 : decode cX7_whole 41 = .ok (.invokevirtual 82, 3) := by decide +kernel
theorem dX7_whole_44 : decode cX7_whole 44 = .ok (.goto (-35), 3) := by decide +kernel
theorem dX7_whole_47 : decode cX7_whole 47 = .ok (.iconst 1, 1) := by decide +kernel
theorem dX7_whole_48 : decode cX7_whole 48 = .ok (.ireturn, 1) := by decide +kernel
theorem dX7_both_0 : decode cX7_both 0 = .ok (.aload_n 0, 1) := by decide +kernel
theorem dX7_both_1 : decode cX7_both 1 = .ok (.invokevirtual 86, 3) := by decide +kernel
theorem dX7_both_4 : decode cX7_both 4 = .ok (.ifCond .ne 5, 3) := by decide +kernel
theorem dX7_both_7 : decode cX7_both 7 = .ok (.iconst 0, 1) := by decide +kernel
theorem dX7_both_8 : decode cX7_both 8 = .ok (.ireturn, 1) := by decide +kernel
theorem dX7_both_9 : decode cX7_both 9 = .ok (.aload_n 0, 1) := by decide +kernel
theorem dX7_both_10 : decode cX7_both 10 = .ok (.invokevirtual 78, 3) := by decide +kernel
theorem dX7_both_13 : decode cX7_both 13 = .ok (.bipush 38, 2) := by decide +kernel
theorem dX7_both_15 : decode cX7_both 15 = .ok (.if_icmp .ne 32, 3) := by decide +kernel
theorem dX7_both_18 : decode cX7_both 18 = .ok (.aload_n 0, 1) := by decide +kernel
theorem dX7_both_19 : decode cX7_both 19 = .ok (.dup, 1) := by decide +kernel
theorem dX7_both_20 : decode cX7_both 20 = .ok (.getfield 64, 3) := by decide +kernel
theorem dX7_both_23 : decode cX7_both 23 = .ok (.iconst 1, 1) := by decide +kernel
theorem dX7_both_24 : decode cX7_both 24 = .ok (.iadd, 1) := by decide +kernel
theorem dX7_both_25 : decode cX7_both 25 = .ok (.putfield 64, 3) := by decide +kernel
theorem dX7_both_28 : decode cX7_both 28 = .ok (.aload_n 0, 1) := by decide +kernel
theorem dX7_both_29 : decode cX7_both 29 = .ok (.invokevirtual 86, 3) := by decide +kernel
theorem dX7_both_32 : decode cX7_both 32 = .ok (.ifCond .ne 5, 3) := by decide +kernel
theorem dX7_both_35 : decode cX7_both 35 = .ok (.iconst 0, 1) := by decide +kernel
theorem dX7_both_36 : decode cX7_both 36 = .ok (.ireturn, 1) := by decide +kernel
theorem dX7_both_37 : decode cX7_both 37 = .ok (.aload_n 0, 1) := by decide +kernel
theorem dX7_both_38 : decode cX7_both 38 = .ok (.iconst 3, 1) := by decide +kernel
theorem dX7_both_39 : decode cX7_both 39 = .ok (.bipush 38, 2) := by decide +kernel
theorem dX7_both_41 : decode cX7_both 41 = .ok (.invokevirtual 82, 3) := by decide +kernel
theorem dX7_both_44 : decode cX7_both 44 = .ok (.goto (-35), 3) := by decide +kernel
theorem dX7_both_47 : decode cX7_both 47 = .ok (.iconst 1, 1) := by decide +kernel
theorem dX7_both_48 : decode cX7_both 48 = .ok (.ireturn, 1) := by decide +kernel
theorem dX7_compared_0 : decode cX7_compared 0 = .ok (.aload_n 0, 1) := by decide +kernel
theorem dX7_compared_1 : decode cX7_compared 1 = .ok (.invokevirtual 89, 3) := by decide +kernel
theorem dX7_compared_4 : decode cX7_compared 4 = .ok (.ifCond .ne 5, 3) := by decide +kernel
theorem dX7_compared_7 : decode cX7_compared 7 = .ok (.iconst 0, 1) := by decide +kernel
theorem dX7_compared_8 : decode cX7_compared 8 = .ok (.ireturn, 1) := by decide +kernel
theorem dX7_compared_9 : decode cX7_compared 9 = .ok (.aload_n 0, 1) := by decide +kernel
theorem dX7_compared_10 : decode cX7_compared 10 = .ok (.invokevirtual 78, 3) := by decide +kernel
theorem dX7_compared_13 : decode cX7_compared 13 = .ok (.istore_n 1, 1) := by decide +kernel
theorem dX7_compared_14 : decode cX7_compared 14 = .ok (.iload_n 1, 1) := by decide +kernel
theorem dX7_compared_15 : decode cX7_compared 15 = .ok (.bipush 60, 2) := by decide +kernel
theorem dX7_compared_17 : decode cX7_compared 17 = .ok (.if_icmp .eq 17, 3) := by decide +kernel
theorem dX7_compared_20 : decode cX7_compared 20 = .ok (.iload_n 1, 1) := by decide +kernel
theorem dX7_compared_21 : decode cX7_compared 21 = .ok (.bipush 61, 2) := by decide +kernel
theorem dX7_compared_23 : decode cX7_compared 23 = .ok (.if_icmp .eq 11, 3) := by decide +kernel
theorem dX7_compared_26 : decode cX7_compared 26 = .ok (.iload_n 1, 1) := by decide +kernel
theorem dX7_compared_27 : decode cX7_compared 27 = .ok (.bipush 62, 2) := by decide +kernel
theorem dX7_compared_29 : decode cX7_compared 29 = .ok (.if_icmp .eq 5, 3) := by decide +kernel
theorem dX7_compared_32 : decode cX7_compared 32 = .ok (.iconst 1, 1) := by decide +kernel
theorem dX7_compared_33 : decode cX7_compared 33 = .ok (.ireturn, 1) := by decide +kernel
theorem dX7_compared_34 : decode cX7_compared 34 = .ok (.aload_n 0, 1) := by decide +kernel
theorem dX7_compared_35 : decode cX7_compared 35 = .ok (.dup, 1) := by decide +kernel
theorem dX7_compared_36 : decode cX7_compared 36 = .ok (.getfield 64, 3) := by decide +kernel
theorem dX7_compared_39 : decode cX7_compared 39 = .ok (.iconst 1, 1) := by decide +kernel
theorem dX7_compared_40 : decode cX7_compared 40 = .ok (.iadd, 1) := by decide +kernel
theorem dX7_compared_41 : decode cX7_compared 41 = .ok (.putfield 64, 3) := by decide +kernel
theorem dX7_compared_44 : decode cX7_compared 44 = .ok (.aload_n 0, 1) := by decide +kernel
theorem dX7_compared_45 : decode cX7_compared 45 = .ok (.invokevirtual 89, 3) := by decide +kernel
theorem dX7_compared_48 : decode cX7_compared 48 = .ok (.ifCond .ne 5, 3) := by decide +kernel
theorem dX7_compared_51 : decode cX7_compared 51 = .ok (.iconst 0, 1) := by decide +kernel
theorem dX7_compared_52 : decode cX7_compared 52 = .ok (.ireturn, 1) := by decide +kernel
theorem dX7_compared_53 : decode cX7_compared 53 = .ok (.aload_n 0, 1) := by decide +kernel
theorem dX7_compared_54 : decode cX7_compared 54 = .ok (.iconst 3, 1) := by decide +kernel
theorem dX7_compared_55 : decode cX7_compared 55 = .ok (.iload_n 1, 1) := by decide +kernel
theorem dX7_compared_56 : decode cX7_compared 56 = .ok (.invokevirtual 82, 3) := by decide +kernel
theorem dX7_compared_59 : decode cX7_compared 59 = .ok (.iconst 1, 1) := by decide +kernel
theorem dX7_compared_60 : decode cX7_compared 60 = .ok (.ireturn, 1) := by decide +kernel
theorem dX7_sum_0 : decode cX7_sum 0 = .ok (.aload_n 0, 1) := by decide +kernel
theorem dX7_sum_1 : decode cX7_sum 1 = .ok (.invokevirtual 92, 3) := by decide +kernel
theorem dX7_sum_4 : decode cX7_sum 4 = .ok (.ifCond .ne 5, 3) := by decide +kernel
theorem dX7_sum_7 : decode cX7_sum 7 = .ok (.iconst 0, 1) := by decide +kernel
theorem dX7_sum_8 : decode cX7_sum 8 = .ok (.ireturn, 1) := by decide +kernel
theorem dX7_sum_9 : decode cX7_sum 9 = .ok (.aload_n 0, 1) := by decide +kernel
theorem dX7_sum_10 : decode cX7_sum 10 = .ok (.invokevirtual 78, 3) := by decide +kernel
theorem dX7_sum_13 : decode cX7_sum 13 = .ok (.bipush 43, 2) := by decide +kernel
theorem dX7_sum_15 : decode cX7_sum 15 = .ok (.if_icmp .eq 12, 3) := by decide +kernel
theorem dX7_sum_18 : decode cX7_sum 18 = .ok (.aload_n 0, 1) := by decide +kernel
theorem dX7_sum_19 : decode cX7_sum 19 = .ok (.invokevirtual 78, 3) := by decide +kernel
theorem dX7_sum_22 : decode cX7_sum 22 = .ok (.bipush 45, 2) := by decide +kernel
theorem dX7_sum_24 : decode cX7_sum 24 = .ok (.if_icmp .ne 36, 3) := by decide +kernel
theorem dX7_sum_27 : decode cX7_sum 27 = .ok (.aload_n 0, 1) := by decide +kernel
theorem dX7_sum_28 : decode cX7_sum 28 = .ok (.invokevirtual 78, 3) := by decide +kernel
theorem dX7_sum_31 : decode cX7_sum 31 = .ok (.istore_n 1, 1) := by decide +kernel
theorem dX7_sum_32 : decode cX7_sum 32 = .ok (.aload_n 0, 1) := by decide +kernel
theorem dX7_sum_33 : decode cX7_sum 33 = .ok (.dup, 1) := by decide +kernel
theorem dX7_sum_34 : decode cX7_sum 34 = .ok (.getfield 64, 3) := by decide +kernel
theorem dX7_sum_37 : decode cX7_sum 37 = .ok (.iconst 1, 1) := by decide +kernel
theorem dX7_sum_38 : decode cX7_sum 38 = .ok (.iadd, 1) := by decide +kernel
theorem dX7_sum_39 : decode cX7_sum 39 = .ok (.putfield 64, 3) := by decide +kernel
theorem dX7_sum_42 : decode cX7_sum 42 = .ok (.aload_n 0, 1) := by decide +kernel
theorem dX7_sum_43 : decode cX7_sum 43 = .ok (.invokevirtual 92, 3) := by decide +kernel
theorem dX7_sum_46 : decode cX7_sum 46 = .ok (.ifCond .ne 5, 3) := by decide +kernel
theorem dX7_sum_49 : decode cX7_sum 49 = .ok (.iconst 0, 1) := by decide +kernel
theorem dX7_sum_50 : decode cX7_sum 50 = .ok (.ireturn, 1) := by decide +kernel
theorem dX7_sum_51 : decode cX7_sum 51 = .ok (.aload_n 0, 1) := by decide +kernel
theorem dX7_sum_52 : decode cX7_sum 52 = .ok (.iconst 3, 1) := by decide +kernel
theorem dX7_sum_53 : decode cX7_sum 53 = .ok (.iload_n 1, 1) := by decide +kernel
theorem dX7_sum_54 : decode cX7_sum 54 = .ok (.invokevirtual 82, 3) := by decide +kernel
theorem dX7_sum_57 : decode cX7_sum 57 = .ok (.goto (-48), 3) := by decide +kernel
theorem dX7_sum_60 : decode cX7_sum 60 = .ok (.iconst 1, 1) := by decide +kernel
theorem dX7_sum_61 : decode cX7_sum 61 = .ok (.ireturn, 1) := by decide +kernel
theorem dX7_product_0 : decode cX7_product 0 = .ok (.aload_n 0, 1) := by decide +kernel
theorem dX7_product_1 : decode cX7_product 1 = .ok (.invokevirtual 95, 3) := by decide +kernel
theorem dX7_product_4 : decode cX7_product 4 = .ok (.ifCond .ne 5, 3) := by decide +kernel
theorem dX7_product_7 : decode cX7_product 7 = .ok (.iconst 0, 1) := by decide +kernel
theorem dX7_product_8 : decode cX7_product 8 = .ok (.ireturn, 1) := by decide +kernel
theorem dX7_product_9 : decode cX7_product 9 = .ok (.aload_n 0, 1) := by decide +kernel
theorem dX7_product_10 : decode cX7_product 10 = .ok (.invokevirtual 78, 3) := by decide +kernel
theorem dX7_product_13 : decode cX7_product 13 = .ok (.bipush 42, 2) := by decide +kernel
theorem dX7_product_15 : decode cX7_product 15 = .ok (.if_icmp .eq 21, 3) := by decide +kernel
theorem dX7_product_18 : decode cX7_product 18 = .ok (.aload_n 0, 1) := by decide +kernel
theorem dX7_product_19 : decode cX7_product 19 = .ok (.invokevirtual 78, 3) := by decide +kernel
theorem dX7_product_22 : decode cX7_product 22 = .ok (.bipush 47, 2) := by decide +kernel
theorem dX7_product_24 : decode cX7_product 24 = .ok (.if_icmp .eq 12, 3) := by decide +kernel
theorem dX7_product_27 : decode cX7_product 27 = .ok (.aload_n 0, 1) := by decide +kernel
theorem dX7_product_28 : decode cX7_product 28 = .ok (.invokevirtual 78, 3) := by decide +kernel
theorem dX7_product_31 : decode cX7_product 31 = .ok (.bipush 37, 2) := by decide +kernel
theorem dX7_product_33 : decode cX7_product 33 = .ok (.if_icmp .ne 36, 3) := by decide +kernel
theorem dX7_product_36 : decode cX7_product 36 = .ok (.aload_n 0, 1) := by decide +kernel
theorem dX7_product_37 : decode cX7_product 37 = .ok (.invokevirtual 78, 3) := by decide +kernel
theorem dX7_product_40 : decode cX7_product 40 = .ok (.istore_n 1, 1) := by decide +kernel
theorem dX7_product_41 : decode cX7_product 41 = .ok (.aload_n 0, 1) := by decide +kernel
theorem dX7_product_42 : decode cX7_product 42 = .ok (.dup, 1) := by decide +kernel
theorem dX7_product_43 : decode cX7_product 43 = .ok (.getfield 64, 3) := by decide +kernel
theorem dX7_product_46 : decode cX7_product 46 = .ok (.iconst 1, 1) := by decide +kernel
theorem dX7_product_47 : decode cX7_product 47 = .ok (.iadd, 1) := by decide +kernel
theorem dX7_product_48 : decode cX7_product 48 = .ok (.putfield 64, 3) := by decide +kernel
theorem dX7_product_51 : decode cX7_product 51 = .ok (.aload_n 0, 1) := by decide +kernel
theorem dX7_product_52 : decode cX7_product 52 = .ok (.invokevirtual 95, 3) := by decide +kernel
theorem dX7_product_55 : decode cX7_product 55 = .ok (.ifCond .ne 5, 3) := by decide +kernel
theorem dX7_product_58 : decode cX7_product 58 = .ok (.iconst 0, 1) := by decide +kernel
theorem dX7_product_59 : decode cX7_product 59 = .ok (.ireturn, 1) := by decide +kernel
theorem dX7_product_60 : decode cX7_product 60 = .ok (.aload_n 0, 1) := by decide +kernel
theorem dX7_product_61 : decode cX7_product 61 = .ok (.iconst 3, 1) := by decide +kernel
theorem dX7_product_62 : decode cX7_product 62 = .ok (.iload_n 1, 1) := by decide +kernel
theorem dX7_product_63 : decode cX7_product 63 = .ok (.invokevirtual 82, 3) := by decide +kernel
theorem dX7_product_66 : decode cX7_product 66 = .ok (.goto (-57), 3) := by decide +kernel
theorem dX7_product_69 : decode cX7_product 69 = .ok (.iconst 1, 1) := by decide +kernel
theorem dX7_product_70 : decode cX7_product 70 = .ok (.ireturn, 1) := by decide +kernel
theorem dX7_opens_0 : decode cX7_opens 0 = .ok (.aload_n 0, 1) := by decide +kernel
theorem dX7_opens_1 : decode cX7_opens 1 = .ok (.getfield 98, 3) := by decide +kernel
theorem dX7_opens_4 : decode cX7_opens 4 = .ok (.iconst 5, 1) := by decide +kernel
theorem dX7_opens_5 : decode cX7_opens 5 = .ok (.if_icmp .ne 5, 3) := by decide +kernel
theorem dX7_opens_8 : decode cX7_opens 8 = .ok (.iconst 0, 1) := by decide +kernel
theorem dX7_opens_9 : decode cX7_opens 9 = .ok (.ireturn, 1) := by decide +kernel
theorem dX7_opens_10 : decode cX7_opens 10 = .ok (.aload_n 0, 1) := by decide +kernel
theorem dX7_opens_11 : decode cX7_opens 11 = .ok (.dup, 1) := by decide +kernel
theorem dX7_opens_12 : decode cX7_opens 12 = .ok (.getfield 98, 3) := by decide +kernel
theorem dX7_opens_15 : decode cX7_opens 15 = .ok (.iconst 1, 1) := by decide +kernel
theorem dX7_opens_16 : decode cX7_opens 16 = .ok (.iadd, 1) := by decide +kernel
theorem dX7_opens_17 : decode cX7_opens 17 = .ok (.putfield 98, 3) := by decide +kernel
theorem dX7_opens_20 : decode cX7_opens 20 = .ok (.aload_n 0, 1) := by decide +kernel
theorem dX7_opens_21 : decode cX7_opens 21 = .ok (.dup, 1) := by decide +kernel
theorem dX7_opens_22 : decode cX7_opens 22 = .ok (.getfield 64, 3) := by decide +kernel
theorem dX7_opens_25 : decode cX7_opens 25 = .ok (.iconst 1, 1) := by decide +kernel
theorem dX7_opens_26 : decode cX7_opens 26 = .ok (.iadd, 1) := by decide +kernel
theorem dX7_opens_27 : decode cX7_opens 27 = .ok (.putfield 64, 3) := by decide +kernel
theorem dX7_opens_30 : decode cX7_opens 30 = .ok (.iconst 1, 1) := by decide +kernel
theorem dX7_opens_31 : decode cX7_opens 31 = .ok (.ireturn, 1) := by decide +kernel
theorem dX7_one_0 : decode cX7_one 0 = .ok (.aload_n 0, 1) := by decide +kernel
theorem dX7_one_1 : decode cX7_one 1 = .ok (.invokevirtual 78, 3) := by decide +kernel
theorem dX7_one_4 : decode cX7_one 4 = .ok (.istore_n 1, 1) := by decide +kernel
theorem dX7_one_5 : decode cX7_one 5 = .ok (.aload_n 0, 1) := by decide +kernel
theorem dX7_one_6 : decode cX7_one 6 = .ok (.iload_n 1, 1) := by decide +kernel
theorem dX7_one_7 : decode cX7_one 7 = .ok (.invokevirtual 101, 3) := by decide +kernel
theorem dX7_one_10 : decode cX7_one 10 = .ok (.ifCond .eq 21, 3) := by decide +kernel
theorem dX7_one_13 : decode cX7_one 13 = .ok (.aload_n 0, 1) := by decide +kernel
theorem dX7_one_14 : decode cX7_one 14 = .ok (.dup, 1) := by decide +kernel
theorem dX7_one_15 : decode cX7_one 15 = .ok (.getfield 64, 3) := by decide +kernel
theorem dX7_one_18 : decode cX7_one 18 = .ok (.iconst 1, 1) := by decide +kernel
theorem dX7_one_19 : decode cX7_one 19 = .ok (.iadd, 1) := by decide +kernel
theorem dX7_one_20 : decode cX7_one 20 = .ok (.putfield 64, 3) := by decide +kernel
theorem dX7_one_23 : decode cX7_one 23 = .ok (.aload_n 0, 1) := by decide +kernel
theorem dX7_one_24 : decode cX7_one 24 = .ok (.iconst 1, 1) := by decide +kernel
theorem dX7_one_25 : decode cX7_one 25 = .ok (.iload_n 1, 1) := by decide +kernel
theorem dX7_one_26 : decode cX7_one 26 = .ok (.invokevirtual 82, 3) := by decide +kernel
theorem dX7_one_29 : decode cX7_one 29 = .ok (.iconst 1, 1) := by decide +kernel
theorem dX7_one_30 : decode cX7_one 30 = .ok (.ireturn, 1) := by decide +kernel
theorem dX7_one_31 : decode cX7_one 31 = .ok (.iload_n 1, 1) := by decide +kernel
theorem dX7_one_32 : decode cX7_one 32 = .ok (.bipush 48, 2) := by decide +kernel
theorem dX7_one_34 : decode cX7_one 34 = .ok (.bipush 57, 2) := by decide +kernel
theorem dX7_one_36 : decode cX7_one 36 = .ok (.invokestatic 50, 3) := by decide +kernel
theorem dX7_one_39 : decode cX7_one 39 = .ok (.ifCond .eq 63, 3) := by decide +kernel
theorem dX7_one_42 : decode cX7_one 42 = .ok (.iconst 0, 1) := by decide +kernel
theorem dX7_one_43 : decode cX7_one 43 = .ok (.istore_n 2, 1) := by decide +kernel
theorem dX7_one_44 : decode cX7_one 44 = .ok (.iconst 0, 1) := by decide +kernel
theorem dX7_one_45 : decode cX7_one 45 = .ok (.istore_n 3, 1) := by decide +kernel
theorem dX7_one_46 : decode cX7_one 46 = .ok (.iload_n 3, 1) := by decide +kernel
theorem dX7_one_47 : decode cX7_one 47 = .ok (.iconst 4, 1) := by decide +kernel
theorem dX7_one_48 : decode cX7_one 48 = .ok (.if_icmp .ge 46, 3) := by decide +kernel
theorem dX7_one_51 : decode cX7_one 51 = .ok (.aload_n 0, 1) := by decide +kernel
theorem dX7_one_52 : decode cX7_one 52 = .ok (.invokevirtual 78, 3) := by decide +kernel
theorem dX7_one_55 : decode cX7_one 55 = .ok (.bipush 48, 2) := by decide +kernel
theorem dX7_one_57 : decode cX7_one 57 = .ok (.bipush 57, 2) := by decide +kernel
theorem dX7_one_59 : decode cX7_one 59 = .ok (.invokestatic 50, 3) := by decide +kernel
theorem dX7_one_62 : decode cX7_one 62 = .ok (.ifCond .eq 32, 3) := by decide +kernel
theorem dX7_one_65 : decode cX7_one 65 = .ok (.bipush 10, 2) := by decide +kernel
theorem dX7_one_67 : decode cX7_one 67 = .ok (.iload_n 2, 1) := by decide +kernel
theorem dX7_one_68 : decode cX7_one 68 = .ok (.imul, 1) := by decide +kernel
theorem dX7_one_69 : decode cX7_one 69 = .ok (.aload_n 0, 1) := by decide +kernel
theorem dX7_one_70 : decode cX7_one 70 = .ok (.invokevirtual 78, 3) := by decide +kernel
theorem dX7_one_73 : decode cX7_one 73 = .ok (.iadd, 1) := by decide +kernel
theorem dX7_one_74 : decode cX7_one 74 = .ok (.bipush 48, 2) := by decide +kernel
theorem dX7_one_76 : decode cX7_one 76 = .ok (.isub, 1) := by decide +kernel
theorem dX7_one_77 : decode cX7_one 77 = .ok (.istore_n 2, 1) := by decide +kernel
theorem dX7_one_78 : decode cX7_one 78 = .ok (.aload_n 0, 1) := by decide +kernel
theorem dX7_one_79 : decode cX7_one 79 = .ok (.dup, 1) := by decide +kernel
theorem dX7_one_80 : decode cX7_one 80 = .ok (.getfield 64, 3) := by decide +kernel
theorem dX7_one_83 : decode cX7_one 83 = .ok (.iconst 1, 1) := by decide +kernel
theorem dX7_one_84 : decode cX7_one 84 = .ok (.iadd, 1) := by decide +kernel
theorem dX7_one_85 : decode cX7_one 85 = .ok (.putfield 64, 3) := by decide +kernel
theorem dX7_one_88 : decode cX7_one 88 = .ok (.iinc 3 1, 3) := by decide +kernel
theorem dX7_one_91 : decode cX7_one 91 = .ok (.goto (-45), 3) := by decide +kernel
theorem dX7_one_94 : decode cX7_one 94 = .ok (.aload_n 0, 1) := by decide +kernel
theorem dX7_one_95 : decode cX7_one 95 = .ok (.iconst 0, 1) := by decide +kernel
theorem dX7_one_96 : decode cX7_one 96 = .ok (.iload_n 2, 1) := by decide +kernel
theorem dX7_one_97 : decode cX7_one 97 = .ok (.invokevirtual 82, 3) := by decide +kernel
theorem dX7_one_100 : decode cX7_one 100 = .ok (.iconst 1, 1) := by decide +kernel
theorem dX7_one_101 : decode cX7_one 101 = .ok (.ireturn, 1) := by decide +kernel
theorem dX7_one_102 : decode cX7_one 102 = .ok (.iload_n 1, 1) := by decide +kernel
theorem dX7_one_103 : decode cX7_one 103 = .ok (.bipush 33, 2) := by decide +kernel
theorem dX7_one_105 : decode cX7_one 105 = .ok (.if_icmp .ne 37, 3) := by decide +kernel
theorem dX7_one_108 : decode cX7_one 108 = .ok (.aload_n 0, 1) := by decide +kernel
theorem dX7_one_109 : decode cX7_one 109 = .ok (.invokevirtual 105, 3) := by decide +kernel
theorem dX7_one_112 : decode cX7_one 112 = .ok (.ifCond .eq 10, 3) := by decide +kernel
theorem dX7_one_115 : decode cX7_one 115 = .ok (.aload_n 0, 1) := by decide +kernel
theorem dX7_one_116 : decode cX7_one 116 = .ok (.invokevirtual 95, 3) := by decide +kernel
theorem dX7_one_119 : decode cX7_one 119 = .ok (.ifCond .ne 5, 3) := by decide +kernel
theorem dX7_one_122 : decode cX7_one 122 = .ok (.iconst 0, 1) := by decide +kernel
theorem dX7_one_123 : decode cX7_one 123 = .ok (.ireturn, 1) := by decide +kernel
theorem dX7_one_124 : decode cX7_one 124 = .ok (.aload_n 0, 1) := by decide +kernel
theorem dX7_one_125 : decode cX7_one 125 = .ok (.dup, 1) := by decide +kernel
theorem dX7_one_126 : decode cX7_one 126 = .ok (.getfield 98, 3) := by decide +kernel
theorem dX7_one_129 : decode cX7_one 129 = .ok (.iconst 1, 1) := by decide +kernel
theorem dX7_one_130 : decode cX7_one 130 = .ok (.isub, 1) := by decide +kernel
theorem dX7_one_131 : decode cX7_one 131 = .ok (.putfield 98, 3) := by decide +kernel
theorem dX7_one_134 : decode cX7_one 134 = .ok (.aload_n 0, 1) := by decide +kernel
theorem dX7_one_135 : decode cX7_one 135 = .ok (.iconst 2, 1) := by decide +kernel
theorem dX7_one_136 : decode cX7_one 136 = .ok (.iconst 0, 1) := by decide +kernel
theorem dX7_one_137 : decode cX7_one 137 = .ok (.invokevirtual 82, 3) := by decide +kernel
theorem dX7_one_140 : decode cX7_one 140 = .ok (.iconst 1, 1) := by decide +kernel
theorem dX7_one_141 : decode cX7_one 141 = .ok (.ireturn, 1) := by decide +kernel
theorem dX7_one_142 : decode cX7_one 142 = .ok (.iload_n 1, 1) := by decide +kernel
theorem dX7_one_143 : decode cX7_one 143 = .ok (.bipush 40, 2) := by decide +kernel
theorem dX7_one_145 : decode cX7_one 145 = .ok (.if_icmp .ne 26, 3) := by decide +kernel
theorem dX7_one_148 : decode cX7_one 148 = .ok (.aload_n 0, 1) := by decide +kernel
theorem dX7_one_149 : decode cX7_one 149 = .ok (.invokevirtual 105, 3) := by decide +kernel
theorem dX7_one_152 : decode cX7_one 152 = .ok (.ifCond .eq 19, 3) := by decide +kernel
theorem dX7_one_155 : decode cX7_one 155 = .ok (.aload_n 0, 1) := by decide +kernel
theorem dX7_one_156 : decode cX7_one 156 = .ok (.invokevirtual 108, 3) := by decide +kernel
theorem dX7_one_159 : decode cX7_one 159 = .ok (.ifCond .eq 12, 3) := by decide +kernel
theorem dX7_one_162 : decode cX7_one 162 = .ok (.aload_n 0, 1) := by decide +kernel
theorem dX7_one_163 : decode cX7_one 163 = .ok (.invokevirtual 78, 3) := by decide +kernel
theorem dX7_one_166 : decode cX7_one 166 = .ok (.bipush 41, 2) := by decide +kernel
theorem dX7_one_168 : decode cX7_one 168 = .ok (.if_icmp .eq 5, 3) := by decide +kernel
theorem dX7_one_171 : decode cX7_one 171 = .ok (.iconst 0, 1) := by decide +kernel
theorem dX7_one_172 : decode cX7_one 172 = .ok (.ireturn, 1) := by decide +kernel
theorem dX7_one_173 : decode cX7_one 173 = .ok (.aload_n 0, 1) := by decide +kernel
theorem dX7_one_174 : decode cX7_one 174 = .ok (.dup, 1) := by decide +kernel
theorem dX7_one_175 : decode cX7_one 175 = .ok (.getfield 64, 3) := by decide +kernel
theorem dX7_one_178 : decode cX7_one 178 = .ok (.iconst 1, 1) := by decide +kernel
theorem dX7_one_179 : decode cX7_one 179 = .ok (.iadd, 1) := by decide +kernel
theorem dX7_one_180 : decode cX7_one 180 = .ok (.putfield 64, 3) := by decide +kernel
theorem dX7_one_183 : decode cX7_one 183 = .ok (.aload_n 0, 1) := by decide +kernel
theorem dX7_one_184 : decode cX7_one 184 = .ok (.dup, 1) := by decide +kernel
theorem dX7_one_185 : decode cX7_one 185 = .ok (.getfield 98, 3) := by decide +kernel
theorem dX7_one_188 : decode cX7_one 188 = .ok (.iconst 1, 1) := by decide +kernel
theorem dX7_one_189 : decode cX7_one 189 = .ok (.isub, 1) := by decide +kernel
theorem dX7_one_190 : decode cX7_one 190 = .ok (.putfield 98, 3) := by decide +kernel
theorem dX7_one_193 : decode cX7_one 193 = .ok (.iconst 1, 1) := by decide +kernel
theorem dX7_one_194 : decode cX7_one 194 = .ok (.ireturn, 1) := by decide +kernel
theorem dX7_hasText_0 : decode cX7_hasText 0 = .ok (.aload_n 0, 1) := by decide +kernel
theorem dX7_hasText_1 : decode cX7_hasText 1 = .ok (.getfield 7, 3) := by decide +kernel
theorem dX7_hasText_4 : decode cX7_hasText 4 = .ok (.bipush 48, 2) := by decide +kernel
theorem dX7_hasText_6 : decode cX7_hasText 6 = .ok (.bipush 125, 2) := by decide +kernel
theorem dX7_hasText_8 : decode cX7_hasText 8 = .ok (.iload_n 1, 1) := by decide +kernel
theorem dX7_hasText_9 : decode cX7_hasText 9 = .ok (.imul, 1) := by decide +kernel
theorem dX7_hasText_10 : decode cX7_hasText 10 = .ok (.iadd, 1) := by decide +kernel
theorem dX7_hasText_11 : decode cX7_hasText 11 = .ok (.iaload, 1) := by decide +kernel
theorem dX7_hasText_12 : decode cX7_hasText 12 = .ok (.ifCond .le 7, 3) := by decide +kernel
theorem dX7_hasText_15 : decode cX7_hasText 15 = .ok (.iconst 1, 1) := by decide +kernel
theorem dX7_hasText_16 : decode cX7_hasText 16 = .ok (.goto 4, 3) := by decide +kernel
theorem dX7_hasText_19 : decode cX7_hasText 19 = .ok (.iconst 0, 1) := by decide +kernel
theorem dX7_hasText_20 : decode cX7_hasText 20 = .ok (.ireturn, 1) := by decide +kernel
theorem dX7_text_0 : decode cX7_text 0 = .ok (.iload_n 1, 1) := by decide +kernel
theorem dX7_text_1 : decode cX7_text 1 = .ok (.iconst 0, 1) := by decide +kernel
theorem dX7_text_2 : decode cX7_text 2 = .ok (.iconst 1, 1) := by decide +kernel
theorem dX7_text_3 : decode cX7_text 3 = .ok (.invokestatic 50, 3) := by decide +kernel
theorem dX7_text_6 : decode cX7_text 6 = .ok (.ifCond .ne 9, 3) := by decide +kernel
theorem dX7_text_9 : decode cX7_text 9 = .ok (.aload_n 0, 1) := by decide +kernel
theorem dX7_text_10 : decode cX7_text 10 = .ok (.iconst 1, 1) := by decide +kernel
theorem dX7_text_11 : decode cX7_text 11 = .ok (.invokevirtual 58, 3) := by decide +kernel
theorem dX7_text_14 : decode cX7_text 14 = .ok (.ireturn, 1) := by decide +kernel
theorem dX7_text_15 : decode cX7_text 15 = .ok (.aload_n 0, 1) := by decide +kernel
theorem dX7_text_16 : decode cX7_text 16 = .ok (.iload_n 1, 1) := by decide +kernel
theorem dX7_text_17 : decode cX7_text 17 = .ok (.putfield 68, 3) := by decide +kernel
theorem dX7_text_20 : decode cX7_text 20 = .ok (.aload_n 0, 1) := by decide +kernel
theorem dX7_text_21 : decode cX7_text 21 = .ok (.iconst 0, 1) := by decide +kernel
theorem dX7_text_22 : decode cX7_text 22 = .ok (.putfield 64, 3) := by decide +kernel
theorem dX7_text_25 : decode cX7_text 25 = .ok (.aload_n 0, 1) := by decide +kernel
theorem dX7_text_26 : decode cX7_text 26 = .ok (.iconst 0, 1) := by decide +kernel
theorem dX7_text_27 : decode cX7_text 27 = .ok (.putfield 98, 3) := by decide +kernel
theorem dX7_text_30 : decode cX7_text 30 = .ok (.aload_n 0, 1) := by decide +kernel
theorem dX7_text_31 : decode cX7_text 31 = .ok (.iconst 0, 1) := by decide +kernel
theorem dX7_text_32 : decode cX7_text 32 = .ok (.putfield 71, 3) := by decide +kernel
theorem dX7_text_35 : decode cX7_text 35 = .ok (.aload_n 0, 1) := by decide +kernel
theorem dX7_text_36 : decode cX7_text 36 = .ok (.invokevirtual 108, 3) := by decide +kernel
theorem dX7_text_39 : decode cX7_text 39 = .ok (.ifCond .eq 20, 3) := by decide +kernel
theorem dX7_text_42 : decode cX7_text 42 = .ok (.aload_n 0, 1) := by decide +kernel
theorem dX7_text_43 : decode cX7_text 43 = .ok (.getfield 64, 3) := by decide +kernel
theorem dX7_text_46 : decode cX7_text 46 = .ok (.aload_n 0, 1) := by decide +kernel
theorem dX7_text_47 : decode cX7_text 47 = .ok (.getfield 7, 3) := by decide +kernel
theorem dX7_text_50 : decode cX7_text 50 = .ok (.iconst 3, 1) := by decide +kernel
theorem dX7_text_51 : decode cX7_text 51 = .ok (.iaload, 1) := by decide +kernel
theorem dX7_text_52 : decode cX7_text 52 = .ok (.if_icmp .ne 7, 3) := by decide +kernel
theorem dX7_text_55 : decode cX7_text 55 = .ok (.iconst 1, 1) := by decide +kernel
theorem dX7_text_56 : decode cX7_text 56 = .ok (.goto 4, 3) := by decide +kernel
theorem dX7_text_59 : decode cX7_text 59 = .ok (.iconst 0, 1) := by decide +kernel
theorem dX7_text_60 : decode cX7_text 60 = .ok (.istore_n 2, 1) := by decide +kernel
theorem dX7_text_61 : decode cX7_text 61 = .ok (.aload_n 0, 1) := by decide +kernel
theorem dX7_text_62 : decode cX7_text 62 = .ok (.getfield 7, 3) := by decide +kernel
theorem dX7_text_65 : decode cX7_text 65 = .ok (.iconst 3, 1) := by decide +kernel
theorem dX7_text_66 : decode cX7_text 66 = .ok (.iconst 0, 1) := by decide +kernel
theorem dX7_text_67 : decode cX7_text 67 = .ok (.iastore, 1) := by decide +kernel
theorem dX7_text_68 : decode cX7_text 68 = .ok (.iload_n 2, 1) := by decide +kernel
theorem dX7_text_69 : decode cX7_text 69 = .ok (.ifCond .ne 11, 3) := by decide +kernel
theorem dX7_text_72 : decode cX7_text 72 = .ok (.bipush (-10), 2) := by decide +kernel
theorem dX7_text_74 : decode cX7_text 74 = .ok (.aload_n 0, 1) := by decide +kernel
theorem dX7_text_75 : decode cX7_text 75 = .ok (.getfield 64, 3) := by decide +kernel
theorem dX7_text_78 : decode cX7_text 78 = .ok (.isub, 1) := by decide +kernel
theorem dX7_text_79 : decode cX7_text 79 = .ok (.ireturn, 1) := by decide +kernel
theorem dX7_text_80 : decode cX7_text 80 = .ok (.bipush 48, 2) := by decide +kernel
theorem dX7_text_82 : decode cX7_text 82 = .ok (.bipush 125, 2) := by decide +kernel
theorem dX7_text_84 : decode cX7_text 84 = .ok (.iload_n 1, 1) := by decide +kernel
theorem dX7_text_85 : decode cX7_text 85 = .ok (.imul, 1) := by decide +kernel
theorem dX7_text_86 : decode cX7_text 86 = .ok (.iadd, 1) := by decide +kernel
theorem dX7_text_87 : decode cX7_text 87 = .ok (.istore_n 3, 1) := by decide +kernel
theorem dX7_text_88 : decode cX7_text 88 = .ok (.aload_n 0, 1) := by decide +kernel
theorem dX7_text_89 : decode cX7_text 89 = .ok (.getfield 7, 3) := by decide +kernel
theorem dX7_text_92 : decode cX7_text 92 = .ok (.iload_n 3, 1) := by decide +kernel
theorem dX7_text_93 : decode cX7_text 93 = .ok (.aload_n 0, 1) := by decide +kernel
theorem dX7_text_94 : decode cX7_text 94 = .ok (.getfield 71, 3) := by decide +kernel
theorem dX7_text_97 : decode cX7_text 97 = .ok (.iastore, 1) := by decide +kernel
theorem dX7_text_98 : decode cX7_text 98 = .ok (.iconst 0, 1) := by decide +kernel
theorem dX7_text_99 : decode cX7_text 99 = .ok (.istore 4, 2) := by decide +kernel
theorem dX7_text_101 : decode cX7_text 101 = .ok (.iload 4, 2) := by decide +kernel
theorem dX7_text_103 : decode cX7_text 103 = .ok (.iconst 2, 1) := by decide +kernel
theorem dX7_text_104 : decode cX7_text 104 = .ok (.aload_n 0, 1) := by decide +kernel
theorem dX7_text_105 : decode cX7_text 105 = .ok (.getfield 71, 3) := by decide +kernel
theorem dX7_text_108 : decode cX7_text 108 = .ok (.imul, 1) := by decide +kernel
theorem dX7_text_109 : decode cX7_text 109 = .ok (.if_icmp .ge 27, 3) := by decide +kernel
theorem dX7_text_112 : decode cX7_text 112 = .ok (.aload_n 0, 1) := by decide +kernel
theorem dX7_text_113 : decode cX7_text 113 = .ok (.getfield 7, 3) := by decide +kernel
theorem dX7_text_116 : decode cX7_text 116 = .ok (.iload_n 3, 1) := by decide +kernel
theorem dX7_text_117 : decode cX7_text 117 = .ok (.iconst 1, 1) := by decide +kernel
theorem dX7_text_118 : decode cX7_text 118 = .ok (.iadd, 1) := by decide +kernel
theorem dX7_text_119 : decode cX7_text 119 = .ok (.iload 4, 2) := by decide +kernel
theorem dX7_text_121 : decode cX7_text 121 = .ok (.iadd, 1) := by decide +kernel
theorem dX7_text_122 : decode cX7_text 122 = .ok (.aload_n 0, 1) := by decide +kernel
theorem dX7_text_123 : decode cX7_text 123 = .ok (.getfield 19, 3) := by decide +kernel
theorem dX7_text_126 : decode cX7_text 126 = .ok (.iload 4, 2) := by decide +kernel
theorem dX7_text_128 : decode cX7_text 128 = .ok (.iaload, 1) := by decide +kernel
theorem dX7_text_129 : decode cX7_text 129 = .ok (.iastore, 1) := by decide +kernel
theorem dX7_text_130 : decode cX7_text 130 = .ok (.iinc 4 1, 3) := by decide +kernel
theorem dX7_text_133 : decode cX7_text 133 = .ok (.goto (-32), 3) := by decide +kernel
theorem dX7_text_136 : decode cX7_text 136 = .ok (.iconst 1, 1) := by decide +kernel
theorem dX7_text_137 : decode cX7_text 137 = .ok (.ireturn, 1) := by decide +kernel
theorem dX7_untell_0 : decode cX7_untell 0 = .ok (.iload_n 1, 1) := by decide +kernel
theorem dX7_untell_1 : decode cX7_untell 1 = .ok (.iconst 0, 1) := by decide +kernel
theorem dX7_untell_2 : decode cX7_untell 2 = .ok (.iconst 1, 1) := by decide +kernel
theorem dX7_untell_3 : decode cX7_untell 3 = .ok (.invokestatic 50, 3) := by decide +kernel
theorem dX7_untell_6 : decode cX7_untell 6 = .ok (.ifCond .ne 9, 3) := by decide +kernel
theorem dX7_untell_9 : decode cX7_untell 9 = .ok (.aload_n 0, 1) := by decide +kernel
theorem dX7_untell_10 : decode cX7_untell 10 = .ok (.iconst 1, 1) := by decide +kernel
theorem dX7_untell_11 : decode cX7_untell 11 = .ok (.invokevirtual 58, 3) := by decide +kernel
theorem dX7_untell_14 : decode cX7_untell 14 = .ok (.ireturn, 1) := by decide +kernel
theorem dX7_untell_15 : decode cX7_untell 15 = .ok (.aload_n 0, 1) := by decide +kernel
theorem dX7_untell_16 : decode cX7_untell 16 = .ok (.iload_n 1, 1) := by decide +kernel
theorem dX7_untell_17 : decode cX7_untell 17 = .ok (.invokevirtual 111, 3) := by decide +kernel
theorem dX7_untell_20 : decode cX7_untell 20 = .ok (.ifCond .eq 7, 3) := by decide +kernel
theorem dX7_untell_23 : decode cX7_untell 23 = .ok (.iconst 1, 1) := by decide +kernel
theorem dX7_untell_24 : decode cX7_untell 24 = .ok (.goto 4, 3) := by decide +kernel
theorem dX7_untell_27 : decode cX7_untell 27 = .ok (.iconst 0, 1) := by decide +kernel
theorem dX7_untell_28 : decode cX7_untell 28 = .ok (.istore_n 2, 1) := by decide +kernel
theorem dX7_untell_29 : decode cX7_untell 29 = .ok (.aload_n 0, 1) := by decide +kernel
theorem dX7_untell_30 : decode cX7_untell 30 = .ok (.getfield 7, 3) := by decide +kernel
theorem dX7_untell_33 : decode cX7_untell 33 = .ok (.bipush 48, 2) := by decide +kernel
theorem dX7_untell_35 : decode cX7_untell 35 = .ok (.bipush 125, 2) := by decide +kernel
theorem dX7_untell_37 : decode cX7_untell 37 = .ok (.iload_n 1, 1) := by decide +kernel
theorem dX7_untell_38 : decode cX7_untell 38 = .ok (.imul, 1) := by decide +kernel
theorem dX7_untell_39 : decode cX7_untell 39 = .ok (.iadd, 1) := by decide +kernel
theorem dX7_untell_40 : decode cX7_untell 40 = .ok (.iconst 0, 1) := by decide +kernel
theorem dX7_untell_41 : decode cX7_untell 41 = .ok (.iastore, 1) := by decide +kernel
theorem dX7_untell_42 : decode cX7_untell 42 = .ok (.iload_n 2, 1) := by decide +kernel
theorem dX7_untell_43 : decode cX7_untell 43 = .ok (.ireturn, 1) := by decide +kernel
theorem dX7_joined_0 : decode cX7_joined 0 = .ok (.iload_n 0, 1) := by decide +kernel
theorem dX7_joined_1 : decode cX7_joined 1 = .ok (.tableswitch 217 37 62 #[153, 203, 217, 217, 217, 127, 119, 217, 123, 217, 131, 217, 217, 217, 217, 217, 217, 217, 217, 217, 217, 217, 217, 170, 192, 181], 119) := by decide +kernel
theorem dX7_joined_120 : decode cX7_joined 120 = .ok (.iload_n 1, 1) := by decide +kernel
theorem dX7_joined_121 : decode cX7_joined 121 = .ok (.iload_n 2, 1) := by decide +kernel
theorem dX7_joined_122 : decode cX7_joined 122 = .ok (.iadd, 1) := by decide +kernel
theorem dX7_joined_123 : decode cX7_joined 123 = .ok (.ireturn, 1) := by decide +kernel
theorem dX7_joined_124 : decode cX7_joined 124 = .ok (.iload_n 1, 1) := by decide +kernel
theorem dX7_joined_125 : decode cX7_joined 125 = .ok (.iload_n 2, 1) := by decide +kernel
theorem dX7_joined_126 : decode cX7_joined 126 = .ok (.isub, 1) := by decide +kernel
theorem dX7_joined_127 : decode cX7_joined 127 = .ok (.ireturn, 1) := by decide +kernel
theorem dX7_joined_128 : decode cX7_joined 128 = .ok (.iload_n 1, 1) := by decide +kernel
theorem dX7_joined_129 : decode cX7_joined 129 = .ok (.iload_n 2, 1) := by decide +kernel
theorem dX7_joined_130 : decode cX7_joined 130 = .ok (.imul, 1) := by decide +kernel
theorem dX7_joined_131 : decode cX7_joined 131 = .ok (.ireturn, 1) := by decide +kernel
theorem dX7_joined_132 : decode cX7_joined 132 = .ok (.iload_n 2, 1) := by decide +kernel
theorem dX7_joined_133 : decode cX7_joined 133 = .ok (.ifCond .ne 7, 3) := by decide +kernel
theorem dX7_joined_136 : decode cX7_joined 136 = .ok (.iconst 0, 1) := by decide +kernel
theorem dX7_joined_137 : decode cX7_joined 137 = .ok (.goto 16, 3) := by decide +kernel
theorem dX7_joined_140 : decode cX7_joined 140 = .ok (.iload_n 2, 1) := by decide +kernel
theorem dX7_joined_141 : decode cX7_joined 141 = .ok (.iconst (-1), 1) := by decide +kernel
theorem dX7_joined_142 : decode cX7_joined 142 = .ok (.if_icmp .ne 8, 3) := by decide +kernel
theorem dX7_joined_145 : decode cX7_joined 145 = .ok (.iload_n 1, 1) := by decide +kernel
theorem dX7_joined_146 : decode cX7_joined 146 = .ok (.ineg, 1) := by decide +kernel
theorem dX7_joined_147 : decode cX7_joined 147 = .ok (.goto 6, 3) := by decide +kernel
theorem dX7_joined_150 : decode cX7_joined 150 = .ok (.iload_n 1, 1) := by decide +kernel
theorem dX7_joined_151 : decode cX7_joined 151 = .ok (.iload_n 2, 1) := by decide +kernel
theorem dX7_joined_152 : decode cX7_joined 152 = .ok (.idiv, 1) := by decide +kernel
theorem dX7_joined_153 : decode cX7_joined 153 = .ok (.ireturn, 1) := by decide +kernel
theorem dX7_joined_154 : decode cX7_joined 154 = .ok (.iload_n 2, 1) := by decide +kernel
theorem dX7_joined_155 : decode cX7_joined 155 = .ok (.ifCond .eq 8, 3) := by decide +kernel
theorem dX7_joined_158 : decode cX7_joined 158 = .ok (.iload_n 2, 1) := by decide +kernel
theorem dX7_joined_159 : decode cX7_joined 159 = .ok (.iconst (-1), 1) := by decide +kernel
theorem dX7_joined_160 : decode cX7_joined 160 = .ok (.if_icmp .ne 7, 3) := by decide +kernel
theorem dX7_joined_163 : decode cX7_joined 163 = .ok (.iconst 0, 1) := by decide +kernel
theorem dX7_joined_164 : decode cX7_joined 164 = .ok (.goto 6, 3) := by decide +kernel
theorem dX7_joined_167 : decode cX7_joined 167 = .ok (.iload_n 1, 1) := by decide +kernel
theorem dX7_joined_168 : decode cX7_joined 168 = .ok (.iload_n 2, 1) := by decide +kernel
theorem dX7_joined_169 : decode cX7_joined 169 = .ok (.irem, 1) := by decide +kernel
theorem dX7_joined_170 : decode cX7_joined 170 = .ok (.ireturn, 1) := by decide +kernel
theorem dX7_joined_171 : decode cX7_joined 171 = .ok (.iload_n 1, 1) := by decide +kernel
theorem dX7_joined_172 : decode cX7_joined 172 = .ok (.iload_n 2, 1) := by decide +kernel
theorem dX7_joined_173 : decode cX7_joined 173 = .ok (.if_icmp .ge 7, 3) := by decide +kernel
theorem dX7_joined_176 : decode cX7_joined 176 = .ok (.iconst 1, 1) := by decide +kernel
theorem dX7_joined_177 : decode cX7_joined 177 = .ok (.goto 4, 3) := by decide +kernel
theorem dX7_joined_180 : decode cX7_joined 180 = .ok (.iconst 0, 1) := by decide +kernel
theorem dX7_joined_181 : decode cX7_joined 181 = .ok (.ireturn, 1) := by decide +kernel
theorem dX7_joined_182 : decode cX7_joined 182 = .ok (.iload_n 1, 1) := by decide +kernel
theorem dX7_joined_183 : decode cX7_joined 183 = .ok (.iload_n 2, 1) := by decide +kernel
theorem dX7_joined_184 : decode cX7_joined 184 = .ok (.if_icmp .le 7, 3) := by decide +kernel
theorem dX7_joined_187 : decode cX7_joined 187 = .ok (.iconst 1, 1) := by decide +kernel
theorem dX7_joined_188 : decode cX7_joined 188 = .ok (.goto 4, 3) := by decide +kernel
theorem dX7_joined_191 : decode cX7_joined 191 = .ok (.iconst 0, 1) := by decide +kernel
theorem dX7_joined_192 : decode cX7_joined 192 = .ok (.ireturn, 1) := by decide +kernel
theorem dX7_joined_193 : decode cX7_joined 193 = .ok (.iload_n 1, 1) := by decide +kernel
theorem dX7_joined_194 : decode cX7_joined 194 = .ok (.iload_n 2, 1) := by decide +kernel
theorem dX7_joined_195 : decode cX7_joined 195 = .ok (.if_icmp .ne 7, 3) := by decide +kernel
theorem dX7_joined_198 : decode cX7_joined 198 = .ok (.iconst 1, 1) := by decide +kernel
theorem dX7_joined_199 : decode cX7_joined 199 = .ok (.goto 4, 3) := by decide +kernel
theorem dX7_joined_202 : decode cX7_joined 202 = .ok (.iconst 0, 1) := by decide +kernel
theorem dX7_joined_203 : decode cX7_joined 203 = .ok (.ireturn, 1) := by decide +kernel
theorem dX7_joined_204 : decode cX7_joined 204 = .ok (.iload_n 1, 1) := by decide +kernel
theorem dX7_joined_205 : decode cX7_joined 205 = .ok (.ifCond .eq 11, 3) := by decide +kernel
theorem dX7_joined_208 : decode cX7_joined 208 = .ok (.iload_n 2, 1) := by decide +kernel
theorem dX7_joined_209 : decode cX7_joined 209 = .ok (.ifCond .eq 7, 3) := by decide +kernel
theorem dX7_joined_212 : decode cX7_joined 212 = .ok (.iconst 1, 1) := by decide +kernel
theorem dX7_joined_213 : decode cX7_joined 213 = .ok (.goto 4, 3) := by decide +kernel
theorem dX7_joined_216 : decode cX7_joined 216 = .ok (.iconst 0, 1) := by decide +kernel
theorem dX7_joined_217 : decode cX7_joined 217 = .ok (.ireturn, 1) := by decide +kernel
theorem dX7_joined_218 : decode cX7_joined 218 = .ok (.iload_n 1, 1) := by decide +kernel
theorem dX7_joined_219 : decode cX7_joined 219 = .ok (.ifCond .ne 7, 3) := by decide +kernel
theorem dX7_joined_222 : decode cX7_joined 222 = .ok (.iload_n 2, 1) := by decide +kernel
theorem dX7_joined_223 : decode cX7_joined 223 = .ok (.ifCond .eq 7, 3) := by decide +kernel
theorem dX7_joined_226 : decode cX7_joined 226 = .ok (.iconst 1, 1) := by decide +kernel
theorem dX7_joined_227 : decode cX7_joined 227 = .ok (.goto 4, 3) := by decide +kernel
theorem dX7_joined_230 : decode cX7_joined 230 = .ok (.iconst 0, 1) := by decide +kernel
theorem dX7_joined_231 : decode cX7_joined 231 = .ok (.ireturn, 1) := by decide +kernel
theorem dX7_worked_0 : decode cX7_worked 0 = .ok (.bipush 48, 2) := by decide +kernel
theorem dX7_worked_2 : decode cX7_worked 2 = .ok (.bipush 125, 2) := by decide +kernel
theorem dX7_worked_4 : decode cX7_worked 4 = .ok (.iload_n 1, 1) := by decide +kernel
theorem dX7_worked_5 : decode cX7_worked 5 = .ok (.imul, 1) := by decide +kernel
theorem dX7_worked_6 : decode cX7_worked 6 = .ok (.iadd, 1) := by decide +kernel
theorem dX7_worked_7 : decode cX7_worked 7 = .ok (.istore_n 2, 1) := by decide +kernel
theorem dX7_worked_8 : decode cX7_worked 8 = .ok (.iconst 0, 1) := by decide +kernel
theorem dX7_worked_9 : decode cX7_worked 9 = .ok (.istore_n 3, 1) := by decide +kernel
theorem dX7_worked_10 : decode cX7_worked 10 = .ok (.iconst 0, 1) := by decide +kernel
theorem dX7_worked_11 : decode cX7_worked 11 = .ok (.istore 4, 2) := by decide +kernel
theorem dX7_worked_13 : decode cX7_worked 13 = .ok (.iload 4, 2) := by decide +kernel
theorem dX7_worked_15 : decode cX7_worked 15 = .ok (.aload_n 0, 1) := by decide +kernel
theorem dX7_worked_16 : decode cX7_worked 16 = .ok (.getfield 7, 3) := by decide +kernel
theorem dX7_worked_19 : decode cX7_worked 19 = .ok (.iload_n 2, 1) := by decide +kernel
theorem dX7_worked_20 : decode cX7_worked 20 = .ok (.iaload, 1) := by decide +kernel
theorem dX7_worked_21 : decode cX7_worked 21 = .ok (.if_icmp .ge 142, 3) := by decide +kernel
theorem dX7_worked_24 : decode cX7_worked 24 = .ok (.aload_n 0, 1) := by decide +kernel
theorem dX7_worked_25 : decode cX7_worked 25 = .ok (.getfield 7, 3) := by decide +kernel
theorem dX7_worked_28 : decode cX7_worked 28 = .ok (.iload_n 2, 1) := by decide +kernel
theorem dX7_worked_29 : decode cX7_worked 29 = .ok (.iconst 1, 1) := by decide +kernel
theorem dX7_worked_30 : decode cX7_worked 30 = .ok (.iadd, 1) := by decide +kernel
theorem dX7_worked_31 : decode cX7_worked 31 = .ok (.iconst 2, 1) := by decide +kernel
theorem dX7_worked_32 : decode cX7_worked 32 = .ok (.iload 4, 2) := by decide +kernel
theorem dX7_worked_34 : decode cX7_worked 34 = .ok (.imul, 1) := by decide +kernel
theorem dX7_worked_35 : decode cX7_worked 35 = .ok (.iadd, 1) := by decide +kernel
theorem dX7_worked_36 : decode cX7_worked 36 = .ok (.iaload, 1) := by decide +kernel
theorem dX7_worked_37 : decode cX7_worked 37 = .ok (.istore 5, 2) := by decide +kernel
theorem dX7_worked_39 : decode cX7_worked 39 = .ok (.aload_n 0, 1) := by decide +kernel
theorem dX7_worked_40 : decode cX7_worked 40 = .ok (.getfield 7, 3) := by decide +kernel
theorem dX7_worked_43 : decode cX7_worked 43 = .ok (.iload_n 2, 1) := by decide +kernel
theorem dX7_worked_44 : decode cX7_worked 44 = .ok (.iconst 2, 1) := by decide +kernel
theorem dX7_worked_45 : decode cX7_worked 45 = .ok (.iadd, 1) := by decide +kernel
theorem dX7_worked_46 : decode cX7_worked 46 = .ok (.iconst 2, 1) := by decide +kernel
theorem dX7_worked_47 : decode cX7_worked 47 = .ok (.iload 4, 2) := by decide +kernel
theorem dX7_worked_49 : decode cX7_worked 49 = .ok (.imul, 1) := by decide +kernel
theorem dX7_worked_50 : decode cX7_worked 50 = .ok (.iadd, 1) := by decide +kernel
theorem dX7_worked_51 : decode cX7_worked 51 = .ok (.iaload, 1) := by decide +kernel
theorem dX7_worked_52 : decode cX7_worked 52 = .ok (.istore 6, 2) := by decide +kernel
theorem dX7_worked_54 : decode cX7_worked 54 = .ok (.iload 5, 2) := by decide +kernel
theorem dX7_worked_56 : decode cX7_worked 56 = .ok (.ifCond .eq 9, 3) := by decide +kernel
theorem dX7_worked_59 : decode cX7_worked 59 = .ok (.iload 5, 2) := by decide +kernel
theorem dX7_worked_61 : decode cX7_worked 61 = .ok (.iconst 1, 1) := by decide +kernel
theorem dX7_worked_62 : decode cX7_worked 62 = .ok (.if_icmp .ne 32, 3) := by decide +kernel
theorem dX7_worked_65 : decode cX7_worked 65 = .ok (.aload_n 0, 1) := by decide +kernel
theorem dX7_worked_66 : decode cX7_worked 66 = .ok (.getfield 25, 3) := by decide +kernel
theorem dX7_worked_69 : decode cX7_worked 69 = .ok (.iload_n 3, 1) := by decide +kernel
theorem dX7_worked_70 : decode cX7_worked 70 = .ok (.iload 5, 2) := by decide +kernel
theorem dX7_worked_72 : decode cX7_worked 72 = .ok (.ifCond .ne 8, 3) := by decide +kernel
theorem dX7_worked_75 : decode cX7_worked 75 = .ok (.iload 6, 2) := by decide +kernel
theorem dX7_worked_77 : decode cX7_worked 77 = .ok (.goto 10, 3) := by decide +kernel
theorem dX7_worked_80 : decode cX7_worked 80 = .ok (.aload_n 0, 1) := by decide +kernel
theorem dX7_worked_81 : decode cX7_worked 81 = .ok (.getfield 22, 3) := by decide +kernel
theorem dX7_worked_84 : decode cX7_worked 84 = .ok (.iload 6, 2) := by decide +kernel
theorem dX7_worked_86 : decode cX7_worked 86 = .ok (.iaload, 1) := by decide +kernel
theorem dX7_worked_87 : decode cX7_worked 87 = .ok (.iastore, 1) := by decide +kernel
theorem dX7_worked_88 : decode cX7_worked 88 = .ok (.iinc 3 1, 3) := by decide +kernel
theorem dX7_worked_91 : decode cX7_worked 91 = .ok (.goto 66, 3) := by decide +kernel
theorem dX7_worked_94 : decode cX7_worked 94 = .ok (.iload 5, 2) := by decide +kernel
theorem dX7_worked_96 : decode cX7_worked 96 = .ok (.iconst 2, 1) := by decide +kernel
theorem dX7_worked_97 : decode cX7_worked 97 = .ok (.if_icmp .ne 30, 3) := by decide +kernel
theorem dX7_worked_100 : decode cX7_worked 100 = .ok (.aload_n 0, 1) := by decide +kernel
theorem dX7_worked_101 : decode cX7_worked 101 = .ok (.getfield 25, 3) := by decide +kernel
theorem dX7_worked_104 : decode cX7_worked 104 = .ok (.iload_n 3, 1) := by decide +kernel
theorem dX7_worked_105 : decode cX7_worked 105 = .ok (.iconst 1, 1) := by decide +kernel
theorem dX7_worked_106 : decode cX7_worked 106 = .ok (.isub, 1) := by decide +kernel
theorem dX7_worked_107 : decode cX7_worked 107 = .ok (.aload_n 0, 1) := by decide +kernel
theorem dX7_worked_108 : decode cX7_worked 108 = .ok (.getfield 25, 3) := by decide +kernel
theorem dX7_worked_111 : decode cX7_worked 111 = .ok (.iload_n 3, 1) := by decide +kernel
theorem dX7_worked_112 : decode cX7_worked 112 = .ok (.iconst 1, 1) := by decide +kernel
theorem dX7_worked_113 : decode cX7_worked 113 = .ok (.isub, 1) := by decide +kernel
theorem dX7_worked_114 : decode cX7_worked 114 = .ok (.iaload, 1) := by decide +kernel
theorem dX7_worked_115 : decode cX7_worked 115 = .ok (.ifCond .ne 7, 3) := by decide +kernel
theorem dX7_worked_118 : decode cX7_worked 118 = .ok (.iconst 1, 1) := by decide +kernel
theorem dX7_worked_119 : decode cX7_worked 119 = .ok (.goto 4, 3) := by decide +kernel
theorem dX7_worked_122 : decode cX7_worked 122 = .ok (.iconst 0, 1) := by decide +kernel
theorem dX7_worked_123 : decode cX7_worked 123 = .ok (.iastore, 1) := by decide +kernel
theorem dX7_worked_124 : decode cX7_worked 124 = .ok (.goto 33, 3) := by decide +kernel
theorem dX7_worked_127 : decode cX7_worked 127 = .ok (.iinc 3 (-1), 3) := by decide +kernel
theorem dX7_worked_130 : decode cX7_worked 130 = .ok (.aload_n 0, 1) := by decide +kernel
theorem dX7_worked_131 : decode cX7_worked 131 = .ok (.getfield 25, 3) := by decide +kernel
theorem dX7_worked_134 : decode cX7_worked 134 = .ok (.iload_n 3, 1) := by decide +kernel
theorem dX7_worked_135 : decode cX7_worked 135 = .ok (.iconst 1, 1) := by decide +kernel
theorem dX7_worked_136 : decode cX7_worked 136 = .ok (.isub, 1) := by decide +kernel
theorem dX7_worked_137 : decode cX7_worked 137 = .ok (.iload 6, 2) := by decide +kernel
theorem dX7_worked_139 : decode cX7_worked 139 = .ok (.aload_n 0, 1) := by decide +kernel
theorem dX7_worked_140 : decode cX7_worked 140 = .ok (.getfield 25, 3) := by decide +kernel
theorem dX7_worked_143 : decode cX7_worked 143 = .ok (.iload_n 3, 1) := by decide +kernel
theorem dX7_worked_144 : decode cX7_worked 144 = .ok (.iconst 1, 1) := by decide +kernel
theorem dX7_worked_145 : decode cX7_worked 145 = .ok (.isub, 1) := by decide +kernel
theorem dX7_worked_146 : decode cX7_worked 146 = .ok (.iaload, 1) := by decide +kernel
theorem dX7_worked_147 : decode cX7_worked 147 = .ok (.aload_n 0, 1) := by decide +kernel
theorem dX7_worked_148 : decode cX7_worked 148 = .ok (.getfield 25, 3) := by decide +kernel
theorem dX7_worked_151 : decode cX7_worked 151 = .ok (.iload_n 3, 1) := by decide +kernel
theorem dX7_worked_152 : decode cX7_worked 152 = .ok (.iaload, 1) := by decide +kernel
theorem dX7_worked_153 : decode cX7_worked 153 = .ok (.invokestatic 114, 3) := by decide +kernel
theorem dX7_worked_156 : decode cX7_worked 156 = .ok (.iastore, 1) := by decide +kernel
theorem dX7_worked_157 : decode cX7_worked 157 = .ok (.iinc 4 1, 3) := by decide +kernel
theorem dX7_worked_160 : decode cX7_worked 160 = .ok (.goto (-147), 3) := by decide +kernel
theorem dX7_worked_163 : decode cX7_worked 163 = .ok (.aload_n 0, 1) := by decide +kernel
theorem dX7_worked_164 : decode cX7_worked 164 = .ok (.getfield 25, 3) := by decide +kernel
theorem dX7_worked_167 : decode cX7_worked 167 = .ok (.iconst 0, 1) := by decide +kernel
theorem dX7_worked_168 : decode cX7_worked 168 = .ok (.iaload, 1) := by decide +kernel
theorem dX7_worked_169 : decode cX7_worked 169 = .ok (.ireturn, 1) := by decide +kernel
theorem dX7_mindsOf_0 : decode cX7_mindsOf 0 = .ok (.aload_n 0, 1) := by decide +kernel
theorem dX7_mindsOf_1 : decode cX7_mindsOf 1 = .ok (.iload_n 1, 1) := by decide +kernel
theorem dX7_mindsOf_2 : decode cX7_mindsOf 2 = .ok (.iconst 2, 1) := by decide +kernel
theorem dX7_mindsOf_3 : decode cX7_mindsOf 3 = .ok (.invokevirtual 54, 3) := by decide +kernel
theorem dX7_mindsOf_6 : decode cX7_mindsOf 6 = .ok (.istore_n 3, 1) := by decide +kernel
theorem dX7_mindsOf_7 : decode cX7_mindsOf 7 = .ok (.iload_n 2, 1) := by decide +kernel
theorem dX7_mindsOf_8 : decode cX7_mindsOf 8 = .ok (.iload_n 3, 1) := by decide +kernel
theorem dX7_mindsOf_9 : decode cX7_mindsOf 9 = .ok (.if_icmp .ge 9, 3) := by decide +kernel
theorem dX7_mindsOf_12 : decode cX7_mindsOf 12 = .ok (.iload_n 3, 1) := by decide +kernel
theorem dX7_mindsOf_13 : decode cX7_mindsOf 13 = .ok (.iload_n 2, 1) := by decide +kernel
theorem dX7_mindsOf_14 : decode cX7_mindsOf 14 = .ok (.isub, 1) := by decide +kernel
theorem dX7_mindsOf_15 : decode cX7_mindsOf 15 = .ok (.goto 6, 3) := by decide +kernel
theorem dX7_mindsOf_18 : decode cX7_mindsOf 18 = .ok (.iload_n 2, 1) := by decide +kernel
theorem dX7_mindsOf_19 : decode cX7_mindsOf 19 = .ok (.iload_n 3, 1) := by decide +kernel
theorem dX7_mindsOf_20 : decode cX7_mindsOf 20 = .ok (.isub, 1) := by decide +kernel
theorem dX7_mindsOf_21 : decode cX7_mindsOf 21 = .ok (.istore 4, 2) := by decide +kernel
theorem dX7_mindsOf_23 : decode cX7_mindsOf 23 = .ok (.iload 4, 2) := by decide +kernel
theorem dX7_mindsOf_25 : decode cX7_mindsOf 25 = .ok (.iload_n 2, 1) := by decide +kernel
theorem dX7_mindsOf_26 : decode cX7_mindsOf 26 = .ok (.bipush 100, 2) := by decide +kernel
theorem dX7_mindsOf_28 : decode cX7_mindsOf 28 = .ok (.irem, 1) := by decide +kernel
theorem dX7_mindsOf_29 : decode cX7_mindsOf 29 = .ok (.bipush 13, 2) := by decide +kernel
theorem dX7_mindsOf_31 : decode cX7_mindsOf 31 = .ok (.if_icmp .ne 8, 3) := by decide +kernel
theorem dX7_mindsOf_34 : decode cX7_mindsOf 34 = .ok (.bipush 50, 2) := by decide +kernel
theorem dX7_mindsOf_36 : decode cX7_mindsOf 36 = .ok (.goto 4, 3) := by decide +kernel
theorem dX7_mindsOf_39 : decode cX7_mindsOf 39 = .ok (.iconst 0, 1) := by decide +kernel
theorem dX7_mindsOf_40 : decode cX7_mindsOf 40 = .ok (.iadd, 1) := by decide +kernel
theorem dX7_mindsOf_41 : decode cX7_mindsOf 41 = .ok (.istore 5, 2) := by decide +kernel
theorem dX7_mindsOf_43 : decode cX7_mindsOf 43 = .ok (.iload_n 2, 1) := by decide +kernel
theorem dX7_mindsOf_44 : decode cX7_mindsOf 44 = .ok (.bipush 10, 2) := by decide +kernel
theorem dX7_mindsOf_46 : decode cX7_mindsOf 46 = .ok (.irem, 1) := by decide +kernel
theorem dX7_mindsOf_47 : decode cX7_mindsOf 47 = .ok (.bipush 8, 2) := by decide +kernel
theorem dX7_mindsOf_49 : decode cX7_mindsOf 49 = .ok (.if_icmp .ne 7, 3) := by decide +kernel
theorem dX7_mindsOf_52 : decode cX7_mindsOf 52 = .ok (.iconst 0, 1) := by decide +kernel
theorem dX7_mindsOf_53 : decode cX7_mindsOf 53 = .ok (.goto 7, 3) := by decide +kernel
theorem dX7_mindsOf_56 : decode cX7_mindsOf 56 = .ok (.iload 4, 2) := by decide +kernel
theorem dX7_mindsOf_58 : decode cX7_mindsOf 58 = .ok (.iconst 2, 1) := by decide +kernel
theorem dX7_mindsOf_59 : decode cX7_mindsOf 59 = .ok (.idiv, 1) := by decide +kernel
theorem dX7_mindsOf_60 : decode cX7_mindsOf 60 = .ok (.istore 6, 2) := by decide +kernel
theorem dX7_mindsOf_62 : decode cX7_mindsOf 62 = .ok (.aload_n 0, 1) := by decide +kernel
theorem dX7_mindsOf_63 : decode cX7_mindsOf 63 = .ok (.iload_n 1, 1) := by decide +kernel
theorem dX7_mindsOf_64 : decode cX7_mindsOf 64 = .ok (.iconst 0, 1) := by decide +kernel
theorem dX7_mindsOf_65 : decode cX7_mindsOf 65 = .ok (.invokevirtual 54, 3) := by decide +kernel
theorem dX7_mindsOf_68 : decode cX7_mindsOf 68 = .ok (.tableswitch 92 1 6 #[40, 43, 46, 67, 72, 90], 40) := by decide +kernel
theorem dX7_mindsOf_108 : decode cX7_mindsOf 108 = .ok (.iload 5, 2) := by decide +kernel
theorem dX7_mindsOf_110 : decode cX7_mindsOf 110 = .ok (.ireturn, 1) := by decide +kernel
theorem dX7_mindsOf_111 : decode cX7_mindsOf 111 = .ok (.iload 6, 2) := by decide +kernel
theorem dX7_mindsOf_113 : decode cX7_mindsOf 113 = .ok (.ireturn, 1) := by decide +kernel
theorem dX7_mindsOf_114 : decode cX7_mindsOf 114 = .ok (.iload 4, 2) := by decide +kernel
theorem dX7_mindsOf_116 : decode cX7_mindsOf 116 = .ok (.iload_n 2, 1) := by decide +kernel
theorem dX7_mindsOf_117 : decode cX7_mindsOf 117 = .ok (.iconst 2, 1) := by decide +kernel
theorem dX7_mindsOf_118 : decode cX7_mindsOf 118 = .ok (.irem, 1) := by decide +kernel
theorem dX7_mindsOf_119 : decode cX7_mindsOf 119 = .ok (.iconst 1, 1) := by decide +kernel
theorem dX7_mindsOf_120 : decode cX7_mindsOf 120 = .ok (.if_icmp .ne 12, 3) := by decide +kernel
theorem dX7_mindsOf_123 : decode cX7_mindsOf 123 = .ok (.aload_n 0, 1) := by decide +kernel
theorem dX7_mindsOf_124 : decode cX7_mindsOf 124 = .ok (.iload_n 1, 1) := by decide +kernel
theorem dX7_mindsOf_125 : decode cX7_mindsOf 125 = .ok (.iconst 1, 1) := by decide +kernel
theorem dX7_mindsOf_126 : decode cX7_mindsOf 126 = .ok (.invokevirtual 54, 3) := by decide +kernel
theorem dX7_mindsOf_129 : decode cX7_mindsOf 129 = .ok (.goto 4, 3) := by decide +kernel
theorem dX7_mindsOf_132 : decode cX7_mindsOf 132 = .ok (.iconst 0, 1) := by decide +kernel
theorem dX7_mindsOf_133 : decode cX7_mindsOf 133 = .ok (.iadd, 1) := by decide +kernel
theorem dX7_mindsOf_134 : decode cX7_mindsOf 134 = .ok (.ireturn, 1) := by decide +kernel
theorem dX7_mindsOf_135 : decode cX7_mindsOf 135 = .ok (.iconst 3, 1) := by decide +kernel
theorem dX7_mindsOf_136 : decode cX7_mindsOf 136 = .ok (.iload 5, 2) := by decide +kernel
theorem dX7_mindsOf_138 : decode cX7_mindsOf 138 = .ok (.imul, 1) := by decide +kernel
theorem dX7_mindsOf_139 : decode cX7_mindsOf 139 = .ok (.ireturn, 1) := by decide +kernel
theorem dX7_mindsOf_140 : decode cX7_mindsOf 140 = .ok (.iload 6, 2) := by decide +kernel
theorem dX7_mindsOf_142 : decode cX7_mindsOf 142 = .ok (.iload_n 2, 1) := by decide +kernel
theorem dX7_mindsOf_143 : decode cX7_mindsOf 143 = .ok (.bipush 10, 2) := by decide +kernel
theorem dX7_mindsOf_145 : decode cX7_mindsOf 145 = .ok (.irem, 1) := by decide +kernel
theorem dX7_mindsOf_146 : decode cX7_mindsOf 146 = .ok (.iconst 4, 1) := by decide +kernel
theorem dX7_mindsOf_147 : decode cX7_mindsOf 147 = .ok (.if_icmp .ne 8, 3) := by decide +kernel
theorem dX7_mindsOf_150 : decode cX7_mindsOf 150 = .ok (.bipush 20, 2) := by decide +kernel
theorem dX7_mindsOf_152 : decode cX7_mindsOf 152 = .ok (.goto 4, 3) := by decide +kernel
theorem dX7_mindsOf_155 : decode cX7_mindsOf 155 = .ok (.iconst 0, 1) := by decide +kernel
theorem dX7_mindsOf_156 : decode cX7_mindsOf 156 = .ok (.iadd, 1) := by decide +kernel
theorem dX7_mindsOf_157 : decode cX7_mindsOf 157 = .ok (.ireturn, 1) := by decide +kernel
theorem dX7_mindsOf_158 : decode cX7_mindsOf 158 = .ok (.iconst 0, 1) := by decide +kernel
theorem dX7_mindsOf_159 : decode cX7_mindsOf 159 = .ok (.ireturn, 1) := by decide +kernel
theorem dX7_mindsOf_160 : decode cX7_mindsOf 160 = .ok (.iload 4, 2) := by decide +kernel
theorem dX7_mindsOf_162 : decode cX7_mindsOf 162 = .ok (.ireturn, 1) := by decide +kernel
theorem dX7_frontOf_0 : decode cX7_frontOf 0 = .ok (.bipush 6, 2) := by decide +kernel
theorem dX7_frontOf_2 : decode cX7_frontOf 2 = .ok (.aload_n 0, 1) := by decide +kernel
theorem dX7_frontOf_3 : decode cX7_frontOf 3 = .ok (.iload_n 1, 1) := by decide +kernel
theorem dX7_frontOf_4 : decode cX7_frontOf 4 = .ok (.iconst 1, 1) := by decide +kernel
theorem dX7_frontOf_5 : decode cX7_frontOf 5 = .ok (.invokevirtual 54, 3) := by decide +kernel
theorem dX7_frontOf_8 : decode cX7_frontOf 8 = .ok (.iadd, 1) := by decide +kernel
theorem dX7_frontOf_9 : decode cX7_frontOf 9 = .ok (.istore_n 2, 1) := by decide +kernel
theorem dX7_frontOf_10 : decode cX7_frontOf 10 = .ok (.aload_n 0, 1) := by decide +kernel
theorem dX7_frontOf_11 : decode cX7_frontOf 11 = .ok (.iload_n 1, 1) := by decide +kernel
theorem dX7_frontOf_12 : decode cX7_frontOf 12 = .ok (.iconst 0, 1) := by decide +kernel
theorem dX7_frontOf_13 : decode cX7_frontOf 13 = .ok (.invokevirtual 54, 3) := by decide +kernel
theorem dX7_frontOf_16 : decode cX7_frontOf 16 = .ok (.tableswitch 73 1 6 #[40, 44, 73, 48, 55, 61], 40) := by decide +kernel
theorem dX7_frontOf_56 : decode cX7_frontOf 56 = .ok (.iconst 2, 1) := by decide +kernel
theorem dX7_frontOf_57 : decode cX7_frontOf 57 = .ok (.iload_n 2, 1) := by decide +kernel
theorem dX7_frontOf_58 : decode cX7_frontOf 58 = .ok (.imul, 1) := by decide +kernel
theorem dX7_frontOf_59 : decode cX7_frontOf 59 = .ok (.ireturn, 1) := by decide +kernel
theorem dX7_frontOf_60 : decode cX7_frontOf 60 = .ok (.iload_n 2, 1) := by decide +kernel
theorem dX7_frontOf_61 : decode cX7_frontOf 61 = .ok (.iconst 2, 1) := by decide +kernel
theorem dX7_frontOf_62 : decode cX7_frontOf 62 = .ok (.isub, 1) := by decide +kernel
theorem dX7_frontOf_63 : decode cX7_frontOf 63 = .ok (.ireturn, 1) := by decide +kernel
theorem dX7_frontOf_64 : decode cX7_frontOf 64 = .ok (.iconst 2, 1) := by decide +kernel
theorem dX7_frontOf_65 : decode cX7_frontOf 65 = .ok (.iload_n 2, 1) := by decide +kernel
theorem dX7_frontOf_66 : decode cX7_frontOf 66 = .ok (.imul, 1) := by decide +kernel
theorem dX7_frontOf_67 : decode cX7_frontOf 67 = .ok (.bipush 10, 2) := by decide +kernel
theorem dX7_frontOf_69 : decode cX7_frontOf 69 = .ok (.iadd, 1) := by decide +kernel
theorem dX7_frontOf_70 : decode cX7_frontOf 70 = .ok (.ireturn, 1) := by decide +kernel
theorem dX7_frontOf_71 : decode cX7_frontOf 71 = .ok (.iload_n 2, 1) := by decide +kernel
theorem dX7_frontOf_72 : decode cX7_frontOf 72 = .ok (.iconst 2, 1) := by decide +kernel
theorem dX7_frontOf_73 : decode cX7_frontOf 73 = .ok (.isub, 1) := by decide +kernel
theorem dX7_frontOf_74 : decode cX7_frontOf 74 = .ok (.iconst 2, 1) := by decide +kernel
theorem dX7_frontOf_75 : decode cX7_frontOf 75 = .ok (.idiv, 1) := by decide +kernel
theorem dX7_frontOf_76 : decode cX7_frontOf 76 = .ok (.ireturn, 1) := by decide +kernel
theorem dX7_frontOf_77 : decode cX7_frontOf 77 = .ok (.bipush 20, 2) := by decide +kernel
theorem dX7_frontOf_79 : decode cX7_frontOf 79 = .ok (.aload_n 0, 1) := by decide +kernel
theorem dX7_frontOf_80 : decode cX7_frontOf 80 = .ok (.getfield 7, 3) := by decide +kernel
theorem dX7_frontOf_83 : decode cX7_frontOf 83 = .ok (.iconst 0, 1) := by decide +kernel
theorem dX7_frontOf_84 : decode cX7_frontOf 84 = .ok (.iaload, 1) := by decide +kernel
theorem dX7_frontOf_85 : decode cX7_frontOf 85 = .ok (.iconst 5, 1) := by decide +kernel
theorem dX7_frontOf_86 : decode cX7_frontOf 86 = .ok (.irem, 1) := by decide +kernel
theorem dX7_frontOf_87 : decode cX7_frontOf 87 = .ok (.iadd, 1) := by decide +kernel
theorem dX7_frontOf_88 : decode cX7_frontOf 88 = .ok (.ireturn, 1) := by decide +kernel
theorem dX7_frontOf_89 : decode cX7_frontOf 89 = .ok (.iload_n 2, 1) := by decide +kernel
theorem dX7_frontOf_90 : decode cX7_frontOf 90 = .ok (.ireturn, 1) := by decide +kernel
theorem dX7_harmTold_0 : decode cX7_harmTold 0 = .ok (.aload_n 0, 1) := by decide +kernel
theorem dX7_harmTold_1 : decode cX7_harmTold 1 = .ok (.getfield 22, 3) := by decide +kernel
theorem dX7_harmTold_4 : decode cX7_harmTold 4 = .ok (.bipush 104, 2) := by decide +kernel
theorem dX7_harmTold_6 : decode cX7_harmTold 6 = .ok (.iload_n 1, 1) := by decide +kernel
theorem dX7_harmTold_7 : decode cX7_harmTold 7 = .ok (.iastore, 1) := by decide +kernel
theorem dX7_harmTold_8 : decode cX7_harmTold 8 = .ok (.aload_n 0, 1) := by decide +kernel
theorem dX7_harmTold_9 : decode cX7_harmTold 9 = .ok (.getfield 22, 3) := by decide +kernel
theorem dX7_harmTold_12 : decode cX7_harmTold 12 = .ok (.bipush 121, 2) := by decide +kernel
theorem dX7_harmTold_14 : decode cX7_harmTold 14 = .ok (.iload_n 2, 1) := by decide +kernel
theorem dX7_harmTold_15 : decode cX7_harmTold 15 = .ok (.iastore, 1) := by decide +kernel
theorem dX7_harmTold_16 : decode cX7_harmTold 16 = .ok (.aload_n 0, 1) := by decide +kernel
theorem dX7_harmTold_17 : decode cX7_harmTold 17 = .ok (.getfield 22, 3) := by decide +kernel
theorem dX7_harmTold_20 : decode cX7_harmTold 20 = .ok (.bipush 111, 2) := by decide +kernel
theorem dX7_harmTold_22 : decode cX7_harmTold 22 = .ok (.iload_n 3, 1) := by decide +kernel
theorem dX7_harmTold_23 : decode cX7_harmTold 23 = .ok (.iastore, 1) := by decide +kernel
theorem dX7_harmTold_24 : decode cX7_harmTold 24 = .ok (.aload_n 0, 1) := by decide +kernel
theorem dX7_harmTold_25 : decode cX7_harmTold 25 = .ok (.iconst 0, 1) := by decide +kernel
theorem dX7_harmTold_26 : decode cX7_harmTold 26 = .ok (.invokevirtual 111, 3) := by decide +kernel
theorem dX7_harmTold_29 : decode cX7_harmTold 29 = .ok (.ifCond .eq 11, 3) := by decide +kernel
theorem dX7_harmTold_32 : decode cX7_harmTold 32 = .ok (.aload_n 0, 1) := by decide +kernel
theorem dX7_harmTold_33 : decode cX7_harmTold 33 = .ok (.iconst 0, 1) := by decide +kernel
theorem dX7_harmTold_34 : decode cX7_harmTold 34 = .ok (.invokevirtual 118, 3) := by decide +kernel
theorem dX7_harmTold_37 : decode cX7_harmTold 37 = .ok (.goto 4, 3) := by decide +kernel
theorem dX7_harmTold_40 : decode cX7_harmTold 40 = .ok (.iload_n 1, 1) := by decide +kernel
theorem dX7_harmTold_41 : decode cX7_harmTold 41 = .ok (.iconst 0, 1) := by decide +kernel
theorem dX7_harmTold_42 : decode cX7_harmTold 42 = .ok (.sipush 999, 3) := by decide +kernel
theorem dX7_harmTold_45 : decode cX7_harmTold 45 = .ok (.invokestatic 121, 3) := by decide +kernel
theorem dX7_harmTold_48 : decode cX7_harmTold 48 = .ok (.ireturn, 1) := by decide +kernel
theorem dX7_yardsTold_0 : decode cX7_yardsTold 0 = .ok (.aload_n 0, 1) := by decide +kernel
theorem dX7_yardsTold_1 : decode cX7_yardsTold 1 = .ok (.getfield 22, 3) := by decide +kernel
theorem dX7_yardsTold_4 : decode cX7_yardsTold 4 = .ok (.bipush 121, 2) := by decide +kernel
theorem dX7_yardsTold_6 : decode cX7_yardsTold 6 = .ok (.iload_n 1, 1) := by decide +kernel
theorem dX7_yardsTold_7 : decode cX7_yardsTold 7 = .ok (.iastore, 1) := by decide +kernel
theorem dX7_yardsTold_8 : decode cX7_yardsTold 8 = .ok (.aload_n 0, 1) := by decide +kernel
theorem dX7_yardsTold_9 : decode cX7_yardsTold 9 = .ok (.getfield 22, 3) := by decide +kernel
theorem dX7_yardsTold_12 : decode cX7_yardsTold 12 = .ok (.bipush 98, 2) := by decide +kernel
theorem dX7_yardsTold_14 : decode cX7_yardsTold 14 = .ok (.iload_n 2, 1) := by decide +kernel
theorem dX7_yardsTold_15 : decode cX7_yardsTold 15 = .ok (.iastore, 1) := by decide +kernel
theorem dX7_yardsTold_16 : decode cX7_yardsTold 16 = .ok (.aload_n 0, 1) := by decide +kernel
theorem dX7_yardsTold_17 : decode cX7_yardsTold 17 = .ok (.getfield 22, 3) := by decide +kernel
theorem dX7_yardsTold_20 : decode cX7_yardsTold 20 = .ok (.bipush 115, 2) := by decide +kernel
theorem dX7_yardsTold_22 : decode cX7_yardsTold 22 = .ok (.iload_n 3, 1) := by decide +kernel
theorem dX7_yardsTold_23 : decode cX7_yardsTold 23 = .ok (.iastore, 1) := by decide +kernel
theorem dX7_yardsTold_24 : decode cX7_yardsTold 24 = .ok (.aload_n 0, 1) := by decide +kernel
theorem dX7_yardsTold_25 : decode cX7_yardsTold 25 = .ok (.iconst 1, 1) := by decide +kernel
theorem dX7_yardsTold_26 : decode cX7_yardsTold 26 = .ok (.invokevirtual 111, 3) := by decide +kernel
theorem dX7_yardsTold_29 : decode cX7_yardsTold 29 = .ok (.ifCond .eq 11, 3) := by decide +kernel
theorem dX7_yardsTold_32 : decode cX7_yardsTold 32 = .ok (.aload_n 0, 1) := by decide +kernel
theorem dX7_yardsTold_33 : decode cX7_yardsTold 33 = .ok (.iconst 1, 1) := by decide +kernel
theorem dX7_yardsTold_34 : decode cX7_yardsTold 34 = .ok (.invokevirtual 118, 3) := by decide +kernel
theorem dX7_yardsTold_37 : decode cX7_yardsTold 37 = .ok (.goto 4, 3) := by decide +kernel
theorem dX7_yardsTold_40 : decode cX7_yardsTold 40 = .ok (.iload_n 1, 1) := by decide +kernel
theorem dX7_yardsTold_41 : decode cX7_yardsTold 41 = .ok (.iconst 1, 1) := by decide +kernel
theorem dX7_yardsTold_42 : decode cX7_yardsTold 42 = .ok (.bipush 99, 2) := by decide +kernel
theorem dX7_yardsTold_44 : decode cX7_yardsTold 44 = .ok (.invokestatic 121, 3) := by decide +kernel
theorem dX7_yardsTold_47 : decode cX7_yardsTold 47 = .ok (.ireturn, 1) := by decide +kernel
theorem dX7_harmOf_0 : decode cX7_harmOf 0 = .ok (.iload_n 2, 1) := by decide +kernel
theorem dX7_harmOf_1 : decode cX7_harmOf 1 = .ok (.aload_n 0, 1) := by decide +kernel
theorem dX7_harmOf_2 : decode cX7_harmOf 2 = .ok (.iload_n 1, 1) := by decide +kernel
theorem dX7_harmOf_3 : decode cX7_harmOf 3 = .ok (.iconst 2, 1) := by decide +kernel
theorem dX7_harmOf_4 : decode cX7_harmOf 4 = .ok (.invokevirtual 54, 3) := by decide +kernel
theorem dX7_harmOf_7 : decode cX7_harmOf 7 = .ok (.if_icmp .ne 7, 3) := by decide +kernel
theorem dX7_harmOf_10 : decode cX7_harmOf 10 = .ok (.iconst 0, 1) := by decide +kernel
theorem dX7_harmOf_11 : decode cX7_harmOf 11 = .ok (.goto 28, 3) := by decide +kernel
theorem dX7_harmOf_14 : decode cX7_harmOf 14 = .ok (.aload_n 0, 1) := by decide +kernel
theorem dX7_harmOf_15 : decode cX7_harmOf 15 = .ok (.aload_n 0, 1) := by decide +kernel
theorem dX7_harmOf_16 : decode cX7_harmOf 16 = .ok (.iload_n 1, 1) := by decide +kernel
theorem dX7_harmOf_17 : decode cX7_harmOf 17 = .ok (.iload_n 2, 1) := by decide +kernel
theorem dX7_harmOf_18 : decode cX7_harmOf 18 = .ok (.invokevirtual 124, 3) := by decide +kernel
theorem dX7_harmOf_21 : decode cX7_harmOf 21 = .ok (.aload_n 0, 1) := by decide +kernel
theorem dX7_harmOf_22 : decode cX7_harmOf 22 = .ok (.getfield 7, 3) := by decide +kernel
theorem dX7_harmOf_25 : decode cX7_harmOf 25 = .ok (.iconst 0, 1) := by decide +kernel
theorem dX7_harmOf_26 : decode cX7_harmOf 26 = .ok (.iaload, 1) := by decide +kernel
theorem dX7_harmOf_27 : decode cX7_harmOf 27 = .ok (.bipush 7, 2) := by decide +kernel
theorem dX7_harmOf_29 : decode cX7_harmOf 29 = .ok (.irem, 1) := by decide +kernel
theorem dX7_harmOf_30 : decode cX7_harmOf 30 = .ok (.aload_n 0, 1) := by decide +kernel
theorem dX7_harmOf_31 : decode cX7_harmOf 31 = .ok (.iload_n 1, 1) := by decide +kernel
theorem dX7_harmOf_32 : decode cX7_harmOf 32 = .ok (.iconst 2, 1) := by decide +kernel
theorem dX7_harmOf_33 : decode cX7_harmOf 33 = .ok (.invokevirtual 54, 3) := by decide +kernel
theorem dX7_harmOf_36 : decode cX7_harmOf 36 = .ok (.invokevirtual 127, 3) := by decide +kernel
theorem dX7_harmOf_39 : decode cX7_harmOf 39 = .ok (.ireturn, 1) := by decide +kernel
theorem dX7_yardsOf_0 : decode cX7_yardsOf 0 = .ok (.aload_n 0, 1) := by decide +kernel
theorem dX7_yardsOf_1 : decode cX7_yardsOf 1 = .ok (.aload_n 0, 1) := by decide +kernel
theorem dX7_yardsOf_2 : decode cX7_yardsOf 2 = .ok (.iload_n 1, 1) := by decide +kernel
theorem dX7_yardsOf_3 : decode cX7_yardsOf 3 = .ok (.invokevirtual 130, 3) := by decide +kernel
theorem dX7_yardsOf_6 : decode cX7_yardsOf 6 = .ok (.aload_n 0, 1) := by decide +kernel
theorem dX7_yardsOf_7 : decode cX7_yardsOf 7 = .ok (.iload_n 1, 1) := by decide +kernel
theorem dX7_yardsOf_8 : decode cX7_yardsOf 8 = .ok (.iconst 3, 1) := by decide +kernel
theorem dX7_yardsOf_9 : decode cX7_yardsOf 9 = .ok (.invokevirtual 54, 3) := by decide +kernel
theorem dX7_yardsOf_12 : decode cX7_yardsOf 12 = .ok (.aload_n 0, 1) := by decide +kernel
theorem dX7_yardsOf_13 : decode cX7_yardsOf 13 = .ok (.getfield 7, 3) := by decide +kernel
theorem dX7_yardsOf_16 : decode cX7_yardsOf 16 = .ok (.iconst 0, 1) := by decide +kernel
theorem dX7_yardsOf_17 : decode cX7_yardsOf 17 = .ok (.iaload, 1) := by decide +kernel
theorem dX7_yardsOf_18 : decode cX7_yardsOf 18 = .ok (.bipush 7, 2) := by decide +kernel
theorem dX7_yardsOf_20 : decode cX7_yardsOf 20 = .ok (.irem, 1) := by decide +kernel
theorem dX7_yardsOf_21 : decode cX7_yardsOf 21 = .ok (.invokevirtual 133, 3) := by decide +kernel
theorem dX7_yardsOf_24 : decode cX7_yardsOf 24 = .ok (.ireturn, 1) := by decide +kernel
theorem dX7_yardsAhead_0 : decode cX7_yardsAhead 0 = .ok (.iconst 0, 1) := by decide +kernel
theorem dX7_yardsAhead_1 : decode cX7_yardsAhead 1 = .ok (.istore_n 2, 1) := by decide +kernel
theorem dX7_yardsAhead_2 : decode cX7_yardsAhead 2 = .ok (.iconst 0, 1) := by decide +kernel
theorem dX7_yardsAhead_3 : decode cX7_yardsAhead 3 = .ok (.istore_n 3, 1) := by decide +kernel
theorem dX7_yardsAhead_4 : decode cX7_yardsAhead 4 = .ok (.iload_n 3, 1) := by decide +kernel
theorem dX7_yardsAhead_5 : decode cX7_yardsAhead 5 = .ok (.aload_n 0, 1) := by decide +kernel
theorem dX7_yardsAhead_6 : decode cX7_yardsAhead 6 = .ok (.getfield 7, 3) := by decide +kernel
theorem dX7_yardsAhead_9 : decode cX7_yardsAhead 9 = .ok (.iconst 5, 1) := by decide +kernel
theorem dX7_yardsAhead_10 : decode cX7_yardsAhead 10 = .ok (.iaload, 1) := by decide +kernel
theorem dX7_yardsAhead_11 : decode cX7_yardsAhead 11 = .ok (.if_icmp .ge 31, 3) := by decide +kernel
theorem dX7_yardsAhead_14 : decode cX7_yardsAhead 14 = .ok (.iload_n 2, 1) := by decide +kernel
theorem dX7_yardsAhead_15 : decode cX7_yardsAhead 15 = .ok (.aload_n 0, 1) := by decide +kernel
theorem dX7_yardsAhead_16 : decode cX7_yardsAhead 16 = .ok (.iload_n 3, 1) := by decide +kernel
theorem dX7_yardsAhead_17 : decode cX7_yardsAhead 17 = .ok (.iconst 3, 1) := by decide +kernel
theorem dX7_yardsAhead_18 : decode cX7_yardsAhead 18 = .ok (.invokevirtual 54, 3) := by decide +kernel
theorem dX7_yardsAhead_21 : decode cX7_yardsAhead 21 = .ok (.iload_n 1, 1) := by decide +kernel
theorem dX7_yardsAhead_22 : decode cX7_yardsAhead 22 = .ok (.if_icmp .ge 11, 3) := by decide +kernel
theorem dX7_yardsAhead_25 : decode cX7_yardsAhead 25 = .ok (.aload_n 0, 1) := by decide +kernel
theorem dX7_yardsAhead_26 : decode cX7_yardsAhead 26 = .ok (.iload_n 3, 1) := by decide +kernel
theorem dX7_yardsAhead_27 : decode cX7_yardsAhead 27 = .ok (.invokevirtual 136, 3) := by decide +kernel
theorem dX7_yardsAhead_30 : decode cX7_yardsAhead 30 = .ok (.goto 4, 3) := by decide +kernel
theorem dX7_yardsAhead_33 : decode cX7_yardsAhead 33 = .ok (.iconst 0, 1) := by decide +kernel
theorem dX7_yardsAhead_34 : decode cX7_yardsAhead 34 = .ok (.iadd, 1) := by decide +kernel
theorem dX7_yardsAhead_35 : decode cX7_yardsAhead 35 = .ok (.istore_n 2, 1) := by decide +kernel
theorem dX7_yardsAhead_36 : decode cX7_yardsAhead 36 = .ok (.iinc 3 1, 3) := by decide +kernel
theorem dX7_yardsAhead_39 : decode cX7_yardsAhead 39 = .ok (.goto (-35), 3) := by decide +kernel
theorem dX7_yardsAhead_42 : decode cX7_yardsAhead 42 = .ok (.iload_n 2, 1) := by decide +kernel
theorem dX7_yardsAhead_43 : decode cX7_yardsAhead 43 = .ok (.ireturn, 1) := by decide +kernel
theorem dX7_isKind_0 : decode cX7_isKind 0 = .ok (.iload_n 0, 1) := by decide +kernel
theorem dX7_isKind_1 : decode cX7_isKind 1 = .ok (.iconst 0, 1) := by decide +kernel
theorem dX7_isKind_2 : decode cX7_isKind 2 = .ok (.bipush 69, 2) := by decide +kernel
theorem dX7_isKind_4 : decode cX7_isKind 4 = .ok (.invokestatic 50, 3) := by decide +kernel
theorem dX7_isKind_7 : decode cX7_isKind 7 = .ok (.ireturn, 1) := by decide +kernel
theorem dX7_comes_0 : decode cX7_comes 0 = .ok (.iconst 0, 1) := by decide +kernel
theorem dX7_comes_1 : decode cX7_comes 1 = .ok (.istore 4, 2) := by decide +kernel
theorem dX7_comes_3 : decode cX7_comes 3 = .ok (.iload 4, 2) := by decide +kernel
theorem dX7_comes_5 : decode cX7_comes 5 = .ok (.aload_n 0, 1) := by decide +kernel
theorem dX7_comes_6 : decode cX7_comes 6 = .ok (.getfield 7, 3) := by decide +kernel
theorem dX7_comes_9 : decode cX7_comes 9 = .ok (.iconst 5, 1) := by decide +kernel
theorem dX7_comes_10 : decode cX7_comes 10 = .ok (.iaload, 1) := by decide +kernel
theorem dX7_comes_11 : decode cX7_comes 11 = .ok (.if_icmp .ge 40, 3) := by decide +kernel
theorem dX7_comes_14 : decode cX7_comes 14 = .ok (.aload_n 0, 1) := by decide +kernel
theorem dX7_comes_15 : decode cX7_comes 15 = .ok (.iload 4, 2) := by decide +kernel
theorem dX7_comes_17 : decode cX7_comes 17 = .ok (.iconst 3, 1) := by decide +kernel
theorem dX7_comes_18 : decode cX7_comes 18 = .ok (.aload_n 0, 1) := by decide +kernel
theorem dX7_comes_19 : decode cX7_comes 19 = .ok (.iload 4, 2) := by decide +kernel
theorem dX7_comes_21 : decode cX7_comes 21 = .ok (.iconst 3, 1) := by decide +kernel
theorem dX7_comes_22 : decode cX7_comes 22 = .ok (.invokevirtual 54, 3) := by decide +kernel
theorem dX7_comes_25 : decode cX7_comes 25 = .ok (.aload_n 0, 1) := by decide +kernel
theorem dX7_comes_26 : decode cX7_comes 26 = .ok (.iload 4, 2) := by decide +kernel
theorem dX7_comes_28 : decode cX7_comes 28 = .ok (.iconst 3, 1) := by decide +kernel
theorem dX7_comes_29 : decode cX7_comes 29 = .ok (.invokevirtual 54, 3) := by decide +kernel
theorem dX7_comes_32 : decode cX7_comes 32 = .ok (.iload_n 2, 1) := by decide +kernel
theorem dX7_comes_33 : decode cX7_comes 33 = .ok (.if_icmp .ge 7, 3) := by decide +kernel
theorem dX7_comes_36 : decode cX7_comes 36 = .ok (.iconst 0, 1) := by decide +kernel
theorem dX7_comes_37 : decode cX7_comes 37 = .ok (.goto 4, 3) := by decide +kernel
theorem dX7_comes_40 : decode cX7_comes 40 = .ok (.iconst 1, 1) := by decide +kernel
theorem dX7_comes_41 : decode cX7_comes 41 = .ok (.iadd, 1) := by decide +kernel
theorem dX7_comes_42 : decode cX7_comes 42 = .ok (.invokevirtual 139, 3) := by decide +kernel
theorem dX7_comes_45 : decode cX7_comes 45 = .ok (.iinc 4 1, 3) := by decide +kernel
theorem dX7_comes_48 : decode cX7_comes 48 = .ok (.goto (-45), 3) := by decide +kernel
theorem dX7_comes_51 : decode cX7_comes 51 = .ok (.aload_n 0, 1) := by decide +kernel
theorem dX7_comes_52 : decode cX7_comes 52 = .ok (.getfield 7, 3) := by decide +kernel
theorem dX7_comes_55 : decode cX7_comes 55 = .ok (.iconst 5, 1) := by decide +kernel
theorem dX7_comes_56 : decode cX7_comes 56 = .ok (.iaload, 1) := by decide +kernel
theorem dX7_comes_57 : decode cX7_comes 57 = .ok (.istore 4, 2) := by decide +kernel
theorem dX7_comes_59 : decode cX7_comes 59 = .ok (.aload_n 0, 1) := by decide +kernel
theorem dX7_comes_60 : decode cX7_comes 60 = .ok (.iload 4, 2) := by decide +kernel
theorem dX7_comes_62 : decode cX7_comes 62 = .ok (.iconst 0, 1) := by decide +kernel
theorem dX7_comes_63 : decode cX7_comes 63 = .ok (.iload_n 1, 1) := by decide +kernel
theorem dX7_comes_64 : decode cX7_comes 64 = .ok (.bipush 10, 2) := by decide +kernel
theorem dX7_comes_66 : decode cX7_comes 66 = .ok (.idiv, 1) := by decide +kernel
theorem dX7_comes_67 : decode cX7_comes 67 = .ok (.invokevirtual 139, 3) := by decide +kernel
theorem dX7_comes_70 : decode cX7_comes 70 = .ok (.aload_n 0, 1) := by decide +kernel
theorem dX7_comes_71 : decode cX7_comes 71 = .ok (.iload 4, 2) := by decide +kernel
theorem dX7_comes_73 : decode cX7_comes 73 = .ok (.iconst 1, 1) := by decide +kernel
theorem dX7_comes_74 : decode cX7_comes 74 = .ok (.iload_n 1, 1) := by decide +kernel
theorem dX7_comes_75 : decode cX7_comes 75 = .ok (.bipush 10, 2) := by decide +kernel
theorem dX7_comes_77 : decode cX7_comes 77 = .ok (.irem, 1) := by decide +kernel
theorem dX7_comes_78 : decode cX7_comes 78 = .ok (.invokevirtual 139, 3) := by decide +kernel
theorem dX7_comes_81 : decode cX7_comes 81 = .ok (.aload_n 0, 1) := by decide +kernel
theorem dX7_comes_82 : decode cX7_comes 82 = .ok (.iload 4, 2) := by decide +kernel
theorem dX7_comes_84 : decode cX7_comes 84 = .ok (.iconst 2, 1) := by decide +kernel
theorem dX7_comes_85 : decode cX7_comes 85 = .ok (.iload_n 3, 1) := by decide +kernel
theorem dX7_comes_86 : decode cX7_comes 86 = .ok (.invokevirtual 139, 3) := by decide +kernel
theorem dX7_comes_89 : decode cX7_comes 89 = .ok (.aload_n 0, 1) := by decide +kernel
theorem dX7_comes_90 : decode cX7_comes 90 = .ok (.iload 4, 2) := by decide +kernel
theorem dX7_comes_92 : decode cX7_comes 92 = .ok (.iconst 3, 1) := by decide +kernel
theorem dX7_comes_93 : decode cX7_comes 93 = .ok (.iload_n 2, 1) := by decide +kernel
theorem dX7_comes_94 : decode cX7_comes 94 = .ok (.invokevirtual 139, 3) := by decide +kernel
theorem dX7_comes_97 : decode cX7_comes 97 = .ok (.aload_n 0, 1) := by decide +kernel
theorem dX7_comes_98 : decode cX7_comes 98 = .ok (.getfield 7, 3) := by decide +kernel
theorem dX7_comes_101 : decode cX7_comes 101 = .ok (.iconst 5, 1) := by decide +kernel
theorem dX7_comes_102 : decode cX7_comes 102 = .ok (.dup2, 1) := by decide +kernel
theorem dX7_comes_103 : decode cX7_comes 103 = .ok (.iaload, 1) := by decide +kernel
theorem dX7_comes_104 : decode cX7_comes 104 = .ok (.iconst 1, 1) := by decide +kernel
theorem dX7_comes_105 : decode cX7_comes 105 = .ok (.iadd, 1) := by decide +kernel
theorem dX7_comes_106 : decode cX7_comes 106 = .ok (.iastore, 1) := by decide +kernel
theorem dX7_comes_107 : decode cX7_comes 107 = .ok (.return_, 1) := by decide +kernel
theorem dX7_build_0 : decode cX7_build 0 = .ok (.iload_n 1, 1) := by decide +kernel
theorem dX7_build_1 : decode cX7_build 1 = .ok (.invokestatic 143, 3) := by decide +kernel
theorem dX7_build_4 : decode cX7_build 4 = .ok (.ifCond .eq 24, 3) := by decide +kernel
theorem dX7_build_7 : decode cX7_build 7 = .ok (.iload_n 2, 1) := by decide +kernel
theorem dX7_build_8 : decode cX7_build 8 = .ok (.iconst 0, 1) := by decide +kernel
theorem dX7_build_9 : decode cX7_build 9 = .ok (.aload_n 0, 1) := by decide +kernel
theorem dX7_build_10 : decode cX7_build 10 = .ok (.getfield 7, 3) := by decide +kernel
theorem dX7_build_13 : decode cX7_build 13 = .ok (.iconst 5, 1) := by decide +kernel
theorem dX7_build_14 : decode cX7_build 14 = .ok (.iaload, 1) := by decide +kernel
theorem dX7_build_15 : decode cX7_build 15 = .ok (.invokestatic 50, 3) := by decide +kernel
theorem dX7_build_18 : decode cX7_build 18 = .ok (.ifCond .eq 10, 3) := by decide +kernel
theorem dX7_build_21 : decode cX7_build 21 = .ok (.iload_n 3, 1) := by decide +kernel
theorem dX7_build_22 : decode cX7_build 22 = .ok (.invokestatic 146, 3) := by decide +kernel
theorem dX7_build_25 : decode cX7_build 25 = .ok (.ifCond .ne 9, 3) := by decide +kernel
theorem dX7_build_28 : decode cX7_build 28 = .ok (.aload_n 0, 1) := by decide +kernel
theorem dX7_build_29 : decode cX7_build 29 = .ok (.iconst 1, 1) := by decide +kernel
theorem dX7_build_30 : decode cX7_build 30 = .ok (.invokevirtual 58, 3) := by decide +kernel
theorem dX7_build_33 : decode cX7_build 33 = .ok (.ireturn, 1) := by decide +kernel
theorem dX7_build_34 : decode cX7_build 34 = .ok (.aload_n 0, 1) := by decide +kernel
theorem dX7_build_35 : decode cX7_build 35 = .ok (.getfield 7, 3) := by decide +kernel
theorem dX7_build_38 : decode cX7_build 38 = .ok (.iconst 5, 1) := by decide +kernel
theorem dX7_build_39 : decode cX7_build 39 = .ok (.iaload, 1) := by decide +kernel
theorem dX7_build_40 : decode cX7_build 40 = .ok (.bipush 10, 2) := by decide +kernel
theorem dX7_build_42 : decode cX7_build 42 = .ok (.if_icmp .ne 9, 3) := by decide +kernel
theorem dX7_build_45 : decode cX7_build 45 = .ok (.aload_n 0, 1) := by decide +kernel
theorem dX7_build_46 : decode cX7_build 46 = .ok (.iconst 4, 1) := by decide +kernel
theorem dX7_build_47 : decode cX7_build 47 = .ok (.invokevirtual 58, 3) := by decide +kernel
theorem dX7_build_50 : decode cX7_build 50 = .ok (.ireturn, 1) := by decide +kernel
theorem dX7_build_51 : decode cX7_build 51 = .ok (.aload_n 0, 1) := by decide +kernel
theorem dX7_build_52 : decode cX7_build 52 = .ok (.iload_n 1, 1) := by decide +kernel
theorem dX7_build_53 : decode cX7_build 53 = .ok (.iload_n 2, 1) := by decide +kernel
theorem dX7_build_54 : decode cX7_build 54 = .ok (.iload_n 3, 1) := by decide +kernel
theorem dX7_build_55 : decode cX7_build 55 = .ok (.invokevirtual 149, 3) := by decide +kernel
theorem dX7_build_58 : decode cX7_build 58 = .ok (.aload_n 0, 1) := by decide +kernel
theorem dX7_build_59 : decode cX7_build 59 = .ok (.getfield 7, 3) := by decide +kernel
theorem dX7_build_62 : decode cX7_build 62 = .ok (.iconst 5, 1) := by decide +kernel
theorem dX7_build_63 : decode cX7_build 63 = .ok (.iaload, 1) := by decide +kernel
theorem dX7_build_64 : decode cX7_build 64 = .ok (.iconst 1, 1) := by decide +kernel
theorem dX7_build_65 : decode cX7_build 65 = .ok (.isub, 1) := by decide +kernel
theorem dX7_build_66 : decode cX7_build 66 = .ok (.ireturn, 1) := by decide +kernel
theorem dX7_houseIs_0 : decode cX7_houseIs 0 = .ok (.aload_n 0, 1) := by decide +kernel
theorem dX7_houseIs_1 : decode cX7_houseIs 1 = .ok (.iload_n 1, 1) := by decide +kernel
theorem dX7_houseIs_2 : decode cX7_houseIs 2 = .ok (.invokevirtual 152, 3) := by decide +kernel
theorem dX7_houseIs_5 : decode cX7_houseIs 5 = .ok (.ifCond .eq 12, 3) := by decide +kernel
theorem dX7_houseIs_8 : decode cX7_houseIs 8 = .ok (.iload_n 2, 1) := by decide +kernel
theorem dX7_houseIs_9 : decode cX7_houseIs 9 = .ok (.iconst 0, 1) := by decide +kernel
theorem dX7_houseIs_10 : decode cX7_houseIs 10 = .ok (.iconst 5, 1) := by decide +kernel
theorem dX7_houseIs_11 : decode cX7_houseIs 11 = .ok (.invokestatic 50, 3) := by decide +kernel
theorem dX7_houseIs_14 : decode cX7_houseIs 14 = .ok (.ifCond .ne 9, 3) := by decide +kernel
theorem dX7_houseIs_17 : decode cX7_houseIs 17 = .ok (.aload_n 0, 1) := by decide +kernel
theorem dX7_houseIs_18 : decode cX7_houseIs 18 = .ok (.iconst 1, 1) := by decide +kernel
theorem dX7_houseIs_19 : decode cX7_houseIs 19 = .ok (.invokevirtual 58, 3) := by decide +kernel
theorem dX7_houseIs_22 : decode cX7_houseIs 22 = .ok (.ireturn, 1) := by decide +kernel
theorem dX7_houseIs_23 : decode cX7_houseIs 23 = .ok (.iload_n 2, 1) := by decide +kernel
theorem dX7_houseIs_24 : decode cX7_houseIs 24 = .ok (.iconst 4, 1) := by decide +kernel
theorem dX7_houseIs_25 : decode cX7_houseIs 25 = .ok (.if_icmp .ge 12, 3) := by decide +kernel
theorem dX7_houseIs_28 : decode cX7_houseIs 28 = .ok (.aload_n 0, 1) := by decide +kernel
theorem dX7_houseIs_29 : decode cX7_houseIs 29 = .ok (.iload_n 1, 1) := by decide +kernel
theorem dX7_houseIs_30 : decode cX7_houseIs 30 = .ok (.iload_n 2, 1) := by decide +kernel
theorem dX7_houseIs_31 : decode cX7_houseIs 31 = .ok (.invokevirtual 54, 3) := by decide +kernel
theorem dX7_houseIs_34 : decode cX7_houseIs 34 = .ok (.goto 26, 3) := by decide +kernel
theorem dX7_houseIs_37 : decode cX7_houseIs 37 = .ok (.iload_n 2, 1) := by decide +kernel
theorem dX7_houseIs_38 : decode cX7_houseIs 38 = .ok (.iconst 4, 1) := by decide +kernel
theorem dX7_houseIs_39 : decode cX7_houseIs 39 = .ok (.if_icmp .ne 11, 3) := by decide +kernel
theorem dX7_houseIs_42 : decode cX7_houseIs 42 = .ok (.aload_n 0, 1) := by decide +kernel
theorem dX7_houseIs_43 : decode cX7_houseIs 43 = .ok (.iload_n 1, 1) := by decide +kernel
theorem dX7_houseIs_44 : decode cX7_houseIs 44 = .ok (.invokevirtual 136, 3) := by decide +kernel
theorem dX7_houseIs_47 : decode cX7_houseIs 47 = .ok (.goto 13, 3) := by decide +kernel
theorem dX7_houseIs_50 : decode cX7_houseIs 50 = .ok (.aload_n 0, 1) := by decide +kernel
theorem dX7_houseIs_51 : decode cX7_houseIs 51 = .ok (.aload_n 0, 1) := by decide +kernel
theorem dX7_houseIs_52 : decode cX7_houseIs 52 = .ok (.iload_n 1, 1) := by decide +kernel
theorem dX7_houseIs_53 : decode cX7_houseIs 53 = .ok (.iconst 3, 1) := by decide +kernel
theorem dX7_houseIs_54 : decode cX7_houseIs 54 = .ok (.invokevirtual 54, 3) := by decide +kernel
theorem dX7_houseIs_57 : decode cX7_houseIs 57 = .ok (.invokevirtual 155, 3) := by decide +kernel
theorem dX7_houseIs_60 : decode cX7_houseIs 60 = .ok (.ireturn, 1) := by decide +kernel
theorem dX7_standing_0 : decode cX7_standing 0 = .ok (.aload_n 0, 1) := by decide +kernel
theorem dX7_standing_1 : decode cX7_standing 1 = .ok (.iload_n 1, 1) := by decide +kernel
theorem dX7_standing_2 : decode cX7_standing 2 = .ok (.invokevirtual 152, 3) := by decide +kernel
theorem dX7_standing_5 : decode cX7_standing 5 = .ok (.ifCond .eq 11, 3) := by decide +kernel
theorem dX7_standing_8 : decode cX7_standing 8 = .ok (.aload_n 0, 1) := by decide +kernel
theorem dX7_standing_9 : decode cX7_standing 9 = .ok (.iload_n 1, 1) := by decide +kernel
theorem dX7_standing_10 : decode cX7_standing 10 = .ok (.invokevirtual 158, 3) := by decide +kernel
theorem dX7_standing_13 : decode cX7_standing 13 = .ok (.goto 8, 3) := by decide +kernel
theorem dX7_standing_16 : decode cX7_standing 16 = .ok (.aload_n 0, 1) := by decide +kernel
theorem dX7_standing_17 : decode cX7_standing 17 = .ok (.iconst 1, 1) := by decide +kernel
theorem dX7_standing_18 : decode cX7_standing 18 = .ok (.invokevirtual 58, 3) := by decide +kernel
theorem dX7_standing_21 : decode cX7_standing 21 = .ok (.ireturn, 1) := by decide +kernel
theorem dX7_become_0 : decode cX7_become 0 = .ok (.aload_n 0, 1) := by decide +kernel
theorem dX7_become_1 : decode cX7_become 1 = .ok (.iload_n 1, 1) := by decide +kernel
theorem dX7_become_2 : decode cX7_become 2 = .ok (.invokevirtual 152, 3) := by decide +kernel
theorem dX7_become_5 : decode cX7_become 5 = .ok (.ifCond .eq 10, 3) := by decide +kernel
theorem dX7_become_8 : decode cX7_become 8 = .ok (.iload_n 2, 1) := by decide +kernel
theorem dX7_become_9 : decode cX7_become 9 = .ok (.invokestatic 143, 3) := by decide +kernel
theorem dX7_become_12 : decode cX7_become 12 = .ok (.ifCond .ne 9, 3) := by decide +kernel
theorem dX7_become_15 : decode cX7_become 15 = .ok (.aload_n 0, 1) := by decide +kernel
theorem dX7_become_16 : decode cX7_become 16 = .ok (.iconst 1, 1) := by decide +kernel
theorem dX7_become_17 : decode cX7_become 17 = .ok (.invokevirtual 58, 3) := by decide +kernel
theorem dX7_become_20 : decode cX7_become 20 = .ok (.ireturn, 1) := by decide +kernel
theorem dX7_become_21 : decode cX7_become 21 = .ok (.aload_n 0, 1) := by decide +kernel
theorem dX7_become_22 : decode cX7_become 22 = .ok (.iload_n 1, 1) := by decide +kernel
theorem dX7_become_23 : decode cX7_become 23 = .ok (.iconst 1, 1) := by decide +kernel
theorem dX7_become_24 : decode cX7_become 24 = .ok (.iload_n 2, 1) := by decide +kernel
theorem dX7_become_25 : decode cX7_become 25 = .ok (.bipush 10, 2) := by decide +kernel
theorem dX7_become_27 : decode cX7_become 27 = .ok (.irem, 1) := by decide +kernel
theorem dX7_become_28 : decode cX7_become 28 = .ok (.invokevirtual 139, 3) := by decide +kernel
theorem dX7_become_31 : decode cX7_become 31 = .ok (.aload_n 0, 1) := by decide +kernel
theorem dX7_become_32 : decode cX7_become 32 = .ok (.bipush 8, 2) := by decide +kernel
theorem dX7_become_34 : decode cX7_become 34 = .ok (.iconst 4, 1) := by decide +kernel
theorem dX7_become_35 : decode cX7_become 35 = .ok (.iload_n 1, 1) := by decide +kernel
theorem dX7_become_36 : decode cX7_become 36 = .ok (.imul, 1) := by decide +kernel
theorem dX7_become_37 : decode cX7_become 37 = .ok (.iadd, 1) := by decide +kernel
theorem dX7_become_38 : decode cX7_become 38 = .ok (.iconst 0, 1) := by decide +kernel
theorem dX7_become_39 : decode cX7_become 39 = .ok (.iadd, 1) := by decide +kernel
theorem dX7_become_40 : decode cX7_become 40 = .ok (.iload_n 2, 1) := by decide +kernel
theorem dX7_become_41 : decode cX7_become 41 = .ok (.bipush 10, 2) := by decide +kernel
theorem dX7_become_43 : decode cX7_become 43 = .ok (.idiv, 1) := by decide +kernel
theorem dX7_become_44 : decode cX7_become 44 = .ok (.invokevirtual 161, 3) := by decide +kernel
theorem dX7_become_47 : decode cX7_become 47 = .ok (.ireturn, 1) := by decide +kernel
theorem dX7_as_0 : decode cX7_as 0 = .ok (.aload_n 0, 1) := by decide +kernel
theorem dX7_as_1 : decode cX7_as 1 = .ok (.iload_n 1, 1) := by decide +kernel
theorem dX7_as_2 : decode cX7_as 2 = .ok (.invokevirtual 152, 3) := by decide +kernel
theorem dX7_as_5 : decode cX7_as 5 = .ok (.ifCond .eq 13, 3) := by decide +kernel
theorem dX7_as_8 : decode cX7_as 8 = .ok (.iload_n 2, 1) := by decide +kernel
theorem dX7_as_9 : decode cX7_as 9 = .ok (.iconst 0, 1) := by decide +kernel
theorem dX7_as_10 : decode cX7_as 10 = .ok (.bipush 6, 2) := by decide +kernel
theorem dX7_as_12 : decode cX7_as 12 = .ok (.invokestatic 50, 3) := by decide +kernel
theorem dX7_as_15 : decode cX7_as 15 = .ok (.ifCond .ne 9, 3) := by decide +kernel
theorem dX7_as_18 : decode cX7_as 18 = .ok (.aload_n 0, 1) := by decide +kernel
theorem dX7_as_19 : decode cX7_as 19 = .ok (.iconst 1, 1) := by decide +kernel
theorem dX7_as_20 : decode cX7_as 20 = .ok (.invokevirtual 58, 3) := by decide +kernel
theorem dX7_as_23 : decode cX7_as 23 = .ok (.ireturn, 1) := by decide +kernel
theorem dX7_as_24 : decode cX7_as 24 = .ok (.aload_n 0, 1) := by decide +kernel
theorem dX7_as_25 : decode cX7_as 25 = .ok (.iload_n 1, 1) := by decide +kernel
theorem dX7_as_26 : decode cX7_as 26 = .ok (.iconst 0, 1) := by decide +kernel
theorem dX7_as_27 : decode cX7_as 27 = .ok (.invokevirtual 54, 3) := by decide +kernel
theorem dX7_as_30 : decode cX7_as 30 = .ok (.istore_n 3, 1) := by decide +kernel
theorem dX7_as_31 : decode cX7_as 31 = .ok (.iload_n 3, 1) := by decide +kernel
theorem dX7_as_32 : decode cX7_as 32 = .ok (.iload_n 2, 1) := by decide +kernel
theorem dX7_as_33 : decode cX7_as 33 = .ok (.if_icmp .eq 15, 3) := by decide +kernel
theorem dX7_as_36 : decode cX7_as 36 = .ok (.iload_n 3, 1) := by decide +kernel
theorem dX7_as_37 : decode cX7_as 37 = .ok (.ifCond .eq 11, 3) := by decide +kernel
theorem dX7_as_40 : decode cX7_as 40 = .ok (.iload_n 3, 1) := by decide +kernel
theorem dX7_as_41 : decode cX7_as 41 = .ok (.invokestatic 164, 3) := by decide +kernel
theorem dX7_as_44 : decode cX7_as 44 = .ok (.istore_n 3, 1) := by decide +kernel
theorem dX7_as_45 : decode cX7_as 45 = .ok (.goto (-14), 3) := by decide +kernel
theorem dX7_as_48 : decode cX7_as 48 = .ok (.iload_n 3, 1) := by decide +kernel
theorem dX7_as_49 : decode cX7_as 49 = .ok (.iload_n 2, 1) := by decide +kernel
theorem dX7_as_50 : decode cX7_as 50 = .ok (.if_icmp .ne 12, 3) := by decide +kernel
theorem dX7_as_53 : decode cX7_as 53 = .ok (.aload_n 0, 1) := by decide +kernel
theorem dX7_as_54 : decode cX7_as 54 = .ok (.iload_n 1, 1) := by decide +kernel
theorem dX7_as_55 : decode cX7_as 55 = .ok (.iconst 1, 1) := by decide +kernel
theorem dX7_as_56 : decode cX7_as 56 = .ok (.invokevirtual 54, 3) := by decide +kernel
theorem dX7_as_59 : decode cX7_as 59 = .ok (.goto 8, 3) := by decide +kernel
theorem dX7_as_62 : decode cX7_as 62 = .ok (.aload_n 0, 1) := by decide +kernel
theorem dX7_as_63 : decode cX7_as 63 = .ok (.iconst 5, 1) := by decide +kernel
theorem dX7_as_64 : decode cX7_as 64 = .ok (.invokevirtual 58, 3) := by decide +kernel
theorem dX7_as_67 : decode cX7_as 67 = .ok (.ireturn, 1) := by decide +kernel
theorem dX7_harm_0 : decode cX7_harm 0 = .ok (.aload_n 0, 1) := by decide +kernel
theorem dX7_harm_1 : decode cX7_harm 1 = .ok (.iload_n 1, 1) := by decide +kernel
theorem dX7_harm_2 : decode cX7_harm 2 = .ok (.invokevirtual 152, 3) := by decide +kernel
theorem dX7_harm_5 : decode cX7_harm 5 = .ok (.ifCond .eq 19, 3) := by decide +kernel
theorem dX7_harm_8 : decode cX7_harm 8 = .ok (.iload_n 2, 1) := by decide +kernel
theorem dX7_harm_9 : decode cX7_harm 9 = .ok (.invokestatic 146, 3) := by decide +kernel
theorem dX7_harm_12 : decode cX7_harm 12 = .ok (.ifCond .eq 12, 3) := by decide +kernel
theorem dX7_harm_15 : decode cX7_harm 15 = .ok (.aload_n 0, 1) := by decide +kernel
theorem dX7_harm_16 : decode cX7_harm 16 = .ok (.iload_n 1, 1) := by decide +kernel
theorem dX7_harm_17 : decode cX7_harm 17 = .ok (.iload_n 2, 1) := by decide +kernel
theorem dX7_harm_18 : decode cX7_harm 18 = .ok (.invokevirtual 167, 3) := by decide +kernel
theorem dX7_harm_21 : decode cX7_harm 21 = .ok (.goto 8, 3) := by decide +kernel
theorem dX7_harm_24 : decode cX7_harm 24 = .ok (.aload_n 0, 1) := by decide +kernel
theorem dX7_harm_25 : decode cX7_harm 25 = .ok (.iconst 1, 1) := by decide +kernel
theorem dX7_harm_26 : decode cX7_harm 26 = .ok (.invokevirtual 58, 3) := by decide +kernel
theorem dX7_harm_29 : decode cX7_harm 29 = .ok (.ireturn, 1) := by decide +kernel
theorem dX7_gets_0 : decode cX7_gets 0 = .ok (.aload_n 0, 1) := by decide +kernel
theorem dX7_gets_1 : decode cX7_gets 1 = .ok (.iload_n 1, 1) := by decide +kernel
theorem dX7_gets_2 : decode cX7_gets 2 = .ok (.iload_n 2, 1) := by decide +kernel
theorem dX7_gets_3 : decode cX7_gets 3 = .ok (.invokevirtual 167, 3) := by decide +kernel
theorem dX7_gets_6 : decode cX7_gets 6 = .ok (.istore_n 3, 1) := by decide +kernel
theorem dX7_gets_7 : decode cX7_gets 7 = .ok (.aload_n 0, 1) := by decide +kernel
theorem dX7_gets_8 : decode cX7_gets 8 = .ok (.getfield 7, 3) := by decide +kernel
theorem dX7_gets_11 : decode cX7_gets 11 = .ok (.iconst 1, 1) := by decide +kernel
theorem dX7_gets_12 : decode cX7_gets 12 = .ok (.aload_n 0, 1) := by decide +kernel
theorem dX7_gets_13 : decode cX7_gets 13 = .ok (.getfield 7, 3) := by decide +kernel
theorem dX7_gets_16 : decode cX7_gets 16 = .ok (.iconst 1, 1) := by decide +kernel
theorem dX7_gets_17 : decode cX7_gets 17 = .ok (.iaload, 1) := by decide +kernel
theorem dX7_gets_18 : decode cX7_gets 18 = .ok (.iload_n 3, 1) := by decide +kernel
theorem dX7_gets_19 : decode cX7_gets 19 = .ok (.iadd, 1) := by decide +kernel
theorem dX7_gets_20 : decode cX7_gets 20 = .ok (.iconst 0, 1) := by decide +kernel
theorem dX7_gets_21 : decode cX7_gets 21 = .ok (.ldc 170, 2) := by decide +kernel
theorem dX7_gets_23 : decode cX7_gets 23 = .ok (.invokestatic 121, 3) := by decide +kernel
theorem dX7_gets_26 : decode cX7_gets 26 = .ok (.iastore, 1) := by decide +kernel
theorem dX7_gets_27 : decode cX7_gets 27 = .ok (.aload_n 0, 1) := by decide +kernel
theorem dX7_gets_28 : decode cX7_gets 28 = .ok (.iload_n 1, 1) := by decide +kernel
theorem dX7_gets_29 : decode cX7_gets 29 = .ok (.iconst 2, 1) := by decide +kernel
theorem dX7_gets_30 : decode cX7_gets 30 = .ok (.iload_n 2, 1) := by decide +kernel
theorem dX7_gets_31 : decode cX7_gets 31 = .ok (.invokevirtual 139, 3) := by decide +kernel
theorem dX7_gets_34 : decode cX7_gets 34 = .ok (.iload_n 3, 1) := by decide +kernel
theorem dX7_gets_35 : decode cX7_gets 35 = .ok (.ireturn, 1) := by decide +kernel
theorem dX7_renames_0 : decode cX7_renames 0 = .ok (.aload_n 0, 1) := by decide +kernel
theorem dX7_renames_1 : decode cX7_renames 1 = .ok (.iload_n 1, 1) := by decide +kernel
theorem dX7_renames_2 : decode cX7_renames 2 = .ok (.invokevirtual 152, 3) := by decide +kernel
theorem dX7_renames_5 : decode cX7_renames 5 = .ok (.ifCond .eq 19, 3) := by decide +kernel
theorem dX7_renames_8 : decode cX7_renames 8 = .ok (.iload_n 2, 1) := by decide +kernel
theorem dX7_renames_9 : decode cX7_renames 9 = .ok (.invokestatic 146, 3) := by decide +kernel
theorem dX7_renames_12 : decode cX7_renames 12 = .ok (.ifCond .eq 12, 3) := by decide +kernel
theorem dX7_renames_15 : decode cX7_renames 15 = .ok (.aload_n 0, 1) := by decide +kernel
theorem dX7_renames_16 : decode cX7_renames 16 = .ok (.iload_n 1, 1) := by decide +kernel
theorem dX7_renames_17 : decode cX7_renames 17 = .ok (.iload_n 2, 1) := by decide +kernel
theorem dX7_renames_18 : decode cX7_renames 18 = .ok (.invokevirtual 171, 3) := by decide +kernel
theorem dX7_renames_21 : decode cX7_renames 21 = .ok (.goto 8, 3) := by decide +kernel
theorem dX7_renames_24 : decode cX7_renames 24 = .ok (.aload_n 0, 1) := by decide +kernel
theorem dX7_renames_25 : decode cX7_renames 25 = .ok (.iconst 1, 1) := by decide +kernel
theorem dX7_renames_26 : decode cX7_renames 26 = .ok (.invokevirtual 58, 3) := by decide +kernel
theorem dX7_renames_29 : decode cX7_renames 29 = .ok (.ireturn, 1) := by decide +kernel
theorem dX7_year_0 : decode cX7_year 0 = .ok (.iload_n 1, 1) := by decide +kernel
theorem dX7_year_1 : decode cX7_year 1 = .ok (.iconst 0, 1) := by decide +kernel
theorem dX7_year_2 : decode cX7_year 2 = .ok (.sipush 9999, 3) := by decide +kernel
theorem dX7_year_5 : decode cX7_year 5 = .ok (.invokestatic 50, 3) := by decide +kernel
theorem dX7_year_8 : decode cX7_year 8 = .ok (.ifCond .eq 12, 3) := by decide +kernel
theorem dX7_year_11 : decode cX7_year 11 = .ok (.aload_n 0, 1) := by decide +kernel
theorem dX7_year_12 : decode cX7_year 12 = .ok (.iconst 0, 1) := by decide +kernel
theorem dX7_year_13 : decode cX7_year 13 = .ok (.iload_n 1, 1) := by decide +kernel
theorem dX7_year_14 : decode cX7_year 14 = .ok (.invokevirtual 161, 3) := by decide +kernel
theorem dX7_year_17 : decode cX7_year 17 = .ok (.goto 8, 3) := by decide +kernel
theorem dX7_year_20 : decode cX7_year 20 = .ok (.aload_n 0, 1) := by decide +kernel
theorem dX7_year_21 : decode cX7_year 21 = .ok (.iconst 1, 1) := by decide +kernel
theorem dX7_year_22 : decode cX7_year 22 = .ok (.invokevirtual 58, 3) := by decide +kernel
theorem dX7_year_25 : decode cX7_year 25 = .ok (.ireturn, 1) := by decide +kernel
theorem dX7_law_0 : decode cX7_law 0 = .ok (.iload_n 1, 1) := by decide +kernel
theorem dX7_law_1 : decode cX7_law 1 = .ok (.iconst 0, 1) := by decide +kernel
theorem dX7_law_2 : decode cX7_law 2 = .ok (.iconst 1, 1) := by decide +kernel
theorem dX7_law_3 : decode cX7_law 3 = .ok (.invokestatic 50, 3) := by decide +kernel
theorem dX7_law_6 : decode cX7_law 6 = .ok (.ifCond .ne 9, 3) := by decide +kernel
theorem dX7_law_9 : decode cX7_law 9 = .ok (.aload_n 0, 1) := by decide +kernel
theorem dX7_law_10 : decode cX7_law 10 = .ok (.iconst 1, 1) := by decide +kernel
theorem dX7_law_11 : decode cX7_law 11 = .ok (.invokevirtual 58, 3) := by decide +kernel
theorem dX7_law_14 : decode cX7_law 14 = .ok (.ireturn, 1) := by decide +kernel
theorem dX7_law_15 : decode cX7_law 15 = .ok (.iload_n 1, 1) := by decide +kernel
theorem dX7_law_16 : decode cX7_law 16 = .ok (.ifCond .ne 14, 3) := by decide +kernel
theorem dX7_law_19 : decode cX7_law 19 = .ok (.aload_n 0, 1) := by decide +kernel
theorem dX7_law_20 : decode cX7_law 20 = .ok (.iload_n 2, 1) := by decide +kernel
theorem dX7_law_21 : decode cX7_law 21 = .ok (.iload_n 3, 1) := by decide +kernel
theorem dX7_law_22 : decode cX7_law 22 = .ok (.iload 4, 2) := by decide +kernel
theorem dX7_law_24 : decode cX7_law 24 = .ok (.invokevirtual 127, 3) := by decide +kernel
theorem dX7_law_27 : decode cX7_law 27 = .ok (.goto 11, 3) := by decide +kernel
theorem dX7_law_30 : decode cX7_law 30 = .ok (.aload_n 0, 1) := by decide +kernel
theorem dX7_law_31 : decode cX7_law 31 = .ok (.iload_n 2, 1) := by decide +kernel
theorem dX7_law_32 : decode cX7_law 32 = .ok (.iload_n 3, 1) := by decide +kernel
theorem dX7_law_33 : decode cX7_law 33 = .ok (.iload 4, 2) := by decide +kernel
theorem dX7_law_35 : decode cX7_law 35 = .ok (.invokevirtual 133, 3) := by decide +kernel
theorem dX7_law_38 : decode cX7_law 38 = .ok (.ireturn, 1) := by decide +kernel
theorem dX7_isGap_0 : decode cX7_isGap 0 = .ok (.iload_n 0, 1) := by decide +kernel
theorem dX7_isGap_1 : decode cX7_isGap 1 = .ok (.iconst 1, 1) := by decide +kernel
theorem dX7_isGap_2 : decode cX7_isGap 2 = .ok (.bipush 50, 2) := by decide +kernel
theorem dX7_isGap_4 : decode cX7_isGap 4 = .ok (.invokestatic 50, 3) := by decide +kernel
theorem dX7_isGap_7 : decode cX7_isGap 7 = .ok (.ireturn, 1) := by decide +kernel
theorem dX7_renumbers_0 : decode cX7_renumbers 0 = .ok (.iconst 0, 1) := by decide +kernel
theorem dX7_renumbers_1 : decode cX7_renumbers 1 = .ok (.istore_n 2, 1) := by decide +kernel
theorem dX7_renumbers_2 : decode cX7_renumbers 2 = .ok (.iconst 0, 1) := by decide +kernel
theorem dX7_renumbers_3 : decode cX7_renumbers 3 = .ok (.istore_n 3, 1) := by decide +kernel
theorem dX7_renumbers_4 : decode cX7_renumbers 4 = .ok (.iload_n 3, 1) := by decide +kernel
theorem dX7_renumbers_5 : decode cX7_renumbers 5 = .ok (.aload_n 0, 1) := by decide +kernel
theorem dX7_renumbers_6 : decode cX7_renumbers 6 = .ok (.getfield 7, 3) := by decide +kernel
theorem dX7_renumbers_9 : decode cX7_renumbers 9 = .ok (.iconst 5, 1) := by decide +kernel
theorem dX7_renumbers_10 : decode cX7_renumbers 10 = .ok (.iaload, 1) := by decide +kernel
theorem dX7_renumbers_11 : decode cX7_renumbers 11 = .ok (.if_icmp .ge 27, 3) := by decide +kernel
theorem dX7_renumbers_14 : decode cX7_renumbers 14 = .ok (.iload_n 2, 1) := by decide +kernel
theorem dX7_renumbers_15 : decode cX7_renumbers 15 = .ok (.aload_n 0, 1) := by decide +kernel
theorem dX7_renumbers_16 : decode cX7_renumbers 16 = .ok (.iload_n 3, 1) := by decide +kernel
theorem dX7_renumbers_17 : decode cX7_renumbers 17 = .ok (.iload_n 1, 1) := by decide +kernel
theorem dX7_renumbers_18 : decode cX7_renumbers 18 = .ok (.aload_n 0, 1) := by decide +kernel
theorem dX7_renumbers_19 : decode cX7_renumbers 19 = .ok (.iload_n 3, 1) := by decide +kernel
theorem dX7_renumbers_20 : decode cX7_renumbers 20 = .ok (.iconst 3, 1) := by decide +kernel
theorem dX7_renumbers_21 : decode cX7_renumbers 21 = .ok (.invokevirtual 54, 3) := by decide +kernel
theorem dX7_renumbers_24 : decode cX7_renumbers 24 = .ok (.iconst 1, 1) := by decide +kernel
theorem dX7_renumbers_25 : decode cX7_renumbers 25 = .ok (.iadd, 1) := by decide +kernel
theorem dX7_renumbers_26 : decode cX7_renumbers 26 = .ok (.imul, 1) := by decide +kernel
theorem dX7_renumbers_27 : decode cX7_renumbers 27 = .ok (.invokevirtual 171, 3) := by decide +kernel
theorem dX7_renumbers_30 : decode cX7_renumbers 30 = .ok (.iadd, 1) := by decide +kernel
theorem dX7_renumbers_31 : decode cX7_renumbers 31 = .ok (.istore_n 2, 1) := by decide +kernel
theorem dX7_renumbers_32 : decode cX7_renumbers 32 = .ok (.iinc 3 1, 3) := by decide +kernel
theorem dX7_renumbers_35 : decode cX7_renumbers 35 = .ok (.goto (-31), 3) := by decide +kernel
theorem dX7_renumbers_38 : decode cX7_renumbers 38 = .ok (.iload_n 2, 1) := by decide +kernel
theorem dX7_renumbers_39 : decode cX7_renumbers 39 = .ok (.ireturn, 1) := by decide +kernel
theorem dX7_wouldBe_0 : decode cX7_wouldBe 0 = .ok (.iconst 0, 1) := by decide +kernel
theorem dX7_wouldBe_1 : decode cX7_wouldBe 1 = .ok (.istore_n 2, 1) := by decide +kernel
theorem dX7_wouldBe_2 : decode cX7_wouldBe 2 = .ok (.iconst 0, 1) := by decide +kernel
theorem dX7_wouldBe_3 : decode cX7_wouldBe 3 = .ok (.istore_n 3, 1) := by decide +kernel
theorem dX7_wouldBe_4 : decode cX7_wouldBe 4 = .ok (.iload_n 3, 1) := by decide +kernel
theorem dX7_wouldBe_5 : decode cX7_wouldBe 5 = .ok (.aload_n 0, 1) := by decide +kernel
theorem dX7_wouldBe_6 : decode cX7_wouldBe 6 = .ok (.getfield 7, 3) := by decide +kernel
theorem dX7_wouldBe_9 : decode cX7_wouldBe 9 = .ok (.iconst 5, 1) := by decide +kernel
theorem dX7_wouldBe_10 : decode cX7_wouldBe 10 = .ok (.iaload, 1) := by decide +kernel
theorem dX7_wouldBe_11 : decode cX7_wouldBe 11 = .ok (.if_icmp .ge 27, 3) := by decide +kernel
theorem dX7_wouldBe_14 : decode cX7_wouldBe 14 = .ok (.iload_n 2, 1) := by decide +kernel
theorem dX7_wouldBe_15 : decode cX7_wouldBe 15 = .ok (.aload_n 0, 1) := by decide +kernel
theorem dX7_wouldBe_16 : decode cX7_wouldBe 16 = .ok (.iload_n 3, 1) := by decide +kernel
theorem dX7_wouldBe_17 : decode cX7_wouldBe 17 = .ok (.iload_n 1, 1) := by decide +kernel
theorem dX7_wouldBe_18 : decode cX7_wouldBe 18 = .ok (.aload_n 0, 1) := by decide +kernel
theorem dX7_wouldBe_19 : decode cX7_wouldBe 19 = .ok (.iload_n 3, 1) := by decide +kernel
theorem dX7_wouldBe_20 : decode cX7_wouldBe 20 = .ok (.iconst 3, 1) := by decide +kernel
theorem dX7_wouldBe_21 : decode cX7_wouldBe 21 = .ok (.invokevirtual 54, 3) := by decide +kernel
theorem dX7_wouldBe_24 : decode cX7_wouldBe 24 = .ok (.iconst 1, 1) := by decide +kernel
theorem dX7_wouldBe_25 : decode cX7_wouldBe 25 = .ok (.iadd, 1) := by decide +kernel
theorem dX7_wouldBe_26 : decode cX7_wouldBe 26 = .ok (.imul, 1) := by decide +kernel
theorem dX7_wouldBe_27 : decode cX7_wouldBe 27 = .ok (.invokevirtual 167, 3) := by decide +kernel
theorem dX7_wouldBe_30 : decode cX7_wouldBe 30 = .ok (.iadd, 1) := by decide +kernel
theorem dX7_wouldBe_31 : decode cX7_wouldBe 31 = .ok (.istore_n 2, 1) := by decide +kernel
theorem dX7_wouldBe_32 : decode cX7_wouldBe 32 = .ok (.iinc 3 1, 3) := by decide +kernel
theorem dX7_wouldBe_35 : decode cX7_wouldBe 35 = .ok (.goto (-31), 3) := by decide +kernel
theorem dX7_wouldBe_38 : decode cX7_wouldBe 38 = .ok (.iload_n 2, 1) := by decide +kernel
theorem dX7_wouldBe_39 : decode cX7_wouldBe 39 = .ok (.ireturn, 1) := by decide +kernel
theorem dX7_renumber_0 : decode cX7_renumber 0 = .ok (.iload_n 1, 1) := by decide +kernel
theorem dX7_renumber_1 : decode cX7_renumber 1 = .ok (.invokestatic 174, 3) := by decide +kernel
theorem dX7_renumber_4 : decode cX7_renumber 4 = .ok (.ifCond .eq 11, 3) := by decide +kernel
theorem dX7_renumber_7 : decode cX7_renumber 7 = .ok (.aload_n 0, 1) := by decide +kernel
theorem dX7_renumber_8 : decode cX7_renumber 8 = .ok (.iload_n 1, 1) := by decide +kernel
theorem dX7_renumber_9 : decode cX7_renumber 9 = .ok (.invokevirtual 177, 3) := by decide +kernel
theorem dX7_renumber_12 : decode cX7_renumber 12 = .ok (.goto 8, 3) := by decide +kernel
theorem dX7_renumber_15 : decode cX7_renumber 15 = .ok (.aload_n 0, 1) := by decide +kernel
theorem dX7_renumber_16 : decode cX7_renumber 16 = .ok (.iconst 1, 1) := by decide +kernel
theorem dX7_renumber_17 : decode cX7_renumber 17 = .ok (.invokevirtual 58, 3) := by decide +kernel
theorem dX7_renumber_20 : decode cX7_renumber 20 = .ok (.ireturn, 1) := by decide +kernel
theorem dX7_would_0 : decode cX7_would 0 = .ok (.iload_n 1, 1) := by decide +kernel
theorem dX7_would_1 : decode cX7_would 1 = .ok (.invokestatic 174, 3) := by decide +kernel
theorem dX7_would_4 : decode cX7_would 4 = .ok (.ifCond .eq 11, 3) := by decide +kernel
theorem dX7_would_7 : decode cX7_would 7 = .ok (.aload_n 0, 1) := by decide +kernel
theorem dX7_would_8 : decode cX7_would 8 = .ok (.iload_n 1, 1) := by decide +kernel
theorem dX7_would_9 : decode cX7_would 9 = .ok (.invokevirtual 180, 3) := by decide +kernel
theorem dX7_would_12 : decode cX7_would 12 = .ok (.goto 8, 3) := by decide +kernel
theorem dX7_would_15 : decode cX7_would 15 = .ok (.aload_n 0, 1) := by decide +kernel
theorem dX7_would_16 : decode cX7_would 16 = .ok (.iconst 1, 1) := by decide +kernel
theorem dX7_would_17 : decode cX7_would 17 = .ok (.invokevirtual 58, 3) := by decide +kernel
theorem dX7_would_20 : decode cX7_would 20 = .ok (.ireturn, 1) := by decide +kernel
theorem dX7_gap_0 : decode cX7_gap 0 = .ok (.iload_n 1, 1) := by decide +kernel
theorem dX7_gap_1 : decode cX7_gap 1 = .ok (.iconst 0, 1) := by decide +kernel
theorem dX7_gap_2 : decode cX7_gap 2 = .ok (.iconst 1, 1) := by decide +kernel
theorem dX7_gap_3 : decode cX7_gap 3 = .ok (.invokestatic 50, 3) := by decide +kernel
theorem dX7_gap_6 : decode cX7_gap 6 = .ok (.ifCond .ne 9, 3) := by decide +kernel
theorem dX7_gap_9 : decode cX7_gap 9 = .ok (.aload_n 0, 1) := by decide +kernel
theorem dX7_gap_10 : decode cX7_gap 10 = .ok (.iconst 1, 1) := by decide +kernel
theorem dX7_gap_11 : decode cX7_gap 11 = .ok (.invokevirtual 58, 3) := by decide +kernel
theorem dX7_gap_14 : decode cX7_gap 14 = .ok (.ireturn, 1) := by decide +kernel
theorem dX7_gap_15 : decode cX7_gap 15 = .ok (.iconst 1, 1) := by decide +kernel
theorem dX7_gap_16 : decode cX7_gap 16 = .ok (.istore_n 2, 1) := by decide +kernel
theorem dX7_gap_17 : decode cX7_gap 17 = .ok (.aload_n 0, 1) := by decide +kernel
theorem dX7_gap_18 : decode cX7_gap 18 = .ok (.iconst 1, 1) := by decide +kernel
theorem dX7_gap_19 : decode cX7_gap 19 = .ok (.invokevirtual 180, 3) := by decide +kernel
theorem dX7_gap_22 : decode cX7_gap 22 = .ok (.istore_n 3, 1) := by decide +kernel
theorem dX7_gap_23 : decode cX7_gap 23 = .ok (.iconst 2, 1) := by decide +kernel
theorem dX7_gap_24 : decode cX7_gap 24 = .ok (.istore 4, 2) := by decide +kernel
theorem dX7_gap_26 : decode cX7_gap 26 = .ok (.iload 4, 2) := by decide +kernel
theorem dX7_gap_28 : decode cX7_gap 28 = .ok (.bipush 50, 2) := by decide +kernel
theorem dX7_gap_30 : decode cX7_gap 30 = .ok (.if_icmp .gt 43, 3) := by decide +kernel
theorem dX7_gap_33 : decode cX7_gap 33 = .ok (.aload_n 0, 1) := by decide +kernel
theorem dX7_gap_34 : decode cX7_gap 34 = .ok (.iload 4, 2) := by decide +kernel
theorem dX7_gap_36 : decode cX7_gap 36 = .ok (.invokevirtual 180, 3) := by decide +kernel
theorem dX7_gap_39 : decode cX7_gap 39 = .ok (.istore 5, 2) := by decide +kernel
theorem dX7_gap_41 : decode cX7_gap 41 = .ok (.iload 5, 2) := by decide +kernel
theorem dX7_gap_43 : decode cX7_gap 43 = .ok (.iload_n 3, 1) := by decide +kernel
theorem dX7_gap_44 : decode cX7_gap 44 = .ok (.if_icmp .ge 8, 3) := by decide +kernel
theorem dX7_gap_47 : decode cX7_gap 47 = .ok (.iload 4, 2) := by decide +kernel
theorem dX7_gap_49 : decode cX7_gap 49 = .ok (.goto 4, 3) := by decide +kernel
theorem dX7_gap_52 : decode cX7_gap 52 = .ok (.iload_n 2, 1) := by decide +kernel
theorem dX7_gap_53 : decode cX7_gap 53 = .ok (.istore_n 2, 1) := by decide +kernel
theorem dX7_gap_54 : decode cX7_gap 54 = .ok (.iload 5, 2) := by decide +kernel
theorem dX7_gap_56 : decode cX7_gap 56 = .ok (.iload_n 3, 1) := by decide +kernel
theorem dX7_gap_57 : decode cX7_gap 57 = .ok (.if_icmp .ge 8, 3) := by decide +kernel
theorem dX7_gap_60 : decode cX7_gap 60 = .ok (.iload 5, 2) := by decide +kernel
theorem dX7_gap_62 : decode cX7_gap 62 = .ok (.goto 4, 3) := by decide +kernel
theorem dX7_gap_65 : decode cX7_gap 65 = .ok (.iload_n 3, 1) := by decide +kernel
theorem dX7_gap_66 : decode cX7_gap 66 = .ok (.istore_n 3, 1) := by decide +kernel
theorem dX7_gap_67 : decode cX7_gap 67 = .ok (.iinc 4 1, 3) := by decide +kernel
theorem dX7_gap_70 : decode cX7_gap 70 = .ok (.goto (-44), 3) := by decide +kernel
theorem dX7_gap_73 : decode cX7_gap 73 = .ok (.iload_n 1, 1) := by decide +kernel
theorem dX7_gap_74 : decode cX7_gap 74 = .ok (.ifCond .ne 7, 3) := by decide +kernel
theorem dX7_gap_77 : decode cX7_gap 77 = .ok (.iload_n 2, 1) := by decide +kernel
theorem dX7_gap_78 : decode cX7_gap 78 = .ok (.goto 4, 3) := by decide +kernel
theorem dX7_gap_81 : decode cX7_gap 81 = .ok (.iload_n 3, 1) := by decide +kernel
theorem dX7_gap_82 : decode cX7_gap 82 = .ok (.ireturn, 1) := by decide +kernel
theorem dX7_findLeast_0 : decode cX7_findLeast 0 = .ok (.iconst 0, 1) := by decide +kernel
theorem dX7_findLeast_1 : decode cX7_findLeast 1 = .ok (.istore_n 1, 1) := by decide +kernel
theorem dX7_findLeast_2 : decode cX7_findLeast 2 = .ok (.iload_n 1, 1) := by decide +kernel
theorem dX7_findLeast_3 : decode cX7_findLeast 3 = .ok (.aload_n 0, 1) := by decide +kernel
theorem dX7_findLeast_4 : decode cX7_findLeast 4 = .ok (.getfield 7, 3) := by decide +kernel
theorem dX7_findLeast_7 : decode cX7_findLeast 7 = .ok (.iconst 5, 1) := by decide +kernel
theorem dX7_findLeast_8 : decode cX7_findLeast 8 = .ok (.iaload, 1) := by decide +kernel
theorem dX7_findLeast_9 : decode cX7_findLeast 9 = .ok (.if_icmp .ge 111, 3) := by decide +kernel
theorem dX7_findLeast_12 : decode cX7_findLeast 12 = .ok (.aload_n 0, 1) := by decide +kernel
theorem dX7_findLeast_13 : decode cX7_findLeast 13 = .ok (.iload_n 1, 1) := by decide +kernel
theorem dX7_findLeast_14 : decode cX7_findLeast 14 = .ok (.invokevirtual 158, 3) := by decide +kernel
theorem dX7_findLeast_17 : decode cX7_findLeast 17 = .ok (.istore_n 2, 1) := by decide +kernel
theorem dX7_findLeast_18 : decode cX7_findLeast 18 = .ok (.iload_n 1, 1) := by decide +kernel
theorem dX7_findLeast_19 : decode cX7_findLeast 19 = .ok (.ifCond .ne 7, 3) := by decide +kernel
theorem dX7_findLeast_22 : decode cX7_findLeast 22 = .ok (.iconst 0, 1) := by decide +kernel
theorem dX7_findLeast_23 : decode cX7_findLeast 23 = .ok (.goto 5, 3) := by decide +kernel
theorem dX7_findLeast_26 : decode cX7_findLeast 26 = .ok (.ldc 183, 2) := by decide +kernel
theorem dX7_findLeast_28 : decode cX7_findLeast 28 = .ok (.istore_n 3, 1) := by decide +kernel
theorem dX7_findLeast_29 : decode cX7_findLeast 29 = .ok (.iconst 1, 1) := by decide +kernel
theorem dX7_findLeast_30 : decode cX7_findLeast 30 = .ok (.istore 4, 2) := by decide +kernel
theorem dX7_findLeast_32 : decode cX7_findLeast 32 = .ok (.iload 4, 2) := by decide +kernel
theorem dX7_findLeast_34 : decode cX7_findLeast 34 = .ok (.bipush 120, 2) := by decide +kernel
theorem dX7_findLeast_36 : decode cX7_findLeast 36 = .ok (.if_icmp .gt 78, 3) := by decide +kernel
theorem dX7_findLeast_39 : decode cX7_findLeast 39 = .ok (.aload_n 0, 1) := by decide +kernel
theorem dX7_findLeast_40 : decode cX7_findLeast 40 = .ok (.getfield 28, 3) := by decide +kernel
theorem dX7_findLeast_43 : decode cX7_findLeast 43 = .ok (.bipush 121, 2) := by decide +kernel
theorem dX7_findLeast_45 : decode cX7_findLeast 45 = .ok (.iload_n 1, 1) := by decide +kernel
theorem dX7_findLeast_46 : decode cX7_findLeast 46 = .ok (.imul, 1) := by decide +kernel
theorem dX7_findLeast_47 : decode cX7_findLeast 47 = .ok (.iload 4, 2) := by decide +kernel
theorem dX7_findLeast_49 : decode cX7_findLeast 49 = .ok (.iadd, 1) := by decide +kernel
theorem dX7_findLeast_50 : decode cX7_findLeast 50 = .ok (.iload_n 3, 1) := by decide +kernel
theorem dX7_findLeast_51 : decode cX7_findLeast 51 = .ok (.ldc 183, 2) := by decide +kernel
theorem dX7_findLeast_53 : decode cX7_findLeast 53 = .ok (.if_icmp .lt 8, 3) := by decide +kernel
theorem dX7_findLeast_56 : decode cX7_findLeast 56 = .ok (.ldc 183, 2) := by decide +kernel
theorem dX7_findLeast_58 : decode cX7_findLeast 58 = .ok (.goto 12, 3) := by decide +kernel
theorem dX7_findLeast_61 : decode cX7_findLeast 61 = .ok (.iload_n 3, 1) := by decide +kernel
theorem dX7_findLeast_62 : decode cX7_findLeast 62 = .ok (.aload_n 0, 1) := by decide +kernel
theorem dX7_findLeast_63 : decode cX7_findLeast 63 = .ok (.iload_n 2, 1) := by decide +kernel
theorem dX7_findLeast_64 : decode cX7_findLeast 64 = .ok (.iload 4, 2) := by decide +kernel
theorem dX7_findLeast_66 : decode cX7_findLeast 66 = .ok (.invokevirtual 167, 3) := by decide +kernel
theorem dX7_findLeast_69 : decode cX7_findLeast 69 = .ok (.iadd, 1) := by decide +kernel
theorem dX7_findLeast_70 : decode cX7_findLeast 70 = .ok (.iastore, 1) := by decide +kernel
theorem dX7_findLeast_71 : decode cX7_findLeast 71 = .ok (.iload_n 1, 1) := by decide +kernel
theorem dX7_findLeast_72 : decode cX7_findLeast 72 = .ok (.ifCond .ne 7, 3) := by decide +kernel
theorem dX7_findLeast_75 : decode cX7_findLeast 75 = .ok (.iconst 0, 1) := by decide +kernel
theorem dX7_findLeast_76 : decode cX7_findLeast 76 = .ok (.goto 17, 3) := by decide +kernel
theorem dX7_findLeast_79 : decode cX7_findLeast 79 = .ok (.aload_n 0, 1) := by decide +kernel
theorem dX7_findLeast_80 : decode cX7_findLeast 80 = .ok (.getfield 28, 3) := by decide +kernel
theorem dX7_findLeast_83 : decode cX7_findLeast 83 = .ok (.bipush 121, 2) := by decide +kernel
theorem dX7_findLeast_85 : decode cX7_findLeast 85 = .ok (.iload_n 1, 1) := by decide +kernel
theorem dX7_findLeast_86 : decode cX7_findLeast 86 = .ok (.iconst 1, 1) := by decide +kernel
theorem dX7_findLeast_87 : decode cX7_findLeast 87 = .ok (.isub, 1) := by decide +kernel
theorem dX7_findLeast_88 : decode cX7_findLeast 88 = .ok (.imul, 1) := by decide +kernel
theorem dX7_findLeast_89 : decode cX7_findLeast 89 = .ok (.iload 4, 2) := by decide +kernel
theorem dX7_findLeast_91 : decode cX7_findLeast 91 = .ok (.iadd, 1) := by decide +kernel
theorem dX7_findLeast_92 : decode cX7_findLeast 92 = .ok (.iaload, 1) := by decide +kernel
theorem dX7_findLeast_93 : decode cX7_findLeast 93 = .ok (.istore 5, 2) := by decide +kernel
theorem dX7_findLeast_95 : decode cX7_findLeast 95 = .ok (.iload 5, 2) := by decide +kernel
theorem dX7_findLeast_97 : decode cX7_findLeast 97 = .ok (.iload_n 3, 1) := by decide +kernel
theorem dX7_findLeast_98 : decode cX7_findLeast 98 = .ok (.if_icmp .ge 8, 3) := by decide +kernel
theorem dX7_findLeast_101 : decode cX7_findLeast 101 = .ok (.iload 5, 2) := by decide +kernel
theorem dX7_findLeast_103 : decode cX7_findLeast 103 = .ok (.goto 4, 3) := by decide +kernel
theorem dX7_findLeast_106 : decode cX7_findLeast 106 = .ok (.iload_n 3, 1) := by decide +kernel
theorem dX7_findLeast_107 : decode cX7_findLeast 107 = .ok (.istore_n 3, 1) := by decide +kernel
theorem dX7_findLeast_108 : decode cX7_findLeast 108 = .ok (.iinc 4 1, 3) := by decide +kernel
theorem dX7_findLeast_111 : decode cX7_findLeast 111 = .ok (.goto (-79), 3) := by decide +kernel
theorem dX7_findLeast_114 : decode cX7_findLeast 114 = .ok (.iinc 1 1, 3) := by decide +kernel
theorem dX7_findLeast_117 : decode cX7_findLeast 117 = .ok (.goto (-115), 3) := by decide +kernel
theorem dX7_findLeast_120 : decode cX7_findLeast 120 = .ok (.return_, 1) := by decide +kernel
theorem dX7_leastAt_0 : decode cX7_leastAt 0 = .ok (.iconst 1, 1) := by decide +kernel
theorem dX7_leastAt_1 : decode cX7_leastAt 1 = .ok (.istore_n 3, 1) := by decide +kernel
theorem dX7_leastAt_2 : decode cX7_leastAt 2 = .ok (.iconst 2, 1) := by decide +kernel
theorem dX7_leastAt_3 : decode cX7_leastAt 3 = .ok (.istore 4, 2) := by decide +kernel
theorem dX7_leastAt_5 : decode cX7_leastAt 5 = .ok (.iload 4, 2) := by decide +kernel
theorem dX7_leastAt_7 : decode cX7_leastAt 7 = .ok (.iload_n 2, 1) := by decide +kernel
theorem dX7_leastAt_8 : decode cX7_leastAt 8 = .ok (.if_icmp .ge 42, 3) := by decide +kernel
theorem dX7_leastAt_11 : decode cX7_leastAt 11 = .ok (.aload_n 0, 1) := by decide +kernel
theorem dX7_leastAt_12 : decode cX7_leastAt 12 = .ok (.getfield 28, 3) := by decide +kernel
theorem dX7_leastAt_15 : decode cX7_leastAt 15 = .ok (.bipush 121, 2) := by decide +kernel
theorem dX7_leastAt_17 : decode cX7_leastAt 17 = .ok (.iload_n 1, 1) := by decide +kernel
theorem dX7_leastAt_18 : decode cX7_leastAt 18 = .ok (.imul, 1) := by decide +kernel
theorem dX7_leastAt_19 : decode cX7_leastAt 19 = .ok (.iload 4, 2) := by decide +kernel
theorem dX7_leastAt_21 : decode cX7_leastAt 21 = .ok (.iadd, 1) := by decide +kernel
theorem dX7_leastAt_22 : decode cX7_leastAt 22 = .ok (.iaload, 1) := by decide +kernel
theorem dX7_leastAt_23 : decode cX7_leastAt 23 = .ok (.aload_n 0, 1) := by decide +kernel
theorem dX7_leastAt_24 : decode cX7_leastAt 24 = .ok (.getfield 28, 3) := by decide +kernel
theorem dX7_leastAt_27 : decode cX7_leastAt 27 = .ok (.bipush 121, 2) := by decide +kernel
theorem dX7_leastAt_29 : decode cX7_leastAt 29 = .ok (.iload_n 1, 1) := by decide +kernel
theorem dX7_leastAt_30 : decode cX7_leastAt 30 = .ok (.imul, 1) := by decide +kernel
theorem dX7_leastAt_31 : decode cX7_leastAt 31 = .ok (.iload_n 3, 1) := by decide +kernel
theorem dX7_leastAt_32 : decode cX7_leastAt 32 = .ok (.iadd, 1) := by decide +kernel
theorem dX7_leastAt_33 : decode cX7_leastAt 33 = .ok (.iaload, 1) := by decide +kernel
theorem dX7_leastAt_34 : decode cX7_leastAt 34 = .ok (.if_icmp .ge 8, 3) := by decide +kernel
theorem dX7_leastAt_37 : decode cX7_leastAt 37 = .ok (.iload 4, 2) := by decide +kernel
theorem dX7_leastAt_39 : decode cX7_leastAt 39 = .ok (.goto 4, 3) := by decide +kernel
theorem dX7_leastAt_42 : decode cX7_leastAt 42 = .ok (.iload_n 3, 1) := by decide +kernel
theorem dX7_leastAt_43 : decode cX7_leastAt 43 = .ok (.istore_n 3, 1) := by decide +kernel
theorem dX7_leastAt_44 : decode cX7_leastAt 44 = .ok (.iinc 4 1, 3) := by decide +kernel
theorem dX7_leastAt_47 : decode cX7_leastAt 47 = .ok (.goto (-42), 3) := by decide +kernel
theorem dX7_leastAt_50 : decode cX7_leastAt 50 = .ok (.iload_n 3, 1) := by decide +kernel
theorem dX7_leastAt_51 : decode cX7_leastAt 51 = .ok (.ireturn, 1) := by decide +kernel
theorem dX7_least_0 : decode cX7_least 0 = .ok (.iload_n 1, 1) := by decide +kernel
theorem dX7_least_1 : decode cX7_least 1 = .ok (.iconst (-1), 1) := by decide +kernel
theorem dX7_least_2 : decode cX7_least 2 = .ok (.bipush 9, 2) := by decide +kernel
theorem dX7_least_4 : decode cX7_least 4 = .ok (.invokestatic 50, 3) := by decide +kernel
theorem dX7_least_7 : decode cX7_least 7 = .ok (.ifCond .ne 9, 3) := by decide +kernel
theorem dX7_least_10 : decode cX7_least 10 = .ok (.aload_n 0, 1) := by decide +kernel
theorem dX7_least_11 : decode cX7_least 11 = .ok (.iconst 1, 1) := by decide +kernel
theorem dX7_least_12 : decode cX7_least 12 = .ok (.invokevirtual 58, 3) := by decide +kernel
theorem dX7_least_15 : decode cX7_least 15 = .ok (.ireturn, 1) := by decide +kernel
theorem dX7_least_16 : decode cX7_least 16 = .ok (.iload_n 1, 1) := by decide +kernel
theorem dX7_least_17 : decode cX7_least 17 = .ok (.aload_n 0, 1) := by decide +kernel
theorem dX7_least_18 : decode cX7_least 18 = .ok (.getfield 7, 3) := by decide +kernel
theorem dX7_least_21 : decode cX7_least 21 = .ok (.iconst 5, 1) := by decide +kernel
theorem dX7_least_22 : decode cX7_least 22 = .ok (.iaload, 1) := by decide +kernel
theorem dX7_least_23 : decode cX7_least 23 = .ok (.if_icmp .lt 9, 3) := by decide +kernel
theorem dX7_least_26 : decode cX7_least 26 = .ok (.aload_n 0, 1) := by decide +kernel
theorem dX7_least_27 : decode cX7_least 27 = .ok (.iconst 2, 1) := by decide +kernel
theorem dX7_least_28 : decode cX7_least 28 = .ok (.invokevirtual 58, 3) := by decide +kernel
theorem dX7_least_31 : decode cX7_least 31 = .ok (.ireturn, 1) := by decide +kernel
theorem dX7_least_32 : decode cX7_least 32 = .ok (.aload_n 0, 1) := by decide +kernel
theorem dX7_least_33 : decode cX7_least 33 = .ok (.invokevirtual 184, 3) := by decide +kernel
theorem dX7_least_36 : decode cX7_least 36 = .ok (.iload_n 1, 1) := by decide +kernel
theorem dX7_least_37 : decode cX7_least 37 = .ok (.ifCond .ge 14, 3) := by decide +kernel
theorem dX7_least_40 : decode cX7_least 40 = .ok (.aload_n 0, 1) := by decide +kernel
theorem dX7_least_41 : decode cX7_least 41 = .ok (.getfield 7, 3) := by decide +kernel
theorem dX7_least_44 : decode cX7_least 44 = .ok (.iconst 5, 1) := by decide +kernel
theorem dX7_least_45 : decode cX7_least 45 = .ok (.iaload, 1) := by decide +kernel
theorem dX7_least_46 : decode cX7_least 46 = .ok (.iconst 1, 1) := by decide +kernel
theorem dX7_least_47 : decode cX7_least 47 = .ok (.isub, 1) := by decide +kernel
theorem dX7_least_48 : decode cX7_least 48 = .ok (.goto 9, 3) := by decide +kernel
theorem dX7_least_51 : decode cX7_least 51 = .ok (.aload_n 0, 1) := by decide +kernel
theorem dX7_least_52 : decode cX7_least 52 = .ok (.iload_n 1, 1) := by decide +kernel
theorem dX7_least_53 : decode cX7_least 53 = .ok (.iconst 3, 1) := by decide +kernel
theorem dX7_least_54 : decode cX7_least 54 = .ok (.invokevirtual 54, 3) := by decide +kernel
theorem dX7_least_57 : decode cX7_least 57 = .ok (.istore_n 2, 1) := by decide +kernel
theorem dX7_least_58 : decode cX7_least 58 = .ok (.bipush 121, 2) := by decide +kernel
theorem dX7_least_60 : decode cX7_least 60 = .ok (.istore_n 3, 1) := by decide +kernel
theorem dX7_least_61 : decode cX7_least 61 = .ok (.aload_n 0, 1) := by decide +kernel
theorem dX7_least_62 : decode cX7_least 62 = .ok (.getfield 7, 3) := by decide +kernel
theorem dX7_least_65 : decode cX7_least 65 = .ok (.iconst 5, 1) := by decide +kernel
theorem dX7_least_66 : decode cX7_least 66 = .ok (.iaload, 1) := by decide +kernel
theorem dX7_least_67 : decode cX7_least 67 = .ok (.iconst 1, 1) := by decide +kernel
theorem dX7_least_68 : decode cX7_least 68 = .ok (.isub, 1) := by decide +kernel
theorem dX7_least_69 : decode cX7_least 69 = .ok (.istore 4, 2) := by decide +kernel
theorem dX7_least_71 : decode cX7_least 71 = .ok (.iload 4, 2) := by decide +kernel
theorem dX7_least_73 : decode cX7_least 73 = .ok (.iload_n 2, 1) := by decide +kernel
theorem dX7_least_74 : decode cX7_least 74 = .ok (.if_icmp .lt 22, 3) := by decide +kernel
theorem dX7_least_77 : decode cX7_least 77 = .ok (.iload 4, 2) := by decide +kernel
theorem dX7_least_79 : decode cX7_least 79 = .ok (.ifCond .lt 17, 3) := by decide +kernel
theorem dX7_least_82 : decode cX7_least 82 = .ok (.aload_n 0, 1) := by decide +kernel
theorem dX7_least_83 : decode cX7_least 83 = .ok (.iload 4, 2) := by decide +kernel
theorem dX7_least_85 : decode cX7_least 85 = .ok (.iload_n 3, 1) := by decide +kernel
theorem dX7_least_86 : decode cX7_least 86 = .ok (.invokevirtual 187, 3) := by decide +kernel
theorem dX7_least_89 : decode cX7_least 89 = .ok (.istore_n 3, 1) := by decide +kernel
theorem dX7_least_90 : decode cX7_least 90 = .ok (.iinc 4 (-1), 3) := by decide +kernel
theorem dX7_least_93 : decode cX7_least 93 = .ok (.goto (-22), 3) := by decide +kernel
theorem dX7_least_96 : decode cX7_least 96 = .ok (.iload_n 1, 1) := by decide +kernel
theorem dX7_least_97 : decode cX7_least 97 = .ok (.ifCond .lt 7, 3) := by decide +kernel
theorem dX7_least_100 : decode cX7_least 100 = .ok (.iload_n 3, 1) := by decide +kernel
theorem dX7_least_101 : decode cX7_least 101 = .ok (.goto 34, 3) := by decide +kernel
theorem dX7_least_104 : decode cX7_least 104 = .ok (.aload_n 0, 1) := by decide +kernel
theorem dX7_least_105 : decode cX7_least 105 = .ok (.getfield 7, 3) := by decide +kernel
theorem dX7_least_108 : decode cX7_least 108 = .ok (.iconst 5, 1) := by decide +kernel
theorem dX7_least_109 : decode cX7_least 109 = .ok (.iaload, 1) := by decide +kernel
theorem dX7_least_110 : decode cX7_least 110 = .ok (.ifCond .ne 7, 3) := by decide +kernel
theorem dX7_least_113 : decode cX7_least 113 = .ok (.iconst 0, 1) := by decide +kernel
theorem dX7_least_114 : decode cX7_least 114 = .ok (.goto 21, 3) := by decide +kernel
theorem dX7_least_117 : decode cX7_least 117 = .ok (.aload_n 0, 1) := by decide +kernel
theorem dX7_least_118 : decode cX7_least 118 = .ok (.getfield 28, 3) := by decide +kernel
theorem dX7_least_121 : decode cX7_least 121 = .ok (.bipush 121, 2) := by decide +kernel
theorem dX7_least_123 : decode cX7_least 123 = .ok (.aload_n 0, 1) := by decide +kernel
theorem dX7_least_124 : decode cX7_least 124 = .ok (.getfield 7, 3) := by decide +kernel
theorem dX7_least_127 : decode cX7_least 127 = .ok (.iconst 5, 1) := by decide +kernel
theorem dX7_least_128 : decode cX7_least 128 = .ok (.iaload, 1) := by decide +kernel
theorem dX7_least_129 : decode cX7_least 129 = .ok (.iconst 1, 1) := by decide +kernel
theorem dX7_least_130 : decode cX7_least 130 = .ok (.isub, 1) := by decide +kernel
theorem dX7_least_131 : decode cX7_least 131 = .ok (.imul, 1) := by decide +kernel
theorem dX7_least_132 : decode cX7_least 132 = .ok (.iload_n 3, 1) := by decide +kernel
theorem dX7_least_133 : decode cX7_least 133 = .ok (.iadd, 1) := by decide +kernel
theorem dX7_least_134 : decode cX7_least 134 = .ok (.iaload, 1) := by decide +kernel
theorem dX7_least_135 : decode cX7_least 135 = .ok (.ireturn, 1) := by decide +kernel
theorem dX7_goesBetween_0 : decode cX7_goesBetween 0 = .ok (.iload_n 1, 1) := by decide +kernel
theorem dX7_goesBetween_1 : decode cX7_goesBetween 1 = .ok (.ifCond .ne 7, 3) := by decide +kernel
theorem dX7_goesBetween_4 : decode cX7_goesBetween 4 = .ok (.iconst 0, 1) := by decide +kernel
theorem dX7_goesBetween_5 : decode cX7_goesBetween 5 = .ok (.goto 15, 3) := by decide +kernel
theorem dX7_goesBetween_8 : decode cX7_goesBetween 8 = .ok (.aload_n 0, 1) := by decide +kernel
theorem dX7_goesBetween_9 : decode cX7_goesBetween 9 = .ok (.aload_n 0, 1) := by decide +kernel
theorem dX7_goesBetween_10 : decode cX7_goesBetween 10 = .ok (.iload_n 1, 1) := by decide +kernel
theorem dX7_goesBetween_11 : decode cX7_goesBetween 11 = .ok (.iconst 1, 1) := by decide +kernel
theorem dX7_goesBetween_12 : decode cX7_goesBetween 12 = .ok (.isub, 1) := by decide +kernel
theorem dX7_goesBetween_13 : decode cX7_goesBetween 13 = .ok (.invokevirtual 158, 3) := by decide +kernel
theorem dX7_goesBetween_16 : decode cX7_goesBetween 16 = .ok (.iconst 2, 1) := by decide +kernel
theorem dX7_goesBetween_17 : decode cX7_goesBetween 17 = .ok (.invokevirtual 54, 3) := by decide +kernel
theorem dX7_goesBetween_20 : decode cX7_goesBetween 20 = .ok (.istore_n 2, 1) := by decide +kernel
theorem dX7_goesBetween_21 : decode cX7_goesBetween 21 = .ok (.iload_n 1, 1) := by decide +kernel
theorem dX7_goesBetween_22 : decode cX7_goesBetween 22 = .ok (.aload_n 0, 1) := by decide +kernel
theorem dX7_goesBetween_23 : decode cX7_goesBetween 23 = .ok (.getfield 7, 3) := by decide +kernel
theorem dX7_goesBetween_26 : decode cX7_goesBetween 26 = .ok (.iconst 5, 1) := by decide +kernel
theorem dX7_goesBetween_27 : decode cX7_goesBetween 27 = .ok (.iaload, 1) := by decide +kernel
theorem dX7_goesBetween_28 : decode cX7_goesBetween 28 = .ok (.if_icmp .ne 9, 3) := by decide +kernel
theorem dX7_goesBetween_31 : decode cX7_goesBetween 31 = .ok (.sipush 1000, 3) := by decide +kernel
theorem dX7_goesBetween_34 : decode cX7_goesBetween 34 = .ok (.goto 13, 3) := by decide +kernel
theorem dX7_goesBetween_37 : decode cX7_goesBetween 37 = .ok (.aload_n 0, 1) := by decide +kernel
theorem dX7_goesBetween_38 : decode cX7_goesBetween 38 = .ok (.aload_n 0, 1) := by decide +kernel
theorem dX7_goesBetween_39 : decode cX7_goesBetween 39 = .ok (.iload_n 1, 1) := by decide +kernel
theorem dX7_goesBetween_40 : decode cX7_goesBetween 40 = .ok (.invokevirtual 158, 3) := by decide +kernel
theorem dX7_goesBetween_43 : decode cX7_goesBetween 43 = .ok (.iconst 2, 1) := by decide +kernel
theorem dX7_goesBetween_44 : decode cX7_goesBetween 44 = .ok (.invokevirtual 54, 3) := by decide +kernel
theorem dX7_goesBetween_47 : decode cX7_goesBetween 47 = .ok (.istore_n 3, 1) := by decide +kernel
theorem dX7_goesBetween_48 : decode cX7_goesBetween 48 = .ok (.iload_n 3, 1) := by decide +kernel
theorem dX7_goesBetween_49 : decode cX7_goesBetween 49 = .ok (.iload_n 2, 1) := by decide +kernel
theorem dX7_goesBetween_50 : decode cX7_goesBetween 50 = .ok (.isub, 1) := by decide +kernel
theorem dX7_goesBetween_51 : decode cX7_goesBetween 51 = .ok (.iconst 2, 1) := by decide +kernel
theorem dX7_goesBetween_52 : decode cX7_goesBetween 52 = .ok (.if_icmp .ge 5, 3) := by decide +kernel
theorem dX7_goesBetween_55 : decode cX7_goesBetween 55 = .ok (.iconst (-1), 1) := by decide +kernel
theorem dX7_goesBetween_56 : decode cX7_goesBetween 56 = .ok (.ireturn, 1) := by decide +kernel
theorem dX7_goesBetween_57 : decode cX7_goesBetween 57 = .ok (.iload_n 1, 1) := by decide +kernel
theorem dX7_goesBetween_58 : decode cX7_goesBetween 58 = .ok (.aload_n 0, 1) := by decide +kernel
theorem dX7_goesBetween_59 : decode cX7_goesBetween 59 = .ok (.getfield 7, 3) := by decide +kernel
theorem dX7_goesBetween_62 : decode cX7_goesBetween 62 = .ok (.iconst 5, 1) := by decide +kernel
theorem dX7_goesBetween_63 : decode cX7_goesBetween 63 = .ok (.iaload, 1) := by decide +kernel
theorem dX7_goesBetween_64 : decode cX7_goesBetween 64 = .ok (.if_icmp .ne 9, 3) := by decide +kernel
theorem dX7_goesBetween_67 : decode cX7_goesBetween 67 = .ok (.iload_n 2, 1) := by decide +kernel
theorem dX7_goesBetween_68 : decode cX7_goesBetween 68 = .ok (.iconst 1, 1) := by decide +kernel
theorem dX7_goesBetween_69 : decode cX7_goesBetween 69 = .ok (.iadd, 1) := by decide +kernel
theorem dX7_goesBetween_70 : decode cX7_goesBetween 70 = .ok (.goto 10, 3) := by decide +kernel
theorem dX7_goesBetween_73 : decode cX7_goesBetween 73 = .ok (.iload_n 2, 1) := by decide +kernel
theorem dX7_goesBetween_74 : decode cX7_goesBetween 74 = .ok (.iload_n 3, 1) := by decide +kernel
theorem dX7_goesBetween_75 : decode cX7_goesBetween 75 = .ok (.iload_n 2, 1) := by decide +kernel
theorem dX7_goesBetween_76 : decode cX7_goesBetween 76 = .ok (.isub, 1) := by decide +kernel
theorem dX7_goesBetween_77 : decode cX7_goesBetween 77 = .ok (.iconst 2, 1) := by decide +kernel
theorem dX7_goesBetween_78 : decode cX7_goesBetween 78 = .ok (.idiv, 1) := by decide +kernel
theorem dX7_goesBetween_79 : decode cX7_goesBetween 79 = .ok (.iadd, 1) := by decide +kernel
theorem dX7_goesBetween_80 : decode cX7_goesBetween 80 = .ok (.ireturn, 1) := by decide +kernel
theorem dX7_between_0 : decode cX7_between 0 = .ok (.iload_n 1, 1) := by decide +kernel
theorem dX7_between_1 : decode cX7_between 1 = .ok (.iconst 0, 1) := by decide +kernel
theorem dX7_between_2 : decode cX7_between 2 = .ok (.aload_n 0, 1) := by decide +kernel
theorem dX7_between_3 : decode cX7_between 3 = .ok (.getfield 7, 3) := by decide +kernel
theorem dX7_between_6 : decode cX7_between 6 = .ok (.iconst 5, 1) := by decide +kernel
theorem dX7_between_7 : decode cX7_between 7 = .ok (.iaload, 1) := by decide +kernel
theorem dX7_between_8 : decode cX7_between 8 = .ok (.invokestatic 50, 3) := by decide +kernel
theorem dX7_between_11 : decode cX7_between 11 = .ok (.ifCond .ne 9, 3) := by decide +kernel
theorem dX7_between_14 : decode cX7_between 14 = .ok (.aload_n 0, 1) := by decide +kernel
theorem dX7_between_15 : decode cX7_between 15 = .ok (.iconst 1, 1) := by decide +kernel
theorem dX7_between_16 : decode cX7_between 16 = .ok (.invokevirtual 58, 3) := by decide +kernel
theorem dX7_between_19 : decode cX7_between 19 = .ok (.ireturn, 1) := by decide +kernel
theorem dX7_between_20 : decode cX7_between 20 = .ok (.aload_n 0, 1) := by decide +kernel
theorem dX7_between_21 : decode cX7_between 21 = .ok (.iload_n 1, 1) := by decide +kernel
theorem dX7_between_22 : decode cX7_between 22 = .ok (.invokevirtual 190, 3) := by decide +kernel
theorem dX7_between_25 : decode cX7_between 25 = .ok (.istore_n 2, 1) := by decide +kernel
theorem dX7_between_26 : decode cX7_between 26 = .ok (.iload_n 2, 1) := by decide +kernel
theorem dX7_between_27 : decode cX7_between 27 = .ok (.iconst (-1), 1) := by decide +kernel
theorem dX7_between_28 : decode cX7_between 28 = .ok (.if_icmp .ne 11, 3) := by decide +kernel
theorem dX7_between_31 : decode cX7_between 31 = .ok (.aload_n 0, 1) := by decide +kernel
theorem dX7_between_32 : decode cX7_between 32 = .ok (.iconst 2, 1) := by decide +kernel
theorem dX7_between_33 : decode cX7_between 33 = .ok (.invokevirtual 58, 3) := by decide +kernel
theorem dX7_between_36 : decode cX7_between 36 = .ok (.goto 4, 3) := by decide +kernel
theorem dX7_between_39 : decode cX7_between 39 = .ok (.iload_n 2, 1) := by decide +kernel
theorem dX7_between_40 : decode cX7_between 40 = .ok (.ireturn, 1) := by decide +kernel
theorem dX7_longest_0 : decode cX7_longest 0 = .ok (.iconst 0, 1) := by decide +kernel
theorem dX7_longest_1 : decode cX7_longest 1 = .ok (.istore_n 1, 1) := by decide +kernel
theorem dX7_longest_2 : decode cX7_longest 2 = .ok (.iconst 0, 1) := by decide +kernel
theorem dX7_longest_3 : decode cX7_longest 3 = .ok (.istore_n 2, 1) := by decide +kernel
theorem dX7_longest_4 : decode cX7_longest 4 = .ok (.iload_n 2, 1) := by decide +kernel
theorem dX7_longest_5 : decode cX7_longest 5 = .ok (.aload_n 0, 1) := by decide +kernel
theorem dX7_longest_6 : decode cX7_longest 6 = .ok (.getfield 7, 3) := by decide +kernel
theorem dX7_longest_9 : decode cX7_longest 9 = .ok (.iconst 5, 1) := by decide +kernel
theorem dX7_longest_10 : decode cX7_longest 10 = .ok (.iaload, 1) := by decide +kernel
theorem dX7_longest_11 : decode cX7_longest 11 = .ok (.if_icmp .ge 123, 3) := by decide +kernel
theorem dX7_longest_14 : decode cX7_longest 14 = .ok (.aload_n 0, 1) := by decide +kernel
theorem dX7_longest_15 : decode cX7_longest 15 = .ok (.getfield 31, 3) := by decide +kernel
theorem dX7_longest_18 : decode cX7_longest 18 = .ok (.iload_n 2, 1) := by decide +kernel
theorem dX7_longest_19 : decode cX7_longest 19 = .ok (.iconst 1, 1) := by decide +kernel
theorem dX7_longest_20 : decode cX7_longest 20 = .ok (.iastore, 1) := by decide +kernel
theorem dX7_longest_21 : decode cX7_longest 21 = .ok (.iconst 0, 1) := by decide +kernel
theorem dX7_longest_22 : decode cX7_longest 22 = .ok (.istore_n 3, 1) := by decide +kernel
theorem dX7_longest_23 : decode cX7_longest 23 = .ok (.iload_n 3, 1) := by decide +kernel
theorem dX7_longest_24 : decode cX7_longest 24 = .ok (.iload_n 2, 1) := by decide +kernel
theorem dX7_longest_25 : decode cX7_longest 25 = .ok (.if_icmp .ge 82, 3) := by decide +kernel
theorem dX7_longest_28 : decode cX7_longest 28 = .ok (.aload_n 0, 1) := by decide +kernel
theorem dX7_longest_29 : decode cX7_longest 29 = .ok (.aload_n 0, 1) := by decide +kernel
theorem dX7_longest_30 : decode cX7_longest 30 = .ok (.iload_n 3, 1) := by decide +kernel
theorem dX7_longest_31 : decode cX7_longest 31 = .ok (.invokevirtual 158, 3) := by decide +kernel
theorem dX7_longest_34 : decode cX7_longest 34 = .ok (.iconst 2, 1) := by decide +kernel
theorem dX7_longest_35 : decode cX7_longest 35 = .ok (.invokevirtual 54, 3) := by decide +kernel
theorem dX7_longest_38 : decode cX7_longest 38 = .ok (.aload_n 0, 1) := by decide +kernel
theorem dX7_longest_39 : decode cX7_longest 39 = .ok (.aload_n 0, 1) := by decide +kernel
theorem dX7_longest_40 : decode cX7_longest 40 = .ok (.iload_n 2, 1) := by decide +kernel
theorem dX7_longest_41 : decode cX7_longest 41 = .ok (.invokevirtual 158, 3) := by decide +kernel
theorem dX7_longest_44 : decode cX7_longest 44 = .ok (.iconst 2, 1) := by decide +kernel
theorem dX7_longest_45 : decode cX7_longest 45 = .ok (.invokevirtual 54, 3) := by decide +kernel
theorem dX7_longest_48 : decode cX7_longest 48 = .ok (.if_icmp .ge 22, 3) := by decide +kernel
theorem dX7_longest_51 : decode cX7_longest 51 = .ok (.aload_n 0, 1) := by decide +kernel
theorem dX7_longest_52 : decode cX7_longest 52 = .ok (.getfield 31, 3) := by decide +kernel
theorem dX7_longest_55 : decode cX7_longest 55 = .ok (.iload_n 3, 1) := by decide +kernel
theorem dX7_longest_56 : decode cX7_longest 56 = .ok (.iaload, 1) := by decide +kernel
theorem dX7_longest_57 : decode cX7_longest 57 = .ok (.aload_n 0, 1) := by decide +kernel
theorem dX7_longest_58 : decode cX7_longest 58 = .ok (.getfield 31, 3) := by decide +kernel
theorem dX7_longest_61 : decode cX7_longest 61 = .ok (.iload_n 2, 1) := by decide +kernel
theorem dX7_longest_62 : decode cX7_longest 62 = .ok (.iaload, 1) := by decide +kernel
theorem dX7_longest_63 : decode cX7_longest 63 = .ok (.if_icmp .lt 7, 3) := by decide +kernel
theorem dX7_longest_66 : decode cX7_longest 66 = .ok (.iconst 1, 1) := by decide +kernel
theorem dX7_longest_67 : decode cX7_longest 67 = .ok (.goto 4, 3) := by decide +kernel
theorem dX7_longest_70 : decode cX7_longest 70 = .ok (.iconst 0, 1) := by decide +kernel
theorem dX7_longest_71 : decode cX7_longest 71 = .ok (.istore 4, 2) := by decide +kernel
theorem dX7_longest_73 : decode cX7_longest 73 = .ok (.aload_n 0, 1) := by decide +kernel
theorem dX7_longest_74 : decode cX7_longest 74 = .ok (.getfield 31, 3) := by decide +kernel
theorem dX7_longest_77 : decode cX7_longest 77 = .ok (.iload_n 2, 1) := by decide +kernel
theorem dX7_longest_78 : decode cX7_longest 78 = .ok (.iload 4, 2) := by decide +kernel
theorem dX7_longest_80 : decode cX7_longest 80 = .ok (.ifCond .eq 14, 3) := by decide +kernel
theorem dX7_longest_83 : decode cX7_longest 83 = .ok (.aload_n 0, 1) := by decide +kernel
theorem dX7_longest_84 : decode cX7_longest 84 = .ok (.getfield 31, 3) := by decide +kernel
theorem dX7_longest_87 : decode cX7_longest 87 = .ok (.iload_n 3, 1) := by decide +kernel
theorem dX7_longest_88 : decode cX7_longest 88 = .ok (.iaload, 1) := by decide +kernel
theorem dX7_longest_89 : decode cX7_longest 89 = .ok (.iconst 1, 1) := by decide +kernel
theorem dX7_longest_90 : decode cX7_longest 90 = .ok (.iadd, 1) := by decide +kernel
theorem dX7_longest_91 : decode cX7_longest 91 = .ok (.goto 9, 3) := by decide +kernel
theorem dX7_longest_94 : decode cX7_longest 94 = .ok (.aload_n 0, 1) := by decide +kernel
theorem dX7_longest_95 : decode cX7_longest 95 = .ok (.getfield 31, 3) := by decide +kernel
theorem dX7_longest_98 : decode cX7_longest 98 = .ok (.iload_n 2, 1) := by decide +kernel
theorem dX7_longest_99 : decode cX7_longest 99 = .ok (.iaload, 1) := by decide +kernel
theorem dX7_longest_100 : decode cX7_longest 100 = .ok (.iastore, 1) := by decide +kernel
theorem dX7_longest_101 : decode cX7_longest 101 = .ok (.iinc 3 1, 3) := by decide +kernel
theorem dX7_longest_104 : decode cX7_longest 104 = .ok (.goto (-81), 3) := by decide +kernel
theorem dX7_longest_107 : decode cX7_longest 107 = .ok (.aload_n 0, 1) := by decide +kernel
theorem dX7_longest_108 : decode cX7_longest 108 = .ok (.getfield 31, 3) := by decide +kernel
theorem dX7_longest_111 : decode cX7_longest 111 = .ok (.iload_n 2, 1) := by decide +kernel
theorem dX7_longest_112 : decode cX7_longest 112 = .ok (.iaload, 1) := by decide +kernel
theorem dX7_longest_113 : decode cX7_longest 113 = .ok (.iload_n 1, 1) := by decide +kernel
theorem dX7_longest_114 : decode cX7_longest 114 = .ok (.if_icmp .le 12, 3) := by decide +kernel
theorem dX7_longest_117 : decode cX7_longest 117 = .ok (.aload_n 0, 1) := by decide +kernel
theorem dX7_longest_118 : decode cX7_longest 118 = .ok (.getfield 31, 3) := by decide +kernel
theorem dX7_longest_121 : decode cX7_longest 121 = .ok (.iload_n 2, 1) := by decide +kernel
theorem dX7_longest_122 : decode cX7_longest 122 = .ok (.iaload, 1) := by decide +kernel
theorem dX7_longest_123 : decode cX7_longest 123 = .ok (.goto 4, 3) := by decide +kernel
theorem dX7_longest_126 : decode cX7_longest 126 = .ok (.iload_n 1, 1) := by decide +kernel
theorem dX7_longest_127 : decode cX7_longest 127 = .ok (.istore_n 1, 1) := by decide +kernel
theorem dX7_longest_128 : decode cX7_longest 128 = .ok (.iinc 2 1, 3) := by decide +kernel
theorem dX7_longest_131 : decode cX7_longest 131 = .ok (.goto (-127), 3) := by decide +kernel
theorem dX7_longest_134 : decode cX7_longest 134 = .ok (.iload_n 1, 1) := by decide +kernel
theorem dX7_longest_135 : decode cX7_longest 135 = .ok (.ireturn, 1) := by decide +kernel
theorem dX7_fewest_0 : decode cX7_fewest 0 = .ok (.aload_n 0, 1) := by decide +kernel
theorem dX7_fewest_1 : decode cX7_fewest 1 = .ok (.getfield 7, 3) := by decide +kernel
theorem dX7_fewest_4 : decode cX7_fewest 4 = .ok (.iconst 5, 1) := by decide +kernel
theorem dX7_fewest_5 : decode cX7_fewest 5 = .ok (.iaload, 1) := by decide +kernel
theorem dX7_fewest_6 : decode cX7_fewest 6 = .ok (.aload_n 0, 1) := by decide +kernel
theorem dX7_fewest_7 : decode cX7_fewest 7 = .ok (.invokevirtual 193, 3) := by decide +kernel
theorem dX7_fewest_10 : decode cX7_fewest 10 = .ok (.isub, 1) := by decide +kernel
theorem dX7_fewest_11 : decode cX7_fewest 11 = .ok (.ireturn, 1) := by decide +kernel
theorem dX7_order_0 : decode cX7_order 0 = .ok (.aload_n 0, 1) := by decide +kernel
theorem dX7_order_1 : decode cX7_order 1 = .ok (.invokevirtual 193, 3) := by decide +kernel
theorem dX7_order_4 : decode cX7_order 4 = .ok (.aload_n 0, 1) := by decide +kernel
theorem dX7_order_5 : decode cX7_order 5 = .ok (.getfield 7, 3) := by decide +kernel
theorem dX7_order_8 : decode cX7_order 8 = .ok (.iconst 5, 1) := by decide +kernel
theorem dX7_order_9 : decode cX7_order 9 = .ok (.iaload, 1) := by decide +kernel
theorem dX7_order_10 : decode cX7_order 10 = .ok (.if_icmp .ne 7, 3) := by decide +kernel
theorem dX7_order_13 : decode cX7_order 13 = .ok (.iconst 1, 1) := by decide +kernel
theorem dX7_order_14 : decode cX7_order 14 = .ok (.goto 4, 3) := by decide +kernel
theorem dX7_order_17 : decode cX7_order 17 = .ok (.iconst 0, 1) := by decide +kernel
theorem dX7_order_18 : decode cX7_order 18 = .ok (.ireturn, 1) := by decide +kernel
theorem dX7_finds1_0 : decode cX7_finds1 0 = .ok (.iconst 0, 1) := by decide +kernel
theorem dX7_finds1_1 : decode cX7_finds1 1 = .ok (.istore_n 2, 1) := by decide +kernel
theorem dX7_finds1_2 : decode cX7_finds1 2 = .ok (.aload_n 0, 1) := by decide +kernel
theorem dX7_finds1_3 : decode cX7_finds1 3 = .ok (.getfield 7, 3) := by decide +kernel
theorem dX7_finds1_6 : decode cX7_finds1 6 = .ok (.iconst 5, 1) := by decide +kernel
theorem dX7_finds1_7 : decode cX7_finds1 7 = .ok (.iaload, 1) := by decide +kernel
theorem dX7_finds1_8 : decode cX7_finds1 8 = .ok (.iconst 1, 1) := by decide +kernel
theorem dX7_finds1_9 : decode cX7_finds1 9 = .ok (.isub, 1) := by decide +kernel
theorem dX7_finds1_10 : decode cX7_finds1 10 = .ok (.istore_n 3, 1) := by decide +kernel
theorem dX7_finds1_11 : decode cX7_finds1 11 = .ok (.aload_n 0, 1) := by decide +kernel
theorem dX7_finds1_12 : decode cX7_finds1 12 = .ok (.iconst 0, 1) := by decide +kernel
theorem dX7_finds1_13 : decode cX7_finds1 13 = .ok (.putfield 196, 3) := by decide +kernel
theorem dX7_finds1_16 : decode cX7_finds1 16 = .ok (.iload_n 2, 1) := by decide +kernel
theorem dX7_finds1_17 : decode cX7_finds1 17 = .ok (.iload_n 3, 1) := by decide +kernel
theorem dX7_finds1_18 : decode cX7_finds1 18 = .ok (.if_icmp .gt 85, 3) := by decide +kernel
theorem dX7_finds1_21 : decode cX7_finds1 21 = .ok (.iload_n 2, 1) := by decide +kernel
theorem dX7_finds1_22 : decode cX7_finds1 22 = .ok (.iload_n 3, 1) := by decide +kernel
theorem dX7_finds1_23 : decode cX7_finds1 23 = .ok (.iadd, 1) := by decide +kernel
theorem dX7_finds1_24 : decode cX7_finds1 24 = .ok (.iconst 2, 1) := by decide +kernel
theorem dX7_finds1_25 : decode cX7_finds1 25 = .ok (.idiv, 1) := by decide +kernel
theorem dX7_finds1_26 : decode cX7_finds1 26 = .ok (.istore 4, 2) := by decide +kernel
theorem dX7_finds1_28 : decode cX7_finds1 28 = .ok (.aload_n 0, 1) := by decide +kernel
theorem dX7_finds1_29 : decode cX7_finds1 29 = .ok (.iload 4, 2) := by decide +kernel
theorem dX7_finds1_31 : decode cX7_finds1 31 = .ok (.invokevirtual 158, 3) := by decide +kernel
theorem dX7_finds1_34 : decode cX7_finds1 34 = .ok (.istore 5, 2) := by decide +kernel
theorem dX7_finds1_36 : decode cX7_finds1 36 = .ok (.aload_n 0, 1) := by decide +kernel
theorem dX7_finds1_37 : decode cX7_finds1 37 = .ok (.dup, 1) := by decide +kernel
theorem dX7_finds1_38 : decode cX7_finds1 38 = .ok (.getfield 196, 3) := by decide +kernel
theorem dX7_finds1_41 : decode cX7_finds1 41 = .ok (.iconst 1, 1) := by decide +kernel
theorem dX7_finds1_42 : decode cX7_finds1 42 = .ok (.iadd, 1) := by decide +kernel
theorem dX7_finds1_43 : decode cX7_finds1 43 = .ok (.putfield 196, 3) := by decide +kernel
theorem dX7_finds1_46 : decode cX7_finds1 46 = .ok (.aload_n 0, 1) := by decide +kernel
theorem dX7_finds1_47 : decode cX7_finds1 47 = .ok (.iload 5, 2) := by decide +kernel
theorem dX7_finds1_49 : decode cX7_finds1 49 = .ok (.iconst 2, 1) := by decide +kernel
theorem dX7_finds1_50 : decode cX7_finds1 50 = .ok (.invokevirtual 54, 3) := by decide +kernel
theorem dX7_finds1_53 : decode cX7_finds1 53 = .ok (.iload_n 1, 1) := by decide +kernel
theorem dX7_finds1_54 : decode cX7_finds1 54 = .ok (.if_icmp .ne 6, 3) := by decide +kernel
theorem dX7_finds1_57 : decode cX7_finds1 57 = .ok (.iload 5, 2) := by decide +kernel
theorem dX7_finds1_59 : decode cX7_finds1 59 = .ok (.ireturn, 1) := by decide +kernel
theorem dX7_finds1_60 : decode cX7_finds1 60 = .ok (.aload_n 0, 1) := by decide +kernel
theorem dX7_finds1_61 : decode cX7_finds1 61 = .ok (.iload 5, 2) := by decide +kernel
theorem dX7_finds1_63 : decode cX7_finds1 63 = .ok (.iconst 2, 1) := by decide +kernel
theorem dX7_finds1_64 : decode cX7_finds1 64 = .ok (.invokevirtual 54, 3) := by decide +kernel
theorem dX7_finds1_67 : decode cX7_finds1 67 = .ok (.iload_n 1, 1) := by decide +kernel
theorem dX7_finds1_68 : decode cX7_finds1 68 = .ok (.if_icmp .ge 10, 3) := by decide +kernel
theorem dX7_finds1_71 : decode cX7_finds1 71 = .ok (.iload 4, 2) := by decide +kernel
theorem dX7_finds1_73 : decode cX7_finds1 73 = .ok (.iconst 1, 1) := by decide +kernel
theorem dX7_finds1_74 : decode cX7_finds1 74 = .ok (.iadd, 1) := by decide +kernel
theorem dX7_finds1_75 : decode cX7_finds1 75 = .ok (.goto 4, 3) := by decide +kernel
theorem dX7_finds1_78 : decode cX7_finds1 78 = .ok (.iload_n 2, 1) := by decide +kernel
theorem dX7_finds1_79 : decode cX7_finds1 79 = .ok (.istore_n 2, 1) := by decide +kernel
theorem dX7_finds1_80 : decode cX7_finds1 80 = .ok (.aload_n 0, 1) := by decide +kernel
theorem dX7_finds1_81 : decode cX7_finds1 81 = .ok (.iload 5, 2) := by decide +kernel
theorem dX7_finds1_83 : decode cX7_finds1 83 = .ok (.iconst 2, 1) := by decide +kernel
theorem dX7_finds1_84 : decode cX7_finds1 84 = .ok (.invokevirtual 54, 3) := by decide +kernel
theorem dX7_finds1_87 : decode cX7_finds1 87 = .ok (.iload_n 1, 1) := by decide +kernel
theorem dX7_finds1_88 : decode cX7_finds1 88 = .ok (.if_icmp .ge 7, 3) := by decide +kernel
theorem dX7_finds1_91 : decode cX7_finds1 91 = .ok (.iload_n 3, 1) := by decide +kernel
theorem dX7_finds1_92 : decode cX7_finds1 92 = .ok (.goto 7, 3) := by decide +kernel
theorem dX7_finds1_95 : decode cX7_finds1 95 = .ok (.iload 4, 2) := by decide +kernel
theorem dX7_finds1_97 : decode cX7_finds1 97 = .ok (.iconst 1, 1) := by decide +kernel
theorem dX7_finds1_98 : decode cX7_finds1 98 = .ok (.isub, 1) := by decide +kernel
theorem dX7_finds1_99 : decode cX7_finds1 99 = .ok (.istore_n 3, 1) := by decide +kernel
theorem dX7_finds1_100 : decode cX7_finds1 100 = .ok (.goto (-84), 3) := by decide +kernel
theorem dX7_finds1_103 : decode cX7_finds1 103 = .ok (.iconst (-1), 1) := by decide +kernel
theorem dX7_finds1_104 : decode cX7_finds1 104 = .ok (.ireturn, 1) := by decide +kernel
theorem dX7_search_0 : decode cX7_search 0 = .ok (.iload_n 1, 1) := by decide +kernel
theorem dX7_search_1 : decode cX7_search 1 = .ok (.invokestatic 146, 3) := by decide +kernel
theorem dX7_search_4 : decode cX7_search 4 = .ok (.ifCond .eq 12, 3) := by decide +kernel
theorem dX7_search_7 : decode cX7_search 7 = .ok (.iload_n 2, 1) := by decide +kernel
theorem dX7_search_8 : decode cX7_search 8 = .ok (.iconst 0, 1) := by decide +kernel
theorem dX7_search_9 : decode cX7_search 9 = .ok (.iconst 1, 1) := by decide +kernel
theorem dX7_search_10 : decode cX7_search 10 = .ok (.invokestatic 50, 3) := by decide +kernel
theorem dX7_search_13 : decode cX7_search 13 = .ok (.ifCond .ne 9, 3) := by decide +kernel
theorem dX7_search_16 : decode cX7_search 16 = .ok (.aload_n 0, 1) := by decide +kernel
theorem dX7_search_17 : decode cX7_search 17 = .ok (.iconst 1, 1) := by decide +kernel
theorem dX7_search_18 : decode cX7_search 18 = .ok (.invokevirtual 58, 3) := by decide +kernel
theorem dX7_search_21 : decode cX7_search 21 = .ok (.ireturn, 1) := by decide +kernel
theorem dX7_search_22 : decode cX7_search 22 = .ok (.aload_n 0, 1) := by decide +kernel
theorem dX7_search_23 : decode cX7_search 23 = .ok (.iload_n 1, 1) := by decide +kernel
theorem dX7_search_24 : decode cX7_search 24 = .ok (.invokevirtual 199, 3) := by decide +kernel
theorem dX7_search_27 : decode cX7_search 27 = .ok (.istore_n 3, 1) := by decide +kernel
theorem dX7_search_28 : decode cX7_search 28 = .ok (.iload_n 2, 1) := by decide +kernel
theorem dX7_search_29 : decode cX7_search 29 = .ok (.iconst 1, 1) := by decide +kernel
theorem dX7_search_30 : decode cX7_search 30 = .ok (.if_icmp .ne 10, 3) := by decide +kernel
theorem dX7_search_33 : decode cX7_search 33 = .ok (.aload_n 0, 1) := by decide +kernel
theorem dX7_search_34 : decode cX7_search 34 = .ok (.getfield 196, 3) := by decide +kernel
theorem dX7_search_37 : decode cX7_search 37 = .ok (.goto 17, 3) := by decide +kernel
theorem dX7_search_40 : decode cX7_search 40 = .ok (.iload_n 3, 1) := by decide +kernel
theorem dX7_search_41 : decode cX7_search 41 = .ok (.iconst (-1), 1) := by decide +kernel
theorem dX7_search_42 : decode cX7_search 42 = .ok (.if_icmp .ne 11, 3) := by decide +kernel
theorem dX7_search_45 : decode cX7_search 45 = .ok (.aload_n 0, 1) := by decide +kernel
theorem dX7_search_46 : decode cX7_search 46 = .ok (.iconst 2, 1) := by decide +kernel
theorem dX7_search_47 : decode cX7_search 47 = .ok (.invokevirtual 58, 3) := by decide +kernel
theorem dX7_search_50 : decode cX7_search 50 = .ok (.goto 4, 3) := by decide +kernel
theorem dX7_search_53 : decode cX7_search 53 = .ok (.iload_n 3, 1) := by decide +kernel
theorem dX7_search_54 : decode cX7_search 54 = .ok (.ireturn, 1) := by decide +kernel
theorem dX7_divisor_0 : decode cX7_divisor 0 = .ok (.iload_n 0, 1) := by decide +kernel
theorem dX7_divisor_1 : decode cX7_divisor 1 = .ok (.istore_n 2, 1) := by decide +kernel
theorem dX7_divisor_2 : decode cX7_divisor 2 = .ok (.iload_n 1, 1) := by decide +kernel
theorem dX7_divisor_3 : decode cX7_divisor 3 = .ok (.istore_n 3, 1) := by decide +kernel
theorem dX7_divisor_4 : decode cX7_divisor 4 = .ok (.iload_n 3, 1) := by decide +kernel
theorem dX7_divisor_5 : decode cX7_divisor 5 = .ok (.ifCond .eq 16, 3) := by decide +kernel
theorem dX7_divisor_8 : decode cX7_divisor 8 = .ok (.iload_n 2, 1) := by decide +kernel
theorem dX7_divisor_9 : decode cX7_divisor 9 = .ok (.iload_n 3, 1) := by decide +kernel
theorem dX7_divisor_10 : decode cX7_divisor 10 = .ok (.irem, 1) := by decide +kernel
theorem dX7_divisor_11 : decode cX7_divisor 11 = .ok (.istore 4, 2) := by decide +kernel
theorem dX7_divisor_13 : decode cX7_divisor 13 = .ok (.iload_n 3, 1) := by decide +kernel
theorem dX7_divisor_14 : decode cX7_divisor 14 = .ok (.istore_n 2, 1) := by decide +kernel
theorem dX7_divisor_15 : decode cX7_divisor 15 = .ok (.iload 4, 2) := by decide +kernel
theorem dX7_divisor_17 : decode cX7_divisor 17 = .ok (.istore_n 3, 1) := by decide +kernel
theorem dX7_divisor_18 : decode cX7_divisor 18 = .ok (.goto (-14), 3) := by decide +kernel
theorem dX7_divisor_21 : decode cX7_divisor 21 = .ok (.iload_n 2, 1) := by decide +kernel
theorem dX7_divisor_22 : decode cX7_divisor 22 = .ok (.ireturn, 1) := by decide +kernel
theorem dX7_odds_0 : decode cX7_odds 0 = .ok (.iload_n 1, 1) := by decide +kernel
theorem dX7_odds_1 : decode cX7_odds 1 = .ok (.iconst 0, 1) := by decide +kernel
theorem dX7_odds_2 : decode cX7_odds 2 = .ok (.iconst 1, 1) := by decide +kernel
theorem dX7_odds_3 : decode cX7_odds 3 = .ok (.invokestatic 50, 3) := by decide +kernel
theorem dX7_odds_6 : decode cX7_odds 6 = .ok (.ifCond .ne 9, 3) := by decide +kernel
theorem dX7_odds_9 : decode cX7_odds 9 = .ok (.aload_n 0, 1) := by decide +kernel
theorem dX7_odds_10 : decode cX7_odds 10 = .ok (.iconst 1, 1) := by decide +kernel
theorem dX7_odds_11 : decode cX7_odds 11 = .ok (.invokevirtual 58, 3) := by decide +kernel
theorem dX7_odds_14 : decode cX7_odds 14 = .ok (.ireturn, 1) := by decide +kernel
theorem dX7_odds_15 : decode cX7_odds 15 = .ok (.aload_n 0, 1) := by decide +kernel
theorem dX7_odds_16 : decode cX7_odds 16 = .ok (.getfield 7, 3) := by decide +kernel
theorem dX7_odds_19 : decode cX7_odds 19 = .ok (.iconst 5, 1) := by decide +kernel
theorem dX7_odds_20 : decode cX7_odds 20 = .ok (.iaload, 1) := by decide +kernel
theorem dX7_odds_21 : decode cX7_odds 21 = .ok (.ifCond .ne 9, 3) := by decide +kernel
theorem dX7_odds_24 : decode cX7_odds 24 = .ok (.aload_n 0, 1) := by decide +kernel
theorem dX7_odds_25 : decode cX7_odds 25 = .ok (.iconst 3, 1) := by decide +kernel
theorem dX7_odds_26 : decode cX7_odds 26 = .ok (.invokevirtual 58, 3) := by decide +kernel
theorem dX7_odds_29 : decode cX7_odds 29 = .ok (.ireturn, 1) := by decide +kernel
theorem dX7_odds_30 : decode cX7_odds 30 = .ok (.iconst 0, 1) := by decide +kernel
theorem dX7_odds_31 : decode cX7_odds 31 = .ok (.istore_n 2, 1) := by decide +kernel
theorem dX7_odds_32 : decode cX7_odds 32 = .ok (.iconst 0, 1) := by decide +kernel
theorem dX7_odds_33 : decode cX7_odds 33 = .ok (.istore_n 3, 1) := by decide +kernel
theorem dX7_odds_34 : decode cX7_odds 34 = .ok (.iload_n 3, 1) := by decide +kernel
theorem dX7_odds_35 : decode cX7_odds 35 = .ok (.aload_n 0, 1) := by decide +kernel
theorem dX7_odds_36 : decode cX7_odds 36 = .ok (.getfield 7, 3) := by decide +kernel
theorem dX7_odds_39 : decode cX7_odds 39 = .ok (.iconst 5, 1) := by decide +kernel
theorem dX7_odds_40 : decode cX7_odds 40 = .ok (.iaload, 1) := by decide +kernel
theorem dX7_odds_41 : decode cX7_odds 41 = .ok (.if_icmp .ge 31, 3) := by decide +kernel
theorem dX7_odds_44 : decode cX7_odds 44 = .ok (.iload_n 2, 1) := by decide +kernel
theorem dX7_odds_45 : decode cX7_odds 45 = .ok (.aload_n 0, 1) := by decide +kernel
theorem dX7_odds_46 : decode cX7_odds 46 = .ok (.aload_n 0, 1) := by decide +kernel
theorem dX7_odds_47 : decode cX7_odds 47 = .ok (.iload_n 3, 1) := by decide +kernel
theorem dX7_odds_48 : decode cX7_odds 48 = .ok (.iconst 2, 1) := by decide +kernel
theorem dX7_odds_49 : decode cX7_odds 49 = .ok (.invokevirtual 54, 3) := by decide +kernel
theorem dX7_odds_52 : decode cX7_odds 52 = .ok (.invokevirtual 199, 3) := by decide +kernel
theorem dX7_odds_55 : decode cX7_odds 55 = .ok (.iload_n 3, 1) := by decide +kernel
theorem dX7_odds_56 : decode cX7_odds 56 = .ok (.if_icmp .ne 7, 3) := by decide +kernel
theorem dX7_odds_59 : decode cX7_odds 59 = .ok (.iconst 1, 1) := by decide +kernel
theorem dX7_odds_60 : decode cX7_odds 60 = .ok (.goto 4, 3) := by decide +kernel
theorem dX7_odds_63 : decode cX7_odds 63 = .ok (.iconst 0, 1) := by decide +kernel
theorem dX7_odds_64 : decode cX7_odds 64 = .ok (.iadd, 1) := by decide +kernel
theorem dX7_odds_65 : decode cX7_odds 65 = .ok (.istore_n 2, 1) := by decide +kernel
theorem dX7_odds_66 : decode cX7_odds 66 = .ok (.iinc 3 1, 3) := by decide +kernel
theorem dX7_odds_69 : decode cX7_odds 69 = .ok (.goto (-35), 3) := by decide +kernel
theorem dX7_odds_72 : decode cX7_odds 72 = .ok (.iload_n 2, 1) := by decide +kernel
theorem dX7_odds_73 : decode cX7_odds 73 = .ok (.aload_n 0, 1) := by decide +kernel
theorem dX7_odds_74 : decode cX7_odds 74 = .ok (.getfield 7, 3) := by decide +kernel
theorem dX7_odds_77 : decode cX7_odds 77 = .ok (.iconst 5, 1) := by decide +kernel
theorem dX7_odds_78 : decode cX7_odds 78 = .ok (.iaload, 1) := by decide +kernel
theorem dX7_odds_79 : decode cX7_odds 79 = .ok (.invokestatic 202, 3) := by decide +kernel
theorem dX7_odds_82 : decode cX7_odds 82 = .ok (.istore_n 3, 1) := by decide +kernel
theorem dX7_odds_83 : decode cX7_odds 83 = .ok (.iload_n 1, 1) := by decide +kernel
theorem dX7_odds_84 : decode cX7_odds 84 = .ok (.ifCond .ne 9, 3) := by decide +kernel
theorem dX7_odds_87 : decode cX7_odds 87 = .ok (.iload_n 2, 1) := by decide +kernel
theorem dX7_odds_88 : decode cX7_odds 88 = .ok (.iload_n 3, 1) := by decide +kernel
theorem dX7_odds_89 : decode cX7_odds 89 = .ok (.idiv, 1) := by decide +kernel
theorem dX7_odds_90 : decode cX7_odds 90 = .ok (.goto 11, 3) := by decide +kernel
theorem dX7_odds_93 : decode cX7_odds 93 = .ok (.aload_n 0, 1) := by decide +kernel
theorem dX7_odds_94 : decode cX7_odds 94 = .ok (.getfield 7, 3) := by decide +kernel
theorem dX7_odds_97 : decode cX7_odds 97 = .ok (.iconst 5, 1) := by decide +kernel
theorem dX7_odds_98 : decode cX7_odds 98 = .ok (.iaload, 1) := by decide +kernel
theorem dX7_odds_99 : decode cX7_odds 99 = .ok (.iload_n 3, 1) := by decide +kernel
theorem dX7_odds_100 : decode cX7_odds 100 = .ok (.idiv, 1) := by decide +kernel
theorem dX7_odds_101 : decode cX7_odds 101 = .ok (.ireturn, 1) := by decide +kernel
theorem dX7_harmsSo_0 : decode cX7_harmsSo 0 = .ok (.aload_n 0, 1) := by decide +kernel
theorem dX7_harmsSo_1 : decode cX7_harmsSo 1 = .ok (.getfield 40, 3) := by decide +kernel
theorem dX7_harmsSo_4 : decode cX7_harmsSo 4 = .ok (.iload_n 1, 1) := by decide +kernel
theorem dX7_harmsSo_5 : decode cX7_harmsSo 5 = .ok (.iaload, 1) := by decide +kernel
theorem dX7_harmsSo_6 : decode cX7_harmsSo 6 = .ok (.aload_n 0, 1) := by decide +kernel
theorem dX7_harmsSo_7 : decode cX7_harmsSo 7 = .ok (.getfield 7, 3) := by decide +kernel
theorem dX7_harmsSo_10 : decode cX7_harmsSo 10 = .ok (.iconst 5, 1) := by decide +kernel
theorem dX7_harmsSo_11 : decode cX7_harmsSo 11 = .ok (.iaload, 1) := by decide +kernel
theorem dX7_harmsSo_12 : decode cX7_harmsSo 12 = .ok (.if_icmp .gt 7, 3) := by decide +kernel
theorem dX7_harmsSo_15 : decode cX7_harmsSo 15 = .ok (.iconst 1, 1) := by decide +kernel
theorem dX7_harmsSo_16 : decode cX7_harmsSo 16 = .ok (.goto 4, 3) := by decide +kernel
theorem dX7_harmsSo_19 : decode cX7_harmsSo 19 = .ok (.iconst 0, 1) := by decide +kernel
theorem dX7_harmsSo_20 : decode cX7_harmsSo 20 = .ok (.istore_n 3, 1) := by decide +kernel
theorem dX7_harmsSo_21 : decode cX7_harmsSo 21 = .ok (.iconst 0, 1) := by decide +kernel
theorem dX7_harmsSo_22 : decode cX7_harmsSo 22 = .ok (.istore 4, 2) := by decide +kernel
theorem dX7_harmsSo_24 : decode cX7_harmsSo 24 = .ok (.iload 4, 2) := by decide +kernel
theorem dX7_harmsSo_26 : decode cX7_harmsSo 26 = .ok (.aload_n 0, 1) := by decide +kernel
theorem dX7_harmsSo_27 : decode cX7_harmsSo 27 = .ok (.getfield 40, 3) := by decide +kernel
theorem dX7_harmsSo_30 : decode cX7_harmsSo 30 = .ok (.iload_n 1, 1) := by decide +kernel
theorem dX7_harmsSo_31 : decode cX7_harmsSo 31 = .ok (.iaload, 1) := by decide +kernel
theorem dX7_harmsSo_32 : decode cX7_harmsSo 32 = .ok (.if_icmp .ge 50, 3) := by decide +kernel
theorem dX7_harmsSo_35 : decode cX7_harmsSo 35 = .ok (.iload_n 3, 1) := by decide +kernel
theorem dX7_harmsSo_36 : decode cX7_harmsSo 36 = .ok (.ifCond .eq 46, 3) := by decide +kernel
theorem dX7_harmsSo_39 : decode cX7_harmsSo 39 = .ok (.aload_n 0, 1) := by decide +kernel
theorem dX7_harmsSo_40 : decode cX7_harmsSo 40 = .ok (.aload_n 0, 1) := by decide +kernel
theorem dX7_harmsSo_41 : decode cX7_harmsSo 41 = .ok (.iload 4, 2) := by decide +kernel
theorem dX7_harmsSo_43 : decode cX7_harmsSo 43 = .ok (.invokevirtual 158, 3) := by decide +kernel
theorem dX7_harmsSo_46 : decode cX7_harmsSo 46 = .ok (.iload_n 2, 1) := by decide +kernel
theorem dX7_harmsSo_47 : decode cX7_harmsSo 47 = .ok (.iload 4, 2) := by decide +kernel
theorem dX7_harmsSo_49 : decode cX7_harmsSo 49 = .ok (.iconst 1, 1) := by decide +kernel
theorem dX7_harmsSo_50 : decode cX7_harmsSo 50 = .ok (.iadd, 1) := by decide +kernel
theorem dX7_harmsSo_51 : decode cX7_harmsSo 51 = .ok (.imul, 1) := by decide +kernel
theorem dX7_harmsSo_52 : decode cX7_harmsSo 52 = .ok (.invokevirtual 167, 3) := by decide +kernel
theorem dX7_harmsSo_55 : decode cX7_harmsSo 55 = .ok (.aload_n 0, 1) := by decide +kernel
theorem dX7_harmsSo_56 : decode cX7_harmsSo 56 = .ok (.getfield 43, 3) := by decide +kernel
theorem dX7_harmsSo_59 : decode cX7_harmsSo 59 = .ok (.bipush 24, 2) := by decide +kernel
theorem dX7_harmsSo_61 : decode cX7_harmsSo 61 = .ok (.iload_n 1, 1) := by decide +kernel
theorem dX7_harmsSo_62 : decode cX7_harmsSo 62 = .ok (.imul, 1) := by decide +kernel
theorem dX7_harmsSo_63 : decode cX7_harmsSo 63 = .ok (.iload 4, 2) := by decide +kernel
theorem dX7_harmsSo_65 : decode cX7_harmsSo 65 = .ok (.iadd, 1) := by decide +kernel
theorem dX7_harmsSo_66 : decode cX7_harmsSo 66 = .ok (.iaload, 1) := by decide +kernel
theorem dX7_harmsSo_67 : decode cX7_harmsSo 67 = .ok (.if_icmp .ne 7, 3) := by decide +kernel
theorem dX7_harmsSo_70 : decode cX7_harmsSo 70 = .ok (.iconst 1, 1) := by decide +kernel
theorem dX7_harmsSo_71 : decode cX7_harmsSo 71 = .ok (.goto 4, 3) := by decide +kernel
theorem dX7_harmsSo_74 : decode cX7_harmsSo 74 = .ok (.iconst 0, 1) := by decide +kernel
theorem dX7_harmsSo_75 : decode cX7_harmsSo 75 = .ok (.istore_n 3, 1) := by decide +kernel
theorem dX7_harmsSo_76 : decode cX7_harmsSo 76 = .ok (.iinc 4 1, 3) := by decide +kernel
theorem dX7_harmsSo_79 : decode cX7_harmsSo 79 = .ok (.goto (-55), 3) := by decide +kernel
theorem dX7_harmsSo_82 : decode cX7_harmsSo 82 = .ok (.iload_n 3, 1) := by decide +kernel
theorem dX7_harmsSo_83 : decode cX7_harmsSo 83 = .ok (.ireturn, 1) := by decide +kernel
theorem dX7_fits_0 : decode cX7_fits 0 = .ok (.iload_n 2, 1) := by decide +kernel
theorem dX7_fits_1 : decode cX7_fits 1 = .ok (.iconst 0, 1) := by decide +kernel
theorem dX7_fits_2 : decode cX7_fits 2 = .ok (.iconst 1, 1) := by decide +kernel
theorem dX7_fits_3 : decode cX7_fits 3 = .ok (.invokestatic 50, 3) := by decide +kernel
theorem dX7_fits_6 : decode cX7_fits 6 = .ok (.ifCond .eq 11, 3) := by decide +kernel
theorem dX7_fits_9 : decode cX7_fits 9 = .ok (.aload_n 0, 1) := by decide +kernel
theorem dX7_fits_10 : decode cX7_fits 10 = .ok (.iload_n 1, 1) := by decide +kernel
theorem dX7_fits_11 : decode cX7_fits 11 = .ok (.invokevirtual 205, 3) := by decide +kernel
theorem dX7_fits_14 : decode cX7_fits 14 = .ok (.goto 4, 3) := by decide +kernel
theorem dX7_fits_17 : decode cX7_fits 17 = .ok (.iconst 1, 1) := by decide +kernel
theorem dX7_fits_18 : decode cX7_fits 18 = .ok (.istore_n 3, 1) := by decide +kernel
theorem dX7_fits_19 : decode cX7_fits 19 = .ok (.iload_n 3, 1) := by decide +kernel
theorem dX7_fits_20 : decode cX7_fits 20 = .ok (.ifCond .eq 9, 3) := by decide +kernel
theorem dX7_fits_23 : decode cX7_fits 23 = .ok (.aload_n 0, 1) := by decide +kernel
theorem dX7_fits_24 : decode cX7_fits 24 = .ok (.iload_n 3, 1) := by decide +kernel
theorem dX7_fits_25 : decode cX7_fits 25 = .ok (.invokevirtual 58, 3) := by decide +kernel
theorem dX7_fits_28 : decode cX7_fits 28 = .ok (.ireturn, 1) := by decide +kernel
theorem dX7_fits_29 : decode cX7_fits 29 = .ok (.iconst 0, 1) := by decide +kernel
theorem dX7_fits_30 : decode cX7_fits 30 = .ok (.istore 4, 2) := by decide +kernel
theorem dX7_fits_32 : decode cX7_fits 32 = .ok (.iconst (-1), 1) := by decide +kernel
theorem dX7_fits_33 : decode cX7_fits 33 = .ok (.istore 5, 2) := by decide +kernel
theorem dX7_fits_35 : decode cX7_fits 35 = .ok (.bipush 50, 2) := by decide +kernel
theorem dX7_fits_37 : decode cX7_fits 37 = .ok (.istore 6, 2) := by decide +kernel
theorem dX7_fits_39 : decode cX7_fits 39 = .ok (.iload 6, 2) := by decide +kernel
theorem dX7_fits_41 : decode cX7_fits 41 = .ok (.ifCond .le 47, 3) := by decide +kernel
theorem dX7_fits_44 : decode cX7_fits 44 = .ok (.aload_n 0, 1) := by decide +kernel
theorem dX7_fits_45 : decode cX7_fits 45 = .ok (.iload_n 1, 1) := by decide +kernel
theorem dX7_fits_46 : decode cX7_fits 46 = .ok (.iload 6, 2) := by decide +kernel
theorem dX7_fits_48 : decode cX7_fits 48 = .ok (.invokevirtual 208, 3) := by decide +kernel
theorem dX7_fits_51 : decode cX7_fits 51 = .ok (.istore 7, 2) := by decide +kernel
theorem dX7_fits_53 : decode cX7_fits 53 = .ok (.iload 4, 2) := by decide +kernel
theorem dX7_fits_55 : decode cX7_fits 55 = .ok (.iload 7, 2) := by decide +kernel
theorem dX7_fits_57 : decode cX7_fits 57 = .ok (.ifCond .eq 7, 3) := by decide +kernel
theorem dX7_fits_60 : decode cX7_fits 60 = .ok (.iconst 1, 1) := by decide +kernel
theorem dX7_fits_61 : decode cX7_fits 61 = .ok (.goto 4, 3) := by decide +kernel
theorem dX7_fits_64 : decode cX7_fits 64 = .ok (.iconst 0, 1) := by decide +kernel
theorem dX7_fits_65 : decode cX7_fits 65 = .ok (.iadd, 1) := by decide +kernel
theorem dX7_fits_66 : decode cX7_fits 66 = .ok (.istore 4, 2) := by decide +kernel
theorem dX7_fits_68 : decode cX7_fits 68 = .ok (.iload 7, 2) := by decide +kernel
theorem dX7_fits_70 : decode cX7_fits 70 = .ok (.ifCond .eq 8, 3) := by decide +kernel
theorem dX7_fits_73 : decode cX7_fits 73 = .ok (.iload 6, 2) := by decide +kernel
theorem dX7_fits_75 : decode cX7_fits 75 = .ok (.goto 5, 3) := by decide +kernel
theorem dX7_fits_78 : decode cX7_fits 78 = .ok (.iload 5, 2) := by decide +kernel
theorem dX7_fits_80 : decode cX7_fits 80 = .ok (.istore 5, 2) := by decide +kernel
theorem dX7_fits_82 : decode cX7_fits 82 = .ok (.iinc 6 (-1), 3) := by decide +kernel
theorem dX7_fits_85 : decode cX7_fits 85 = .ok (.goto (-46), 3) := by decide +kernel
theorem dX7_fits_88 : decode cX7_fits 88 = .ok (.iload_n 2, 1) := by decide +kernel
theorem dX7_fits_89 : decode cX7_fits 89 = .ok (.ifCond .ne 8, 3) := by decide +kernel
theorem dX7_fits_92 : decode cX7_fits 92 = .ok (.iload 4, 2) := by decide +kernel
theorem dX7_fits_94 : decode cX7_fits 94 = .ok (.goto 19, 3) := by decide +kernel
theorem dX7_fits_97 : decode cX7_fits 97 = .ok (.iload 5, 2) := by decide +kernel
theorem dX7_fits_99 : decode cX7_fits 99 = .ok (.iconst (-1), 1) := by decide +kernel
theorem dX7_fits_100 : decode cX7_fits 100 = .ok (.if_icmp .ne 11, 3) := by decide +kernel
theorem dX7_fits_103 : decode cX7_fits 103 = .ok (.aload_n 0, 1) := by decide +kernel
theorem dX7_fits_104 : decode cX7_fits 104 = .ok (.iconst 2, 1) := by decide +kernel
theorem dX7_fits_105 : decode cX7_fits 105 = .ok (.invokevirtual 58, 3) := by decide +kernel
theorem dX7_fits_108 : decode cX7_fits 108 = .ok (.goto 5, 3) := by decide +kernel
theorem dX7_fits_111 : decode cX7_fits 111 = .ok (.iload 5, 2) := by decide +kernel
theorem dX7_fits_113 : decode cX7_fits 113 = .ok (.ireturn, 1) := by decide +kernel
theorem dX7_draw_0 : decode cX7_draw 0 = .ok (.aload_n 0, 1) := by decide +kernel
theorem dX7_draw_1 : decode cX7_draw 1 = .ok (.getfield 7, 3) := by decide +kernel
theorem dX7_draw_4 : decode cX7_draw 4 = .ok (.iconst 2, 1) := by decide +kernel
theorem dX7_draw_5 : decode cX7_draw 5 = .ok (.aload_n 0, 1) := by decide +kernel
theorem dX7_draw_6 : decode cX7_draw 6 = .ok (.getfield 7, 3) := by decide +kernel
theorem dX7_draw_9 : decode cX7_draw 9 = .ok (.iconst 2, 1) := by decide +kernel
theorem dX7_draw_10 : decode cX7_draw 10 = .ok (.iaload, 1) := by decide +kernel
theorem dX7_draw_11 : decode cX7_draw 11 = .ok (.ldc 212, 2) := by decide +kernel
theorem dX7_draw_13 : decode cX7_draw 13 = .ok (.imul, 1) := by decide +kernel
theorem dX7_draw_14 : decode cX7_draw 14 = .ok (.sipush 12345, 3) := by decide +kernel
theorem dX7_draw_17 : decode cX7_draw 17 = .ok (.iadd, 1) := by decide +kernel
theorem dX7_draw_18 : decode cX7_draw 18 = .ok (.iastore, 1) := by decide +kernel
theorem dX7_draw_19 : decode cX7_draw 19 = .ok (.aload_n 0, 1) := by decide +kernel
theorem dX7_draw_20 : decode cX7_draw 20 = .ok (.getfield 7, 3) := by decide +kernel
theorem dX7_draw_23 : decode cX7_draw 23 = .ok (.iconst 2, 1) := by decide +kernel
theorem dX7_draw_24 : decode cX7_draw 24 = .ok (.iaload, 1) := by decide +kernel
theorem dX7_draw_25 : decode cX7_draw 25 = .ok (.bipush 8, 2) := by decide +kernel
theorem dX7_draw_27 : decode cX7_draw 27 = .ok (.iushr, 1) := by decide +kernel
theorem dX7_draw_28 : decode cX7_draw 28 = .ok (.ireturn, 1) := by decide +kernel
theorem dX7_buildsOne_0 : decode cX7_buildsOne 0 = .ok (.aload_n 0, 1) := by decide +kernel
theorem dX7_buildsOne_1 : decode cX7_buildsOne 1 = .ok (.invokevirtual 213, 3) := by decide +kernel
theorem dX7_buildsOne_4 : decode cX7_buildsOne 4 = .ok (.iconst 1, 1) := by decide +kernel
theorem dX7_buildsOne_5 : decode cX7_buildsOne 5 = .ok (.aload_n 0, 1) := by decide +kernel
theorem dX7_buildsOne_6 : decode cX7_buildsOne 6 = .ok (.getfield 7, 3) := by decide +kernel
theorem dX7_buildsOne_9 : decode cX7_buildsOne 9 = .ok (.iconst 5, 1) := by decide +kernel
theorem dX7_buildsOne_10 : decode cX7_buildsOne 10 = .ok (.iaload, 1) := by decide +kernel
theorem dX7_buildsOne_11 : decode cX7_buildsOne 11 = .ok (.iadd, 1) := by decide +kernel
theorem dX7_buildsOne_12 : decode cX7_buildsOne 12 = .ok (.irem, 1) := by decide +kernel
theorem dX7_buildsOne_13 : decode cX7_buildsOne 13 = .ok (.istore_n 1, 1) := by decide +kernel
theorem dX7_buildsOne_14 : decode cX7_buildsOne 14 = .ok (.aload_n 0, 1) := by decide +kernel
theorem dX7_buildsOne_15 : decode cX7_buildsOne 15 = .ok (.invokevirtual 213, 3) := by decide +kernel
theorem dX7_buildsOne_18 : decode cX7_buildsOne 18 = .ok (.bipush 7, 2) := by decide +kernel
theorem dX7_buildsOne_20 : decode cX7_buildsOne 20 = .ok (.irem, 1) := by decide +kernel
theorem dX7_buildsOne_21 : decode cX7_buildsOne 21 = .ok (.istore_n 2, 1) := by decide +kernel
theorem dX7_buildsOne_22 : decode cX7_buildsOne 22 = .ok (.aload_n 0, 1) := by decide +kernel
theorem dX7_buildsOne_23 : decode cX7_buildsOne 23 = .ok (.getfield 7, 3) := by decide +kernel
theorem dX7_buildsOne_26 : decode cX7_buildsOne 26 = .ok (.iconst 5, 1) := by decide +kernel
theorem dX7_buildsOne_27 : decode cX7_buildsOne 27 = .ok (.iaload, 1) := by decide +kernel
theorem dX7_buildsOne_28 : decode cX7_buildsOne 28 = .ok (.bipush 10, 2) := by decide +kernel
theorem dX7_buildsOne_30 : decode cX7_buildsOne 30 = .ok (.if_icmp .ge 7, 3) := by decide +kernel
theorem dX7_buildsOne_33 : decode cX7_buildsOne 33 = .ok (.iconst 1, 1) := by decide +kernel
theorem dX7_buildsOne_34 : decode cX7_buildsOne 34 = .ok (.goto 4, 3) := by decide +kernel
theorem dX7_buildsOne_37 : decode cX7_buildsOne 37 = .ok (.iconst 0, 1) := by decide +kernel
theorem dX7_buildsOne_38 : decode cX7_buildsOne 38 = .ok (.istore_n 3, 1) := by decide +kernel
theorem dX7_buildsOne_39 : decode cX7_buildsOne 39 = .ok (.iload_n 3, 1) := by decide +kernel
theorem dX7_buildsOne_40 : decode cX7_buildsOne 40 = .ok (.ifCond .eq 20, 3) := by decide +kernel
theorem dX7_buildsOne_43 : decode cX7_buildsOne 43 = .ok (.aload_n 0, 1) := by decide +kernel
theorem dX7_buildsOne_44 : decode cX7_buildsOne 44 = .ok (.iload_n 1, 1) := by decide +kernel
theorem dX7_buildsOne_45 : decode cX7_buildsOne 45 = .ok (.invokevirtual 190, 3) := by decide +kernel
theorem dX7_buildsOne_48 : decode cX7_buildsOne 48 = .ok (.iconst (-1), 1) := by decide +kernel
theorem dX7_buildsOne_49 : decode cX7_buildsOne 49 = .ok (.if_icmp .ne 11, 3) := by decide +kernel
theorem dX7_buildsOne_52 : decode cX7_buildsOne 52 = .ok (.aload_n 0, 1) := by decide +kernel
theorem dX7_buildsOne_53 : decode cX7_buildsOne 53 = .ok (.bipush 10, 2) := by decide +kernel
theorem dX7_buildsOne_55 : decode cX7_buildsOne 55 = .ok (.invokevirtual 177, 3) := by decide +kernel
theorem dX7_buildsOne_58 : decode cX7_buildsOne 58 = .ok (.istore 4, 2) := by decide +kernel
theorem dX7_buildsOne_60 : decode cX7_buildsOne 60 = .ok (.iload_n 3, 1) := by decide +kernel
theorem dX7_buildsOne_61 : decode cX7_buildsOne 61 = .ok (.ifCond .eq 17, 3) := by decide +kernel
theorem dX7_buildsOne_64 : decode cX7_buildsOne 64 = .ok (.aload_n 0, 1) := by decide +kernel
theorem dX7_buildsOne_65 : decode cX7_buildsOne 65 = .ok (.bipush 10, 2) := by decide +kernel
theorem dX7_buildsOne_67 : decode cX7_buildsOne 67 = .ok (.iload_n 2, 1) := by decide +kernel
theorem dX7_buildsOne_68 : decode cX7_buildsOne 68 = .ok (.imul, 1) := by decide +kernel
theorem dX7_buildsOne_69 : decode cX7_buildsOne 69 = .ok (.iload_n 1, 1) := by decide +kernel
theorem dX7_buildsOne_70 : decode cX7_buildsOne 70 = .ok (.aload_n 0, 1) := by decide +kernel
theorem dX7_buildsOne_71 : decode cX7_buildsOne 71 = .ok (.iload_n 1, 1) := by decide +kernel
theorem dX7_buildsOne_72 : decode cX7_buildsOne 72 = .ok (.invokevirtual 190, 3) := by decide +kernel
theorem dX7_buildsOne_75 : decode cX7_buildsOne 75 = .ok (.invokevirtual 149, 3) := by decide +kernel
theorem dX7_buildsOne_78 : decode cX7_buildsOne 78 = .ok (.aload_n 0, 1) := by decide +kernel
theorem dX7_buildsOne_79 : decode cX7_buildsOne 79 = .ok (.getfield 7, 3) := by decide +kernel
theorem dX7_buildsOne_82 : decode cX7_buildsOne 82 = .ok (.iconst 0, 1) := by decide +kernel
theorem dX7_buildsOne_83 : decode cX7_buildsOne 83 = .ok (.dup2, 1) := by decide +kernel
theorem dX7_buildsOne_84 : decode cX7_buildsOne 84 = .ok (.iaload, 1) := by decide +kernel
theorem dX7_buildsOne_85 : decode cX7_buildsOne 85 = .ok (.iconst 1, 1) := by decide +kernel
theorem dX7_buildsOne_86 : decode cX7_buildsOne 86 = .ok (.iadd, 1) := by decide +kernel
theorem dX7_buildsOne_87 : decode cX7_buildsOne 87 = .ok (.iastore, 1) := by decide +kernel
theorem dX7_buildsOne_88 : decode cX7_buildsOne 88 = .ok (.iload_n 3, 1) := by decide +kernel
theorem dX7_buildsOne_89 : decode cX7_buildsOne 89 = .ok (.ireturn, 1) := by decide +kernel
theorem dX7_loose_0 : decode cX7_loose 0 = .ok (.iload_n 1, 1) := by decide +kernel
theorem dX7_loose_1 : decode cX7_loose 1 = .ok (.iconst 1, 1) := by decide +kernel
theorem dX7_loose_2 : decode cX7_loose 2 = .ok (.bipush 30, 2) := by decide +kernel
theorem dX7_loose_4 : decode cX7_loose 4 = .ok (.invokestatic 50, 3) := by decide +kernel
theorem dX7_loose_7 : decode cX7_loose 7 = .ok (.ifCond .ne 9, 3) := by decide +kernel
theorem dX7_loose_10 : decode cX7_loose 10 = .ok (.aload_n 0, 1) := by decide +kernel
theorem dX7_loose_11 : decode cX7_loose 11 = .ok (.iconst 1, 1) := by decide +kernel
theorem dX7_loose_12 : decode cX7_loose 12 = .ok (.invokevirtual 58, 3) := by decide +kernel
theorem dX7_loose_15 : decode cX7_loose 15 = .ok (.ireturn, 1) := by decide +kernel
theorem dX7_loose_16 : decode cX7_loose 16 = .ok (.aload_n 0, 1) := by decide +kernel
theorem dX7_loose_17 : decode cX7_loose 17 = .ok (.getfield 7, 3) := by decide +kernel
theorem dX7_loose_20 : decode cX7_loose 20 = .ok (.iconst 0, 1) := by decide +kernel
theorem dX7_loose_21 : decode cX7_loose 21 = .ok (.iaload, 1) := by decide +kernel
theorem dX7_loose_22 : decode cX7_loose 22 = .ok (.iload_n 1, 1) := by decide +kernel
theorem dX7_loose_23 : decode cX7_loose 23 = .ok (.iadd, 1) := by decide +kernel
theorem dX7_loose_24 : decode cX7_loose 24 = .ok (.sipush 9999, 3) := by decide +kernel
theorem dX7_loose_27 : decode cX7_loose 27 = .ok (.if_icmp .le 9, 3) := by decide +kernel
theorem dX7_loose_30 : decode cX7_loose 30 = .ok (.aload_n 0, 1) := by decide +kernel
theorem dX7_loose_31 : decode cX7_loose 31 = .ok (.iconst 3, 1) := by decide +kernel
theorem dX7_loose_32 : decode cX7_loose 32 = .ok (.invokevirtual 58, 3) := by decide +kernel
theorem dX7_loose_35 : decode cX7_loose 35 = .ok (.ireturn, 1) := by decide +kernel
theorem dX7_loose_36 : decode cX7_loose 36 = .ok (.iconst 0, 1) := by decide +kernel
theorem dX7_loose_37 : decode cX7_loose 37 = .ok (.istore_n 2, 1) := by decide +kernel
theorem dX7_loose_38 : decode cX7_loose 38 = .ok (.iconst 0, 1) := by decide +kernel
theorem dX7_loose_39 : decode cX7_loose 39 = .ok (.istore_n 3, 1) := by decide +kernel
theorem dX7_loose_40 : decode cX7_loose 40 = .ok (.iload_n 3, 1) := by decide +kernel
theorem dX7_loose_41 : decode cX7_loose 41 = .ok (.iload_n 1, 1) := by decide +kernel
theorem dX7_loose_42 : decode cX7_loose 42 = .ok (.if_icmp .ge 24, 3) := by decide +kernel
theorem dX7_loose_45 : decode cX7_loose 45 = .ok (.iload_n 2, 1) := by decide +kernel
theorem dX7_loose_46 : decode cX7_loose 46 = .ok (.aload_n 0, 1) := by decide +kernel
theorem dX7_loose_47 : decode cX7_loose 47 = .ok (.invokevirtual 216, 3) := by decide +kernel
theorem dX7_loose_50 : decode cX7_loose 50 = .ok (.ifCond .eq 7, 3) := by decide +kernel
theorem dX7_loose_53 : decode cX7_loose 53 = .ok (.iconst 1, 1) := by decide +kernel
theorem dX7_loose_54 : decode cX7_loose 54 = .ok (.goto 4, 3) := by decide +kernel
theorem dX7_loose_57 : decode cX7_loose 57 = .ok (.iconst 0, 1) := by decide +kernel
theorem dX7_loose_58 : decode cX7_loose 58 = .ok (.iadd, 1) := by decide +kernel
theorem dX7_loose_59 : decode cX7_loose 59 = .ok (.istore_n 2, 1) := by decide +kernel
theorem dX7_loose_60 : decode cX7_loose 60 = .ok (.iinc 3 1, 3) := by decide +kernel
theorem dX7_loose_63 : decode cX7_loose 63 = .ok (.goto (-23), 3) := by decide +kernel
theorem dX7_loose_66 : decode cX7_loose 66 = .ok (.iload_n 2, 1) := by decide +kernel
theorem dX7_loose_67 : decode cX7_loose 67 = .ok (.ireturn, 1) := by decide +kernel
theorem dX7_seed_0 : decode cX7_seed 0 = .ok (.aload_n 0, 1) := by decide +kernel
theorem dX7_seed_1 : decode cX7_seed 1 = .ok (.iconst 2, 1) := by decide +kernel
theorem dX7_seed_2 : decode cX7_seed 2 = .ok (.iload_n 1, 1) := by decide +kernel
theorem dX7_seed_3 : decode cX7_seed 3 = .ok (.invokevirtual 161, 3) := by decide +kernel
theorem dX7_seed_6 : decode cX7_seed 6 = .ok (.ireturn, 1) := by decide +kernel
theorem dX7_starts_0 : decode cX7_starts 0 = .ok (.aload_n 0, 1) := by decide +kernel
theorem dX7_starts_1 : decode cX7_starts 1 = .ok (.getfield 219, 3) := by decide +kernel
theorem dX7_starts_4 : decode cX7_starts 4 = .ok (.bipush 30, 2) := by decide +kernel
theorem dX7_starts_6 : decode cX7_starts 6 = .ok (.if_icmp .ge 23, 3) := by decide +kernel
theorem dX7_starts_9 : decode cX7_starts 9 = .ok (.aload_n 0, 1) := by decide +kernel
theorem dX7_starts_10 : decode cX7_starts 10 = .ok (.getfield 34, 3) := by decide +kernel
theorem dX7_starts_13 : decode cX7_starts 13 = .ok (.aload_n 0, 1) := by decide +kernel
theorem dX7_starts_14 : decode cX7_starts 14 = .ok (.getfield 219, 3) := by decide +kernel
theorem dX7_starts_17 : decode cX7_starts 17 = .ok (.iload_n 1, 1) := by decide +kernel
theorem dX7_starts_18 : decode cX7_starts 18 = .ok (.iastore, 1) := by decide +kernel
theorem dX7_starts_19 : decode cX7_starts 19 = .ok (.aload_n 0, 1) := by decide +kernel
theorem dX7_starts_20 : decode cX7_starts 20 = .ok (.dup, 1) := by decide +kernel
theorem dX7_starts_21 : decode cX7_starts 21 = .ok (.getfield 219, 3) := by decide +kernel
theorem dX7_starts_24 : decode cX7_starts 24 = .ok (.iconst 1, 1) := by decide +kernel
theorem dX7_starts_25 : decode cX7_starts 25 = .ok (.iadd, 1) := by decide +kernel
theorem dX7_starts_26 : decode cX7_starts 26 = .ok (.putfield 219, 3) := by decide +kernel
theorem dX7_starts_29 : decode cX7_starts 29 = .ok (.return_, 1) := by decide +kernel
theorem dX7_above_0 : decode cX7_above 0 = .ok (.iload_n 0, 1) := by decide +kernel
theorem dX7_above_1 : decode cX7_above 1 = .ok (.iconst 4, 1) := by decide +kernel
theorem dX7_above_2 : decode cX7_above 2 = .ok (.if_icmp .ne 7, 3) := by decide +kernel
theorem dX7_above_5 : decode cX7_above 5 = .ok (.iconst 1, 1) := by decide +kernel
theorem dX7_above_6 : decode cX7_above 6 = .ok (.goto 13, 3) := by decide +kernel
theorem dX7_above_9 : decode cX7_above 9 = .ok (.iload_n 0, 1) := by decide +kernel
theorem dX7_above_10 : decode cX7_above 10 = .ok (.iconst 5, 1) := by decide +kernel
theorem dX7_above_11 : decode cX7_above 11 = .ok (.if_icmp .ne 7, 3) := by decide +kernel
theorem dX7_above_14 : decode cX7_above 14 = .ok (.iconst 2, 1) := by decide +kernel
theorem dX7_above_15 : decode cX7_above 15 = .ok (.goto 4, 3) := by decide +kernel
theorem dX7_above_18 : decode cX7_above 18 = .ok (.iconst 0, 1) := by decide +kernel
theorem dX7_above_19 : decode cX7_above 19 = .ok (.ireturn, 1) := by decide +kernel
theorem dX7_kindNow_0 : decode cX7_kindNow 0 = .ok (.aload_n 0, 1) := by decide +kernel
theorem dX7_kindNow_1 : decode cX7_kindNow 1 = .ok (.aload_n 0, 1) := by decide +kernel
theorem dX7_kindNow_2 : decode cX7_kindNow 2 = .ok (.getfield 222, 3) := by decide +kernel
theorem dX7_kindNow_5 : decode cX7_kindNow 5 = .ok (.iconst 0, 1) := by decide +kernel
theorem dX7_kindNow_6 : decode cX7_kindNow 6 = .ok (.invokevirtual 54, 3) := by decide +kernel
theorem dX7_kindNow_9 : decode cX7_kindNow 9 = .ok (.ireturn, 1) := by decide +kernel
theorem dX7_mNow_0 : decode cX7_mNow 0 = .ok (.aload_n 0, 1) := by decide +kernel
theorem dX7_mNow_1 : decode cX7_mNow 1 = .ok (.aload_n 0, 1) := by decide +kernel
theorem dX7_mNow_2 : decode cX7_mNow 2 = .ok (.getfield 222, 3) := by decide +kernel
theorem dX7_mNow_5 : decode cX7_mNow 5 = .ok (.iconst 1, 1) := by decide +kernel
theorem dX7_mNow_6 : decode cX7_mNow 6 = .ok (.invokevirtual 54, 3) := by decide +kernel
theorem dX7_mNow_9 : decode cX7_mNow 9 = .ok (.ireturn, 1) := by decide +kernel
theorem dX7_ringsAs_0 : decode cX7_ringsAs 0 = .ok (.iload_n 1, 1) := by decide +kernel
theorem dX7_ringsAs_1 : decode cX7_ringsAs 1 = .ok (.tableswitch 101 0 6 #[43, 56, 101, 101, 74, 101, 92], 43) := by decide +kernel
theorem dX7_ringsAs_44 : decode cX7_ringsAs 44 = .ok (.aload_n 0, 1) := by decide +kernel
theorem dX7_ringsAs_45 : decode cX7_ringsAs 45 = .ok (.bipush 10, 2) := by decide +kernel
theorem dX7_ringsAs_47 : decode cX7_ringsAs 47 = .ok (.invokevirtual 225, 3) := by decide +kernel
theorem dX7_ringsAs_50 : decode cX7_ringsAs 50 = .ok (.iload_n 2, 1) := by decide +kernel
theorem dX7_ringsAs_51 : decode cX7_ringsAs 51 = .ok (.aload_n 0, 1) := by decide +kernel
theorem dX7_ringsAs_52 : decode cX7_ringsAs 52 = .ok (.getfield 222, 3) := by decide +kernel
theorem dX7_ringsAs_55 : decode cX7_ringsAs 55 = .ok (.iadd, 1) := by decide +kernel
theorem dX7_ringsAs_56 : decode cX7_ringsAs 56 = .ok (.ireturn, 1) := by decide +kernel
theorem dX7_ringsAs_57 : decode cX7_ringsAs 57 = .ok (.aload_n 0, 1) := by decide +kernel
theorem dX7_ringsAs_58 : decode cX7_ringsAs 58 = .ok (.bipush 20, 2) := by decide +kernel
theorem dX7_ringsAs_60 : decode cX7_ringsAs 60 = .ok (.invokevirtual 225, 3) := by decide +kernel
theorem dX7_ringsAs_63 : decode cX7_ringsAs 63 = .ok (.aload_n 0, 1) := by decide +kernel
theorem dX7_ringsAs_64 : decode cX7_ringsAs 64 = .ok (.iconst 1, 1) := by decide +kernel
theorem dX7_ringsAs_65 : decode cX7_ringsAs 65 = .ok (.invokestatic 164, 3) := by decide +kernel
theorem dX7_ringsAs_68 : decode cX7_ringsAs 68 = .ok (.iload_n 2, 1) := by decide +kernel
theorem dX7_ringsAs_69 : decode cX7_ringsAs 69 = .ok (.invokevirtual 229, 3) := by decide +kernel
theorem dX7_ringsAs_72 : decode cX7_ringsAs 72 = .ok (.iconst 4, 1) := by decide +kernel
theorem dX7_ringsAs_73 : decode cX7_ringsAs 73 = .ok (.isub, 1) := by decide +kernel
theorem dX7_ringsAs_74 : decode cX7_ringsAs 74 = .ok (.ireturn, 1) := by decide +kernel
theorem dX7_ringsAs_75 : decode cX7_ringsAs 75 = .ok (.aload_n 0, 1) := by decide +kernel
theorem dX7_ringsAs_76 : decode cX7_ringsAs 76 = .ok (.bipush 50, 2) := by decide +kernel
theorem dX7_ringsAs_78 : decode cX7_ringsAs 78 = .ok (.invokevirtual 225, 3) := by decide +kernel
theorem dX7_ringsAs_81 : decode cX7_ringsAs 81 = .ok (.aload_n 0, 1) := by decide +kernel
theorem dX7_ringsAs_82 : decode cX7_ringsAs 82 = .ok (.iconst 4, 1) := by decide +kernel
theorem dX7_ringsAs_83 : decode cX7_ringsAs 83 = .ok (.invokestatic 164, 3) := by decide +kernel
theorem dX7_ringsAs_86 : decode cX7_ringsAs 86 = .ok (.iload_n 2, 1) := by decide +kernel
theorem dX7_ringsAs_87 : decode cX7_ringsAs 87 = .ok (.invokevirtual 229, 3) := by decide +kernel
theorem dX7_ringsAs_90 : decode cX7_ringsAs 90 = .ok (.iconst 3, 1) := by decide +kernel
theorem dX7_ringsAs_91 : decode cX7_ringsAs 91 = .ok (.imul, 1) := by decide +kernel
theorem dX7_ringsAs_92 : decode cX7_ringsAs 92 = .ok (.ireturn, 1) := by decide +kernel
theorem dX7_ringsAs_93 : decode cX7_ringsAs 93 = .ok (.aload_n 0, 1) := by decide +kernel
theorem dX7_ringsAs_94 : decode cX7_ringsAs 94 = .ok (.bipush 70, 2) := by decide +kernel
theorem dX7_ringsAs_96 : decode cX7_ringsAs 96 = .ok (.invokevirtual 225, 3) := by decide +kernel
theorem dX7_ringsAs_99 : decode cX7_ringsAs 99 = .ok (.bipush 9, 2) := by decide +kernel
theorem dX7_ringsAs_101 : decode cX7_ringsAs 101 = .ok (.ireturn, 1) := by decide +kernel
theorem dX7_ringsAs_102 : decode cX7_ringsAs 102 = .ok (.aload_n 0, 1) := by decide +kernel
theorem dX7_ringsAs_103 : decode cX7_ringsAs 103 = .ok (.iload_n 1, 1) := by decide +kernel
theorem dX7_ringsAs_104 : decode cX7_ringsAs 104 = .ok (.invokestatic 164, 3) := by decide +kernel
theorem dX7_ringsAs_107 : decode cX7_ringsAs 107 = .ok (.iload_n 2, 1) := by decide +kernel
theorem dX7_ringsAs_108 : decode cX7_ringsAs 108 = .ok (.invokevirtual 229, 3) := by decide +kernel
theorem dX7_ringsAs_111 : decode cX7_ringsAs 111 = .ok (.ireturn, 1) := by decide +kernel
theorem dX7_answersAs_0 : decode cX7_answersAs 0 = .ok (.iload_n 1, 1) := by decide +kernel
theorem dX7_answersAs_1 : decode cX7_answersAs 1 = .ok (.tableswitch 119 0 6 #[43, 119, 61, 119, 119, 79, 97], 43) := by decide +kernel
theorem dX7_answersAs_44 : decode cX7_answersAs 44 = .ok (.aload_n 0, 1) := by decide +kernel
theorem dX7_answersAs_45 : decode cX7_answersAs 45 = .ok (.bipush 11, 2) := by decide +kernel
theorem dX7_answersAs_47 : decode cX7_answersAs 47 = .ok (.invokevirtual 225, 3) := by decide +kernel
theorem dX7_answersAs_50 : decode cX7_answersAs 50 = .ok (.aload_n 0, 1) := by decide +kernel
theorem dX7_answersAs_51 : decode cX7_answersAs 51 = .ok (.aload_n 0, 1) := by decide +kernel
theorem dX7_answersAs_52 : decode cX7_answersAs 52 = .ok (.invokevirtual 232, 3) := by decide +kernel
theorem dX7_answersAs_55 : decode cX7_answersAs 55 = .ok (.iload_n 2, 1) := by decide +kernel
theorem dX7_answersAs_56 : decode cX7_answersAs 56 = .ok (.invokevirtual 229, 3) := by decide +kernel
theorem dX7_answersAs_59 : decode cX7_answersAs 59 = .ok (.iconst 2, 1) := by decide +kernel
theorem dX7_answersAs_60 : decode cX7_answersAs 60 = .ok (.imul, 1) := by decide +kernel
theorem dX7_answersAs_61 : decode cX7_answersAs 61 = .ok (.ireturn, 1) := by decide +kernel
theorem dX7_answersAs_62 : decode cX7_answersAs 62 = .ok (.aload_n 0, 1) := by decide +kernel
theorem dX7_answersAs_63 : decode cX7_answersAs 63 = .ok (.bipush 30, 2) := by decide +kernel
theorem dX7_answersAs_65 : decode cX7_answersAs 65 = .ok (.invokevirtual 225, 3) := by decide +kernel
theorem dX7_answersAs_68 : decode cX7_answersAs 68 = .ok (.iconst 0, 1) := by decide +kernel
theorem dX7_answersAs_69 : decode cX7_answersAs 69 = .ok (.aload_n 0, 1) := by decide +kernel
theorem dX7_answersAs_70 : decode cX7_answersAs 70 = .ok (.iconst 2, 1) := by decide +kernel
theorem dX7_answersAs_71 : decode cX7_answersAs 71 = .ok (.invokestatic 164, 3) := by decide +kernel
theorem dX7_answersAs_74 : decode cX7_answersAs 74 = .ok (.iload_n 2, 1) := by decide +kernel
theorem dX7_answersAs_75 : decode cX7_answersAs 75 = .ok (.invokevirtual 235, 3) := by decide +kernel
theorem dX7_answersAs_78 : decode cX7_answersAs 78 = .ok (.isub, 1) := by decide +kernel
theorem dX7_answersAs_79 : decode cX7_answersAs 79 = .ok (.ireturn, 1) := by decide +kernel
theorem dX7_answersAs_80 : decode cX7_answersAs 80 = .ok (.aload_n 0, 1) := by decide +kernel
theorem dX7_answersAs_81 : decode cX7_answersAs 81 = .ok (.bipush 60, 2) := by decide +kernel
theorem dX7_answersAs_83 : decode cX7_answersAs 83 = .ok (.invokevirtual 225, 3) := by decide +kernel
theorem dX7_answersAs_86 : decode cX7_answersAs 86 = .ok (.aload_n 0, 1) := by decide +kernel
theorem dX7_answersAs_87 : decode cX7_answersAs 87 = .ok (.iconst 5, 1) := by decide +kernel
theorem dX7_answersAs_88 : decode cX7_answersAs 88 = .ok (.invokestatic 164, 3) := by decide +kernel
theorem dX7_answersAs_91 : decode cX7_answersAs 91 = .ok (.iload_n 2, 1) := by decide +kernel
theorem dX7_answersAs_92 : decode cX7_answersAs 92 = .ok (.iconst 1, 1) := by decide +kernel
theorem dX7_answersAs_93 : decode cX7_answersAs 93 = .ok (.iadd, 1) := by decide +kernel
theorem dX7_answersAs_94 : decode cX7_answersAs 94 = .ok (.invokevirtual 235, 3) := by decide +kernel
theorem dX7_answersAs_97 : decode cX7_answersAs 97 = .ok (.ireturn, 1) := by decide +kernel
theorem dX7_answersAs_98 : decode cX7_answersAs 98 = .ok (.aload_n 0, 1) := by decide +kernel
theorem dX7_answersAs_99 : decode cX7_answersAs 99 = .ok (.bipush 71, 2) := by decide +kernel
theorem dX7_answersAs_101 : decode cX7_answersAs 101 = .ok (.invokevirtual 225, 3) := by decide +kernel
theorem dX7_answersAs_104 : decode cX7_answersAs 104 = .ok (.aload_n 0, 1) := by decide +kernel
theorem dX7_answersAs_105 : decode cX7_answersAs 105 = .ok (.bipush 6, 2) := by decide +kernel
theorem dX7_answersAs_107 : decode cX7_answersAs 107 = .ok (.invokestatic 164, 3) := by decide +kernel
theorem dX7_answersAs_110 : decode cX7_answersAs 110 = .ok (.iload_n 2, 1) := by decide +kernel
theorem dX7_answersAs_111 : decode cX7_answersAs 111 = .ok (.invokevirtual 235, 3) := by decide +kernel
theorem dX7_answersAs_114 : decode cX7_answersAs 114 = .ok (.aload_n 0, 1) := by decide +kernel
theorem dX7_answersAs_115 : decode cX7_answersAs 115 = .ok (.invokevirtual 238, 3) := by decide +kernel
theorem dX7_answersAs_118 : decode cX7_answersAs 118 = .ok (.iadd, 1) := by decide +kernel
theorem dX7_answersAs_119 : decode cX7_answersAs 119 = .ok (.ireturn, 1) := by decide +kernel
theorem dX7_answersAs_120 : decode cX7_answersAs 120 = .ok (.aload_n 0, 1) := by decide +kernel
theorem dX7_answersAs_121 : decode cX7_answersAs 121 = .ok (.iload_n 1, 1) := by decide +kernel
theorem dX7_answersAs_122 : decode cX7_answersAs 122 = .ok (.invokestatic 164, 3) := by decide +kernel
theorem dX7_answersAs_125 : decode cX7_answersAs 125 = .ok (.iload_n 2, 1) := by decide +kernel
theorem dX7_answersAs_126 : decode cX7_answersAs 126 = .ok (.invokevirtual 235, 3) := by decide +kernel
theorem dX7_answersAs_129 : decode cX7_answersAs 129 = .ok (.ireturn, 1) := by decide +kernel
theorem dX7_waitsAs_0 : decode cX7_waitsAs 0 = .ok (.iload_n 1, 1) := by decide +kernel
theorem dX7_waitsAs_1 : decode cX7_waitsAs 1 = .ok (.tableswitch 95 0 4 #[35, 95, 95, 56, 74], 35) := by decide +kernel
theorem dX7_waitsAs_36 : decode cX7_waitsAs 36 = .ok (.aload_n 0, 1) := by decide +kernel
theorem dX7_waitsAs_37 : decode cX7_waitsAs 37 = .ok (.bipush 12, 2) := by decide +kernel
theorem dX7_waitsAs_39 : decode cX7_waitsAs 39 = .ok (.invokevirtual 225, 3) := by decide +kernel
theorem dX7_waitsAs_42 : decode cX7_waitsAs 42 = .ok (.aload_n 0, 1) := by decide +kernel
theorem dX7_waitsAs_43 : decode cX7_waitsAs 43 = .ok (.aload_n 0, 1) := by decide +kernel
theorem dX7_waitsAs_44 : decode cX7_waitsAs 44 = .ok (.invokevirtual 232, 3) := by decide +kernel
theorem dX7_waitsAs_47 : decode cX7_waitsAs 47 = .ok (.iload_n 2, 1) := by decide +kernel
theorem dX7_waitsAs_48 : decode cX7_waitsAs 48 = .ok (.invokevirtual 235, 3) := by decide +kernel
theorem dX7_waitsAs_51 : decode cX7_waitsAs 51 = .ok (.aload_n 0, 1) := by decide +kernel
theorem dX7_waitsAs_52 : decode cX7_waitsAs 52 = .ok (.invokevirtual 238, 3) := by decide +kernel
theorem dX7_waitsAs_55 : decode cX7_waitsAs 55 = .ok (.isub, 1) := by decide +kernel
theorem dX7_waitsAs_56 : decode cX7_waitsAs 56 = .ok (.ireturn, 1) := by decide +kernel
theorem dX7_waitsAs_57 : decode cX7_waitsAs 57 = .ok (.aload_n 0, 1) := by decide +kernel
theorem dX7_waitsAs_58 : decode cX7_waitsAs 58 = .ok (.bipush 40, 2) := by decide +kernel
theorem dX7_waitsAs_60 : decode cX7_waitsAs 60 = .ok (.invokevirtual 225, 3) := by decide +kernel
theorem dX7_waitsAs_63 : decode cX7_waitsAs 63 = .ok (.aload_n 0, 1) := by decide +kernel
theorem dX7_waitsAs_64 : decode cX7_waitsAs 64 = .ok (.iconst 3, 1) := by decide +kernel
theorem dX7_waitsAs_65 : decode cX7_waitsAs 65 = .ok (.invokestatic 164, 3) := by decide +kernel
theorem dX7_waitsAs_68 : decode cX7_waitsAs 68 = .ok (.iload_n 2, 1) := by decide +kernel
theorem dX7_waitsAs_69 : decode cX7_waitsAs 69 = .ok (.iconst 2, 1) := by decide +kernel
theorem dX7_waitsAs_70 : decode cX7_waitsAs 70 = .ok (.idiv, 1) := by decide +kernel
theorem dX7_waitsAs_71 : decode cX7_waitsAs 71 = .ok (.invokevirtual 241, 3) := by decide +kernel
theorem dX7_waitsAs_74 : decode cX7_waitsAs 74 = .ok (.ireturn, 1) := by decide +kernel
theorem dX7_waitsAs_75 : decode cX7_waitsAs 75 = .ok (.aload_n 0, 1) := by decide +kernel
theorem dX7_waitsAs_76 : decode cX7_waitsAs 76 = .ok (.bipush 51, 2) := by decide +kernel
theorem dX7_waitsAs_78 : decode cX7_waitsAs 78 = .ok (.invokevirtual 225, 3) := by decide +kernel
theorem dX7_waitsAs_81 : decode cX7_waitsAs 81 = .ok (.aload_n 0, 1) := by decide +kernel
theorem dX7_waitsAs_82 : decode cX7_waitsAs 82 = .ok (.iconst 4, 1) := by decide +kernel
theorem dX7_waitsAs_83 : decode cX7_waitsAs 83 = .ok (.invokestatic 164, 3) := by decide +kernel
theorem dX7_waitsAs_86 : decode cX7_waitsAs 86 = .ok (.iload_n 2, 1) := by decide +kernel
theorem dX7_waitsAs_87 : decode cX7_waitsAs 87 = .ok (.invokevirtual 241, 3) := by decide +kernel
theorem dX7_waitsAs_90 : decode cX7_waitsAs 90 = .ok (.aload_n 0, 1) := by decide +kernel
theorem dX7_waitsAs_91 : decode cX7_waitsAs 91 = .ok (.getfield 222, 3) := by decide +kernel
theorem dX7_waitsAs_94 : decode cX7_waitsAs 94 = .ok (.ixor, 1) := by decide +kernel
theorem dX7_waitsAs_95 : decode cX7_waitsAs 95 = .ok (.ireturn, 1) := by decide +kernel
theorem dX7_waitsAs_96 : decode cX7_waitsAs 96 = .ok (.aload_n 0, 1) := by decide +kernel
theorem dX7_waitsAs_97 : decode cX7_waitsAs 97 = .ok (.iload_n 1, 1) := by decide +kernel
theorem dX7_waitsAs_98 : decode cX7_waitsAs 98 = .ok (.invokestatic 164, 3) := by decide +kernel
theorem dX7_waitsAs_101 : decode cX7_waitsAs 101 = .ok (.iload_n 2, 1) := by decide +kernel
theorem dX7_waitsAs_102 : decode cX7_waitsAs 102 = .ok (.invokevirtual 241, 3) := by decide +kernel
theorem dX7_waitsAs_105 : decode cX7_waitsAs 105 = .ok (.ireturn, 1) := by decide +kernel
theorem dX7_partsAs_0 : decode cX7_partsAs 0 = .ok (.iload_n 1, 1) := by decide +kernel
theorem dX7_partsAs_1 : decode cX7_partsAs 1 = .ok (.lookupswitch 119 #[(0, 27), (1, 78)], 27) := by decide +kernel
theorem dX7_partsAs_28 : decode cX7_partsAs 28 = .ok (.aload_n 0, 1) := by decide +kernel
theorem dX7_partsAs_29 : decode cX7_partsAs 29 = .ok (.bipush 13, 2) := by decide +kernel
theorem dX7_partsAs_31 : decode cX7_partsAs 31 = .ok (.invokevirtual 225, 3) := by decide +kernel
theorem dX7_partsAs_34 : decode cX7_partsAs 34 = .ok (.aload_n 0, 1) := by decide +kernel
theorem dX7_partsAs_35 : decode cX7_partsAs 35 = .ok (.invokevirtual 238, 3) := by decide +kernel
theorem dX7_partsAs_38 : decode cX7_partsAs 38 = .ok (.aload_n 0, 1) := by decide +kernel
theorem dX7_partsAs_39 : decode cX7_partsAs 39 = .ok (.getfield 222, 3) := by decide +kernel
theorem dX7_partsAs_42 : decode cX7_partsAs 42 = .ok (.isub, 1) := by decide +kernel
theorem dX7_partsAs_43 : decode cX7_partsAs 43 = .ok (.istore_n 3, 1) := by decide +kernel
theorem dX7_partsAs_44 : decode cX7_partsAs 44 = .ok (.aload_n 0, 1) := by decide +kernel
theorem dX7_partsAs_45 : decode cX7_partsAs 45 = .ok (.iload_n 3, 1) := by decide +kernel
theorem dX7_partsAs_46 : decode cX7_partsAs 46 = .ok (.ifCond .ne 7, 3) := by decide +kernel
theorem dX7_partsAs_49 : decode cX7_partsAs 49 = .ok (.iconst 1, 1) := by decide +kernel
theorem dX7_partsAs_50 : decode cX7_partsAs 50 = .ok (.goto 4, 3) := by decide +kernel
theorem dX7_partsAs_53 : decode cX7_partsAs 53 = .ok (.iconst 0, 1) := by decide +kernel
theorem dX7_partsAs_54 : decode cX7_partsAs 54 = .ok (.putfield 244, 3) := by decide +kernel
theorem dX7_partsAs_57 : decode cX7_partsAs 57 = .ok (.iload_n 3, 1) := by decide +kernel
theorem dX7_partsAs_58 : decode cX7_partsAs 58 = .ok (.ifCond .ne 7, 3) := by decide +kernel
theorem dX7_partsAs_61 : decode cX7_partsAs 61 = .ok (.iconst 0, 1) := by decide +kernel
theorem dX7_partsAs_62 : decode cX7_partsAs 62 = .ok (.goto 16, 3) := by decide +kernel
theorem dX7_partsAs_65 : decode cX7_partsAs 65 = .ok (.iload_n 3, 1) := by decide +kernel
theorem dX7_partsAs_66 : decode cX7_partsAs 66 = .ok (.iconst (-1), 1) := by decide +kernel
theorem dX7_partsAs_67 : decode cX7_partsAs 67 = .ok (.if_icmp .ne 8, 3) := by decide +kernel
theorem dX7_partsAs_70 : decode cX7_partsAs 70 = .ok (.iload_n 2, 1) := by decide +kernel
theorem dX7_partsAs_71 : decode cX7_partsAs 71 = .ok (.ineg, 1) := by decide +kernel
theorem dX7_partsAs_72 : decode cX7_partsAs 72 = .ok (.goto 6, 3) := by decide +kernel
theorem dX7_partsAs_75 : decode cX7_partsAs 75 = .ok (.iload_n 2, 1) := by decide +kernel
theorem dX7_partsAs_76 : decode cX7_partsAs 76 = .ok (.iload_n 3, 1) := by decide +kernel
theorem dX7_partsAs_77 : decode cX7_partsAs 77 = .ok (.idiv, 1) := by decide +kernel
theorem dX7_partsAs_78 : decode cX7_partsAs 78 = .ok (.ireturn, 1) := by decide +kernel
theorem dX7_partsAs_79 : decode cX7_partsAs 79 = .ok (.aload_n 0, 1) := by decide +kernel
theorem dX7_partsAs_80 : decode cX7_partsAs 80 = .ok (.bipush 21, 2) := by decide +kernel
theorem dX7_partsAs_82 : decode cX7_partsAs 82 = .ok (.invokevirtual 225, 3) := by decide +kernel
theorem dX7_partsAs_85 : decode cX7_partsAs 85 = .ok (.aload_n 0, 1) := by decide +kernel
theorem dX7_partsAs_86 : decode cX7_partsAs 86 = .ok (.iconst 1, 1) := by decide +kernel
theorem dX7_partsAs_87 : decode cX7_partsAs 87 = .ok (.invokestatic 164, 3) := by decide +kernel
theorem dX7_partsAs_90 : decode cX7_partsAs 90 = .ok (.iload_n 2, 1) := by decide +kernel
theorem dX7_partsAs_91 : decode cX7_partsAs 91 = .ok (.invokevirtual 248, 3) := by decide +kernel
theorem dX7_partsAs_94 : decode cX7_partsAs 94 = .ok (.istore 4, 2) := by decide +kernel
theorem dX7_partsAs_96 : decode cX7_partsAs 96 = .ok (.aload_n 0, 1) := by decide +kernel
theorem dX7_partsAs_97 : decode cX7_partsAs 97 = .ok (.getfield 244, 3) := by decide +kernel
theorem dX7_partsAs_100 : decode cX7_partsAs 100 = .ok (.ifCond .eq 7, 3) := by decide +kernel
theorem dX7_partsAs_103 : decode cX7_partsAs 103 = .ok (.iconst 0, 1) := by decide +kernel
theorem dX7_partsAs_104 : decode cX7_partsAs 104 = .ok (.goto 15, 3) := by decide +kernel
theorem dX7_partsAs_107 : decode cX7_partsAs 107 = .ok (.iload 4, 2) := by decide +kernel
theorem dX7_partsAs_109 : decode cX7_partsAs 109 = .ok (.aload_n 0, 1) := by decide +kernel
theorem dX7_partsAs_110 : decode cX7_partsAs 110 = .ok (.aload_n 0, 1) := by decide +kernel
theorem dX7_partsAs_111 : decode cX7_partsAs 111 = .ok (.invokevirtual 232, 3) := by decide +kernel
theorem dX7_partsAs_114 : decode cX7_partsAs 114 = .ok (.iconst 1, 1) := by decide +kernel
theorem dX7_partsAs_115 : decode cX7_partsAs 115 = .ok (.invokevirtual 235, 3) := by decide +kernel
theorem dX7_partsAs_118 : decode cX7_partsAs 118 = .ok (.iadd, 1) := by decide +kernel
theorem dX7_partsAs_119 : decode cX7_partsAs 119 = .ok (.ireturn, 1) := by decide +kernel
theorem dX7_partsAs_120 : decode cX7_partsAs 120 = .ok (.aload_n 0, 1) := by decide +kernel
theorem dX7_partsAs_121 : decode cX7_partsAs 121 = .ok (.iload_n 1, 1) := by decide +kernel
theorem dX7_partsAs_122 : decode cX7_partsAs 122 = .ok (.invokestatic 164, 3) := by decide +kernel
theorem dX7_partsAs_125 : decode cX7_partsAs 125 = .ok (.iload_n 2, 1) := by decide +kernel
theorem dX7_partsAs_126 : decode cX7_partsAs 126 = .ok (.invokevirtual 248, 3) := by decide +kernel
theorem dX7_partsAs_129 : decode cX7_partsAs 129 = .ok (.ireturn, 1) := by decide +kernel
theorem dX7_voice_0 : decode cX7_voice 0 = .ok (.aload_n 0, 1) := by decide +kernel
theorem dX7_voice_1 : decode cX7_voice 1 = .ok (.iload_n 1, 1) := by decide +kernel
theorem dX7_voice_2 : decode cX7_voice 2 = .ok (.invokevirtual 152, 3) := by decide +kernel
theorem dX7_voice_5 : decode cX7_voice 5 = .ok (.ifCond .eq 12, 3) := by decide +kernel
theorem dX7_voice_8 : decode cX7_voice 8 = .ok (.iload_n 2, 1) := by decide +kernel
theorem dX7_voice_9 : decode cX7_voice 9 = .ok (.iconst 0, 1) := by decide +kernel
theorem dX7_voice_10 : decode cX7_voice 10 = .ok (.iconst 3, 1) := by decide +kernel
theorem dX7_voice_11 : decode cX7_voice 11 = .ok (.invokestatic 50, 3) := by decide +kernel
theorem dX7_voice_14 : decode cX7_voice 14 = .ok (.ifCond .ne 9, 3) := by decide +kernel
theorem dX7_voice_17 : decode cX7_voice 17 = .ok (.aload_n 0, 1) := by decide +kernel
theorem dX7_voice_18 : decode cX7_voice 18 = .ok (.iconst 1, 1) := by decide +kernel
theorem dX7_voice_19 : decode cX7_voice 19 = .ok (.invokevirtual 58, 3) := by decide +kernel
theorem dX7_voice_22 : decode cX7_voice 22 = .ok (.ireturn, 1) := by decide +kernel
theorem dX7_voice_23 : decode cX7_voice 23 = .ok (.aload_n 0, 1) := by decide +kernel
theorem dX7_voice_24 : decode cX7_voice 24 = .ok (.iconst 0, 1) := by decide +kernel
theorem dX7_voice_25 : decode cX7_voice 25 = .ok (.putfield 219, 3) := by decide +kernel
theorem dX7_voice_28 : decode cX7_voice 28 = .ok (.aload_n 0, 1) := by decide +kernel
theorem dX7_voice_29 : decode cX7_voice 29 = .ok (.iload_n 1, 1) := by decide +kernel
theorem dX7_voice_30 : decode cX7_voice 30 = .ok (.putfield 222, 3) := by decide +kernel
theorem dX7_voice_33 : decode cX7_voice 33 = .ok (.aload_n 0, 1) := by decide +kernel
theorem dX7_voice_34 : decode cX7_voice 34 = .ok (.iconst 0, 1) := by decide +kernel
theorem dX7_voice_35 : decode cX7_voice 35 = .ok (.putfield 244, 3) := by decide +kernel
theorem dX7_voice_38 : decode cX7_voice 38 = .ok (.aload_n 0, 1) := by decide +kernel
theorem dX7_voice_39 : decode cX7_voice 39 = .ok (.invokevirtual 232, 3) := by decide +kernel
theorem dX7_voice_42 : decode cX7_voice 42 = .ok (.istore 4, 2) := by decide +kernel
theorem dX7_voice_44 : decode cX7_voice 44 = .ok (.iload_n 2, 1) := by decide +kernel
theorem dX7_voice_45 : decode cX7_voice 45 = .ok (.ifCond .ne 13, 3) := by decide +kernel
theorem dX7_voice_48 : decode cX7_voice 48 = .ok (.aload_n 0, 1) := by decide +kernel
theorem dX7_voice_49 : decode cX7_voice 49 = .ok (.iload 4, 2) := by decide +kernel
theorem dX7_voice_51 : decode cX7_voice 51 = .ok (.iload_n 3, 1) := by decide +kernel
theorem dX7_voice_52 : decode cX7_voice 52 = .ok (.invokevirtual 229, 3) := by decide +kernel
theorem dX7_voice_55 : decode cX7_voice 55 = .ok (.goto 40, 3) := by decide +kernel
theorem dX7_voice_58 : decode cX7_voice 58 = .ok (.iload_n 2, 1) := by decide +kernel
theorem dX7_voice_59 : decode cX7_voice 59 = .ok (.iconst 1, 1) := by decide +kernel
theorem dX7_voice_60 : decode cX7_voice 60 = .ok (.if_icmp .ne 13, 3) := by decide +kernel
theorem dX7_voice_63 : decode cX7_voice 63 = .ok (.aload_n 0, 1) := by decide +kernel
theorem dX7_voice_64 : decode cX7_voice 64 = .ok (.iload 4, 2) := by decide +kernel
theorem dX7_voice_66 : decode cX7_voice 66 = .ok (.iload_n 3, 1) := by decide +kernel
theorem dX7_voice_67 : decode cX7_voice 67 = .ok (.invokevirtual 235, 3) := by decide +kernel
theorem dX7_voice_70 : decode cX7_voice 70 = .ok (.goto 25, 3) := by decide +kernel
theorem dX7_voice_73 : decode cX7_voice 73 = .ok (.iload_n 2, 1) := by decide +kernel
theorem dX7_voice_74 : decode cX7_voice 74 = .ok (.iconst 2, 1) := by decide +kernel
theorem dX7_voice_75 : decode cX7_voice 75 = .ok (.if_icmp .ne 13, 3) := by decide +kernel
theorem dX7_voice_78 : decode cX7_voice 78 = .ok (.aload_n 0, 1) := by decide +kernel
theorem dX7_voice_79 : decode cX7_voice 79 = .ok (.iload 4, 2) := by decide +kernel
theorem dX7_voice_81 : decode cX7_voice 81 = .ok (.iload_n 3, 1) := by decide +kernel
theorem dX7_voice_82 : decode cX7_voice 82 = .ok (.invokevirtual 241, 3) := by decide +kernel
theorem dX7_voice_85 : decode cX7_voice 85 = .ok (.goto 10, 3) := by decide +kernel
theorem dX7_voice_88 : decode cX7_voice 88 = .ok (.aload_n 0, 1) := by decide +kernel
theorem dX7_voice_89 : decode cX7_voice 89 = .ok (.iload 4, 2) := by decide +kernel
theorem dX7_voice_91 : decode cX7_voice 91 = .ok (.iload_n 3, 1) := by decide +kernel
theorem dX7_voice_92 : decode cX7_voice 92 = .ok (.invokevirtual 248, 3) := by decide +kernel
theorem dX7_voice_95 : decode cX7_voice 95 = .ok (.istore 5, 2) := by decide +kernel
theorem dX7_voice_97 : decode cX7_voice 97 = .ok (.aload_n 0, 1) := by decide +kernel
theorem dX7_voice_98 : decode cX7_voice 98 = .ok (.getfield 244, 3) := by decide +kernel
theorem dX7_voice_101 : decode cX7_voice 101 = .ok (.ifCond .eq 12, 3) := by decide +kernel
theorem dX7_voice_104 : decode cX7_voice 104 = .ok (.aload_n 0, 1) := by decide +kernel
theorem dX7_voice_105 : decode cX7_voice 105 = .ok (.bipush 6, 2) := by decide +kernel
theorem dX7_voice_107 : decode cX7_voice 107 = .ok (.invokevirtual 58, 3) := by decide +kernel
theorem dX7_voice_110 : decode cX7_voice 110 = .ok (.goto 5, 3) := by decide +kernel
theorem dX7_voice_113 : decode cX7_voice 113 = .ok (.iload 5, 2) := by decide +kernel
theorem dX7_voice_115 : decode cX7_voice 115 = .ok (.ireturn, 1) := by decide +kernel
theorem dX7_body_0 : decode cX7_body 0 = .ok (.iload_n 1, 1) := by decide +kernel
theorem dX7_body_1 : decode cX7_body 1 = .ok (.iconst 0, 1) := by decide +kernel
theorem dX7_body_2 : decode cX7_body 2 = .ok (.aload_n 0, 1) := by decide +kernel
theorem dX7_body_3 : decode cX7_body 3 = .ok (.getfield 219, 3) := by decide +kernel
theorem dX7_body_6 : decode cX7_body 6 = .ok (.iconst 1, 1) := by decide +kernel
theorem dX7_body_7 : decode cX7_body 7 = .ok (.isub, 1) := by decide +kernel
theorem dX7_body_8 : decode cX7_body 8 = .ok (.invokestatic 50, 3) := by decide +kernel
theorem dX7_body_11 : decode cX7_body 11 = .ok (.ifCond .eq 12, 3) := by decide +kernel
theorem dX7_body_14 : decode cX7_body 14 = .ok (.aload_n 0, 1) := by decide +kernel
theorem dX7_body_15 : decode cX7_body 15 = .ok (.getfield 34, 3) := by decide +kernel
theorem dX7_body_18 : decode cX7_body 18 = .ok (.iload_n 1, 1) := by decide +kernel
theorem dX7_body_19 : decode cX7_body 19 = .ok (.iaload, 1) := by decide +kernel
theorem dX7_body_20 : decode cX7_body 20 = .ok (.goto 8, 3) := by decide +kernel
theorem dX7_body_23 : decode cX7_body 23 = .ok (.aload_n 0, 1) := by decide +kernel
theorem dX7_body_24 : decode cX7_body 24 = .ok (.iconst 2, 1) := by decide +kernel
theorem dX7_body_25 : decode cX7_body 25 = .ok (.invokevirtual 58, 3) := by decide +kernel
theorem dX7_body_28 : decode cX7_body 28 = .ok (.ireturn, 1) := by decide +kernel
theorem dX7_isSheet_0 : decode cX7_isSheet 0 = .ok (.iload_n 0, 1) := by decide +kernel
theorem dX7_isSheet_1 : decode cX7_isSheet 1 = .ok (.iconst 0, 1) := by decide +kernel
theorem dX7_isSheet_2 : decode cX7_isSheet 2 = .ok (.iconst 3, 1) := by decide +kernel
theorem dX7_isSheet_3 : decode cX7_isSheet 3 = .ok (.invokestatic 50, 3) := by decide +kernel
theorem dX7_isSheet_6 : decode cX7_isSheet 6 = .ok (.ireturn, 1) := by decide +kernel
theorem dX7_sheet_0 : decode cX7_sheet 0 = .ok (.iload_n 1, 1) := by decide +kernel
theorem dX7_sheet_1 : decode cX7_sheet 1 = .ok (.invokestatic 251, 3) := by decide +kernel
theorem dX7_sheet_4 : decode cX7_sheet 4 = .ok (.ifCond .eq 25, 3) := by decide +kernel
theorem dX7_sheet_7 : decode cX7_sheet 7 = .ok (.iload_n 2, 1) := by decide +kernel
theorem dX7_sheet_8 : decode cX7_sheet 8 = .ok (.ifCond .eq 27, 3) := by decide +kernel
theorem dX7_sheet_11 : decode cX7_sheet 11 = .ok (.iload_n 2, 1) := by decide +kernel
theorem dX7_sheet_12 : decode cX7_sheet 12 = .ok (.bipush 8, 2) := by decide +kernel
theorem dX7_sheet_14 : decode cX7_sheet 14 = .ok (.if_icmp .eq 21, 3) := by decide +kernel
theorem dX7_sheet_17 : decode cX7_sheet 17 = .ok (.iload_n 2, 1) := by decide +kernel
theorem dX7_sheet_18 : decode cX7_sheet 18 = .ok (.bipush 16, 2) := by decide +kernel
theorem dX7_sheet_20 : decode cX7_sheet 20 = .ok (.if_icmp .eq 15, 3) := by decide +kernel
theorem dX7_sheet_23 : decode cX7_sheet 23 = .ok (.iload_n 2, 1) := by decide +kernel
theorem dX7_sheet_24 : decode cX7_sheet 24 = .ok (.bipush 32, 2) := by decide +kernel
theorem dX7_sheet_26 : decode cX7_sheet 26 = .ok (.if_icmp .eq 9, 3) := by decide +kernel
theorem dX7_sheet_29 : decode cX7_sheet 29 = .ok (.aload_n 0, 1) := by decide +kernel
theorem dX7_sheet_30 : decode cX7_sheet 30 = .ok (.iconst 1, 1) := by decide +kernel
theorem dX7_sheet_31 : decode cX7_sheet 31 = .ok (.invokevirtual 58, 3) := by decide +kernel
theorem dX7_sheet_34 : decode cX7_sheet 34 = .ok (.ireturn, 1) := by decide +kernel
theorem dX7_sheet_35 : decode cX7_sheet 35 = .ok (.iload_n 2, 1) := by decide +kernel
theorem dX7_sheet_36 : decode cX7_sheet 36 = .ok (.ifCond .eq 13, 3) := by decide +kernel
theorem dX7_sheet_39 : decode cX7_sheet 39 = .ok (.iload_n 3, 1) := by decide +kernel
theorem dX7_sheet_40 : decode cX7_sheet 40 = .ok (.ifCond .ge 9, 3) := by decide +kernel
theorem dX7_sheet_43 : decode cX7_sheet 43 = .ok (.aload_n 0, 1) := by decide +kernel
theorem dX7_sheet_44 : decode cX7_sheet 44 = .ok (.iconst 3, 1) := by decide +kernel
theorem dX7_sheet_45 : decode cX7_sheet 45 = .ok (.invokevirtual 58, 3) := by decide +kernel
theorem dX7_sheet_48 : decode cX7_sheet 48 = .ok (.ireturn, 1) := by decide +kernel
theorem dX7_sheet_49 : decode cX7_sheet 49 = .ok (.iload_n 2, 1) := by decide +kernel
theorem dX7_sheet_50 : decode cX7_sheet 50 = .ok (.ifCond .eq 15, 3) := by decide +kernel
theorem dX7_sheet_53 : decode cX7_sheet 53 = .ok (.iload_n 3, 1) := by decide +kernel
theorem dX7_sheet_54 : decode cX7_sheet 54 = .ok (.bipush 24, 2) := by decide +kernel
theorem dX7_sheet_56 : decode cX7_sheet 56 = .ok (.if_icmp .le 9, 3) := by decide +kernel
theorem dX7_sheet_59 : decode cX7_sheet 59 = .ok (.aload_n 0, 1) := by decide +kernel
theorem dX7_sheet_60 : decode cX7_sheet 60 = .ok (.iconst 1, 1) := by decide +kernel
theorem dX7_sheet_61 : decode cX7_sheet 61 = .ok (.invokevirtual 58, 3) := by decide +kernel
theorem dX7_sheet_64 : decode cX7_sheet 64 = .ok (.ireturn, 1) := by decide +kernel
theorem dX7_sheet_65 : decode cX7_sheet 65 = .ok (.aload_n 0, 1) := by decide +kernel
theorem dX7_sheet_66 : decode cX7_sheet 66 = .ok (.getfield 37, 3) := by decide +kernel
theorem dX7_sheet_69 : decode cX7_sheet 69 = .ok (.iload_n 1, 1) := by decide +kernel
theorem dX7_sheet_70 : decode cX7_sheet 70 = .ok (.iload_n 2, 1) := by decide +kernel
theorem dX7_sheet_71 : decode cX7_sheet 71 = .ok (.iastore, 1) := by decide +kernel
theorem dX7_sheet_72 : decode cX7_sheet 72 = .ok (.aload_n 0, 1) := by decide +kernel
theorem dX7_sheet_73 : decode cX7_sheet 73 = .ok (.getfield 40, 3) := by decide +kernel
theorem dX7_sheet_76 : decode cX7_sheet 76 = .ok (.iload_n 1, 1) := by decide +kernel
theorem dX7_sheet_77 : decode cX7_sheet 77 = .ok (.iload_n 2, 1) := by decide +kernel
theorem dX7_sheet_78 : decode cX7_sheet 78 = .ok (.ifCond .ne 7, 3) := by decide +kernel
theorem dX7_sheet_81 : decode cX7_sheet 81 = .ok (.iconst 0, 1) := by decide +kernel
theorem dX7_sheet_82 : decode cX7_sheet 82 = .ok (.goto 4, 3) := by decide +kernel
theorem dX7_sheet_85 : decode cX7_sheet 85 = .ok (.iload_n 3, 1) := by decide +kernel
theorem dX7_sheet_86 : decode cX7_sheet 86 = .ok (.iastore, 1) := by decide +kernel
theorem dX7_sheet_87 : decode cX7_sheet 87 = .ok (.iconst 0, 1) := by decide +kernel
theorem dX7_sheet_88 : decode cX7_sheet 88 = .ok (.istore 4, 2) := by decide +kernel
theorem dX7_sheet_90 : decode cX7_sheet 90 = .ok (.iload 4, 2) := by decide +kernel
theorem dX7_sheet_92 : decode cX7_sheet 92 = .ok (.bipush 24, 2) := by decide +kernel
theorem dX7_sheet_94 : decode cX7_sheet 94 = .ok (.if_icmp .ge 22, 3) := by decide +kernel
theorem dX7_sheet_97 : decode cX7_sheet 97 = .ok (.aload_n 0, 1) := by decide +kernel
theorem dX7_sheet_98 : decode cX7_sheet 98 = .ok (.getfield 43, 3) := by decide +kernel
theorem dX7_sheet_101 : decode cX7_sheet 101 = .ok (.bipush 24, 2) := by decide +kernel
theorem dX7_sheet_103 : decode cX7_sheet 103 = .ok (.iload_n 1, 1) := by decide +kernel
theorem dX7_sheet_104 : decode cX7_sheet 104 = .ok (.imul, 1) := by decide +kernel
theorem dX7_sheet_105 : decode cX7_sheet 105 = .ok (.iload 4, 2) := by decide +kernel
theorem dX7_sheet_107 : decode cX7_sheet 107 = .ok (.iadd, 1) := by decide +kernel
theorem dX7_sheet_108 : decode cX7_sheet 108 = .ok (.iconst 0, 1) := by decide +kernel
theorem dX7_sheet_109 : decode cX7_sheet 109 = .ok (.iastore, 1) := by decide +kernel
theorem dX7_sheet_110 : decode cX7_sheet 110 = .ok (.iinc 4 1, 3) := by decide +kernel
theorem dX7_sheet_113 : decode cX7_sheet 113 = .ok (.goto (-23), 3) := by decide +kernel
theorem dX7_sheet_116 : decode cX7_sheet 116 = .ok (.iconst 1, 1) := by decide +kernel
theorem dX7_sheet_117 : decode cX7_sheet 117 = .ok (.ireturn, 1) := by decide +kernel
theorem dX7_put_0 : decode cX7_put 0 = .ok (.iload_n 1, 1) := by decide +kernel
theorem dX7_put_1 : decode cX7_put 1 = .ok (.invokestatic 251, 3) := by decide +kernel
theorem dX7_put_4 : decode cX7_put 4 = .ok (.ifCond .ne 9, 3) := by decide +kernel
theorem dX7_put_7 : decode cX7_put 7 = .ok (.aload_n 0, 1) := by decide +kernel
theorem dX7_put_8 : decode cX7_put 8 = .ok (.iconst 1, 1) := by decide +kernel
theorem dX7_put_9 : decode cX7_put 9 = .ok (.invokevirtual 58, 3) := by decide +kernel
theorem dX7_put_12 : decode cX7_put 12 = .ok (.ireturn, 1) := by decide +kernel
theorem dX7_put_13 : decode cX7_put 13 = .ok (.aload_n 0, 1) := by decide +kernel
theorem dX7_put_14 : decode cX7_put 14 = .ok (.getfield 37, 3) := by decide +kernel
theorem dX7_put_17 : decode cX7_put 17 = .ok (.iload_n 1, 1) := by decide +kernel
theorem dX7_put_18 : decode cX7_put 18 = .ok (.iaload, 1) := by decide +kernel
theorem dX7_put_19 : decode cX7_put 19 = .ok (.ifCond .ne 9, 3) := by decide +kernel
theorem dX7_put_22 : decode cX7_put 22 = .ok (.aload_n 0, 1) := by decide +kernel
theorem dX7_put_23 : decode cX7_put 23 = .ok (.iconst 2, 1) := by decide +kernel
theorem dX7_put_24 : decode cX7_put 24 = .ok (.invokevirtual 58, 3) := by decide +kernel
theorem dX7_put_27 : decode cX7_put 27 = .ok (.ireturn, 1) := by decide +kernel
theorem dX7_put_28 : decode cX7_put 28 = .ok (.iload_n 2, 1) := by decide +kernel
theorem dX7_put_29 : decode cX7_put 29 = .ok (.iconst 0, 1) := by decide +kernel
theorem dX7_put_30 : decode cX7_put 30 = .ok (.aload_n 0, 1) := by decide +kernel
theorem dX7_put_31 : decode cX7_put 31 = .ok (.getfield 40, 3) := by decide +kernel
theorem dX7_put_34 : decode cX7_put 34 = .ok (.iload_n 1, 1) := by decide +kernel
theorem dX7_put_35 : decode cX7_put 35 = .ok (.iaload, 1) := by decide +kernel
theorem dX7_put_36 : decode cX7_put 36 = .ok (.iconst 1, 1) := by decide +kernel
theorem dX7_put_37 : decode cX7_put 37 = .ok (.isub, 1) := by decide +kernel
theorem dX7_put_38 : decode cX7_put 38 = .ok (.invokestatic 50, 3) := by decide +kernel
theorem dX7_put_41 : decode cX7_put 41 = .ok (.ifCond .ne 9, 3) := by decide +kernel
theorem dX7_put_44 : decode cX7_put 44 = .ok (.aload_n 0, 1) := by decide +kernel
theorem dX7_put_45 : decode cX7_put 45 = .ok (.iconst 1, 1) := by decide +kernel
theorem dX7_put_46 : decode cX7_put 46 = .ok (.invokevirtual 58, 3) := by decide +kernel
theorem dX7_put_49 : decode cX7_put 49 = .ok (.ireturn, 1) := by decide +kernel
theorem dX7_put_50 : decode cX7_put 50 = .ok (.bipush 32, 2) := by decide +kernel
theorem dX7_put_52 : decode cX7_put 52 = .ok (.aload_n 0, 1) := by decide +kernel
theorem dX7_put_53 : decode cX7_put 53 = .ok (.getfield 37, 3) := by decide +kernel
theorem dX7_put_56 : decode cX7_put 56 = .ok (.iload_n 1, 1) := by decide +kernel
theorem dX7_put_57 : decode cX7_put 57 = .ok (.iaload, 1) := by decide +kernel
theorem dX7_put_58 : decode cX7_put 58 = .ok (.isub, 1) := by decide +kernel
theorem dX7_put_59 : decode cX7_put 59 = .ok (.istore 4, 2) := by decide +kernel
theorem dX7_put_61 : decode cX7_put 61 = .ok (.aload_n 0, 1) := by decide +kernel
theorem dX7_put_62 : decode cX7_put 62 = .ok (.getfield 43, 3) := by decide +kernel
theorem dX7_put_65 : decode cX7_put 65 = .ok (.bipush 24, 2) := by decide +kernel
theorem dX7_put_67 : decode cX7_put 67 = .ok (.iload_n 1, 1) := by decide +kernel
theorem dX7_put_68 : decode cX7_put 68 = .ok (.imul, 1) := by decide +kernel
theorem dX7_put_69 : decode cX7_put 69 = .ok (.iload_n 2, 1) := by decide +kernel
theorem dX7_put_70 : decode cX7_put 70 = .ok (.iadd, 1) := by decide +kernel
theorem dX7_put_71 : decode cX7_put 71 = .ok (.iload_n 3, 1) := by decide +kernel
theorem dX7_put_72 : decode cX7_put 72 = .ok (.iload 4, 2) := by decide +kernel
theorem dX7_put_74 : decode cX7_put 74 = .ok (.ishl, 1) := by decide +kernel
theorem dX7_put_75 : decode cX7_put 75 = .ok (.iload 4, 2) := by decide +kernel
theorem dX7_put_77 : decode cX7_put 77 = .ok (.ishr, 1) := by decide +kernel
theorem dX7_put_78 : decode cX7_put 78 = .ok (.iastore, 1) := by decide +kernel
theorem dX7_put_79 : decode cX7_put 79 = .ok (.iconst 1, 1) := by decide +kernel
theorem dX7_put_80 : decode cX7_put 80 = .ok (.ireturn, 1) := by decide +kernel
theorem dX7_move_0 : decode cX7_move 0 = .ok (.iload_n 1, 1) := by decide +kernel
theorem dX7_move_1 : decode cX7_move 1 = .ok (.invokestatic 251, 3) := by decide +kernel
theorem dX7_move_4 : decode cX7_move 4 = .ok (.ifCond .eq 10, 3) := by decide +kernel
theorem dX7_move_7 : decode cX7_move 7 = .ok (.iload_n 3, 1) := by decide +kernel
theorem dX7_move_8 : decode cX7_move 8 = .ok (.invokestatic 251, 3) := by decide +kernel
theorem dX7_move_11 : decode cX7_move 11 = .ok (.ifCond .ne 9, 3) := by decide +kernel
theorem dX7_move_14 : decode cX7_move 14 = .ok (.aload_n 0, 1) := by decide +kernel
theorem dX7_move_15 : decode cX7_move 15 = .ok (.iconst 1, 1) := by decide +kernel
theorem dX7_move_16 : decode cX7_move 16 = .ok (.invokevirtual 58, 3) := by decide +kernel
theorem dX7_move_19 : decode cX7_move 19 = .ok (.ireturn, 1) := by decide +kernel
theorem dX7_move_20 : decode cX7_move 20 = .ok (.aload_n 0, 1) := by decide +kernel
theorem dX7_move_21 : decode cX7_move 21 = .ok (.getfield 37, 3) := by decide +kernel
theorem dX7_move_24 : decode cX7_move 24 = .ok (.iload_n 1, 1) := by decide +kernel
theorem dX7_move_25 : decode cX7_move 25 = .ok (.iaload, 1) := by decide +kernel
theorem dX7_move_26 : decode cX7_move 26 = .ok (.ifCond .eq 12, 3) := by decide +kernel
theorem dX7_move_29 : decode cX7_move 29 = .ok (.aload_n 0, 1) := by decide +kernel
theorem dX7_move_30 : decode cX7_move 30 = .ok (.getfield 37, 3) := by decide +kernel
theorem dX7_move_33 : decode cX7_move 33 = .ok (.iload_n 3, 1) := by decide +kernel
theorem dX7_move_34 : decode cX7_move 34 = .ok (.iaload, 1) := by decide +kernel
theorem dX7_move_35 : decode cX7_move 35 = .ok (.ifCond .ne 9, 3) := by decide +kernel
theorem dX7_move_38 : decode cX7_move 38 = .ok (.aload_n 0, 1) := by decide +kernel
theorem dX7_move_39 : decode cX7_move 39 = .ok (.iconst 2, 1) := by decide +kernel
theorem dX7_move_40 : decode cX7_move 40 = .ok (.invokevirtual 58, 3) := by decide +kernel
theorem dX7_move_43 : decode cX7_move 43 = .ok (.ireturn, 1) := by decide +kernel
theorem dX7_move_44 : decode cX7_move 44 = .ok (.aload_n 0, 1) := by decide +kernel
theorem dX7_move_45 : decode cX7_move 45 = .ok (.getfield 37, 3) := by decide +kernel
theorem dX7_move_48 : decode cX7_move 48 = .ok (.iload_n 1, 1) := by decide +kernel
theorem dX7_move_49 : decode cX7_move 49 = .ok (.iaload, 1) := by decide +kernel
theorem dX7_move_50 : decode cX7_move 50 = .ok (.aload_n 0, 1) := by decide +kernel
theorem dX7_move_51 : decode cX7_move 51 = .ok (.getfield 37, 3) := by decide +kernel
theorem dX7_move_54 : decode cX7_move 54 = .ok (.iload_n 3, 1) := by decide +kernel
theorem dX7_move_55 : decode cX7_move 55 = .ok (.iaload, 1) := by decide +kernel
theorem dX7_move_56 : decode cX7_move 56 = .ok (.if_icmp .eq 9, 3) := by decide +kernel
theorem dX7_move_59 : decode cX7_move 59 = .ok (.aload_n 0, 1) := by decide +kernel
theorem dX7_move_60 : decode cX7_move 60 = .ok (.iconst 5, 1) := by decide +kernel
theorem dX7_move_61 : decode cX7_move 61 = .ok (.invokevirtual 58, 3) := by decide +kernel
theorem dX7_move_64 : decode cX7_move 64 = .ok (.ireturn, 1) := by decide +kernel
theorem dX7_move_65 : decode cX7_move 65 = .ok (.iload 5, 2) := by decide +kernel
theorem dX7_move_67 : decode cX7_move 67 = .ok (.ifCond .lt 39, 3) := by decide +kernel
theorem dX7_move_70 : decode cX7_move 70 = .ok (.iload_n 2, 1) := by decide +kernel
theorem dX7_move_71 : decode cX7_move 71 = .ok (.ifCond .lt 35, 3) := by decide +kernel
theorem dX7_move_74 : decode cX7_move 74 = .ok (.iload 4, 2) := by decide +kernel
theorem dX7_move_76 : decode cX7_move 76 = .ok (.ifCond .lt 30, 3) := by decide +kernel
theorem dX7_move_79 : decode cX7_move 79 = .ok (.iload_n 2, 1) := by decide +kernel
theorem dX7_move_80 : decode cX7_move 80 = .ok (.aload_n 0, 1) := by decide +kernel
theorem dX7_move_81 : decode cX7_move 81 = .ok (.getfield 40, 3) := by decide +kernel
theorem dX7_move_84 : decode cX7_move 84 = .ok (.iload_n 1, 1) := by decide +kernel
theorem dX7_move_85 : decode cX7_move 85 = .ok (.iaload, 1) := by decide +kernel
theorem dX7_move_86 : decode cX7_move 86 = .ok (.iload 5, 2) := by decide +kernel
theorem dX7_move_88 : decode cX7_move 88 = .ok (.isub, 1) := by decide +kernel
theorem dX7_move_89 : decode cX7_move 89 = .ok (.if_icmp .gt 17, 3) := by decide +kernel
theorem dX7_move_92 : decode cX7_move 92 = .ok (.iload 4, 2) := by decide +kernel
theorem dX7_move_94 : decode cX7_move 94 = .ok (.aload_n 0, 1) := by decide +kernel
theorem dX7_move_95 : decode cX7_move 95 = .ok (.getfield 40, 3) := by decide +kernel
theorem dX7_move_98 : decode cX7_move 98 = .ok (.iload_n 3, 1) := by decide +kernel
theorem dX7_move_99 : decode cX7_move 99 = .ok (.iaload, 1) := by decide +kernel
theorem dX7_move_100 : decode cX7_move 100 = .ok (.iload 5, 2) := by decide +kernel
theorem dX7_move_102 : decode cX7_move 102 = .ok (.isub, 1) := by decide +kernel
theorem dX7_move_103 : decode cX7_move 103 = .ok (.if_icmp .le 9, 3) := by decide +kernel
theorem dX7_move_106 : decode cX7_move 106 = .ok (.aload_n 0, 1) := by decide +kernel
theorem dX7_move_107 : decode cX7_move 107 = .ok (.iconst 1, 1) := by decide +kernel
theorem dX7_move_108 : decode cX7_move 108 = .ok (.invokevirtual 58, 3) := by decide +kernel
theorem dX7_move_111 : decode cX7_move 111 = .ok (.ireturn, 1) := by decide +kernel
theorem dX7_move_112 : decode cX7_move 112 = .ok (.iconst 0, 1) := by decide +kernel
theorem dX7_move_113 : decode cX7_move 113 = .ok (.istore 6, 2) := by decide +kernel
theorem dX7_move_115 : decode cX7_move 115 = .ok (.iload 6, 2) := by decide +kernel
theorem dX7_move_117 : decode cX7_move 117 = .ok (.iload 5, 2) := by decide +kernel
theorem dX7_move_119 : decode cX7_move 119 = .ok (.if_icmp .ge 30, 3) := by decide +kernel
theorem dX7_move_122 : decode cX7_move 122 = .ok (.aload_n 0, 1) := by decide +kernel
theorem dX7_move_123 : decode cX7_move 123 = .ok (.getfield 46, 3) := by decide +kernel
theorem dX7_move_126 : decode cX7_move 126 = .ok (.iload 6, 2) := by decide +kernel
theorem dX7_move_128 : decode cX7_move 128 = .ok (.aload_n 0, 1) := by decide +kernel
theorem dX7_move_129 : decode cX7_move 129 = .ok (.getfield 43, 3) := by decide +kernel
theorem dX7_move_132 : decode cX7_move 132 = .ok (.bipush 24, 2) := by decide +kernel
theorem dX7_move_134 : decode cX7_move 134 = .ok (.iload_n 1, 1) := by decide +kernel
theorem dX7_move_135 : decode cX7_move 135 = .ok (.imul, 1) := by decide +kernel
theorem dX7_move_136 : decode cX7_move 136 = .ok (.iload_n 2, 1) := by decide +kernel
theorem dX7_move_137 : decode cX7_move 137 = .ok (.iadd, 1) := by decide +kernel
theorem dX7_move_138 : decode cX7_move 138 = .ok (.iload 6, 2) := by decide +kernel
theorem dX7_move_140 : decode cX7_move 140 = .ok (.iadd, 1) := by decide +kernel
theorem dX7_move_141 : decode cX7_move 141 = .ok (.iaload, 1) := by decide +kernel
theorem dX7_move_142 : decode cX7_move 142 = .ok (.iastore, 1) := by decide +kernel
theorem dX7_move_143 : decode cX7_move 143 = .ok (.iinc 6 1, 3) := by decide +kernel
theorem dX7_move_146 : decode cX7_move 146 = .ok (.goto (-31), 3) := by decide +kernel
theorem dX7_move_149 : decode cX7_move 149 = .ok (.iconst 0, 1) := by decide +kernel
theorem dX7_move_150 : decode cX7_move 150 = .ok (.istore 6, 2) := by decide +kernel
theorem dX7_move_152 : decode cX7_move 152 = .ok (.iload 6, 2) := by decide +kernel
theorem dX7_move_154 : decode cX7_move 154 = .ok (.iload 5, 2) := by decide +kernel
theorem dX7_move_156 : decode cX7_move 156 = .ok (.if_icmp .ge 31, 3) := by decide +kernel
theorem dX7_move_159 : decode cX7_move 159 = .ok (.aload_n 0, 1) := by decide +kernel
theorem dX7_move_160 : decode cX7_move 160 = .ok (.getfield 43, 3) := by decide +kernel
theorem dX7_move_163 : decode cX7_move 163 = .ok (.bipush 24, 2) := by decide +kernel
theorem dX7_move_165 : decode cX7_move 165 = .ok (.iload_n 3, 1) := by decide +kernel
theorem dX7_move_166 : decode cX7_move 166 = .ok (.imul, 1) := by decide +kernel
theorem dX7_move_167 : decode cX7_move 167 = .ok (.iload 4, 2) := by decide +kernel
theorem dX7_move_169 : decode cX7_move 169 = .ok (.iadd, 1) := by decide +kernel
theorem dX7_move_170 : decode cX7_move 170 = .ok (.iload 6, 2) := by decide +kernel
theorem dX7_move_172 : decode cX7_move 172 = .ok (.iadd, 1) := by decide +kernel
theorem dX7_move_173 : decode cX7_move 173 = .ok (.aload_n 0, 1) := by decide +kernel
theorem dX7_move_174 : decode cX7_move 174 = .ok (.getfield 46, 3) := by decide +kernel
theorem dX7_move_177 : decode cX7_move 177 = .ok (.iload 6, 2) := by decide +kernel
theorem dX7_move_179 : decode cX7_move 179 = .ok (.iaload, 1) := by decide +kernel
theorem dX7_move_180 : decode cX7_move 180 = .ok (.iastore, 1) := by decide +kernel
theorem dX7_move_181 : decode cX7_move 181 = .ok (.iinc 6 1, 3) := by decide +kernel
theorem dX7_move_184 : decode cX7_move 184 = .ok (.goto (-32), 3) := by decide +kernel
theorem dX7_move_187 : decode cX7_move 187 = .ok (.iload 5, 2) := by decide +kernel
theorem dX7_move_189 : decode cX7_move 189 = .ok (.ireturn, 1) := by decide +kernel
theorem dX7_lacks_0 : decode cX7_lacks 0 = .ok (.iload_n 1, 1) := by decide +kernel
theorem dX7_lacks_1 : decode cX7_lacks 1 = .ok (.invokestatic 251, 3) := by decide +kernel
theorem dX7_lacks_4 : decode cX7_lacks 4 = .ok (.ifCond .ne 7, 3) := by decide +kernel
theorem dX7_lacks_7 : decode cX7_lacks 7 = .ok (.iconst 1, 1) := by decide +kernel
theorem dX7_lacks_8 : decode cX7_lacks 8 = .ok (.goto 17, 3) := by decide +kernel
theorem dX7_lacks_11 : decode cX7_lacks 11 = .ok (.aload_n 0, 1) := by decide +kernel
theorem dX7_lacks_12 : decode cX7_lacks 12 = .ok (.getfield 37, 3) := by decide +kernel
theorem dX7_lacks_15 : decode cX7_lacks 15 = .ok (.iload_n 1, 1) := by decide +kernel
theorem dX7_lacks_16 : decode cX7_lacks 16 = .ok (.iaload, 1) := by decide +kernel
theorem dX7_lacks_17 : decode cX7_lacks 17 = .ok (.ifCond .ne 7, 3) := by decide +kernel
theorem dX7_lacks_20 : decode cX7_lacks 20 = .ok (.iconst 2, 1) := by decide +kernel
theorem dX7_lacks_21 : decode cX7_lacks 21 = .ok (.goto 4, 3) := by decide +kernel
theorem dX7_lacks_24 : decode cX7_lacks 24 = .ok (.iconst 0, 1) := by decide +kernel
theorem dX7_lacks_25 : decode cX7_lacks 25 = .ok (.ireturn, 1) := by decide +kernel
theorem dX7_plates_0 : decode cX7_plates 0 = .ok (.aload_n 0, 1) := by decide +kernel
theorem dX7_plates_1 : decode cX7_plates 1 = .ok (.iload_n 1, 1) := by decide +kernel
theorem dX7_plates_2 : decode cX7_plates 2 = .ok (.invokevirtual 205, 3) := by decide +kernel
theorem dX7_plates_5 : decode cX7_plates 5 = .ok (.istore_n 2, 1) := by decide +kernel
theorem dX7_plates_6 : decode cX7_plates 6 = .ok (.iload_n 2, 1) := by decide +kernel
theorem dX7_plates_7 : decode cX7_plates 7 = .ok (.ifCond .eq 9, 3) := by decide +kernel
theorem dX7_plates_10 : decode cX7_plates 10 = .ok (.aload_n 0, 1) := by decide +kernel
theorem dX7_plates_11 : decode cX7_plates 11 = .ok (.iload_n 2, 1) := by decide +kernel
theorem dX7_plates_12 : decode cX7_plates 12 = .ok (.invokevirtual 58, 3) := by decide +kernel
theorem dX7_plates_15 : decode cX7_plates 15 = .ok (.ireturn, 1) := by decide +kernel
theorem dX7_plates_16 : decode cX7_plates 16 = .ok (.iconst 0, 1) := by decide +kernel
theorem dX7_plates_17 : decode cX7_plates 17 = .ok (.istore_n 3, 1) := by decide +kernel
theorem dX7_plates_18 : decode cX7_plates 18 = .ok (.iload_n 3, 1) := by decide +kernel
theorem dX7_plates_19 : decode cX7_plates 19 = .ok (.aload_n 0, 1) := by decide +kernel
theorem dX7_plates_20 : decode cX7_plates 20 = .ok (.getfield 40, 3) := by decide +kernel
theorem dX7_plates_23 : decode cX7_plates 23 = .ok (.iload_n 1, 1) := by decide +kernel
theorem dX7_plates_24 : decode cX7_plates 24 = .ok (.iaload, 1) := by decide +kernel
theorem dX7_plates_25 : decode cX7_plates 25 = .ok (.if_icmp .ge 51, 3) := by decide +kernel
theorem dX7_plates_28 : decode cX7_plates 28 = .ok (.aload_n 0, 1) := by decide +kernel
theorem dX7_plates_29 : decode cX7_plates 29 = .ok (.iload_n 3, 1) := by decide +kernel
theorem dX7_plates_30 : decode cX7_plates 30 = .ok (.invokevirtual 152, 3) := by decide +kernel
theorem dX7_plates_33 : decode cX7_plates 33 = .ok (.ifCond .eq 43, 3) := by decide +kernel
theorem dX7_plates_36 : decode cX7_plates 36 = .ok (.aload_n 0, 1) := by decide +kernel
theorem dX7_plates_37 : decode cX7_plates 37 = .ok (.getfield 43, 3) := by decide +kernel
theorem dX7_plates_40 : decode cX7_plates 40 = .ok (.bipush 24, 2) := by decide +kernel
theorem dX7_plates_42 : decode cX7_plates 42 = .ok (.iload_n 1, 1) := by decide +kernel
theorem dX7_plates_43 : decode cX7_plates 43 = .ok (.imul, 1) := by decide +kernel
theorem dX7_plates_44 : decode cX7_plates 44 = .ok (.iload_n 3, 1) := by decide +kernel
theorem dX7_plates_45 : decode cX7_plates 45 = .ok (.iadd, 1) := by decide +kernel
theorem dX7_plates_46 : decode cX7_plates 46 = .ok (.iaload, 1) := by decide +kernel
theorem dX7_plates_47 : decode cX7_plates 47 = .ok (.invokestatic 146, 3) := by decide +kernel
theorem dX7_plates_50 : decode cX7_plates 50 = .ok (.ifCond .eq 26, 3) := by decide +kernel
theorem dX7_plates_53 : decode cX7_plates 53 = .ok (.aload_n 0, 1) := by decide +kernel
theorem dX7_plates_54 : decode cX7_plates 54 = .ok (.iload_n 3, 1) := by decide +kernel
theorem dX7_plates_55 : decode cX7_plates 55 = .ok (.iconst 2, 1) := by decide +kernel
theorem dX7_plates_56 : decode cX7_plates 56 = .ok (.aload_n 0, 1) := by decide +kernel
theorem dX7_plates_57 : decode cX7_plates 57 = .ok (.getfield 43, 3) := by decide +kernel
theorem dX7_plates_60 : decode cX7_plates 60 = .ok (.bipush 24, 2) := by decide +kernel
theorem dX7_plates_62 : decode cX7_plates 62 = .ok (.iload_n 1, 1) := by decide +kernel
theorem dX7_plates_63 : decode cX7_plates 63 = .ok (.imul, 1) := by decide +kernel
theorem dX7_plates_64 : decode cX7_plates 64 = .ok (.iload_n 3, 1) := by decide +kernel
theorem dX7_plates_65 : decode cX7_plates 65 = .ok (.iadd, 1) := by decide +kernel
theorem dX7_plates_66 : decode cX7_plates 66 = .ok (.iaload, 1) := by decide +kernel
theorem dX7_plates_67 : decode cX7_plates 67 = .ok (.invokevirtual 139, 3) := by decide +kernel
theorem dX7_plates_70 : decode cX7_plates 70 = .ok (.iinc 3 1, 3) := by decide +kernel
theorem dX7_plates_73 : decode cX7_plates 73 = .ok (.goto (-55), 3) := by decide +kernel
theorem dX7_plates_76 : decode cX7_plates 76 = .ok (.iload_n 3, 1) := by decide +kernel
theorem dX7_plates_77 : decode cX7_plates 77 = .ok (.ireturn, 1) := by decide +kernel
theorem dX7_judge_0 : decode cX7_judge 0 = .ok (.aload_n 0, 1) := by decide +kernel
theorem dX7_judge_1 : decode cX7_judge 1 = .ok (.iload_n 1, 1) := by decide +kernel
theorem dX7_judge_2 : decode cX7_judge 2 = .ok (.invokevirtual 205, 3) := by decide +kernel
theorem dX7_judge_5 : decode cX7_judge 5 = .ok (.istore_n 2, 1) := by decide +kernel
theorem dX7_judge_6 : decode cX7_judge 6 = .ok (.iload_n 2, 1) := by decide +kernel
theorem dX7_judge_7 : decode cX7_judge 7 = .ok (.ifCond .eq 9, 3) := by decide +kernel
theorem dX7_judge_10 : decode cX7_judge 10 = .ok (.aload_n 0, 1) := by decide +kernel
theorem dX7_judge_11 : decode cX7_judge 11 = .ok (.iload_n 2, 1) := by decide +kernel
theorem dX7_judge_12 : decode cX7_judge 12 = .ok (.invokevirtual 58, 3) := by decide +kernel
theorem dX7_judge_15 : decode cX7_judge 15 = .ok (.ireturn, 1) := by decide +kernel
theorem dX7_judge_16 : decode cX7_judge 16 = .ok (.iconst 0, 1) := by decide +kernel
theorem dX7_judge_17 : decode cX7_judge 17 = .ok (.istore_n 3, 1) := by decide +kernel
theorem dX7_judge_18 : decode cX7_judge 18 = .ok (.iload_n 3, 1) := by decide +kernel
theorem dX7_judge_19 : decode cX7_judge 19 = .ok (.aload_n 0, 1) := by decide +kernel
theorem dX7_judge_20 : decode cX7_judge 20 = .ok (.getfield 40, 3) := by decide +kernel
theorem dX7_judge_23 : decode cX7_judge 23 = .ok (.iload_n 1, 1) := by decide +kernel
theorem dX7_judge_24 : decode cX7_judge 24 = .ok (.iaload, 1) := by decide +kernel
theorem dX7_judge_25 : decode cX7_judge 25 = .ok (.if_icmp .ge 36, 3) := by decide +kernel
theorem dX7_judge_28 : decode cX7_judge 28 = .ok (.aload_n 0, 1) := by decide +kernel
theorem dX7_judge_29 : decode cX7_judge 29 = .ok (.iload_n 3, 1) := by decide +kernel
theorem dX7_judge_30 : decode cX7_judge 30 = .ok (.invokevirtual 152, 3) := by decide +kernel
theorem dX7_judge_33 : decode cX7_judge 33 = .ok (.ifCond .eq 28, 3) := by decide +kernel
theorem dX7_judge_36 : decode cX7_judge 36 = .ok (.aload_n 0, 1) := by decide +kernel
theorem dX7_judge_37 : decode cX7_judge 37 = .ok (.iload_n 3, 1) := by decide +kernel
theorem dX7_judge_38 : decode cX7_judge 38 = .ok (.invokevirtual 155, 3) := by decide +kernel
theorem dX7_judge_41 : decode cX7_judge 41 = .ok (.aload_n 0, 1) := by decide +kernel
theorem dX7_judge_42 : decode cX7_judge 42 = .ok (.getfield 43, 3) := by decide +kernel
theorem dX7_judge_45 : decode cX7_judge 45 = .ok (.bipush 24, 2) := by decide +kernel
theorem dX7_judge_47 : decode cX7_judge 47 = .ok (.iload_n 1, 1) := by decide +kernel
theorem dX7_judge_48 : decode cX7_judge 48 = .ok (.imul, 1) := by decide +kernel
theorem dX7_judge_49 : decode cX7_judge 49 = .ok (.iload_n 3, 1) := by decide +kernel
theorem dX7_judge_50 : decode cX7_judge 50 = .ok (.iadd, 1) := by decide +kernel
theorem dX7_judge_51 : decode cX7_judge 51 = .ok (.iaload, 1) := by decide +kernel
theorem dX7_judge_52 : decode cX7_judge 52 = .ok (.if_icmp .ne 9, 3) := by decide +kernel
theorem dX7_judge_55 : decode cX7_judge 55 = .ok (.iinc 3 1, 3) := by decide +kernel
theorem dX7_judge_58 : decode cX7_judge 58 = .ok (.goto (-40), 3) := by decide +kernel
theorem dX7_judge_61 : decode cX7_judge 61 = .ok (.iload_n 3, 1) := by decide +kernel
theorem dX7_judge_62 : decode cX7_judge 62 = .ok (.ireturn, 1) := by decide +kernel
theorem dX7_image_0 : decode cX7_image 0 = .ok (.aload_n 0, 1) := by decide +kernel
theorem dX7_image_1 : decode cX7_image 1 = .ok (.getfield 7, 3) := by decide +kernel
theorem dX7_image_4 : decode cX7_image 4 = .ok (.aload_n 0, 1) := by decide +kernel
theorem dX7_image_5 : decode cX7_image 5 = .ok (.getfield 13, 3) := by decide +kernel
theorem dX7_image_8 : decode cX7_image 8 = .ok (.invokestatic 254, 3) := by decide +kernel
theorem dX7_image_11 : decode cX7_image 11 = .ok (.aload_n 0, 1) := by decide +kernel
theorem dX7_image_12 : decode cX7_image 12 = .ok (.dup, 1) := by decide +kernel
theorem dX7_image_13 : decode cX7_image 13 = .ok (.getfield 258, 3) := by decide +kernel
theorem dX7_image_16 : decode cX7_image 16 = .ok (.iconst 1, 1) := by decide +kernel
theorem dX7_image_17 : decode cX7_image 17 = .ok (.iadd, 1) := by decide +kernel
theorem dX7_image_18 : decode cX7_image 18 = .ok (.putfield 258, 3) := by decide +kernel
theorem dX7_image_21 : decode cX7_image 21 = .ok (.aload_n 0, 1) := by decide +kernel
theorem dX7_image_22 : decode cX7_image 22 = .ok (.getfield 258, 3) := by decide +kernel
theorem dX7_image_25 : decode cX7_image 25 = .ok (.ireturn, 1) := by decide +kernel
theorem dX7_restore_0 : decode cX7_restore 0 = .ok (.aload_n 0, 1) := by decide +kernel
theorem dX7_restore_1 : decode cX7_restore 1 = .ok (.getfield 258, 3) := by decide +kernel
theorem dX7_restore_4 : decode cX7_restore 4 = .ok (.ifCond .ne 9, 3) := by decide +kernel
theorem dX7_restore_7 : decode cX7_restore 7 = .ok (.aload_n 0, 1) := by decide +kernel
theorem dX7_restore_8 : decode cX7_restore 8 = .ok (.iconst 2, 1) := by decide +kernel
theorem dX7_restore_9 : decode cX7_restore 9 = .ok (.invokevirtual 58, 3) := by decide +kernel
theorem dX7_restore_12 : decode cX7_restore 12 = .ok (.ireturn, 1) := by decide +kernel
theorem dX7_restore_13 : decode cX7_restore 13 = .ok (.aload_n 0, 1) := by decide +kernel
theorem dX7_restore_14 : decode cX7_restore 14 = .ok (.getfield 13, 3) := by decide +kernel
theorem dX7_restore_17 : decode cX7_restore 17 = .ok (.aload_n 0, 1) := by decide +kernel
theorem dX7_restore_18 : decode cX7_restore 18 = .ok (.getfield 7, 3) := by decide +kernel
theorem dX7_restore_21 : decode cX7_restore 21 = .ok (.invokestatic 254, 3) := by decide +kernel
theorem dX7_restore_24 : decode cX7_restore 24 = .ok (.aload_n 0, 1) := by decide +kernel
theorem dX7_restore_25 : decode cX7_restore 25 = .ok (.getfield 7, 3) := by decide +kernel
theorem dX7_restore_28 : decode cX7_restore 28 = .ok (.iconst 0, 1) := by decide +kernel
theorem dX7_restore_29 : decode cX7_restore 29 = .ok (.iaload, 1) := by decide +kernel
theorem dX7_restore_30 : decode cX7_restore 30 = .ok (.ireturn, 1) := by decide +kernel
theorem dX7_tell_0 : decode cX7_tell 0 = .ok (.aload_n 0, 1) := by decide +kernel
theorem dX7_tell_1 : decode cX7_tell 1 = .ok (.getfield 7, 3) := by decide +kernel
theorem dX7_tell_4 : decode cX7_tell 4 = .ok (.iconst 4, 1) := by decide +kernel
theorem dX7_tell_5 : decode cX7_tell 5 = .ok (.iaload, 1) := by decide +kernel
theorem dX7_tell_6 : decode cX7_tell 6 = .ok (.bipush 24, 2) := by decide +kernel
theorem dX7_tell_8 : decode cX7_tell 8 = .ok (.if_icmp .ne 9, 3) := by decide +kernel
theorem dX7_tell_11 : decode cX7_tell 11 = .ok (.aload_n 0, 1) := by decide +kernel
theorem dX7_tell_12 : decode cX7_tell 12 = .ok (.iconst 4, 1) := by decide +kernel
theorem dX7_tell_13 : decode cX7_tell 13 = .ok (.invokevirtual 58, 3) := by decide +kernel
theorem dX7_tell_16 : decode cX7_tell 16 = .ok (.ireturn, 1) := by decide +kernel
theorem dX7_tell_17 : decode cX7_tell 17 = .ok (.aload_n 0, 1) := by decide +kernel
theorem dX7_tell_18 : decode cX7_tell 18 = .ok (.getfield 7, 3) := by decide +kernel
theorem dX7_tell_21 : decode cX7_tell 21 = .ok (.sipush 358, 3) := by decide +kernel
theorem dX7_tell_24 : decode cX7_tell 24 = .ok (.aload_n 0, 1) := by decide +kernel
theorem dX7_tell_25 : decode cX7_tell 25 = .ok (.getfield 7, 3) := by decide +kernel
theorem dX7_tell_28 : decode cX7_tell 28 = .ok (.iconst 4, 1) := by decide +kernel
theorem dX7_tell_29 : decode cX7_tell 29 = .ok (.iaload, 1) := by decide +kernel
theorem dX7_tell_30 : decode cX7_tell 30 = .ok (.iadd, 1) := by decide +kernel
theorem dX7_tell_31 : decode cX7_tell 31 = .ok (.iload_n 1, 1) := by decide +kernel
theorem dX7_tell_32 : decode cX7_tell 32 = .ok (.iastore, 1) := by decide +kernel
theorem dX7_tell_33 : decode cX7_tell 33 = .ok (.aload_n 0, 1) := by decide +kernel
theorem dX7_tell_34 : decode cX7_tell 34 = .ok (.getfield 7, 3) := by decide +kernel
theorem dX7_tell_37 : decode cX7_tell 37 = .ok (.iconst 4, 1) := by decide +kernel
theorem dX7_tell_38 : decode cX7_tell 38 = .ok (.dup2, 1) := by decide +kernel
theorem dX7_tell_39 : decode cX7_tell 39 = .ok (.iaload, 1) := by decide +kernel
theorem dX7_tell_40 : decode cX7_tell 40 = .ok (.iconst 1, 1) := by decide +kernel
theorem dX7_tell_41 : decode cX7_tell 41 = .ok (.iadd, 1) := by decide +kernel
theorem dX7_tell_42 : decode cX7_tell 42 = .ok (.iastore, 1) := by decide +kernel
theorem dX7_tell_43 : decode cX7_tell 43 = .ok (.aload_n 0, 1) := by decide +kernel
theorem dX7_tell_44 : decode cX7_tell 44 = .ok (.getfield 7, 3) := by decide +kernel
theorem dX7_tell_47 : decode cX7_tell 47 = .ok (.iconst 4, 1) := by decide +kernel
theorem dX7_tell_48 : decode cX7_tell 48 = .ok (.iaload, 1) := by decide +kernel
theorem dX7_tell_49 : decode cX7_tell 49 = .ok (.ireturn, 1) := by decide +kernel
theorem dX7_check_0 : decode cX7_check 0 = .ok (.aload_n 0, 1) := by decide +kernel
theorem dX7_check_1 : decode cX7_check 1 = .ok (.getfield 7, 3) := by decide +kernel
theorem dX7_check_4 : decode cX7_check 4 = .ok (.iconst 4, 1) := by decide +kernel
theorem dX7_check_5 : decode cX7_check 5 = .ok (.iaload, 1) := by decide +kernel
theorem dX7_check_6 : decode cX7_check 6 = .ok (.istore_n 1, 1) := by decide +kernel
theorem dX7_check_7 : decode cX7_check 7 = .ok (.aload_n 0, 1) := by decide +kernel
theorem dX7_check_8 : decode cX7_check 8 = .ok (.getfield 7, 3) := by decide +kernel
theorem dX7_check_11 : decode cX7_check 11 = .ok (.iconst 4, 1) := by decide +kernel
theorem dX7_check_12 : decode cX7_check 12 = .ok (.iconst 0, 1) := by decide +kernel
theorem dX7_check_13 : decode cX7_check 13 = .ok (.iastore, 1) := by decide +kernel
theorem dX7_check_14 : decode cX7_check 14 = .ok (.iconst 0, 1) := by decide +kernel
theorem dX7_check_15 : decode cX7_check 15 = .ok (.istore_n 2, 1) := by decide +kernel
theorem dX7_check_16 : decode cX7_check 16 = .ok (.iload_n 2, 1) := by decide +kernel
theorem dX7_check_17 : decode cX7_check 17 = .ok (.iload_n 1, 1) := by decide +kernel
theorem dX7_check_18 : decode cX7_check 18 = .ok (.if_icmp .ge 40, 3) := by decide +kernel
theorem dX7_check_21 : decode cX7_check 21 = .ok (.aload_n 0, 1) := by decide +kernel
theorem dX7_check_22 : decode cX7_check 22 = .ok (.iload_n 2, 1) := by decide +kernel
theorem dX7_check_23 : decode cX7_check 23 = .ok (.invokevirtual 152, 3) := by decide +kernel
theorem dX7_check_26 : decode cX7_check 26 = .ok (.ifCond .eq 22, 3) := by decide +kernel
theorem dX7_check_29 : decode cX7_check 29 = .ok (.aload_n 0, 1) := by decide +kernel
theorem dX7_check_30 : decode cX7_check 30 = .ok (.getfield 7, 3) := by decide +kernel
theorem dX7_check_33 : decode cX7_check 33 = .ok (.sipush 358, 3) := by decide +kernel
theorem dX7_check_36 : decode cX7_check 36 = .ok (.iload_n 2, 1) := by decide +kernel
theorem dX7_check_37 : decode cX7_check 37 = .ok (.iadd, 1) := by decide +kernel
theorem dX7_check_38 : decode cX7_check 38 = .ok (.iaload, 1) := by decide +kernel
theorem dX7_check_39 : decode cX7_check 39 = .ok (.aload_n 0, 1) := by decide +kernel
theorem dX7_check_40 : decode cX7_check 40 = .ok (.iload_n 2, 1) := by decide +kernel
theorem dX7_check_41 : decode cX7_check 41 = .ok (.iconst 2, 1) := by decide +kernel
theorem dX7_check_42 : decode cX7_check 42 = .ok (.invokevirtual 54, 3) := by decide +kernel
theorem dX7_check_45 : decode cX7_check 45 = .ok (.if_icmp .eq 7, 3) := by decide +kernel
theorem dX7_check_48 : decode cX7_check 48 = .ok (.iconst 1, 1) := by decide +kernel
theorem dX7_check_49 : decode cX7_check 49 = .ok (.iload_n 2, 1) := by decide +kernel
theorem dX7_check_50 : decode cX7_check 50 = .ok (.iadd, 1) := by decide +kernel
theorem dX7_check_51 : decode cX7_check 51 = .ok (.ireturn, 1) := by decide +kernel
theorem dX7_check_52 : decode cX7_check 52 = .ok (.iinc 2 1, 3) := by decide +kernel
theorem dX7_check_55 : decode cX7_check 55 = .ok (.goto (-39), 3) := by decide +kernel
theorem dX7_check_58 : decode cX7_check 58 = .ok (.iconst 0, 1) := by decide +kernel
theorem dX7_check_59 : decode cX7_check 59 = .ok (.ireturn, 1) := by decide +kernel
theorem dX7_count_0 : decode cX7_count 0 = .ok (.iload_n 1, 1) := by decide +kernel
theorem dX7_count_1 : decode cX7_count 1 = .ok (.tableswitch 90 0 6 #[43, 50, 57, 64, 71, 78, 83], 43) := by decide +kernel
theorem dX7_count_44 : decode cX7_count 44 = .ok (.aload_n 0, 1) := by decide +kernel
theorem dX7_count_45 : decode cX7_count 45 = .ok (.getfield 7, 3) := by decide +kernel
theorem dX7_count_48 : decode cX7_count 48 = .ok (.iconst 5, 1) := by decide +kernel
theorem dX7_count_49 : decode cX7_count 49 = .ok (.iaload, 1) := by decide +kernel
theorem dX7_count_50 : decode cX7_count 50 = .ok (.ireturn, 1) := by decide +kernel
theorem dX7_count_51 : decode cX7_count 51 = .ok (.aload_n 0, 1) := by decide +kernel
theorem dX7_count_52 : decode cX7_count 52 = .ok (.getfield 7, 3) := by decide +kernel
theorem dX7_count_55 : decode cX7_count 55 = .ok (.iconst 0, 1) := by decide +kernel
theorem dX7_count_56 : decode cX7_count 56 = .ok (.iaload, 1) := by decide +kernel
theorem dX7_count_57 : decode cX7_count 57 = .ok (.ireturn, 1) := by decide +kernel
theorem dX7_count_58 : decode cX7_count 58 = .ok (.aload_n 0, 1) := by decide +kernel
theorem dX7_count_59 : decode cX7_count 59 = .ok (.getfield 7, 3) := by decide +kernel
theorem dX7_count_62 : decode cX7_count 62 = .ok (.iconst 1, 1) := by decide +kernel
theorem dX7_count_63 : decode cX7_count 63 = .ok (.iaload, 1) := by decide +kernel
theorem dX7_count_64 : decode cX7_count 64 = .ok (.ireturn, 1) := by decide +kernel
theorem dX7_count_65 : decode cX7_count 65 = .ok (.aload_n 0, 1) := by decide +kernel
theorem dX7_count_66 : decode cX7_count 66 = .ok (.getfield 7, 3) := by decide +kernel
theorem dX7_count_69 : decode cX7_count 69 = .ok (.iconst 3, 1) := by decide +kernel
theorem dX7_count_70 : decode cX7_count 70 = .ok (.iaload, 1) := by decide +kernel
theorem dX7_count_71 : decode cX7_count 71 = .ok (.ireturn, 1) := by decide +kernel
theorem dX7_count_72 : decode cX7_count 72 = .ok (.aload_n 0, 1) := by decide +kernel
theorem dX7_count_73 : decode cX7_count 73 = .ok (.getfield 7, 3) := by decide +kernel
theorem dX7_count_76 : decode cX7_count 76 = .ok (.iconst 4, 1) := by decide +kernel
theorem dX7_count_77 : decode cX7_count 77 = .ok (.iaload, 1) := by decide +kernel
theorem dX7_count_78 : decode cX7_count 78 = .ok (.ireturn, 1) := by decide +kernel
theorem dX7_count_79 : decode cX7_count 79 = .ok (.aload_n 0, 1) := by decide +kernel
theorem dX7_count_80 : decode cX7_count 80 = .ok (.getfield 219, 3) := by decide +kernel
theorem dX7_count_83 : decode cX7_count 83 = .ok (.ireturn, 1) := by decide +kernel
theorem dX7_count_84 : decode cX7_count 84 = .ok (.aload_n 0, 1) := by decide +kernel
theorem dX7_count_85 : decode cX7_count 85 = .ok (.getfield 7, 3) := by decide +kernel
theorem dX7_count_88 : decode cX7_count 88 = .ok (.iconst 2, 1) := by decide +kernel
theorem dX7_count_89 : decode cX7_count 89 = .ok (.iaload, 1) := by decide +kernel
theorem dX7_count_90 : decode cX7_count 90 = .ok (.ireturn, 1) := by decide +kernel
theorem dX7_count_91 : decode cX7_count 91 = .ok (.aload_n 0, 1) := by decide +kernel
theorem dX7_count_92 : decode cX7_count 92 = .ok (.iconst 1, 1) := by decide +kernel
theorem dX7_count_93 : decode cX7_count 93 = .ok (.invokevirtual 58, 3) := by decide +kernel
theorem dX7_count_96 : decode cX7_count 96 = .ok (.ireturn, 1) := by decide +kernel
theorem dX7_told_0 : decode cX7_told 0 = .ok (.iload_n 1, 1) := by decide +kernel
theorem dX7_told_1 : decode cX7_told 1 = .ok (.iconst 1, 1) := by decide +kernel
theorem dX7_told_2 : decode cX7_told 2 = .ok (.bipush 6, 2) := by decide +kernel
theorem dX7_told_4 : decode cX7_told 4 = .ok (.invokestatic 50, 3) := by decide +kernel
theorem dX7_told_7 : decode cX7_told 7 = .ok (.ifCond .eq 12, 3) := by decide +kernel
theorem dX7_told_10 : decode cX7_told 10 = .ok (.aload_n 0, 1) := by decide +kernel
theorem dX7_told_11 : decode cX7_told 11 = .ok (.getfield 16, 3) := by decide +kernel
theorem dX7_told_14 : decode cX7_told 14 = .ok (.iload_n 1, 1) := by decide +kernel
theorem dX7_told_15 : decode cX7_told 15 = .ok (.iaload, 1) := by decide +kernel
theorem dX7_told_16 : decode cX7_told 16 = .ok (.goto 8, 3) := by decide +kernel
theorem dX7_told_19 : decode cX7_told 19 = .ok (.aload_n 0, 1) := by decide +kernel
theorem dX7_told_20 : decode cX7_told 20 = .ok (.iconst 1, 1) := by decide +kernel
theorem dX7_told_21 : decode cX7_told 21 = .ok (.invokevirtual 58, 3) := by decide +kernel
theorem dX7_told_24 : decode cX7_told 24 = .ok (.ireturn, 1) := by decide +kernel
