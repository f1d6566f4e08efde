theorem dX3_init_0 : decode cX3_init 0 = .ok (.aload_n 0, 1) := by decide +kernel
theorem dX3_init_1 : decode cX3_init 1 = .ok (.invokespecial 3, 3) := by decide +kernel
theorem dX3_init_4 : decode cX3_init 4 = .ok (.aload_n 0, 1) := by decide +kernel
theorem dX3_init_5 : decode cX3_init 5 = .ok (.new 9, 3) := by decide +kernel
theorem dX3_init_8 : decode cX3_init 8 = .ok (.dup, 1) := by decide +kernel
theorem dX3_init_9 : decode cX3_init 9 = .ok (.invokespecial 11, 3) := by decide +kernel
theorem dX3_init_12 : decode cX3_init 12 = .ok (.putfield 12, 3) := by decide +kernel
theorem dX3_init_15 : decode cX3_init 15 = .ok (.aload_n 0, 1) := by decide +kernel
theorem dX3_init_16 : decode cX3_init 16 = .ok (.bipush 10, 2) := by decide +kernel
theorem dX3_init_18 : decode cX3_init 18 = .ok (.newarray .int, 2) := by decide +kernel
theorem dX3_init_20 : decode cX3_init 20 = .ok (.putfield 18, 3) := by decide +kernel
theorem dX3_init_23 : decode cX3_init 23 = .ok (.aload_n 0, 1) := by decide +kernel
theorem dX3_init_24 : decode cX3_init 24 = .ok (.bipush 10, 2) := by decide +kernel
theorem dX3_init_26 : decode cX3_init 26 = .ok (.newarray .int, 2) := by decide +kernel
theorem dX3_init_28 : decode cX3_init 28 = .ok (.putfield 22, 3) := by decide +kernel
theorem dX3_init_31 : decode cX3_init 31 = .ok (.aload_n 0, 1) := by decide +kernel
theorem dX3_init_32 : decode cX3_init 32 = .ok (.bipush 10, 2) := by decide +kernel
theorem dX3_init_34 : decode cX3_init 34 = .ok (.newarray .int, 2) := by decide +kernel
theorem dX3_init_36 : decode cX3_init 36 = .ok (.putfield 25, 3) := by decide +kernel
theorem dX3_init_39 : decode cX3_init 39 = .ok (.aload_n 0, 1) := by decide +kernel
theorem dX3_init_40 : decode cX3_init 40 = .ok (.bipush 10, 2) := by decide +kernel
theorem dX3_init_42 : decode cX3_init 42 = .ok (.newarray .int, 2) := by decide +kernel
theorem dX3_init_44 : decode cX3_init 44 = .ok (.putfield 28, 3) := by decide +kernel
theorem dX3_init_47 : decode cX3_init 47 = .ok (.aload_n 0, 1) := by decide +kernel
theorem dX3_init_48 : decode cX3_init 48 = .ok (.bipush 24, 2) := by decide +kernel
theorem dX3_init_50 : decode cX3_init 50 = .ok (.newarray .int, 2) := by decide +kernel
theorem dX3_init_52 : decode cX3_init 52 = .ok (.putfield 31, 3) := by decide +kernel
theorem dX3_init_55 : decode cX3_init 55 = .ok (.aload_n 0, 1) := by decide +kernel
theorem dX3_init_56 : decode cX3_init 56 = .ok (.iconst 1, 1) := by decide +kernel
theorem dX3_init_57 : decode cX3_init 57 = .ok (.putfield 34, 3) := by decide +kernel
theorem dX3_init_60 : decode cX3_init 60 = .ok (.return_, 1) := by decide +kernel
theorem dX3_becomeLike_0 : decode cX3_becomeLike 0 = .ok (.aload_n 0, 1) := by decide +kernel
theorem dX3_becomeLike_1 : decode cX3_becomeLike 1 = .ok (.aload_n 1, 1) := by decide +kernel
theorem dX3_becomeLike_2 : decode cX3_becomeLike 2 = .ok (.getfield 38, 3) := by decide +kernel
theorem dX3_becomeLike_5 : decode cX3_becomeLike 5 = .ok (.putfield 38, 3) := by decide +kernel
theorem dX3_becomeLike_8 : decode cX3_becomeLike 8 = .ok (.aload_n 0, 1) := by decide +kernel
theorem dX3_becomeLike_9 : decode cX3_becomeLike 9 = .ok (.aload_n 1, 1) := by decide +kernel
theorem dX3_becomeLike_10 : decode cX3_becomeLike 10 = .ok (.getfield 41, 3) := by decide +kernel
theorem dX3_becomeLike_13 : decode cX3_becomeLike 13 = .ok (.putfield 41, 3) := by decide +kernel
theorem dX3_becomeLike_16 : decode cX3_becomeLike 16 = .ok (.aload_n 0, 1) := by decide +kernel
theorem dX3_becomeLike_17 : decode cX3_becomeLike 17 = .ok (.aload_n 1, 1) := by decide +kernel
theorem dX3_becomeLike_18 : decode cX3_becomeLike 18 = .ok (.getfield 44, 3) := by decide +kernel
theorem dX3_becomeLike_21 : decode cX3_becomeLike 21 = .ok (.putfield 44, 3) := by decide +kernel
theorem dX3_becomeLike_24 : decode cX3_becomeLike 24 = .ok (.aload_n 0, 1) := by decide +kernel
theorem dX3_becomeLike_25 : decode cX3_becomeLike 25 = .ok (.aload_n 1, 1) := by decide +kernel
theorem dX3_becomeLike_26 : decode cX3_becomeLike 26 = .ok (.getfield 34, 3) := by decide +kernel
theorem dX3_becomeLike_29 : decode cX3_becomeLike 29 = .ok (.putfield 34, 3) := by decide +kernel
theorem dX3_becomeLike_32 : decode cX3_becomeLike 32 = .ok (.aload_n 0, 1) := by decide +kernel
theorem dX3_becomeLike_33 : decode cX3_becomeLike 33 = .ok (.aload_n 1, 1) := by decide +kernel
theorem dX3_becomeLike_34 : decode cX3_becomeLike 34 = .ok (.getfield 47, 3) := by decide +kernel
theorem dX3_becomeLike_37 : decode cX3_becomeLike 37 = .ok (.putfield 47, 3) := by decide +kernel
theorem dX3_becomeLike_40 : decode cX3_becomeLike 40 = .ok (.aload_n 1, 1) := by decide +kernel
theorem dX3_becomeLike_41 : decode cX3_becomeLike 41 = .ok (.getfield 18, 3) := by decide +kernel
theorem dX3_becomeLike_44 : decode cX3_becomeLike 44 = .ok (.iconst 0, 1) := by decide +kernel
theorem dX3_becomeLike_45 : decode cX3_becomeLike 45 = .ok (.aload_n 0, 1) := by decide +kernel
theorem dX3_becomeLike_46 : decode cX3_becomeLike 46 = .ok (.getfield 18, 3) := by decide +kernel
theorem dX3_becomeLike_49 : decode cX3_becomeLike 49 = .ok (.iconst 0, 1) := by decide +kernel
theorem dX3_becomeLike_50 : decode cX3_becomeLike 50 = .ok (.bipush 10, 2) := by decide +kernel
theorem dX3_becomeLike_52 : decode cX3_becomeLike 52 = .ok (.invokestatic 50, 3) := by decide +kernel
theorem dX3_becomeLike_55 : decode cX3_becomeLike 55 = .ok (.aload_n 1, 1) := by decide +kernel
theorem dX3_becomeLike_56 : decode cX3_becomeLike 56 = .ok (.getfield 22, 3) := by decide +kernel
theorem dX3_becomeLike_59 : decode cX3_becomeLike 59 = .ok (.iconst 0, 1) := by decide +kernel
theorem dX3_becomeLike_60 : decode cX3_becomeLike 60 = .ok (.aload_n 0, 1) := by decide +kernel
theorem dX3_becomeLike_61 : decode cX3_becomeLike 61 = .ok (.getfield 22, 3) := by decide +kernel
theorem dX3_becomeLike_64 : decode cX3_becomeLike 64 = .ok (.iconst 0, 1) := by decide +kernel
theorem dX3_becomeLike_65 : decode cX3_becomeLike 65 = .ok (.bipush 10, 2) := by decide +kernel
theorem dX3_becomeLike_67 : decode cX3_becomeLike 67 = .ok (.invokestatic 50, 3) := by decide +kernel
theorem dX3_becomeLike_70 : decode cX3_becomeLike 70 = .ok (.aload_n 1, 1) := by decide +kernel
theorem dX3_becomeLike_71 : decode cX3_becomeLike 71 = .ok (.getfield 25, 3) := by decide +kernel
theorem dX3_becomeLike_74 : decode cX3_becomeLike 74 = .ok (.iconst 0, 1) := by decide +kernel
theorem dX3_becomeLike_75 : decode cX3_becomeLike 75 = .ok (.aload_n 0, 1) := by decide +kernel
theorem dX3_becomeLike_76 : decode cX3_becomeLike 76 = .ok (.getfield 25, 3) := by decide +kernel
theorem dX3_becomeLike_79 : decode cX3_becomeLike 79 = .ok (.iconst 0, 1) := by decide +kernel
theorem dX3_becomeLike_80 : decode cX3_becomeLike 80 = .ok (.bipush 10, 2) := by decide +kernel
theorem dX3_becomeLike_82 : decode cX3_becomeLike 82 = .ok (.invokestatic 50, 3) := by decide +kernel
theorem dX3_becomeLike_85 : decode cX3_becomeLike 85 = .ok (.aload_n 1, 1) := by decide +kernel
theorem dX3_becomeLike_86 : decode cX3_becomeLike 86 = .ok (.getfield 28, 3) := by decide +kernel
theorem dX3_becomeLike_89 : decode cX3_becomeLike 89 = .ok (.iconst 0, 1) := by decide +kernel
theorem dX3_becomeLike_90 : decode cX3_becomeLike 90 = .ok (.aload_n 0, 1) := by decide +kernel
theorem dX3_becomeLike_91 : decode cX3_becomeLike 91 = .ok (.getfield 28, 3) := by decide +kernel
theorem dX3_becomeLike_94 : decode cX3_becomeLike 94 = .ok (.iconst 0, 1) := by decide +kernel
theorem dX3_becomeLike_95 : decode cX3_becomeLike 95 = .ok (.bipush 10, 2) := by decide +kernel
theorem dX3_becomeLike_97 : decode cX3_becomeLike 97 = .ok (.invokestatic 50, 3) := by decide +kernel
theorem dX3_becomeLike_100 : decode cX3_becomeLike 100 = .ok (.aload_n 1, 1) := by decide +kernel
theorem dX3_becomeLike_101 : decode cX3_becomeLike 101 = .ok (.getfield 31, 3) := by decide +kernel
theorem dX3_becomeLike_104 : decode cX3_becomeLike 104 = .ok (.iconst 0, 1) := by decide +kernel
theorem dX3_becomeLike_105 : decode cX3_becomeLike 105 = .ok (.aload_n 0, 1) := by decide +kernel
theorem dX3_becomeLike_106 : decode cX3_becomeLike 106 = .ok (.getfield 31, 3) := by decide +kernel
theorem dX3_becomeLike_109 : decode cX3_becomeLike 109 = .ok (.iconst 0, 1) := by decide +kernel
theorem dX3_becomeLike_110 : decode cX3_becomeLike 110 = .ok (.bipush 24, 2) := by decide +kernel
theorem dX3_becomeLike_112 : decode cX3_becomeLike 112 = .ok (.invokestatic 50, 3) := by decide +kernel
theorem dX3_becomeLike_115 : decode cX3_becomeLike 115 = .ok (.aload_n 0, 1) := by decide +kernel
theorem dX3_becomeLike_116 : decode cX3_becomeLike 116 = .ok (.getfield 12, 3) := by decide +kernel
theorem dX3_becomeLike_119 : decode cX3_becomeLike 119 = .ok (.aload_n 1, 1) := by decide +kernel
theorem dX3_becomeLike_120 : decode cX3_becomeLike 120 = .ok (.getfield 12, 3) := by decide +kernel
theorem dX3_becomeLike_123 : decode cX3_becomeLike 123 = .ok (.invokevirtual 56, 3) := by decide +kernel
theorem dX3_becomeLike_126 : decode cX3_becomeLike 126 = .ok (.return_, 1) := by decide +kernel
theorem dX3_hasHouse_0 : decode cX3_hasHouse 0 = .ok (.iload_n 1, 1) := by decide +kernel
theorem dX3_hasHouse_1 : decode cX3_hasHouse 1 = .ok (.ifCond .lt 21, 3) := by decide +kernel
theorem dX3_hasHouse_4 : decode cX3_hasHouse 4 = .ok (.iload_n 1, 1) := by decide +kernel
theorem dX3_hasHouse_5 : decode cX3_hasHouse 5 = .ok (.aload_n 0, 1) := by decide +kernel
theorem dX3_hasHouse_6 : decode cX3_hasHouse 6 = .ok (.getfield 38, 3) := by decide +kernel
theorem dX3_hasHouse_9 : decode cX3_hasHouse 9 = .ok (.if_icmp .ge 13, 3) := by decide +kernel
theorem dX3_hasHouse_12 : decode cX3_hasHouse 12 = .ok (.iload_n 1, 1) := by decide +kernel
theorem dX3_hasHouse_13 : decode cX3_hasHouse 13 = .ok (.bipush 10, 2) := by decide +kernel
theorem dX3_hasHouse_15 : decode cX3_hasHouse 15 = .ok (.if_icmp .ge 7, 3) := by decide +kernel
theorem dX3_hasHouse_18 : decode cX3_hasHouse 18 = .ok (.iconst 1, 1) := by decide +kernel
theorem dX3_hasHouse_19 : decode cX3_hasHouse 19 = .ok (.goto 4, 3) := by decide +kernel
theorem dX3_hasHouse_22 : decode cX3_hasHouse 22 = .ok (.iconst 0, 1) := by decide +kernel
theorem dX3_hasHouse_23 : decode cX3_hasHouse 23 = .ok (.ireturn, 1) := by decide +kernel
theorem dX3_kind_0 : decode cX3_kind 0 = .ok (.aload_n 0, 1) := by decide +kernel
theorem dX3_kind_1 : decode cX3_kind 1 = .ok (.iload_n 1, 1) := by decide +kernel
theorem dX3_kind_2 : decode cX3_kind 2 = .ok (.invokevirtual 60, 3) := by decide +kernel
theorem dX3_kind_5 : decode cX3_kind 5 = .ok (.ifCond .eq 12, 3) := by decide +kernel
theorem dX3_kind_8 : decode cX3_kind 8 = .ok (.aload_n 0, 1) := by decide +kernel
theorem dX3_kind_9 : decode cX3_kind 9 = .ok (.getfield 18, 3) := by decide +kernel
theorem dX3_kind_12 : decode cX3_kind 12 = .ok (.iload_n 1, 1) := by decide +kernel
theorem dX3_kind_13 : decode cX3_kind 13 = .ok (.iaload, 1) := by decide +kernel
theorem dX3_kind_14 : decode cX3_kind 14 = .ok (.goto 4, 3) := by decide +kernel
theorem dX3_kind_17 : decode cX3_kind 17 = .ok (.iconst 0, 1) := by decide +kernel
theorem dX3_kind_18 : decode cX3_kind 18 = .ok (.ireturn, 1) := by decide +kernel
theorem dX3_m_0 : decode cX3_m 0 = .ok (.aload_n 0, 1) := by decide +kernel
theorem dX3_m_1 : decode cX3_m 1 = .ok (.iload_n 1, 1) := by decide +kernel
theorem dX3_m_2 : decode cX3_m 2 = .ok (.invokevirtual 60, 3) := by decide +kernel
theorem dX3_m_5 : decode cX3_m 5 = .ok (.ifCond .eq 12, 3) := by decide +kernel
theorem dX3_m_8 : decode cX3_m 8 = .ok (.aload_n 0, 1) := by decide +kernel
theorem dX3_m_9 : decode cX3_m 9 = .ok (.getfield 22, 3) := by decide +kernel
theorem dX3_m_12 : decode cX3_m 12 = .ok (.iload_n 1, 1) := by decide +kernel
theorem dX3_m_13 : decode cX3_m 13 = .ok (.iaload, 1) := by decide +kernel
theorem dX3_m_14 : decode cX3_m 14 = .ok (.goto 4, 3) := by decide +kernel
theorem dX3_m_17 : decode cX3_m 17 = .ok (.iconst 0, 1) := by decide +kernel
theorem dX3_m_18 : decode cX3_m 18 = .ok (.ireturn, 1) := by decide +kernel
theorem dX3_plate_0 : decode cX3_plate 0 = .ok (.aload_n 0, 1) := by decide +kernel
theorem dX3_plate_1 : decode cX3_plate 1 = .ok (.iload_n 1, 1) := by decide +kernel
theorem dX3_plate_2 : decode cX3_plate 2 = .ok (.invokevirtual 60, 3) := by decide +kernel
theorem dX3_plate_5 : decode cX3_plate 5 = .ok (.ifCond .eq 12, 3) := by decide +kernel
theorem dX3_plate_8 : decode cX3_plate 8 = .ok (.aload_n 0, 1) := by decide +kernel
theorem dX3_plate_9 : decode cX3_plate 9 = .ok (.getfield 25, 3) := by decide +kernel
theorem dX3_plate_12 : decode cX3_plate 12 = .ok (.iload_n 1, 1) := by decide +kernel
theorem dX3_plate_13 : decode cX3_plate 13 = .ok (.iaload, 1) := by decide +kernel
theorem dX3_plate_14 : decode cX3_plate 14 = .ok (.goto 4, 3) := by decide +kernel
theorem dX3_plate_17 : decode cX3_plate 17 = .ok (.iconst 0, 1) := by decide +kernel
theorem dX3_plate_18 : decode cX3_plate 18 = .ok (.ireturn, 1) := by decide +kernel
theorem dX3_houseAt_0 : decode cX3_houseAt 0 = .ok (.aload_n 0, 1) := by decide +kernel
theorem dX3_houseAt_1 : decode cX3_houseAt 1 = .ok (.iload_n 1, 1) := by decide +kernel
theorem dX3_houseAt_2 : decode cX3_houseAt 2 = .ok (.invokevirtual 60, 3) := by decide +kernel
theorem dX3_houseAt_5 : decode cX3_houseAt 5 = .ok (.ifCond .eq 12, 3) := by decide +kernel
theorem dX3_houseAt_8 : decode cX3_houseAt 8 = .ok (.aload_n 0, 1) := by decide +kernel
theorem dX3_houseAt_9 : decode cX3_houseAt 9 = .ok (.getfield 28, 3) := by decide +kernel
theorem dX3_houseAt_12 : decode cX3_houseAt 12 = .ok (.iload_n 1, 1) := by decide +kernel
theorem dX3_houseAt_13 : decode cX3_houseAt 13 = .ok (.iaload, 1) := by decide +kernel
theorem dX3_houseAt_14 : decode cX3_houseAt 14 = .ok (.goto 4, 3) := by decide +kernel
theorem dX3_houseAt_17 : decode cX3_houseAt 17 = .ok (.iconst (-1), 1) := by decide +kernel
theorem dX3_houseAt_18 : decode cX3_houseAt 18 = .ok (.ireturn, 1) := by decide +kernel
theorem dX3_plateAt_0 : decode cX3_plateAt 0 = .ok (.aload_n 0, 1) := by decide +kernel
theorem dX3_plateAt_1 : decode cX3_plateAt 1 = .ok (.aload_n 0, 1) := by decide +kernel
theorem dX3_plateAt_2 : decode cX3_plateAt 2 = .ok (.iload_n 1, 1) := by decide +kernel
theorem dX3_plateAt_3 : decode cX3_plateAt 3 = .ok (.invokevirtual 64, 3) := by decide +kernel
theorem dX3_plateAt_6 : decode cX3_plateAt 6 = .ok (.invokevirtual 68, 3) := by decide +kernel
theorem dX3_plateAt_9 : decode cX3_plateAt 9 = .ok (.ireturn, 1) := by decide +kernel
theorem dX3_placeOf_0 : decode cX3_placeOf 0 = .ok (.iconst 0, 1) := by decide +kernel
theorem dX3_placeOf_1 : decode cX3_placeOf 1 = .ok (.istore_n 2, 1) := by decide +kernel
theorem dX3_placeOf_2 : decode cX3_placeOf 2 = .ok (.iload_n 2, 1) := by decide +kernel
theorem dX3_placeOf_3 : decode cX3_placeOf 3 = .ok (.bipush 10, 2) := by decide +kernel
theorem dX3_placeOf_5 : decode cX3_placeOf 5 = .ok (.if_icmp .ge 29, 3) := by decide +kernel
theorem dX3_placeOf_8 : decode cX3_placeOf 8 = .ok (.iload_n 2, 1) := by decide +kernel
theorem dX3_placeOf_9 : decode cX3_placeOf 9 = .ok (.aload_n 0, 1) := by decide +kernel
theorem dX3_placeOf_10 : decode cX3_placeOf 10 = .ok (.getfield 38, 3) := by decide +kernel
theorem dX3_placeOf_13 : decode cX3_placeOf 13 = .ok (.if_icmp .ge 21, 3) := by decide +kernel
theorem dX3_placeOf_16 : decode cX3_placeOf 16 = .ok (.aload_n 0, 1) := by decide +kernel
theorem dX3_placeOf_17 : decode cX3_placeOf 17 = .ok (.getfield 28, 3) := by decide +kernel
theorem dX3_placeOf_20 : decode cX3_placeOf 20 = .ok (.iload_n 2, 1) := by decide +kernel
theorem dX3_placeOf_21 : decode cX3_placeOf 21 = .ok (.iaload, 1) := by decide +kernel
theorem dX3_placeOf_22 : decode cX3_placeOf 22 = .ok (.iload_n 1, 1) := by decide +kernel
theorem dX3_placeOf_23 : decode cX3_placeOf 23 = .ok (.if_icmp .ne 5, 3) := by decide +kernel
theorem dX3_placeOf_26 : decode cX3_placeOf 26 = .ok (.iload_n 2, 1) := by decide +kernel
theorem dX3_placeOf_27 : decode cX3_placeOf 27 = .ok (.ireturn, 1) := by decide +kernel
theorem dX3_placeOf_28 : decode cX3_placeOf 28 = .ok (.iinc 2 1, 3) := by decide +kernel
theorem dX3_placeOf_31 : decode cX3_placeOf 31 = .ok (.goto (-29), 3) := by decide +kernel
theorem dX3_placeOf_34 : decode cX3_placeOf 34 = .ok (.iconst (-1), 1) := by decide +kernel
theorem dX3_placeOf_35 : decode cX3_placeOf 35 = .ok (.ireturn, 1) := by decide +kernel
theorem dX3_setKind_0 : decode cX3_setKind 0 = .ok (.aload_n 0, 1) := by decide +kernel
theorem dX3_setKind_1 : decode cX3_setKind 1 = .ok (.iload_n 1, 1) := by decide +kernel
theorem dX3_setKind_2 : decode cX3_setKind 2 = .ok (.invokevirtual 60, 3) := by decide +kernel
theorem dX3_setKind_5 : decode cX3_setKind 5 = .ok (.ifCond .eq 17, 3) := by decide +kernel
theorem dX3_setKind_8 : decode cX3_setKind 8 = .ok (.aload_n 0, 1) := by decide +kernel
theorem dX3_setKind_9 : decode cX3_setKind 9 = .ok (.getfield 18, 3) := by decide +kernel
theorem dX3_setKind_12 : decode cX3_setKind 12 = .ok (.iload_n 1, 1) := by decide +kernel
theorem dX3_setKind_13 : decode cX3_setKind 13 = .ok (.iload_n 2, 1) := by decide +kernel
theorem dX3_setKind_14 : decode cX3_setKind 14 = .ok (.iastore, 1) := by decide +kernel
theorem dX3_setKind_15 : decode cX3_setKind 15 = .ok (.aload_n 0, 1) := by decide +kernel
theorem dX3_setKind_16 : decode cX3_setKind 16 = .ok (.getfield 22, 3) := by decide +kernel
theorem dX3_setKind_19 : decode cX3_setKind 19 = .ok (.iload_n 1, 1) := by decide +kernel
theorem dX3_setKind_20 : decode cX3_setKind 20 = .ok (.iload_n 3, 1) := by decide +kernel
theorem dX3_setKind_21 : decode cX3_setKind 21 = .ok (.iastore, 1) := by decide +kernel
theorem dX3_setKind_22 : decode cX3_setKind 22 = .ok (.return_, 1) := by decide +kernel
theorem dX3_setPlate_0 : decode cX3_setPlate 0 = .ok (.aload_n 0, 1) := by decide +kernel
theorem dX3_setPlate_1 : decode cX3_setPlate 1 = .ok (.iload_n 1, 1) := by decide +kernel
theorem dX3_setPlate_2 : decode cX3_setPlate 2 = .ok (.invokevirtual 60, 3) := by decide +kernel
theorem dX3_setPlate_5 : decode cX3_setPlate 5 = .ok (.ifCond .eq 10, 3) := by decide +kernel
theorem dX3_setPlate_8 : decode cX3_setPlate 8 = .ok (.aload_n 0, 1) := by decide +kernel
theorem dX3_setPlate_9 : decode cX3_setPlate 9 = .ok (.getfield 25, 3) := by decide +kernel
theorem dX3_setPlate_12 : decode cX3_setPlate 12 = .ok (.iload_n 1, 1) := by decide +kernel
theorem dX3_setPlate_13 : decode cX3_setPlate 13 = .ok (.iload_n 2, 1) := by decide +kernel
theorem dX3_setPlate_14 : decode cX3_setPlate 14 = .ok (.iastore, 1) := by decide +kernel
theorem dX3_setPlate_15 : decode cX3_setPlate 15 = .ok (.return_, 1) := by decide +kernel
theorem dX3_addHouse_0 : decode cX3_addHouse 0 = .ok (.aload_n 0, 1) := by decide +kernel
theorem dX3_addHouse_1 : decode cX3_addHouse 1 = .ok (.getfield 38, 3) := by decide +kernel
theorem dX3_addHouse_4 : decode cX3_addHouse 4 = .ok (.istore 5, 2) := by decide +kernel
theorem dX3_addHouse_6 : decode cX3_addHouse 6 = .ok (.iload 5, 2) := by decide +kernel
theorem dX3_addHouse_8 : decode cX3_addHouse 8 = .ok (.ifCond .lt 20, 3) := by decide +kernel
theorem dX3_addHouse_11 : decode cX3_addHouse 11 = .ok (.iload 5, 2) := by decide +kernel
theorem dX3_addHouse_13 : decode cX3_addHouse 13 = .ok (.bipush 10, 2) := by decide +kernel
theorem dX3_addHouse_15 : decode cX3_addHouse 15 = .ok (.if_icmp .ge 13, 3) := by decide +kernel
theorem dX3_addHouse_18 : decode cX3_addHouse 18 = .ok (.iload_n 3, 1) := by decide +kernel
theorem dX3_addHouse_19 : decode cX3_addHouse 19 = .ok (.ifCond .lt 9, 3) := by decide +kernel
theorem dX3_addHouse_22 : decode cX3_addHouse 22 = .ok (.iload_n 3, 1) := by decide +kernel
theorem dX3_addHouse_23 : decode cX3_addHouse 23 = .ok (.iload 5, 2) := by decide +kernel
theorem dX3_addHouse_25 : decode cX3_addHouse 25 = .ok (.if_icmp .le 5, 3) := by decide +kernel
theorem dX3_addHouse_28 : decode cX3_addHouse 28 = .ok (.iconst (-1), 1) := by decide +kernel
theorem dX3_addHouse_29 : decode cX3_addHouse 29 = .ok (.ireturn, 1) := by decide +kernel
theorem dX3_addHouse_30 : decode cX3_addHouse 30 = .ok (.aload_n 0, 1) := by decide +kernel
theorem dX3_addHouse_31 : decode cX3_addHouse 31 = .ok (.getfield 28, 3) := by decide +kernel
theorem dX3_addHouse_34 : decode cX3_addHouse 34 = .ok (.iload_n 3, 1) := by decide +kernel
theorem dX3_addHouse_35 : decode cX3_addHouse 35 = .ok (.aload_n 0, 1) := by decide +kernel
theorem dX3_addHouse_36 : decode cX3_addHouse 36 = .ok (.getfield 28, 3) := by decide +kernel
theorem dX3_addHouse_39 : decode cX3_addHouse 39 = .ok (.iload_n 3, 1) := by decide +kernel
theorem dX3_addHouse_40 : decode cX3_addHouse 40 = .ok (.iconst 1, 1) := by decide +kernel
theorem dX3_addHouse_41 : decode cX3_addHouse 41 = .ok (.iadd, 1) := by decide +kernel
theorem dX3_addHouse_42 : decode cX3_addHouse 42 = .ok (.iload 5, 2) := by decide +kernel
theorem dX3_addHouse_44 : decode cX3_addHouse 44 = .ok (.iload_n 3, 1) := by decide +kernel
theorem dX3_addHouse_45 : decode cX3_addHouse 45 = .ok (.isub, 1) := by decide +kernel
theorem dX3_addHouse_46 : decode cX3_addHouse 46 = .ok (.invokestatic 50, 3) := by decide +kernel
theorem dX3_addHouse_49 : decode cX3_addHouse 49 = .ok (.aload_n 0, 1) := by decide +kernel
theorem dX3_addHouse_50 : decode cX3_addHouse 50 = .ok (.getfield 28, 3) := by decide +kernel
theorem dX3_addHouse_53 : decode cX3_addHouse 53 = .ok (.iload_n 3, 1) := by decide +kernel
theorem dX3_addHouse_54 : decode cX3_addHouse 54 = .ok (.iload 5, 2) := by decide +kernel
theorem dX3_addHouse_56 : decode cX3_addHouse 56 = .ok (.iastore, 1) := by decide +kernel
theorem dX3_addHouse_57 : decode cX3_addHouse 57 = .ok (.aload_n 0, 1) := by decide +kernel
theorem dX3_addHouse_58 : decode cX3_addHouse 58 = .ok (.iload 5, 2) := by decide +kernel
theorem dX3_addHouse_60 : decode cX3_addHouse 60 = .ok (.iconst 1, 1) := by decide +kernel
theorem dX3_addHouse_61 : decode cX3_addHouse 61 = .ok (.iadd, 1) := by decide +kernel
theorem dX3_addHouse_62 : decode cX3_addHouse 62 = .ok (.putfield 38, 3) := by decide +kernel
theorem dX3_addHouse_65 : decode cX3_addHouse 65 = .ok (.aload_n 0, 1) := by decide +kernel
theorem dX3_addHouse_66 : decode cX3_addHouse 66 = .ok (.iload 5, 2) := by decide +kernel
theorem dX3_addHouse_68 : decode cX3_addHouse 68 = .ok (.iload_n 1, 1) := by decide +kernel
theorem dX3_addHouse_69 : decode cX3_addHouse 69 = .ok (.iload_n 2, 1) := by decide +kernel
theorem dX3_addHouse_70 : decode cX3_addHouse 70 = .ok (.invokevirtual 71, 3) := by decide +kernel
theorem dX3_addHouse_73 : decode cX3_addHouse 73 = .ok (.aload_n 0, 1) := by decide +kernel
theorem dX3_addHouse_74 : decode cX3_addHouse 74 = .ok (.iload 5, 2) := by decide +kernel
theorem dX3_addHouse_76 : decode cX3_addHouse 76 = .ok (.iload 4, 2) := by decide +kernel
theorem dX3_addHouse_78 : decode cX3_addHouse 78 = .ok (.invokevirtual 75, 3) := by decide +kernel
theorem dX3_addHouse_81 : decode cX3_addHouse 81 = .ok (.iload 5, 2) := by decide +kernel
theorem dX3_addHouse_83 : decode cX3_addHouse 83 = .ok (.ireturn, 1) := by decide +kernel
theorem dX3_addWaiting_0 : decode cX3_addWaiting 0 = .ok (.aload_n 0, 1) := by decide +kernel
theorem dX3_addWaiting_1 : decode cX3_addWaiting 1 = .ok (.getfield 47, 3) := by decide +kernel
theorem dX3_addWaiting_4 : decode cX3_addWaiting 4 = .ok (.ifCond .lt 32, 3) := by decide +kernel
theorem dX3_addWaiting_7 : decode cX3_addWaiting 7 = .ok (.aload_n 0, 1) := by decide +kernel
theorem dX3_addWaiting_8 : decode cX3_addWaiting 8 = .ok (.getfield 47, 3) := by decide +kernel
theorem dX3_addWaiting_11 : decode cX3_addWaiting 11 = .ok (.bipush 24, 2) := by decide +kernel
theorem dX3_addWaiting_13 : decode cX3_addWaiting 13 = .ok (.if_icmp .ge 23, 3) := by decide +kernel
theorem dX3_addWaiting_16 : decode cX3_addWaiting 16 = .ok (.aload_n 0, 1) := by decide +kernel
theorem dX3_addWaiting_17 : decode cX3_addWaiting 17 = .ok (.getfield 31, 3) := by decide +kernel
theorem dX3_addWaiting_20 : decode cX3_addWaiting 20 = .ok (.aload_n 0, 1) := by decide +kernel
theorem dX3_addWaiting_21 : decode cX3_addWaiting 21 = .ok (.getfield 47, 3) := by decide +kernel
theorem dX3_addWaiting_24 : decode cX3_addWaiting 24 = .ok (.iload_n 1, 1) := by decide +kernel
theorem dX3_addWaiting_25 : decode cX3_addWaiting 25 = .ok (.iastore, 1) := by decide +kernel
theorem dX3_addWaiting_26 : decode cX3_addWaiting 26 = .ok (.aload_n 0, 1) := by decide +kernel
theorem dX3_addWaiting_27 : decode cX3_addWaiting 27 = .ok (.dup, 1) := by decide +kernel
theorem dX3_addWaiting_28 : decode cX3_addWaiting 28 = .ok (.getfield 47, 3) := by decide +kernel
theorem dX3_addWaiting_31 : decode cX3_addWaiting 31 = .ok (.iconst 1, 1) := by decide +kernel
theorem dX3_addWaiting_32 : decode cX3_addWaiting 32 = .ok (.iadd, 1) := by decide +kernel
theorem dX3_addWaiting_33 : decode cX3_addWaiting 33 = .ok (.putfield 47, 3) := by decide +kernel
theorem dX3_addWaiting_36 : decode cX3_addWaiting 36 = .ok (.aload_n 0, 1) := by decide +kernel
theorem dX3_addWaiting_37 : decode cX3_addWaiting 37 = .ok (.getfield 47, 3) := by decide +kernel
theorem dX3_addWaiting_40 : decode cX3_addWaiting 40 = .ok (.ireturn, 1) := by decide +kernel
theorem dX3_waitingAt_0 : decode cX3_waitingAt 0 = .ok (.iload_n 1, 1) := by decide +kernel
theorem dX3_waitingAt_1 : decode cX3_waitingAt 1 = .ok (.ifCond .lt 18, 3) := by decide +kernel
theorem dX3_waitingAt_4 : decode cX3_waitingAt 4 = .ok (.iload_n 1, 1) := by decide +kernel
theorem dX3_waitingAt_5 : decode cX3_waitingAt 5 = .ok (.bipush 24, 2) := by decide +kernel
theorem dX3_waitingAt_7 : decode cX3_waitingAt 7 = .ok (.if_icmp .ge 12, 3) := by decide +kernel
theorem dX3_waitingAt_10 : decode cX3_waitingAt 10 = .ok (.aload_n 0, 1) := by decide +kernel
theorem dX3_waitingAt_11 : decode cX3_waitingAt 11 = .ok (.getfield 31, 3) := by decide +kernel
theorem dX3_waitingAt_14 : decode cX3_waitingAt 14 = .ok (.iload_n 1, 1) := by decide +kernel
theorem dX3_waitingAt_15 : decode cX3_waitingAt 15 = .ok (.iaload, 1) := by decide +kernel
theorem dX3_waitingAt_16 : decode cX3_waitingAt 16 = .ok (.goto 4, 3) := by decide +kernel
theorem dX3_waitingAt_19 : decode cX3_waitingAt 19 = .ok (.iconst 0, 1) := by decide +kernel
theorem dX3_waitingAt_20 : decode cX3_waitingAt 20 = .ok (.ireturn, 1) := by decide +kernel
theorem dX3_minds_0 : decode cX3_minds 0 = .ok (.iload_n 2, 1) := by decide +kernel
theorem dX3_minds_1 : decode cX3_minds 1 = .ok (.aload_n 0, 1) := by decide +kernel
theorem dX3_minds_2 : decode cX3_minds 2 = .ok (.iload_n 1, 1) := by decide +kernel
theorem dX3_minds_3 : decode cX3_minds 3 = .ok (.invokevirtual 68, 3) := by decide +kernel
theorem dX3_minds_6 : decode cX3_minds 6 = .ok (.isub, 1) := by decide +kernel
theorem dX3_minds_7 : decode cX3_minds 7 = .ok (.invokestatic 79, 3) := by decide +kernel
theorem dX3_minds_10 : decode cX3_minds 10 = .ok (.istore_n 3, 1) := by decide +kernel
theorem dX3_minds_11 : decode cX3_minds 11 = .ok (.aload_n 0, 1) := by decide +kernel
theorem dX3_minds_12 : decode cX3_minds 12 = .ok (.iload_n 1, 1) := by decide +kernel
theorem dX3_minds_13 : decode cX3_minds 13 = .ok (.invokevirtual 84, 3) := by decide +kernel
theorem dX3_minds_16 : decode cX3_minds 16 = .ok (.tableswitch 101 1 6 #[40, 46, 52, 70, 78, 99], 40) := by decide +kernel
theorem dX3_minds_56 : decode cX3_minds 56 = .ok (.iload_n 3, 1) := by decide +kernel
theorem dX3_minds_57 : decode cX3_minds 57 = .ok (.iload_n 2, 1) := by decide +kernel
theorem dX3_minds_58 : decode cX3_minds 58 = .ok (.invokestatic 87, 3) := by decide +kernel
theorem dX3_minds_61 : decode cX3_minds 61 = .ok (.ireturn, 1) := by decide +kernel
theorem dX3_minds_62 : decode cX3_minds 62 = .ok (.iload_n 3, 1) := by decide +kernel
theorem dX3_minds_63 : decode cX3_minds 63 = .ok (.iload_n 2, 1) := by decide +kernel
theorem dX3_minds_64 : decode cX3_minds 64 = .ok (.invokestatic 91, 3) := by decide +kernel
theorem dX3_minds_67 : decode cX3_minds 67 = .ok (.ireturn, 1) := by decide +kernel
theorem dX3_minds_68 : decode cX3_minds 68 = .ok (.iload_n 2, 1) := by decide +kernel
theorem dX3_minds_69 : decode cX3_minds 69 = .ok (.iconst 2, 1) := by decide +kernel
theorem dX3_minds_70 : decode cX3_minds 70 = .ok (.irem, 1) := by decide +kernel
theorem dX3_minds_71 : decode cX3_minds 71 = .ok (.ifCond .ne 7, 3) := by decide +kernel
theorem dX3_minds_74 : decode cX3_minds 74 = .ok (.iload_n 3, 1) := by decide +kernel
theorem dX3_minds_75 : decode cX3_minds 75 = .ok (.goto 10, 3) := by decide +kernel
theorem dX3_minds_78 : decode cX3_minds 78 = .ok (.iload_n 3, 1) := by decide +kernel
theorem dX3_minds_79 : decode cX3_minds 79 = .ok (.aload_n 0, 1) := by decide +kernel
theorem dX3_minds_80 : decode cX3_minds 80 = .ok (.iload_n 1, 1) := by decide +kernel
theorem dX3_minds_81 : decode cX3_minds 81 = .ok (.invokevirtual 94, 3) := by decide +kernel
theorem dX3_minds_84 : decode cX3_minds 84 = .ok (.iadd, 1) := by decide +kernel
theorem dX3_minds_85 : decode cX3_minds 85 = .ok (.ireturn, 1) := by decide +kernel
theorem dX3_minds_86 : decode cX3_minds 86 = .ok (.iconst 3, 1) := by decide +kernel
theorem dX3_minds_87 : decode cX3_minds 87 = .ok (.iload_n 3, 1) := by decide +kernel
theorem dX3_minds_88 : decode cX3_minds 88 = .ok (.iload_n 2, 1) := by decide +kernel
theorem dX3_minds_89 : decode cX3_minds 89 = .ok (.invokestatic 87, 3) := by decide +kernel
theorem dX3_minds_92 : decode cX3_minds 92 = .ok (.imul, 1) := by decide +kernel
theorem dX3_minds_93 : decode cX3_minds 93 = .ok (.ireturn, 1) := by decide +kernel
theorem dX3_minds_94 : decode cX3_minds 94 = .ok (.iload_n 3, 1) := by decide +kernel
theorem dX3_minds_95 : decode cX3_minds 95 = .ok (.iload_n 2, 1) := by decide +kernel
theorem dX3_minds_96 : decode cX3_minds 96 = .ok (.invokestatic 91, 3) := by decide +kernel
theorem dX3_minds_99 : decode cX3_minds 99 = .ok (.iload_n 2, 1) := by decide +kernel
theorem dX3_minds_100 : decode cX3_minds 100 = .ok (.bipush 10, 2) := by decide +kernel
theorem dX3_minds_102 : decode cX3_minds 102 = .ok (.irem, 1) := by decide +kernel
theorem dX3_minds_103 : decode cX3_minds 103 = .ok (.iconst 4, 1) := by decide +kernel
theorem dX3_minds_104 : decode cX3_minds 104 = .ok (.if_icmp .ne 8, 3) := by decide +kernel
theorem dX3_minds_107 : decode cX3_minds 107 = .ok (.bipush 20, 2) := by decide +kernel
theorem dX3_minds_109 : decode cX3_minds 109 = .ok (.goto 4, 3) := by decide +kernel
theorem dX3_minds_112 : decode cX3_minds 112 = .ok (.iconst 0, 1) := by decide +kernel
theorem dX3_minds_113 : decode cX3_minds 113 = .ok (.iadd, 1) := by decide +kernel
theorem dX3_minds_114 : decode cX3_minds 114 = .ok (.ireturn, 1) := by decide +kernel
theorem dX3_minds_115 : decode cX3_minds 115 = .ok (.iconst 0, 1) := by decide +kernel
theorem dX3_minds_116 : decode cX3_minds 116 = .ok (.ireturn, 1) := by decide +kernel
theorem dX3_minds_117 : decode cX3_minds 117 = .ok (.iload_n 3, 1) := by decide +kernel
theorem dX3_minds_118 : decode cX3_minds 118 = .ok (.ireturn, 1) := by decide +kernel
theorem dX3_villaMinds_0 : decode cX3_villaMinds 0 = .ok (.iload_n 1, 1) := by decide +kernel
theorem dX3_villaMinds_1 : decode cX3_villaMinds 1 = .ok (.bipush 100, 2) := by decide +kernel
theorem dX3_villaMinds_3 : decode cX3_villaMinds 3 = .ok (.irem, 1) := by decide +kernel
theorem dX3_villaMinds_4 : decode cX3_villaMinds 4 = .ok (.bipush 13, 2) := by decide +kernel
theorem dX3_villaMinds_6 : decode cX3_villaMinds 6 = .ok (.if_icmp .ne 10, 3) := by decide +kernel
theorem dX3_villaMinds_9 : decode cX3_villaMinds 9 = .ok (.iload_n 0, 1) := by decide +kernel
theorem dX3_villaMinds_10 : decode cX3_villaMinds 10 = .ok (.bipush 50, 2) := by decide +kernel
theorem dX3_villaMinds_12 : decode cX3_villaMinds 12 = .ok (.iadd, 1) := by decide +kernel
theorem dX3_villaMinds_13 : decode cX3_villaMinds 13 = .ok (.goto 4, 3) := by decide +kernel
theorem dX3_villaMinds_16 : decode cX3_villaMinds 16 = .ok (.iload_n 0, 1) := by decide +kernel
theorem dX3_villaMinds_17 : decode cX3_villaMinds 17 = .ok (.ireturn, 1) := by decide +kernel
theorem dX3_shopMinds_0 : decode cX3_shopMinds 0 = .ok (.iload_n 1, 1) := by decide +kernel
theorem dX3_shopMinds_1 : decode cX3_shopMinds 1 = .ok (.bipush 10, 2) := by decide +kernel
theorem dX3_shopMinds_3 : decode cX3_shopMinds 3 = .ok (.irem, 1) := by decide +kernel
theorem dX3_shopMinds_4 : decode cX3_shopMinds 4 = .ok (.bipush 8, 2) := by decide +kernel
theorem dX3_shopMinds_6 : decode cX3_shopMinds 6 = .ok (.if_icmp .ne 7, 3) := by decide +kernel
theorem dX3_shopMinds_9 : decode cX3_shopMinds 9 = .ok (.iconst 0, 1) := by decide +kernel
theorem dX3_shopMinds_10 : decode cX3_shopMinds 10 = .ok (.goto 6, 3) := by decide +kernel
theorem dX3_shopMinds_13 : decode cX3_shopMinds 13 = .ok (.iload_n 0, 1) := by decide +kernel
theorem dX3_shopMinds_14 : decode cX3_shopMinds 14 = .ok (.iconst 2, 1) := by decide +kernel
theorem dX3_shopMinds_15 : decode cX3_shopMinds 15 = .ok (.idiv, 1) := by decide +kernel
theorem dX3_shopMinds_16 : decode cX3_shopMinds 16 = .ok (.ireturn, 1) := by decide +kernel
theorem dX3_front_0 : decode cX3_front 0 = .ok (.bipush 6, 2) := by decide +kernel
theorem dX3_front_2 : decode cX3_front 2 = .ok (.aload_n 0, 1) := by decide +kernel
theorem dX3_front_3 : decode cX3_front 3 = .ok (.iload_n 1, 1) := by decide +kernel
theorem dX3_front_4 : decode cX3_front 4 = .ok (.invokevirtual 94, 3) := by decide +kernel
theorem dX3_front_7 : decode cX3_front 7 = .ok (.iadd, 1) := by decide +kernel
theorem dX3_front_8 : decode cX3_front 8 = .ok (.istore_n 2, 1) := by decide +kernel
theorem dX3_front_9 : decode cX3_front 9 = .ok (.aload_n 0, 1) := by decide +kernel
theorem dX3_front_10 : decode cX3_front 10 = .ok (.iload_n 1, 1) := by decide +kernel
theorem dX3_front_11 : decode cX3_front 11 = .ok (.invokevirtual 84, 3) := by decide +kernel
theorem dX3_front_14 : decode cX3_front 14 = .ok (.tableswitch 69 1 6 #[38, 42, 69, 46, 53, 59], 38) := by decide +kernel
theorem dX3_front_52 : decode cX3_front 52 = .ok (.iconst 2, 1) := by decide +kernel
theorem dX3_front_53 : decode cX3_front 53 = .ok (.iload_n 2, 1) := by decide +kernel
theorem dX3_front_54 : decode cX3_front 54 = .ok (.imul, 1) := by decide +kernel
theorem dX3_front_55 : decode cX3_front 55 = .ok (.ireturn, 1) := by decide +kernel
theorem dX3_front_56 : decode cX3_front 56 = .ok (.iload_n 2, 1) := by decide +kernel
theorem dX3_front_57 : decode cX3_front 57 = .ok (.iconst 2, 1) := by decide +kernel
theorem dX3_front_58 : decode cX3_front 58 = .ok (.isub, 1) := by decide +kernel
theorem dX3_front_59 : decode cX3_front 59 = .ok (.ireturn, 1) := by decide +kernel
theorem dX3_front_60 : decode cX3_front 60 = .ok (.iconst 2, 1) := by decide +kernel
theorem dX3_front_61 : decode cX3_front 61 = .ok (.iload_n 2, 1) := by decide +kernel
theorem dX3_front_62 : decode cX3_front 62 = .ok (.imul, 1) := by decide +kernel
theorem dX3_front_63 : decode cX3_front 63 = .ok (.bipush 10, 2) := by decide +kernel
theorem dX3_front_65 : decode cX3_front 65 = .ok (.iadd, 1) := by decide +kernel
theorem dX3_front_66 : decode cX3_front 66 = .ok (.ireturn, 1) := by decide +kernel
theorem dX3_front_67 : decode cX3_front 67 = .ok (.iload_n 2, 1) := by decide +kernel
theorem dX3_front_68 : decode cX3_front 68 = .ok (.iconst 2, 1) := by decide +kernel
theorem dX3_front_69 : decode cX3_front 69 = .ok (.isub, 1) := by decide +kernel
theorem dX3_front_70 : decode cX3_front 70 = .ok (.iconst 2, 1) := by decide +kernel
theorem dX3_front_71 : decode cX3_front 71 = .ok (.idiv, 1) := by decide +kernel
theorem dX3_front_72 : decode cX3_front 72 = .ok (.ireturn, 1) := by decide +kernel
theorem dX3_front_73 : decode cX3_front 73 = .ok (.bipush 20, 2) := by decide +kernel
theorem dX3_front_75 : decode cX3_front 75 = .ok (.aload_n 0, 1) := by decide +kernel
theorem dX3_front_76 : decode cX3_front 76 = .ok (.getfield 41, 3) := by decide +kernel
theorem dX3_front_79 : decode cX3_front 79 = .ok (.iconst 5, 1) := by decide +kernel
theorem dX3_front_80 : decode cX3_front 80 = .ok (.irem, 1) := by decide +kernel
theorem dX3_front_81 : decode cX3_front 81 = .ok (.iadd, 1) := by decide +kernel
theorem dX3_front_82 : decode cX3_front 82 = .ok (.ireturn, 1) := by decide +kernel
theorem dX3_front_83 : decode cX3_front 83 = .ok (.iload_n 2, 1) := by decide +kernel
theorem dX3_front_84 : decode cX3_front 84 = .ok (.ireturn, 1) := by decide +kernel
theorem dX3_harmTo_0 : decode cX3_harmTo 0 = .ok (.aload_n 0, 1) := by decide +kernel
theorem dX3_harmTo_1 : decode cX3_harmTo 1 = .ok (.iload_n 1, 1) := by decide +kernel
theorem dX3_harmTo_2 : decode cX3_harmTo 2 = .ok (.invokevirtual 68, 3) := by decide +kernel
theorem dX3_harmTo_5 : decode cX3_harmTo 5 = .ok (.istore_n 3, 1) := by decide +kernel
theorem dX3_harmTo_6 : decode cX3_harmTo 6 = .ok (.iload_n 2, 1) := by decide +kernel
theorem dX3_harmTo_7 : decode cX3_harmTo 7 = .ok (.iload_n 3, 1) := by decide +kernel
theorem dX3_harmTo_8 : decode cX3_harmTo 8 = .ok (.if_icmp .ne 7, 3) := by decide +kernel
theorem dX3_harmTo_11 : decode cX3_harmTo 11 = .ok (.iconst 0, 1) := by decide +kernel
theorem dX3_harmTo_12 : decode cX3_harmTo 12 = .ok (.goto 25, 3) := by decide +kernel
theorem dX3_harmTo_15 : decode cX3_harmTo 15 = .ok (.aload_n 0, 1) := by decide +kernel
theorem dX3_harmTo_16 : decode cX3_harmTo 16 = .ok (.getfield 12, 3) := by decide +kernel
theorem dX3_harmTo_19 : decode cX3_harmTo 19 = .ok (.iconst 0, 1) := by decide +kernel
theorem dX3_harmTo_20 : decode cX3_harmTo 20 = .ok (.aload_n 0, 1) := by decide +kernel
theorem dX3_harmTo_21 : decode cX3_harmTo 21 = .ok (.iload_n 1, 1) := by decide +kernel
theorem dX3_harmTo_22 : decode cX3_harmTo 22 = .ok (.iload_n 2, 1) := by decide +kernel
theorem dX3_harmTo_23 : decode cX3_harmTo 23 = .ok (.invokevirtual 97, 3) := by decide +kernel
theorem dX3_harmTo_26 : decode cX3_harmTo 26 = .ok (.aload_n 0, 1) := by decide +kernel
theorem dX3_harmTo_27 : decode cX3_harmTo 27 = .ok (.getfield 41, 3) := by decide +kernel
theorem dX3_harmTo_30 : decode cX3_harmTo 30 = .ok (.bipush 7, 2) := by decide +kernel
theorem dX3_harmTo_32 : decode cX3_harmTo 32 = .ok (.irem, 1) := by decide +kernel
theorem dX3_harmTo_33 : decode cX3_harmTo 33 = .ok (.iload_n 3, 1) := by decide +kernel
theorem dX3_harmTo_34 : decode cX3_harmTo 34 = .ok (.invokevirtual 100, 3) := by decide +kernel
theorem dX3_harmTo_37 : decode cX3_harmTo 37 = .ok (.ireturn, 1) := by decide +kernel
theorem dX3_yardsAt_0 : decode cX3_yardsAt 0 = .ok (.aload_n 0, 1) := by decide +kernel
theorem dX3_yardsAt_1 : decode cX3_yardsAt 1 = .ok (.getfield 12, 3) := by decide +kernel
theorem dX3_yardsAt_4 : decode cX3_yardsAt 4 = .ok (.iconst 1, 1) := by decide +kernel
theorem dX3_yardsAt_5 : decode cX3_yardsAt 5 = .ok (.aload_n 0, 1) := by decide +kernel
theorem dX3_yardsAt_6 : decode cX3_yardsAt 6 = .ok (.aload_n 0, 1) := by decide +kernel
theorem dX3_yardsAt_7 : decode cX3_yardsAt 7 = .ok (.iload_n 1, 1) := by decide +kernel
theorem dX3_yardsAt_8 : decode cX3_yardsAt 8 = .ok (.invokevirtual 64, 3) := by decide +kernel
theorem dX3_yardsAt_11 : decode cX3_yardsAt 11 = .ok (.invokevirtual 104, 3) := by decide +kernel
theorem dX3_yardsAt_14 : decode cX3_yardsAt 14 = .ok (.iload_n 1, 1) := by decide +kernel
theorem dX3_yardsAt_15 : decode cX3_yardsAt 15 = .ok (.aload_n 0, 1) := by decide +kernel
theorem dX3_yardsAt_16 : decode cX3_yardsAt 16 = .ok (.getfield 41, 3) := by decide +kernel
theorem dX3_yardsAt_19 : decode cX3_yardsAt 19 = .ok (.bipush 7, 2) := by decide +kernel
theorem dX3_yardsAt_21 : decode cX3_yardsAt 21 = .ok (.irem, 1) := by decide +kernel
theorem dX3_yardsAt_22 : decode cX3_yardsAt 22 = .ok (.invokevirtual 100, 3) := by decide +kernel
theorem dX3_yardsAt_25 : decode cX3_yardsAt 25 = .ok (.ireturn, 1) := by decide +kernel
theorem dX3_yardsAhead_0 : decode cX3_yardsAhead 0 = .ok (.iconst 0, 1) := by decide +kernel
theorem dX3_yardsAhead_1 : decode cX3_yardsAhead 1 = .ok (.istore_n 2, 1) := by decide +kernel
theorem dX3_yardsAhead_2 : decode cX3_yardsAhead 2 = .ok (.iconst 0, 1) := by decide +kernel
theorem dX3_yardsAhead_3 : decode cX3_yardsAhead 3 = .ok (.istore_n 3, 1) := by decide +kernel
theorem dX3_yardsAhead_4 : decode cX3_yardsAhead 4 = .ok (.iload_n 3, 1) := by decide +kernel
theorem dX3_yardsAhead_5 : decode cX3_yardsAhead 5 = .ok (.iload_n 1, 1) := by decide +kernel
theorem dX3_yardsAhead_6 : decode cX3_yardsAhead 6 = .ok (.if_icmp .ge 17, 3) := by decide +kernel
theorem dX3_yardsAhead_9 : decode cX3_yardsAhead 9 = .ok (.iload_n 2, 1) := by decide +kernel
theorem dX3_yardsAhead_10 : decode cX3_yardsAhead 10 = .ok (.aload_n 0, 1) := by decide +kernel
theorem dX3_yardsAhead_11 : decode cX3_yardsAhead 11 = .ok (.iload_n 3, 1) := by decide +kernel
theorem dX3_yardsAhead_12 : decode cX3_yardsAhead 12 = .ok (.invokevirtual 107, 3) := by decide +kernel
theorem dX3_yardsAhead_15 : decode cX3_yardsAhead 15 = .ok (.iadd, 1) := by decide +kernel
theorem dX3_yardsAhead_16 : decode cX3_yardsAhead 16 = .ok (.istore_n 2, 1) := by decide +kernel
theorem dX3_yardsAhead_17 : decode cX3_yardsAhead 17 = .ok (.iinc 3 1, 3) := by decide +kernel
theorem dX3_yardsAhead_20 : decode cX3_yardsAhead 20 = .ok (.goto (-16), 3) := by decide +kernel
theorem dX3_yardsAhead_23 : decode cX3_yardsAhead 23 = .ok (.iload_n 2, 1) := by decide +kernel
theorem dX3_yardsAhead_24 : decode cX3_yardsAhead 24 = .ok (.ireturn, 1) := by decide +kernel
theorem dX3_getsNumber_0 : decode cX3_getsNumber 0 = .ok (.aload_n 0, 1) := by decide +kernel
theorem dX3_getsNumber_1 : decode cX3_getsNumber 1 = .ok (.iload_n 1, 1) := by decide +kernel
theorem dX3_getsNumber_2 : decode cX3_getsNumber 2 = .ok (.iload_n 2, 1) := by decide +kernel
theorem dX3_getsNumber_3 : decode cX3_getsNumber 3 = .ok (.invokevirtual 110, 3) := by decide +kernel
theorem dX3_getsNumber_6 : decode cX3_getsNumber 6 = .ok (.istore_n 3, 1) := by decide +kernel
theorem dX3_getsNumber_7 : decode cX3_getsNumber 7 = .ok (.aload_n 0, 1) := by decide +kernel
theorem dX3_getsNumber_8 : decode cX3_getsNumber 8 = .ok (.ldc 113, 2) := by decide +kernel
theorem dX3_getsNumber_10 : decode cX3_getsNumber 10 = .ok (.aload_n 0, 1) := by decide +kernel
theorem dX3_getsNumber_11 : decode cX3_getsNumber 11 = .ok (.getfield 44, 3) := by decide +kernel
theorem dX3_getsNumber_14 : decode cX3_getsNumber 14 = .ok (.iload_n 3, 1) := by decide +kernel
theorem dX3_getsNumber_15 : decode cX3_getsNumber 15 = .ok (.iadd, 1) := by decide +kernel
theorem dX3_getsNumber_16 : decode cX3_getsNumber 16 = .ok (.invokestatic 114, 3) := by decide +kernel
theorem dX3_getsNumber_19 : decode cX3_getsNumber 19 = .ok (.putfield 44, 3) := by decide +kernel
theorem dX3_getsNumber_22 : decode cX3_getsNumber 22 = .ok (.aload_n 0, 1) := by decide +kernel
theorem dX3_getsNumber_23 : decode cX3_getsNumber 23 = .ok (.iload_n 1, 1) := by decide +kernel
theorem dX3_getsNumber_24 : decode cX3_getsNumber 24 = .ok (.iload_n 2, 1) := by decide +kernel
theorem dX3_getsNumber_25 : decode cX3_getsNumber 25 = .ok (.invokevirtual 75, 3) := by decide +kernel
theorem dX3_getsNumber_28 : decode cX3_getsNumber 28 = .ok (.iload_n 3, 1) := by decide +kernel
theorem dX3_getsNumber_29 : decode cX3_getsNumber 29 = .ok (.ireturn, 1) := by decide +kernel
theorem dX3_renumberBy_0 : decode cX3_renumberBy 0 = .ok (.iconst 0, 1) := by decide +kernel
theorem dX3_renumberBy_1 : decode cX3_renumberBy 1 = .ok (.istore_n 2, 1) := by decide +kernel
theorem dX3_renumberBy_2 : decode cX3_renumberBy 2 = .ok (.iconst 0, 1) := by decide +kernel
theorem dX3_renumberBy_3 : decode cX3_renumberBy 3 = .ok (.istore_n 3, 1) := by decide +kernel
theorem dX3_renumberBy_4 : decode cX3_renumberBy 4 = .ok (.iload_n 3, 1) := by decide +kernel
theorem dX3_renumberBy_5 : decode cX3_renumberBy 5 = .ok (.aload_n 0, 1) := by decide +kernel
theorem dX3_renumberBy_6 : decode cX3_renumberBy 6 = .ok (.getfield 38, 3) := by decide +kernel
theorem dX3_renumberBy_9 : decode cX3_renumberBy 9 = .ok (.if_icmp .ge 26, 3) := by decide +kernel
theorem dX3_renumberBy_12 : decode cX3_renumberBy 12 = .ok (.iload_n 2, 1) := by decide +kernel
theorem dX3_renumberBy_13 : decode cX3_renumberBy 13 = .ok (.aload_n 0, 1) := by decide +kernel
theorem dX3_renumberBy_14 : decode cX3_renumberBy 14 = .ok (.aload_n 0, 1) := by decide +kernel
theorem dX3_renumberBy_15 : decode cX3_renumberBy 15 = .ok (.iload_n 3, 1) := by decide +kernel
theorem dX3_renumberBy_16 : decode cX3_renumberBy 16 = .ok (.invokevirtual 64, 3) := by decide +kernel
theorem dX3_renumberBy_19 : decode cX3_renumberBy 19 = .ok (.iload_n 1, 1) := by decide +kernel
theorem dX3_renumberBy_20 : decode cX3_renumberBy 20 = .ok (.iload_n 3, 1) := by decide +kernel
theorem dX3_renumberBy_21 : decode cX3_renumberBy 21 = .ok (.iconst 1, 1) := by decide +kernel
theorem dX3_renumberBy_22 : decode cX3_renumberBy 22 = .ok (.iadd, 1) := by decide +kernel
theorem dX3_renumberBy_23 : decode cX3_renumberBy 23 = .ok (.imul, 1) := by decide +kernel
theorem dX3_renumberBy_24 : decode cX3_renumberBy 24 = .ok (.invokevirtual 117, 3) := by decide +kernel
theorem dX3_renumberBy_27 : decode cX3_renumberBy 27 = .ok (.iadd, 1) := by decide +kernel
theorem dX3_renumberBy_28 : decode cX3_renumberBy 28 = .ok (.istore_n 2, 1) := by decide +kernel
theorem dX3_renumberBy_29 : decode cX3_renumberBy 29 = .ok (.iinc 3 1, 3) := by decide +kernel
theorem dX3_renumberBy_32 : decode cX3_renumberBy 32 = .ok (.goto (-28), 3) := by decide +kernel
theorem dX3_renumberBy_35 : decode cX3_renumberBy 35 = .ok (.iload_n 2, 1) := by decide +kernel
theorem dX3_renumberBy_36 : decode cX3_renumberBy 36 = .ok (.ireturn, 1) := by decide +kernel
theorem dX3_harmOfGap_0 : decode cX3_harmOfGap 0 = .ok (.iconst 0, 1) := by decide +kernel
theorem dX3_harmOfGap_1 : decode cX3_harmOfGap 1 = .ok (.istore_n 2, 1) := by decide +kernel
theorem dX3_harmOfGap_2 : decode cX3_harmOfGap 2 = .ok (.iconst 0, 1) := by decide +kernel
theorem dX3_harmOfGap_3 : decode cX3_harmOfGap 3 = .ok (.istore_n 3, 1) := by decide +kernel
theorem dX3_harmOfGap_4 : decode cX3_harmOfGap 4 = .ok (.iload_n 3, 1) := by decide +kernel
theorem dX3_harmOfGap_5 : decode cX3_harmOfGap 5 = .ok (.aload_n 0, 1) := by decide +kernel
theorem dX3_harmOfGap_6 : decode cX3_harmOfGap 6 = .ok (.getfield 38, 3) := by decide +kernel
theorem dX3_harmOfGap_9 : decode cX3_harmOfGap 9 = .ok (.if_icmp .ge 26, 3) := by decide +kernel
theorem dX3_harmOfGap_12 : decode cX3_harmOfGap 12 = .ok (.iload_n 2, 1) := by decide +kernel
theorem dX3_harmOfGap_13 : decode cX3_harmOfGap 13 = .ok (.aload_n 0, 1) := by decide +kernel
theorem dX3_harmOfGap_14 : decode cX3_harmOfGap 14 = .ok (.aload_n 0, 1) := by decide +kernel
theorem dX3_harmOfGap_15 : decode cX3_harmOfGap 15 = .ok (.iload_n 3, 1) := by decide +kernel
theorem dX3_harmOfGap_16 : decode cX3_harmOfGap 16 = .ok (.invokevirtual 64, 3) := by decide +kernel
theorem dX3_harmOfGap_19 : decode cX3_harmOfGap 19 = .ok (.iload_n 1, 1) := by decide +kernel
theorem dX3_harmOfGap_20 : decode cX3_harmOfGap 20 = .ok (.iload_n 3, 1) := by decide +kernel
theorem dX3_harmOfGap_21 : decode cX3_harmOfGap 21 = .ok (.iconst 1, 1) := by decide +kernel
theorem dX3_harmOfGap_22 : decode cX3_harmOfGap 22 = .ok (.iadd, 1) := by decide +kernel
theorem dX3_harmOfGap_23 : decode cX3_harmOfGap 23 = .ok (.imul, 1) := by decide +kernel
theorem dX3_harmOfGap_24 : decode cX3_harmOfGap 24 = .ok (.invokevirtual 110, 3) := by decide +kernel
theorem dX3_harmOfGap_27 : decode cX3_harmOfGap 27 = .ok (.iadd, 1) := by decide +kernel
theorem dX3_harmOfGap_28 : decode cX3_harmOfGap 28 = .ok (.istore_n 2, 1) := by decide +kernel
theorem dX3_harmOfGap_29 : decode cX3_harmOfGap 29 = .ok (.iinc 3 1, 3) := by decide +kernel
theorem dX3_harmOfGap_32 : decode cX3_harmOfGap 32 = .ok (.goto (-28), 3) := by decide +kernel
theorem dX3_harmOfGap_35 : decode cX3_harmOfGap 35 = .ok (.iload_n 2, 1) := by decide +kernel
theorem dX3_harmOfGap_36 : decode cX3_harmOfGap 36 = .ok (.ireturn, 1) := by decide +kernel
theorem dX3_numberBetween_0 : decode cX3_numberBetween 0 = .ok (.iload_n 1, 1) := by decide +kernel
theorem dX3_numberBetween_1 : decode cX3_numberBetween 1 = .ok (.ifCond .le 13, 3) := by decide +kernel
theorem dX3_numberBetween_4 : decode cX3_numberBetween 4 = .ok (.aload_n 0, 1) := by decide +kernel
theorem dX3_numberBetween_5 : decode cX3_numberBetween 5 = .ok (.iload_n 1, 1) := by decide +kernel
theorem dX3_numberBetween_6 : decode cX3_numberBetween 6 = .ok (.iconst 1, 1) := by decide +kernel
theorem dX3_numberBetween_7 : decode cX3_numberBetween 7 = .ok (.isub, 1) := by decide +kernel
theorem dX3_numberBetween_8 : decode cX3_numberBetween 8 = .ok (.invokevirtual 120, 3) := by decide +kernel
theorem dX3_numberBetween_11 : decode cX3_numberBetween 11 = .ok (.goto 4, 3) := by decide +kernel
theorem dX3_numberBetween_14 : decode cX3_numberBetween 14 = .ok (.iconst 0, 1) := by decide +kernel
theorem dX3_numberBetween_15 : decode cX3_numberBetween 15 = .ok (.istore_n 2, 1) := by decide +kernel
theorem dX3_numberBetween_16 : decode cX3_numberBetween 16 = .ok (.iload_n 1, 1) := by decide +kernel
theorem dX3_numberBetween_17 : decode cX3_numberBetween 17 = .ok (.aload_n 0, 1) := by decide +kernel
theorem dX3_numberBetween_18 : decode cX3_numberBetween 18 = .ok (.getfield 38, 3) := by decide +kernel
theorem dX3_numberBetween_21 : decode cX3_numberBetween 21 = .ok (.if_icmp .ge 11, 3) := by decide +kernel
theorem dX3_numberBetween_24 : decode cX3_numberBetween 24 = .ok (.aload_n 0, 1) := by decide +kernel
theorem dX3_numberBetween_25 : decode cX3_numberBetween 25 = .ok (.iload_n 1, 1) := by decide +kernel
theorem dX3_numberBetween_26 : decode cX3_numberBetween 26 = .ok (.invokevirtual 120, 3) := by decide +kernel
theorem dX3_numberBetween_29 : decode cX3_numberBetween 29 = .ok (.goto 6, 3) := by decide +kernel
theorem dX3_numberBetween_32 : decode cX3_numberBetween 32 = .ok (.sipush 1000, 3) := by decide +kernel
theorem dX3_numberBetween_35 : decode cX3_numberBetween 35 = .ok (.istore_n 3, 1) := by decide +kernel
theorem dX3_numberBetween_36 : decode cX3_numberBetween 36 = .ok (.iload_n 3, 1) := by decide +kernel
theorem dX3_numberBetween_37 : decode cX3_numberBetween 37 = .ok (.iload_n 2, 1) := by decide +kernel
theorem dX3_numberBetween_38 : decode cX3_numberBetween 38 = .ok (.isub, 1) := by decide +kernel
theorem dX3_numberBetween_39 : decode cX3_numberBetween 39 = .ok (.iconst 2, 1) := by decide +kernel
theorem dX3_numberBetween_40 : decode cX3_numberBetween 40 = .ok (.if_icmp .ge 5, 3) := by decide +kernel
theorem dX3_numberBetween_43 : decode cX3_numberBetween 43 = .ok (.iconst (-1), 1) := by decide +kernel
theorem dX3_numberBetween_44 : decode cX3_numberBetween 44 = .ok (.ireturn, 1) := by decide +kernel
theorem dX3_numberBetween_45 : decode cX3_numberBetween 45 = .ok (.iload_n 1, 1) := by decide +kernel
theorem dX3_numberBetween_46 : decode cX3_numberBetween 46 = .ok (.aload_n 0, 1) := by decide +kernel
theorem dX3_numberBetween_47 : decode cX3_numberBetween 47 = .ok (.getfield 38, 3) := by decide +kernel
theorem dX3_numberBetween_50 : decode cX3_numberBetween 50 = .ok (.if_icmp .lt 9, 3) := by decide +kernel
theorem dX3_numberBetween_53 : decode cX3_numberBetween 53 = .ok (.iload_n 2, 1) := by decide +kernel
theorem dX3_numberBetween_54 : decode cX3_numberBetween 54 = .ok (.iconst 1, 1) := by decide +kernel
theorem dX3_numberBetween_55 : decode cX3_numberBetween 55 = .ok (.iadd, 1) := by decide +kernel
theorem dX3_numberBetween_56 : decode cX3_numberBetween 56 = .ok (.goto 10, 3) := by decide +kernel
theorem dX3_numberBetween_59 : decode cX3_numberBetween 59 = .ok (.iload_n 2, 1) := by decide +kernel
theorem dX3_numberBetween_60 : decode cX3_numberBetween 60 = .ok (.iload_n 3, 1) := by decide +kernel
theorem dX3_numberBetween_61 : decode cX3_numberBetween 61 = .ok (.iload_n 2, 1) := by decide +kernel
theorem dX3_numberBetween_62 : decode cX3_numberBetween 62 = .ok (.isub, 1) := by decide +kernel
theorem dX3_numberBetween_63 : decode cX3_numberBetween 63 = .ok (.iconst 2, 1) := by decide +kernel
theorem dX3_numberBetween_64 : decode cX3_numberBetween 64 = .ok (.idiv, 1) := by decide +kernel
theorem dX3_numberBetween_65 : decode cX3_numberBetween 65 = .ok (.iadd, 1) := by decide +kernel
theorem dX3_numberBetween_66 : decode cX3_numberBetween 66 = .ok (.ireturn, 1) := by decide +kernel
theorem dX3_draw_0 : decode cX3_draw 0 = .ok (.aload_n 0, 1) := by decide +kernel
theorem dX3_draw_1 : decode cX3_draw 1 = .ok (.aload_n 0, 1) := by decide +kernel
theorem dX3_draw_2 : decode cX3_draw 2 = .ok (.getfield 34, 3) := by decide +kernel
theorem dX3_draw_5 : decode cX3_draw 5 = .ok (.ldc 123, 2) := by decide +kernel
theorem dX3_draw_7 : decode cX3_draw 7 = .ok (.imul, 1) := by decide +kernel
theorem dX3_draw_8 : decode cX3_draw 8 = .ok (.sipush 12345, 3) := by decide +kernel
theorem dX3_draw_11 : decode cX3_draw 11 = .ok (.iadd, 1) := by decide +kernel
theorem dX3_draw_12 : decode cX3_draw 12 = .ok (.putfield 34, 3) := by decide +kernel
theorem dX3_draw_15 : decode cX3_draw 15 = .ok (.aload_n 0, 1) := by decide +kernel
theorem dX3_draw_16 : decode cX3_draw 16 = .ok (.getfield 34, 3) := by decide +kernel
theorem dX3_draw_19 : decode cX3_draw 19 = .ok (.bipush 8, 2) := by decide +kernel
theorem dX3_draw_21 : decode cX3_draw 21 = .ok (.iushr, 1) := by decide +kernel
theorem dX3_draw_22 : decode cX3_draw 22 = .ok (.ireturn, 1) := by decide +kernel
theorem dX3_passYearByDraws_0 : decode cX3_passYearByDraws 0 = .ok (.aload_n 0, 1) := by decide +kernel
theorem dX3_passYearByDraws_1 : decode cX3_passYearByDraws 1 = .ok (.invokevirtual 124, 3) := by decide +kernel
theorem dX3_passYearByDraws_4 : decode cX3_passYearByDraws 4 = .ok (.iconst 1, 1) := by decide +kernel
theorem dX3_passYearByDraws_5 : decode cX3_passYearByDraws 5 = .ok (.aload_n 0, 1) := by decide +kernel
theorem dX3_passYearByDraws_6 : decode cX3_passYearByDraws 6 = .ok (.getfield 38, 3) := by decide +kernel
theorem dX3_passYearByDraws_9 : decode cX3_passYearByDraws 9 = .ok (.iadd, 1) := by decide +kernel
theorem dX3_passYearByDraws_10 : decode cX3_passYearByDraws 10 = .ok (.invokestatic 128, 3) := by decide +kernel
theorem dX3_passYearByDraws_13 : decode cX3_passYearByDraws 13 = .ok (.istore_n 1, 1) := by decide +kernel
theorem dX3_passYearByDraws_14 : decode cX3_passYearByDraws 14 = .ok (.aload_n 0, 1) := by decide +kernel
theorem dX3_passYearByDraws_15 : decode cX3_passYearByDraws 15 = .ok (.invokevirtual 124, 3) := by decide +kernel
theorem dX3_passYearByDraws_18 : decode cX3_passYearByDraws 18 = .ok (.bipush 7, 2) := by decide +kernel
theorem dX3_passYearByDraws_20 : decode cX3_passYearByDraws 20 = .ok (.invokestatic 128, 3) := by decide +kernel
theorem dX3_passYearByDraws_23 : decode cX3_passYearByDraws 23 = .ok (.istore_n 2, 1) := by decide +kernel
theorem dX3_passYearByDraws_24 : decode cX3_passYearByDraws 24 = .ok (.aload_n 0, 1) := by decide +kernel
theorem dX3_passYearByDraws_25 : decode cX3_passYearByDraws 25 = .ok (.getfield 38, 3) := by decide +kernel
theorem dX3_passYearByDraws_28 : decode cX3_passYearByDraws 28 = .ok (.istore_n 3, 1) := by decide +kernel
theorem dX3_passYearByDraws_29 : decode cX3_passYearByDraws 29 = .ok (.aload_n 0, 1) := by decide +kernel
theorem dX3_passYearByDraws_30 : decode cX3_passYearByDraws 30 = .ok (.getfield 38, 3) := by decide +kernel
theorem dX3_passYearByDraws_33 : decode cX3_passYearByDraws 33 = .ok (.bipush 10, 2) := by decide +kernel
theorem dX3_passYearByDraws_35 : decode cX3_passYearByDraws 35 = .ok (.if_icmp .ge 31, 3) := by decide +kernel
theorem dX3_passYearByDraws_38 : decode cX3_passYearByDraws 38 = .ok (.aload_n 0, 1) := by decide +kernel
theorem dX3_passYearByDraws_39 : decode cX3_passYearByDraws 39 = .ok (.iload_n 1, 1) := by decide +kernel
theorem dX3_passYearByDraws_40 : decode cX3_passYearByDraws 40 = .ok (.invokevirtual 131, 3) := by decide +kernel
theorem dX3_passYearByDraws_43 : decode cX3_passYearByDraws 43 = .ok (.ifCond .ge 10, 3) := by decide +kernel
theorem dX3_passYearByDraws_46 : decode cX3_passYearByDraws 46 = .ok (.aload_n 0, 1) := by decide +kernel
theorem dX3_passYearByDraws_47 : decode cX3_passYearByDraws 47 = .ok (.bipush 10, 2) := by decide +kernel
theorem dX3_passYearByDraws_49 : decode cX3_passYearByDraws 49 = .ok (.invokevirtual 134, 3) := by decide +kernel
theorem dX3_passYearByDraws_52 : decode cX3_passYearByDraws 52 = .ok (.pop, 1) := by decide +kernel
theorem dX3_passYearByDraws_53 : decode cX3_passYearByDraws 53 = .ok (.aload_n 0, 1) := by decide +kernel
theorem dX3_passYearByDraws_54 : decode cX3_passYearByDraws 54 = .ok (.iload_n 2, 1) := by decide +kernel
theorem dX3_passYearByDraws_55 : decode cX3_passYearByDraws 55 = .ok (.iconst 0, 1) := by decide +kernel
theorem dX3_passYearByDraws_56 : decode cX3_passYearByDraws 56 = .ok (.iload_n 1, 1) := by decide +kernel
theorem dX3_passYearByDraws_57 : decode cX3_passYearByDraws 57 = .ok (.aload_n 0, 1) := by decide +kernel
theorem dX3_passYearByDraws_58 : decode cX3_passYearByDraws 58 = .ok (.iload_n 1, 1) := by decide +kernel
theorem dX3_passYearByDraws_59 : decode cX3_passYearByDraws 59 = .ok (.invokevirtual 131, 3) := by decide +kernel
theorem dX3_passYearByDraws_62 : decode cX3_passYearByDraws 62 = .ok (.invokevirtual 137, 3) := by decide +kernel
theorem dX3_passYearByDraws_65 : decode cX3_passYearByDraws 65 = .ok (.pop, 1) := by decide +kernel
theorem dX3_passYearByDraws_66 : decode cX3_passYearByDraws 66 = .ok (.aload_n 0, 1) := by decide +kernel
theorem dX3_passYearByDraws_67 : decode cX3_passYearByDraws 67 = .ok (.dup, 1) := by decide +kernel
theorem dX3_passYearByDraws_68 : decode cX3_passYearByDraws 68 = .ok (.getfield 41, 3) := by decide +kernel
theorem dX3_passYearByDraws_71 : decode cX3_passYearByDraws 71 = .ok (.iconst 1, 1) := by decide +kernel
theorem dX3_passYearByDraws_72 : decode cX3_passYearByDraws 72 = .ok (.iadd, 1) := by decide +kernel
theorem dX3_passYearByDraws_73 : decode cX3_passYearByDraws 73 = .ok (.putfield 41, 3) := by decide +kernel
theorem dX3_passYearByDraws_76 : decode cX3_passYearByDraws 76 = .ok (.aload_n 0, 1) := by decide +kernel
theorem dX3_passYearByDraws_77 : decode cX3_passYearByDraws 77 = .ok (.getfield 38, 3) := by decide +kernel
theorem dX3_passYearByDraws_80 : decode cX3_passYearByDraws 80 = .ok (.iload_n 3, 1) := by decide +kernel
theorem dX3_passYearByDraws_81 : decode cX3_passYearByDraws 81 = .ok (.isub, 1) := by decide +kernel
theorem dX3_passYearByDraws_82 : decode cX3_passYearByDraws 82 = .ok (.ireturn, 1) := by decide +kernel
theorem dX6_init_0 : decode cX6_init 0 = .ok (.aload_n 0, 1) := by decide +kernel
theorem dX6_init_1 : decode cX6_init 1 = .ok (.invokespecial 1, 3) := by decide +kernel
theorem dX6_init_4 : decode cX6_init 4 = .ok (.aload_n 0, 1) := by decide +kernel
theorem dX6_init_5 : decode cX6_init 5 = .ok (.new 7, 3) := by decide +kernel
theorem dX6_init_8 : decode cX6_init 8 = .ok (.dup, 1) := by decide +kernel
theorem dX6_init_9 : decode cX6_init 9 = .ok (.invokespecial 9, 3) := by decide +kernel
theorem dX6_init_12 : decode cX6_init 12 = .ok (.putfield 10, 3) := by decide +kernel
theorem dX6_init_15 : decode cX6_init 15 = .ok (.aload_n 0, 1) := by decide +kernel
theorem dX6_init_16 : decode cX6_init 16 = .ok (.new 7, 3) := by decide +kernel
theorem dX6_init_19 : decode cX6_init 19 = .ok (.dup, 1) := by decide +kernel
theorem dX6_init_20 : decode cX6_init 20 = .ok (.invokespecial 9, 3) := by decide +kernel
theorem dX6_init_23 : decode cX6_init 23 = .ok (.putfield 16, 3) := by decide +kernel
theorem dX6_init_26 : decode cX6_init 26 = .ok (.aload_n 0, 1) := by decide +kernel
theorem dX6_init_27 : decode cX6_init 27 = .ok (.new 19, 3) := by decide +kernel
theorem dX6_init_30 : decode cX6_init 30 = .ok (.dup, 1) := by decide +kernel
theorem dX6_init_31 : decode cX6_init 31 = .ok (.invokespecial 21, 3) := by decide +kernel
theorem dX6_init_34 : decode cX6_init 34 = .ok (.putfield 22, 3) := by decide +kernel
theorem dX6_init_37 : decode cX6_init 37 = .ok (.aload_n 0, 1) := by decide +kernel
theorem dX6_init_38 : decode cX6_init 38 = .ok (.new 26, 3) := by decide +kernel
theorem dX6_init_41 : decode cX6_init 41 = .ok (.dup, 1) := by decide +kernel
theorem dX6_init_42 : decode cX6_init 42 = .ok (.invokespecial 28, 3) := by decide +kernel
theorem dX6_init_45 : decode cX6_init 45 = .ok (.putfield 29, 3) := by decide +kernel
theorem dX6_init_48 : decode cX6_init 48 = .ok (.aload_n 0, 1) := by decide +kernel
theorem dX6_init_49 : decode cX6_init 49 = .ok (.new 33, 3) := by decide +kernel
theorem dX6_init_52 : decode cX6_init 52 = .ok (.dup, 1) := by decide +kernel
theorem dX6_init_53 : decode cX6_init 53 = .ok (.invokespecial 35, 3) := by decide +kernel
theorem dX6_init_56 : decode cX6_init 56 = .ok (.putfield 36, 3) := by decide +kernel
theorem dX6_init_59 : decode cX6_init 59 = .ok (.aload_n 0, 1) := by decide +kernel
theorem dX6_init_60 : decode cX6_init 60 = .ok (.new 40, 3) := by decide +kernel
theorem dX6_init_63 : decode cX6_init 63 = .ok (.dup, 1) := by decide +kernel
theorem dX6_init_64 : decode cX6_init 64 = .ok (.invokespecial 42, 3) := by decide +kernel
theorem dX6_init_67 : decode cX6_init 67 = .ok (.putfield 43, 3) := by decide +kernel
theorem dX6_init_70 : decode cX6_init 70 = .ok (.aload_n 0, 1) := by decide +kernel
theorem dX6_init_71 : decode cX6_init 71 = .ok (.bipush 7, 2) := by decide +kernel
theorem dX6_init_73 : decode cX6_init 73 = .ok (.newarray .int, 2) := by decide +kernel
theorem dX6_init_75 : decode cX6_init 75 = .ok (.putfield 47, 3) := by decide +kernel
theorem dX6_init_78 : decode cX6_init 78 = .ok (.aload_n 0, 1) := by decide +kernel
theorem dX6_init_79 : decode cX6_init 79 = .ok (.iconst 0, 1) := by decide +kernel
theorem dX6_init_80 : decode cX6_init 80 = .ok (.putfield 51, 3) := by decide +kernel
theorem dX6_init_83 : decode cX6_init 83 = .ok (.return_, 1) := by decide +kernel
theorem dX6_build_0 : decode cX6_build 0 = .ok (.iload_n 1, 1) := by decide +kernel
theorem dX6_build_1 : decode cX6_build 1 = .ok (.invokestatic 55, 3) := by decide +kernel
theorem dX6_build_4 : decode cX6_build 4 = .ok (.ifCond .eq 25, 3) := by decide +kernel
theorem dX6_build_7 : decode cX6_build 7 = .ok (.iload_n 2, 1) := by decide +kernel
theorem dX6_build_8 : decode cX6_build 8 = .ok (.ifCond .lt 21, 3) := by decide +kernel
theorem dX6_build_11 : decode cX6_build 11 = .ok (.iload_n 2, 1) := by decide +kernel
theorem dX6_build_12 : decode cX6_build 12 = .ok (.aload_n 0, 1) := by decide +kernel
theorem dX6_build_13 : decode cX6_build 13 = .ok (.getfield 10, 3) := by decide +kernel
theorem dX6_build_16 : decode cX6_build 16 = .ok (.getfield 59, 3) := by decide +kernel
theorem dX6_build_19 : decode cX6_build 19 = .ok (.if_icmp .gt 10, 3) := by decide +kernel
theorem dX6_build_22 : decode cX6_build 22 = .ok (.iload_n 3, 1) := by decide +kernel
theorem dX6_build_23 : decode cX6_build 23 = .ok (.invokestatic 62, 3) := by decide +kernel
theorem dX6_build_26 : decode cX6_build 26 = .ok (.ifCond .ne 9, 3) := by decide +kernel
theorem dX6_build_29 : decode cX6_build 29 = .ok (.aload_n 0, 1) := by decide +kernel
theorem dX6_build_30 : decode cX6_build 30 = .ok (.iconst 1, 1) := by decide +kernel
theorem dX6_build_31 : decode cX6_build 31 = .ok (.invokevirtual 65, 3) := by decide +kernel
theorem dX6_build_34 : decode cX6_build 34 = .ok (.ireturn, 1) := by decide +kernel
theorem dX6_build_35 : decode cX6_build 35 = .ok (.aload_n 0, 1) := by decide +kernel
theorem dX6_build_36 : decode cX6_build 36 = .ok (.getfield 10, 3) := by decide +kernel
theorem dX6_build_39 : decode cX6_build 39 = .ok (.getfield 59, 3) := by decide +kernel
theorem dX6_build_42 : decode cX6_build 42 = .ok (.bipush 10, 2) := by decide +kernel
theorem dX6_build_44 : decode cX6_build 44 = .ok (.if_icmp .lt 9, 3) := by decide +kernel
theorem dX6_build_47 : decode cX6_build 47 = .ok (.aload_n 0, 1) := by decide +kernel
theorem dX6_build_48 : decode cX6_build 48 = .ok (.iconst 4, 1) := by decide +kernel
theorem dX6_build_49 : decode cX6_build 49 = .ok (.invokevirtual 65, 3) := by decide +kernel
theorem dX6_build_52 : decode cX6_build 52 = .ok (.ireturn, 1) := by decide +kernel
theorem dX6_build_53 : decode cX6_build 53 = .ok (.aload_n 0, 1) := by decide +kernel
theorem dX6_build_54 : decode cX6_build 54 = .ok (.getfield 10, 3) := by decide +kernel
theorem dX6_build_57 : decode cX6_build 57 = .ok (.iload_n 1, 1) := by decide +kernel
theorem dX6_build_58 : decode cX6_build 58 = .ok (.bipush 10, 2) := by decide +kernel
theorem dX6_build_60 : decode cX6_build 60 = .ok (.idiv, 1) := by decide +kernel
theorem dX6_build_61 : decode cX6_build 61 = .ok (.iload_n 1, 1) := by decide +kernel
theorem dX6_build_62 : decode cX6_build 62 = .ok (.bipush 10, 2) := by decide +kernel
theorem dX6_build_64 : decode cX6_build 64 = .ok (.irem, 1) := by decide +kernel
theorem dX6_build_65 : decode cX6_build 65 = .ok (.iload_n 2, 1) := by decide +kernel
theorem dX6_build_66 : decode cX6_build 66 = .ok (.iload_n 3, 1) := by decide +kernel
theorem dX6_build_67 : decode cX6_build 67 = .ok (.invokevirtual 69, 3) := by decide +kernel
theorem dX6_build_70 : decode cX6_build 70 = .ok (.ireturn, 1) := by decide +kernel
theorem dX6_houseIs_0 : decode cX6_houseIs 0 = .ok (.aload_n 0, 1) := by decide +kernel
theorem dX6_houseIs_1 : decode cX6_houseIs 1 = .ok (.getfield 10, 3) := by decide +kernel
theorem dX6_houseIs_4 : decode cX6_houseIs 4 = .ok (.iload_n 1, 1) := by decide +kernel
theorem dX6_houseIs_5 : decode cX6_houseIs 5 = .ok (.invokevirtual 73, 3) := by decide +kernel
theorem dX6_houseIs_8 : decode cX6_houseIs 8 = .ok (.ifCond .ne 9, 3) := by decide +kernel
theorem dX6_houseIs_11 : decode cX6_houseIs 11 = .ok (.aload_n 0, 1) := by decide +kernel
theorem dX6_houseIs_12 : decode cX6_houseIs 12 = .ok (.iconst 1, 1) := by decide +kernel
theorem dX6_houseIs_13 : decode cX6_houseIs 13 = .ok (.invokevirtual 65, 3) := by decide +kernel
theorem dX6_houseIs_16 : decode cX6_houseIs 16 = .ok (.ireturn, 1) := by decide +kernel
theorem dX6_houseIs_17 : decode cX6_houseIs 17 = .ok (.iload_n 2, 1) := by decide +kernel
theorem dX6_houseIs_18 : decode cX6_houseIs 18 = .ok (.tableswitch 106 0 5 #[38, 47, 56, 65, 74, 90], 38) := by decide +kernel
theorem dX6_houseIs_56 : decode cX6_houseIs 56 = .ok (.aload_n 0, 1) := by decide +kernel
theorem dX6_houseIs_57 : decode cX6_houseIs 57 = .ok (.getfield 10, 3) := by decide +kernel
theorem dX6_houseIs_60 : decode cX6_houseIs 60 = .ok (.iload_n 1, 1) := by decide +kernel
theorem dX6_houseIs_61 : decode cX6_houseIs 61 = .ok (.invokevirtual 76, 3) := by decide +kernel
theorem dX6_houseIs_64 : decode cX6_houseIs 64 = .ok (.ireturn, 1) := by decide +kernel
theorem dX6_houseIs_65 : decode cX6_houseIs 65 = .ok (.aload_n 0, 1) := by decide +kernel
theorem dX6_houseIs_66 : decode cX6_houseIs 66 = .ok (.getfield 10, 3) := by decide +kernel
theorem dX6_houseIs_69 : decode cX6_houseIs 69 = .ok (.iload_n 1, 1) := by decide +kernel
theorem dX6_houseIs_70 : decode cX6_houseIs 70 = .ok (.invokevirtual 79, 3) := by decide +kernel
theorem dX6_houseIs_73 : decode cX6_houseIs 73 = .ok (.ireturn, 1) := by decide +kernel
theorem dX6_houseIs_74 : decode cX6_houseIs 74 = .ok (.aload_n 0, 1) := by decide +kernel
theorem dX6_houseIs_75 : decode cX6_houseIs 75 = .ok (.getfield 10, 3) := by decide +kernel
theorem dX6_houseIs_78 : decode cX6_houseIs 78 = .ok (.iload_n 1, 1) := by decide +kernel
theorem dX6_houseIs_79 : decode cX6_houseIs 79 = .ok (.invokevirtual 82, 3) := by decide +kernel
theorem dX6_houseIs_82 : decode cX6_houseIs 82 = .ok (.ireturn, 1) := by decide +kernel
theorem dX6_houseIs_83 : decode cX6_houseIs 83 = .ok (.aload_n 0, 1) := by decide +kernel
theorem dX6_houseIs_84 : decode cX6_houseIs 84 = .ok (.getfield 10, 3) := by decide +kernel
theorem dX6_houseIs_87 : decode cX6_houseIs 87 = .ok (.iload_n 1, 1) := by decide +kernel
theorem dX6_houseIs_88 : decode cX6_houseIs 88 = .ok (.invokevirtual 85, 3) := by decide +kernel
theorem dX6_houseIs_91 : decode cX6_houseIs 91 = .ok (.ireturn, 1) := by decide +kernel
theorem dX6_houseIs_92 : decode cX6_houseIs 92 = .ok (.aload_n 0, 1) := by decide +kernel
theorem dX6_houseIs_93 : decode cX6_houseIs 93 = .ok (.getfield 10, 3) := by decide +kernel
theorem dX6_houseIs_96 : decode cX6_houseIs 96 = .ok (.aload_n 0, 1) := by decide +kernel
theorem dX6_houseIs_97 : decode cX6_houseIs 97 = .ok (.getfield 10, 3) := by decide +kernel
theorem dX6_houseIs_100 : decode cX6_houseIs 100 = .ok (.iload_n 1, 1) := by decide +kernel
theorem dX6_houseIs_101 : decode cX6_houseIs 101 = .ok (.invokevirtual 85, 3) := by decide +kernel
theorem dX6_houseIs_104 : decode cX6_houseIs 104 = .ok (.invokevirtual 88, 3) := by decide +kernel
theorem dX6_houseIs_107 : decode cX6_houseIs 107 = .ok (.ireturn, 1) := by decide +kernel
theorem dX6_houseIs_108 : decode cX6_houseIs 108 = .ok (.aload_n 0, 1) := by decide +kernel
theorem dX6_houseIs_109 : decode cX6_houseIs 109 = .ok (.getfield 10, 3) := by decide +kernel
theorem dX6_houseIs_112 : decode cX6_houseIs 112 = .ok (.aload_n 0, 1) := by decide +kernel
theorem dX6_houseIs_113 : decode cX6_houseIs 113 = .ok (.getfield 10, 3) := by decide +kernel
theorem dX6_houseIs_116 : decode cX6_houseIs 116 = .ok (.iload_n 1, 1) := by decide +kernel
theorem dX6_houseIs_117 : decode cX6_houseIs 117 = .ok (.invokevirtual 85, 3) := by decide +kernel
theorem dX6_houseIs_120 : decode cX6_houseIs 120 = .ok (.invokevirtual 91, 3) := by decide +kernel
theorem dX6_houseIs_123 : decode cX6_houseIs 123 = .ok (.ireturn, 1) := by decide +kernel
theorem dX6_houseIs_124 : decode cX6_houseIs 124 = .ok (.aload_n 0, 1) := by decide +kernel
theorem dX6_houseIs_125 : decode cX6_houseIs 125 = .ok (.iconst 1, 1) := by decide +kernel
theorem dX6_houseIs_126 : decode cX6_houseIs 126 = .ok (.invokevirtual 65, 3) := by decide +kernel
theorem dX6_houseIs_129 : decode cX6_houseIs 129 = .ok (.ireturn, 1) := by decide +kernel
theorem dX6_standing_0 : decode cX6_standing 0 = .ok (.iload_n 1, 1) := by decide +kernel
theorem dX6_standing_1 : decode cX6_standing 1 = .ok (.ifCond .lt 14, 3) := by decide +kernel
theorem dX6_standing_4 : decode cX6_standing 4 = .ok (.iload_n 1, 1) := by decide +kernel
theorem dX6_standing_5 : decode cX6_standing 5 = .ok (.aload_n 0, 1) := by decide +kernel
theorem dX6_standing_6 : decode cX6_standing 6 = .ok (.getfield 10, 3) := by decide +kernel
theorem dX6_standing_9 : decode cX6_standing 9 = .ok (.getfield 59, 3) := by decide +kernel
theorem dX6_standing_12 : decode cX6_standing 12 = .ok (.if_icmp .lt 9, 3) := by decide +kernel
theorem dX6_standing_15 : decode cX6_standing 15 = .ok (.aload_n 0, 1) := by decide +kernel
theorem dX6_standing_16 : decode cX6_standing 16 = .ok (.iconst 1, 1) := by decide +kernel
theorem dX6_standing_17 : decode cX6_standing 17 = .ok (.invokevirtual 65, 3) := by decide +kernel
theorem dX6_standing_20 : decode cX6_standing 20 = .ok (.ireturn, 1) := by decide +kernel
theorem dX6_standing_21 : decode cX6_standing 21 = .ok (.aload_n 0, 1) := by decide +kernel
theorem dX6_standing_22 : decode cX6_standing 22 = .ok (.getfield 10, 3) := by decide +kernel
theorem dX6_standing_25 : decode cX6_standing 25 = .ok (.iload_n 1, 1) := by decide +kernel
theorem dX6_standing_26 : decode cX6_standing 26 = .ok (.invokevirtual 94, 3) := by decide +kernel
theorem dX6_standing_29 : decode cX6_standing 29 = .ok (.ireturn, 1) := by decide +kernel
theorem dX6_become_0 : decode cX6_become 0 = .ok (.aload_n 0, 1) := by decide +kernel
theorem dX6_become_1 : decode cX6_become 1 = .ok (.getfield 10, 3) := by decide +kernel
theorem dX6_become_4 : decode cX6_become 4 = .ok (.iload_n 1, 1) := by decide +kernel
theorem dX6_become_5 : decode cX6_become 5 = .ok (.invokevirtual 73, 3) := by decide +kernel
theorem dX6_become_8 : decode cX6_become 8 = .ok (.ifCond .eq 10, 3) := by decide +kernel
theorem dX6_become_11 : decode cX6_become 11 = .ok (.iload_n 2, 1) := by decide +kernel
theorem dX6_become_12 : decode cX6_become 12 = .ok (.invokestatic 55, 3) := by decide +kernel
theorem dX6_become_15 : decode cX6_become 15 = .ok (.ifCond .ne 9, 3) := by decide +kernel
theorem dX6_become_18 : decode cX6_become 18 = .ok (.aload_n 0, 1) := by decide +kernel
theorem dX6_become_19 : decode cX6_become 19 = .ok (.iconst 1, 1) := by decide +kernel
theorem dX6_become_20 : decode cX6_become 20 = .ok (.invokevirtual 65, 3) := by decide +kernel
theorem dX6_become_23 : decode cX6_become 23 = .ok (.ireturn, 1) := by decide +kernel
theorem dX6_become_24 : decode cX6_become 24 = .ok (.aload_n 0, 1) := by decide +kernel
theorem dX6_become_25 : decode cX6_become 25 = .ok (.getfield 10, 3) := by decide +kernel
theorem dX6_become_28 : decode cX6_become 28 = .ok (.iload_n 1, 1) := by decide +kernel
theorem dX6_become_29 : decode cX6_become 29 = .ok (.invokevirtual 76, 3) := by decide +kernel
theorem dX6_become_32 : decode cX6_become 32 = .ok (.istore_n 3, 1) := by decide +kernel
theorem dX6_become_33 : decode cX6_become 33 = .ok (.aload_n 0, 1) := by decide +kernel
theorem dX6_become_34 : decode cX6_become 34 = .ok (.getfield 10, 3) := by decide +kernel
theorem dX6_become_37 : decode cX6_become 37 = .ok (.iload_n 1, 1) := by decide +kernel
theorem dX6_become_38 : decode cX6_become 38 = .ok (.iload_n 2, 1) := by decide +kernel
theorem dX6_become_39 : decode cX6_become 39 = .ok (.bipush 10, 2) := by decide +kernel
theorem dX6_become_41 : decode cX6_become 41 = .ok (.idiv, 1) := by decide +kernel
theorem dX6_become_42 : decode cX6_become 42 = .ok (.iload_n 2, 1) := by decide +kernel
theorem dX6_become_43 : decode cX6_become 43 = .ok (.bipush 10, 2) := by decide +kernel
theorem dX6_become_45 : decode cX6_become 45 = .ok (.irem, 1) := by decide +kernel
theorem dX6_become_46 : decode cX6_become 46 = .ok (.invokevirtual 97, 3) := by decide +kernel
theorem dX6_become_49 : decode cX6_become 49 = .ok (.iload_n 3, 1) := by decide +kernel
theorem dX6_become_50 : decode cX6_become 50 = .ok (.ireturn, 1) := by decide +kernel
theorem dX6_as_0 : decode cX6_as 0 = .ok (.aload_n 0, 1) := by decide +kernel
theorem dX6_as_1 : decode cX6_as 1 = .ok (.getfield 10, 3) := by decide +kernel
theorem dX6_as_4 : decode cX6_as 4 = .ok (.iload_n 1, 1) := by decide +kernel
theorem dX6_as_5 : decode cX6_as 5 = .ok (.invokevirtual 73, 3) := by decide +kernel
theorem dX6_as_8 : decode cX6_as 8 = .ok (.ifCond .eq 13, 3) := by decide +kernel
theorem dX6_as_11 : decode cX6_as 11 = .ok (.iload_n 2, 1) := by decide +kernel
theorem dX6_as_12 : decode cX6_as 12 = .ok (.ifCond .lt 9, 3) := by decide +kernel
theorem dX6_as_15 : decode cX6_as 15 = .ok (.iload_n 2, 1) := by decide +kernel
theorem dX6_as_16 : decode cX6_as 16 = .ok (.bipush 7, 2) := by decide +kernel
theorem dX6_as_18 : decode cX6_as 18 = .ok (.if_icmp .lt 9, 3) := by decide +kernel
theorem dX6_as_21 : decode cX6_as 21 = .ok (.aload_n 0, 1) := by decide +kernel
theorem dX6_as_22 : decode cX6_as 22 = .ok (.iconst 1, 1) := by decide +kernel
theorem dX6_as_23 : decode cX6_as 23 = .ok (.invokevirtual 65, 3) := by decide +kernel
theorem dX6_as_26 : decode cX6_as 26 = .ok (.ireturn, 1) := by decide +kernel
theorem dX6_as_27 : decode cX6_as 27 = .ok (.aload_n 0, 1) := by decide +kernel
theorem dX6_as_28 : decode cX6_as 28 = .ok (.getfield 10, 3) := by decide +kernel
theorem dX6_as_31 : decode cX6_as 31 = .ok (.iload_n 1, 1) := by decide +kernel
theorem dX6_as_32 : decode cX6_as 32 = .ok (.invokevirtual 76, 3) := by decide +kernel
theorem dX6_as_35 : decode cX6_as 35 = .ok (.iload_n 2, 1) := by decide +kernel
theorem dX6_as_36 : decode cX6_as 36 = .ok (.invokestatic 101, 3) := by decide +kernel
theorem dX6_as_39 : decode cX6_as 39 = .ok (.ifCond .eq 14, 3) := by decide +kernel
theorem dX6_as_42 : decode cX6_as 42 = .ok (.aload_n 0, 1) := by decide +kernel
theorem dX6_as_43 : decode cX6_as 43 = .ok (.getfield 10, 3) := by decide +kernel
theorem dX6_as_46 : decode cX6_as 46 = .ok (.iload_n 1, 1) := by decide +kernel
theorem dX6_as_47 : decode cX6_as 47 = .ok (.invokevirtual 79, 3) := by decide +kernel
theorem dX6_as_50 : decode cX6_as 50 = .ok (.goto 8, 3) := by decide +kernel
theorem dX6_as_53 : decode cX6_as 53 = .ok (.aload_n 0, 1) := by decide +kernel
theorem dX6_as_54 : decode cX6_as 54 = .ok (.iconst 5, 1) := by decide +kernel
theorem dX6_as_55 : decode cX6_as 55 = .ok (.invokevirtual 65, 3) := by decide +kernel
theorem dX6_as_58 : decode cX6_as 58 = .ok (.ireturn, 1) := by decide +kernel
theorem dX6_harm_0 : decode cX6_harm 0 = .ok (.aload_n 0, 1) := by decide +kernel
theorem dX6_harm_1 : decode cX6_harm 1 = .ok (.getfield 10, 3) := by decide +kernel
theorem dX6_harm_4 : decode cX6_harm 4 = .ok (.iload_n 1, 1) := by decide +kernel
theorem dX6_harm_5 : decode cX6_harm 5 = .ok (.invokevirtual 73, 3) := by decide +kernel
theorem dX6_harm_8 : decode cX6_harm 8 = .ok (.ifCond .eq 10, 3) := by decide +kernel
theorem dX6_harm_11 : decode cX6_harm 11 = .ok (.iload_n 2, 1) := by decide +kernel
theorem dX6_harm_12 : decode cX6_harm 12 = .ok (.invokestatic 62, 3) := by decide +kernel
theorem dX6_harm_15 : decode cX6_harm 15 = .ok (.ifCond .ne 9, 3) := by decide +kernel
theorem dX6_harm_18 : decode cX6_harm 18 = .ok (.aload_n 0, 1) := by decide +kernel
theorem dX6_harm_19 : decode cX6_harm 19 = .ok (.iconst 1, 1) := by decide +kernel
theorem dX6_harm_20 : decode cX6_harm 20 = .ok (.invokevirtual 65, 3) := by decide +kernel
theorem dX6_harm_23 : decode cX6_harm 23 = .ok (.ireturn, 1) := by decide +kernel
theorem dX6_harm_24 : decode cX6_harm 24 = .ok (.aload_n 0, 1) := by decide +kernel
theorem dX6_harm_25 : decode cX6_harm 25 = .ok (.getfield 10, 3) := by decide +kernel
theorem dX6_harm_28 : decode cX6_harm 28 = .ok (.iload_n 1, 1) := by decide +kernel
theorem dX6_harm_29 : decode cX6_harm 29 = .ok (.iload_n 2, 1) := by decide +kernel
theorem dX6_harm_30 : decode cX6_harm 30 = .ok (.invokevirtual 105, 3) := by decide +kernel
theorem dX6_harm_33 : decode cX6_harm 33 = .ok (.ireturn, 1) := by decide +kernel
theorem dX6_renames_0 : decode cX6_renames 0 = .ok (.aload_n 0, 1) := by decide +kernel
theorem dX6_renames_1 : decode cX6_renames 1 = .ok (.getfield 10, 3) := by decide +kernel
theorem dX6_renames_4 : decode cX6_renames 4 = .ok (.iload_n 1, 1) := by decide +kernel
theorem dX6_renames_5 : decode cX6_renames 5 = .ok (.invokevirtual 73, 3) := by decide +kernel
theorem dX6_renames_8 : decode cX6_renames 8 = .ok (.ifCond .eq 10, 3) := by decide +kernel
theorem dX6_renames_11 : decode cX6_renames 11 = .ok (.iload_n 2, 1) := by decide +kernel
theorem dX6_renames_12 : decode cX6_renames 12 = .ok (.invokestatic 62, 3) := by decide +kernel
theorem dX6_renames_15 : decode cX6_renames 15 = .ok (.ifCond .ne 9, 3) := by decide +kernel
theorem dX6_renames_18 : decode cX6_renames 18 = .ok (.aload_n 0, 1) := by decide +kernel
theorem dX6_renames_19 : decode cX6_renames 19 = .ok (.iconst 1, 1) := by decide +kernel
theorem dX6_renames_20 : decode cX6_renames 20 = .ok (.invokevirtual 65, 3) := by decide +kernel
theorem dX6_renames_23 : decode cX6_renames 23 = .ok (.ireturn, 1) := by decide +kernel
theorem dX6_renames_24 : decode cX6_renames 24 = .ok (.aload_n 0, 1) := by decide +kernel
theorem dX6_renames_25 : decode cX6_renames 25 = .ok (.getfield 10, 3) := by decide +kernel
theorem dX6_renames_28 : decode cX6_renames 28 = .ok (.iload_n 1, 1) := by decide +kernel
theorem dX6_renames_29 : decode cX6_renames 29 = .ok (.iload_n 2, 1) := by decide +kernel
theorem dX6_renames_30 : decode cX6_renames 30 = .ok (.invokevirtual 109, 3) := by decide +kernel
theorem dX6_renames_33 : decode cX6_renames 33 = .ok (.ireturn, 1) := by decide +kernel
theorem dX6_year_0 : decode cX6_year 0 = .ok (.iload_n 1, 1) := by decide +kernel
theorem dX6_year_1 : decode cX6_year 1 = .ok (.ifCond .lt 10, 3) := by decide +kernel
theorem dX6_year_4 : decode cX6_year 4 = .ok (.iload_n 1, 1) := by decide +kernel
theorem dX6_year_5 : decode cX6_year 5 = .ok (.sipush 9999, 3) := by decide +kernel
theorem dX6_year_8 : decode cX6_year 8 = .ok (.if_icmp .le 9, 3) := by decide +kernel
theorem dX6_year_11 : decode cX6_year 11 = .ok (.aload_n 0, 1) := by decide +kernel
theorem dX6_year_12 : decode cX6_year 12 = .ok (.iconst 1, 1) := by decide +kernel
theorem dX6_year_13 : decode cX6_year 13 = .ok (.invokevirtual 65, 3) := by decide +kernel
theorem dX6_year_16 : decode cX6_year 16 = .ok (.ireturn, 1) := by decide +kernel
theorem dX6_year_17 : decode cX6_year 17 = .ok (.aload_n 0, 1) := by decide +kernel
theorem dX6_year_18 : decode cX6_year 18 = .ok (.getfield 10, 3) := by decide +kernel
theorem dX6_year_21 : decode cX6_year 21 = .ok (.getfield 112, 3) := by decide +kernel
theorem dX6_year_24 : decode cX6_year 24 = .ok (.istore_n 2, 1) := by decide +kernel
theorem dX6_year_25 : decode cX6_year 25 = .ok (.aload_n 0, 1) := by decide +kernel
theorem dX6_year_26 : decode cX6_year 26 = .ok (.getfield 10, 3) := by decide +kernel
theorem dX6_year_29 : decode cX6_year 29 = .ok (.iload_n 1, 1) := by decide +kernel
theorem dX6_year_30 : decode cX6_year 30 = .ok (.putfield 112, 3) := by decide +kernel
theorem dX6_year_33 : decode cX6_year 33 = .ok (.iload_n 2, 1) := by decide +kernel
theorem dX6_year_34 : decode cX6_year 34 = .ok (.ireturn, 1) := by decide +kernel
theorem dX6_feed_0 : decode cX6_feed 0 = .ok (.iload_n 3, 1) := by decide +kernel
theorem dX6_feed_1 : decode cX6_feed 1 = .ok (.iconst 1, 1) := by decide +kernel
theorem dX6_feed_2 : decode cX6_feed 2 = .ok (.if_icmp .lt 9, 3) := by decide +kernel
theorem dX6_feed_5 : decode cX6_feed 5 = .ok (.iload_n 3, 1) := by decide +kernel
theorem dX6_feed_6 : decode cX6_feed 6 = .ok (.bipush 8, 2) := by decide +kernel
theorem dX6_feed_8 : decode cX6_feed 8 = .ok (.if_icmp .le 9, 3) := by decide +kernel
theorem dX6_feed_11 : decode cX6_feed 11 = .ok (.aload_n 0, 1) := by decide +kernel
theorem dX6_feed_12 : decode cX6_feed 12 = .ok (.iconst 1, 1) := by decide +kernel
theorem dX6_feed_13 : decode cX6_feed 13 = .ok (.invokevirtual 65, 3) := by decide +kernel
theorem dX6_feed_16 : decode cX6_feed 16 = .ok (.ireturn, 1) := by decide +kernel
theorem dX6_feed_17 : decode cX6_feed 17 = .ok (.aload_n 0, 1) := by decide +kernel
theorem dX6_feed_18 : decode cX6_feed 18 = .ok (.getfield 10, 3) := by decide +kernel
theorem dX6_feed_21 : decode cX6_feed 21 = .ok (.getfield 115, 3) := by decide +kernel
theorem dX6_feed_24 : decode cX6_feed 24 = .ok (.getfield 119, 3) := by decide +kernel
theorem dX6_feed_27 : decode cX6_feed 27 = .ok (.iload_n 3, 1) := by decide +kernel
theorem dX6_feed_28 : decode cX6_feed 28 = .ok (.iadd, 1) := by decide +kernel
theorem dX6_feed_29 : decode cX6_feed 29 = .ok (.bipush 60, 2) := by decide +kernel
theorem dX6_feed_31 : decode cX6_feed 31 = .ok (.if_icmp .le 9, 3) := by decide +kernel
theorem dX6_feed_34 : decode cX6_feed 34 = .ok (.aload_n 0, 1) := by decide +kernel
theorem dX6_feed_35 : decode cX6_feed 35 = .ok (.iconst 4, 1) := by decide +kernel
theorem dX6_feed_36 : decode cX6_feed 36 = .ok (.invokevirtual 65, 3) := by decide +kernel
theorem dX6_feed_39 : decode cX6_feed 39 = .ok (.ireturn, 1) := by decide +kernel
theorem dX6_feed_40 : decode cX6_feed 40 = .ok (.aload_n 0, 1) := by decide +kernel
theorem dX6_feed_41 : decode cX6_feed 41 = .ok (.getfield 10, 3) := by decide +kernel
theorem dX6_feed_44 : decode cX6_feed 44 = .ok (.getfield 115, 3) := by decide +kernel
theorem dX6_feed_47 : decode cX6_feed 47 = .ok (.lload_n 1, 1) := by decide +kernel
theorem dX6_feed_48 : decode cX6_feed 48 = .ok (.iload_n 3, 1) := by decide +kernel
theorem dX6_feed_49 : decode cX6_feed 49 = .ok (.invokevirtual 124, 3) := by decide +kernel
theorem dX6_feed_52 : decode cX6_feed 52 = .ok (.ireturn, 1) := by decide +kernel
theorem dX6_text_0 : decode cX6_text 0 = .ok (.iload_n 1, 1) := by decide +kernel
theorem dX6_text_1 : decode cX6_text 1 = .ok (.invokestatic 128, 3) := by decide +kernel
theorem dX6_text_4 : decode cX6_text 4 = .ok (.ifCond .ne 9, 3) := by decide +kernel
theorem dX6_text_7 : decode cX6_text 7 = .ok (.aload_n 0, 1) := by decide +kernel
theorem dX6_text_8 : decode cX6_text 8 = .ok (.iconst 1, 1) := by decide +kernel
theorem dX6_text_9 : decode cX6_text 9 = .ok (.invokevirtual 65, 3) := by decide +kernel
theorem dX6_text_12 : decode cX6_text 12 = .ok (.ireturn, 1) := by decide +kernel
theorem dX6_text_13 : decode cX6_text 13 = .ok (.aload_n 0, 1) := by decide +kernel
theorem dX6_text_14 : decode cX6_text 14 = .ok (.getfield 10, 3) := by decide +kernel
theorem dX6_text_17 : decode cX6_text 17 = .ok (.getfield 115, 3) := by decide +kernel
theorem dX6_text_20 : decode cX6_text 20 = .ok (.astore_n 2, 1) := by decide +kernel
theorem dX6_text_21 : decode cX6_text 21 = .ok (.aload_n 0, 1) := by decide +kernel
theorem dX6_text_22 : decode cX6_text 22 = .ok (.getfield 22, 3) := by decide +kernel
theorem dX6_text_25 : decode cX6_text 25 = .ok (.aload_n 2, 1) := by decide +kernel
theorem dX6_text_26 : decode cX6_text 26 = .ok (.getfield 131, 3) := by decide +kernel
theorem dX6_text_29 : decode cX6_text 29 = .ok (.aload_n 2, 1) := by decide +kernel
theorem dX6_text_30 : decode cX6_text 30 = .ok (.getfield 119, 3) := by decide +kernel
theorem dX6_text_33 : decode cX6_text 33 = .ok (.iload_n 1, 1) := by decide +kernel
theorem dX6_text_34 : decode cX6_text 34 = .ok (.invokevirtual 134, 3) := by decide +kernel
theorem dX6_text_37 : decode cX6_text 37 = .ok (.istore_n 3, 1) := by decide +kernel
theorem dX6_text_38 : decode cX6_text 38 = .ok (.aload_n 2, 1) := by decide +kernel
theorem dX6_text_39 : decode cX6_text 39 = .ok (.iconst 0, 1) := by decide +kernel
theorem dX6_text_40 : decode cX6_text 40 = .ok (.putfield 119, 3) := by decide +kernel
theorem dX6_text_43 : decode cX6_text 43 = .ok (.iload_n 3, 1) := by decide +kernel
theorem dX6_text_44 : decode cX6_text 44 = .ok (.ifCond .lt 8, 3) := by decide +kernel
theorem dX6_text_47 : decode cX6_text 47 = .ok (.bipush (-10), 2) := by decide +kernel
theorem dX6_text_49 : decode cX6_text 49 = .ok (.iload_n 3, 1) := by decide +kernel
theorem dX6_text_50 : decode cX6_text 50 = .ok (.isub, 1) := by decide +kernel
theorem dX6_text_51 : decode cX6_text 51 = .ok (.ireturn, 1) := by decide +kernel
theorem dX6_text_52 : decode cX6_text 52 = .ok (.aload_n 2, 1) := by decide +kernel
theorem dX6_text_53 : decode cX6_text 53 = .ok (.iload_n 1, 1) := by decide +kernel
theorem dX6_text_54 : decode cX6_text 54 = .ok (.aload_n 0, 1) := by decide +kernel
theorem dX6_text_55 : decode cX6_text 55 = .ok (.getfield 22, 3) := by decide +kernel
theorem dX6_text_58 : decode cX6_text 58 = .ok (.getfield 138, 3) := by decide +kernel
theorem dX6_text_61 : decode cX6_text 61 = .ok (.aload_n 0, 1) := by decide +kernel
theorem dX6_text_62 : decode cX6_text 62 = .ok (.getfield 22, 3) := by decide +kernel
theorem dX6_text_65 : decode cX6_text 65 = .ok (.getfield 141, 3) := by decide +kernel
theorem dX6_text_68 : decode cX6_text 68 = .ok (.invokevirtual 144, 3) := by decide +kernel
theorem dX6_text_71 : decode cX6_text 71 = .ok (.iconst 1, 1) := by decide +kernel
theorem dX6_text_72 : decode cX6_text 72 = .ok (.ireturn, 1) := by decide +kernel
theorem dX6_untell_0 : decode cX6_untell 0 = .ok (.iload_n 1, 1) := by decide +kernel
theorem dX6_untell_1 : decode cX6_untell 1 = .ok (.invokestatic 128, 3) := by decide +kernel
theorem dX6_untell_4 : decode cX6_untell 4 = .ok (.ifCond .ne 9, 3) := by decide +kernel
theorem dX6_untell_7 : decode cX6_untell 7 = .ok (.aload_n 0, 1) := by decide +kernel
theorem dX6_untell_8 : decode cX6_untell 8 = .ok (.iconst 1, 1) := by decide +kernel
theorem dX6_untell_9 : decode cX6_untell 9 = .ok (.invokevirtual 65, 3) := by decide +kernel
theorem dX6_untell_12 : decode cX6_untell 12 = .ok (.ireturn, 1) := by decide +kernel
theorem dX6_untell_13 : decode cX6_untell 13 = .ok (.aload_n 0, 1) := by decide +kernel
theorem dX6_untell_14 : decode cX6_untell 14 = .ok (.getfield 10, 3) := by decide +kernel
theorem dX6_untell_17 : decode cX6_untell 17 = .ok (.getfield 115, 3) := by decide +kernel
theorem dX6_untell_20 : decode cX6_untell 20 = .ok (.iload_n 1, 1) := by decide +kernel
theorem dX6_untell_21 : decode cX6_untell 21 = .ok (.invokevirtual 148, 3) := by decide +kernel
theorem dX6_untell_24 : decode cX6_untell 24 = .ok (.ifCond .eq 7, 3) := by decide +kernel
theorem dX6_untell_27 : decode cX6_untell 27 = .ok (.iconst 1, 1) := by decide +kernel
theorem dX6_untell_28 : decode cX6_untell 28 = .ok (.goto 4, 3) := by decide +kernel
theorem dX6_untell_31 : decode cX6_untell 31 = .ok (.iconst 0, 1) := by decide +kernel
theorem dX6_untell_32 : decode cX6_untell 32 = .ok (.ireturn, 1) := by decide +kernel
theorem dX6_law_0 : decode cX6_law 0 = .ok (.iload_n 1, 1) := by decide +kernel
theorem dX6_law_1 : decode cX6_law 1 = .ok (.invokestatic 128, 3) := by decide +kernel
theorem dX6_law_4 : decode cX6_law 4 = .ok (.ifCond .ne 9, 3) := by decide +kernel
theorem dX6_law_7 : decode cX6_law 7 = .ok (.aload_n 0, 1) := by decide +kernel
theorem dX6_law_8 : decode cX6_law 8 = .ok (.iconst 1, 1) := by decide +kernel
theorem dX6_law_9 : decode cX6_law 9 = .ok (.invokevirtual 65, 3) := by decide +kernel
theorem dX6_law_12 : decode cX6_law 12 = .ok (.ireturn, 1) := by decide +kernel
theorem dX6_law_13 : decode cX6_law 13 = .ok (.aload_n 0, 1) := by decide +kernel
theorem dX6_law_14 : decode cX6_law 14 = .ok (.getfield 10, 3) := by decide +kernel
theorem dX6_law_17 : decode cX6_law 17 = .ok (.getfield 115, 3) := by decide +kernel
theorem dX6_law_20 : decode cX6_law 20 = .ok (.iload_n 1, 1) := by decide +kernel
theorem dX6_law_21 : decode cX6_law 21 = .ok (.iload_n 2, 1) := by decide +kernel
theorem dX6_law_22 : decode cX6_law 22 = .ok (.iload_n 3, 1) := by decide +kernel
theorem dX6_law_23 : decode cX6_law 23 = .ok (.iload 4, 2) := by decide +kernel
theorem dX6_law_25 : decode cX6_law 25 = .ok (.invokevirtual 151, 3) := by decide +kernel
theorem dX6_law_28 : decode cX6_law 28 = .ok (.ireturn, 1) := by decide +kernel
theorem dX6_renumber_0 : decode cX6_renumber 0 = .ok (.iload_n 1, 1) := by decide +kernel
theorem dX6_renumber_1 : decode cX6_renumber 1 = .ok (.iconst 1, 1) := by decide +kernel
theorem dX6_renumber_2 : decode cX6_renumber 2 = .ok (.if_icmp .lt 9, 3) := by decide +kernel
theorem dX6_renumber_5 : decode cX6_renumber 5 = .ok (.iload_n 1, 1) := by decide +kernel
theorem dX6_renumber_6 : decode cX6_renumber 6 = .ok (.bipush 50, 2) := by decide +kernel
theorem dX6_renumber_8 : decode cX6_renumber 8 = .ok (.if_icmp .le 9, 3) := by decide +kernel
theorem dX6_renumber_11 : decode cX6_renumber 11 = .ok (.aload_n 0, 1) := by decide +kernel
theorem dX6_renumber_12 : decode cX6_renumber 12 = .ok (.iconst 1, 1) := by decide +kernel
theorem dX6_renumber_13 : decode cX6_renumber 13 = .ok (.invokevirtual 65, 3) := by decide +kernel
theorem dX6_renumber_16 : decode cX6_renumber 16 = .ok (.ireturn, 1) := by decide +kernel
theorem dX6_renumber_17 : decode cX6_renumber 17 = .ok (.aload_n 0, 1) := by decide +kernel
theorem dX6_renumber_18 : decode cX6_renumber 18 = .ok (.getfield 10, 3) := by decide +kernel
theorem dX6_renumber_21 : decode cX6_renumber 21 = .ok (.iload_n 1, 1) := by decide +kernel
theorem dX6_renumber_22 : decode cX6_renumber 22 = .ok (.invokevirtual 154, 3) := by decide +kernel
theorem dX6_renumber_25 : decode cX6_renumber 25 = .ok (.ireturn, 1) := by decide +kernel
theorem dX6_would_0 : decode cX6_would 0 = .ok (.iload_n 1, 1) := by decide +kernel
theorem dX6_would_1 : decode cX6_would 1 = .ok (.iconst 1, 1) := by decide +kernel
theorem dX6_would_2 : decode cX6_would 2 = .ok (.if_icmp .lt 9, 3) := by decide +kernel
theorem dX6_would_5 : decode cX6_would 5 = .ok (.iload_n 1, 1) := by decide +kernel
theorem dX6_would_6 : decode cX6_would 6 = .ok (.bipush 50, 2) := by decide +kernel
theorem dX6_would_8 : decode cX6_would 8 = .ok (.if_icmp .le 9, 3) := by decide +kernel
theorem dX6_would_11 : decode cX6_would 11 = .ok (.aload_n 0, 1) := by decide +kernel
theorem dX6_would_12 : decode cX6_would 12 = .ok (.iconst 1, 1) := by decide +kernel
theorem dX6_would_13 : decode cX6_would 13 = .ok (.invokevirtual 65, 3) := by decide +kernel
theorem dX6_would_16 : decode cX6_would 16 = .ok (.ireturn, 1) := by decide +kernel
theorem dX6_would_17 : decode cX6_would 17 = .ok (.aload_n 0, 1) := by decide +kernel
theorem dX6_would_18 : decode cX6_would 18 = .ok (.getfield 10, 3) := by decide +kernel
theorem dX6_would_21 : decode cX6_would 21 = .ok (.iload_n 1, 1) := by decide +kernel
theorem dX6_would_22 : decode cX6_would 22 = .ok (.invokevirtual 157, 3) := by decide +kernel
theorem dX6_would_25 : decode cX6_would 25 = .ok (.ireturn, 1) := by decide +kernel
theorem dX6_gap_0 : decode cX6_gap 0 = .ok (.iload_n 1, 1) := by decide +kernel
theorem dX6_gap_1 : decode cX6_gap 1 = .ok (.ifCond .lt 8, 3) := by decide +kernel
theorem dX6_gap_4 : decode cX6_gap 4 = .ok (.iload_n 1, 1) := by decide +kernel
theorem dX6_gap_5 : decode cX6_gap 5 = .ok (.iconst 1, 1) := by decide +kernel
theorem dX6_gap_6 : decode cX6_gap 6 = .ok (.if_icmp .le 9, 3) := by decide +kernel
theorem dX6_gap_9 : decode cX6_gap 9 = .ok (.aload_n 0, 1) := by decide +kernel
theorem dX6_gap_10 : decode cX6_gap 10 = .ok (.iconst 1, 1) := by decide +kernel
theorem dX6_gap_11 : decode cX6_gap 11 = .ok (.invokevirtual 65, 3) := by decide +kernel
theorem dX6_gap_14 : decode cX6_gap 14 = .ok (.ireturn, 1) := by decide +kernel
theorem dX6_gap_15 : decode cX6_gap 15 = .ok (.iconst 1, 1) := by decide +kernel
theorem dX6_gap_16 : decode cX6_gap 16 = .ok (.istore_n 2, 1) := by decide +kernel
theorem dX6_gap_17 : decode cX6_gap 17 = .ok (.aload_n 0, 1) := by decide +kernel
theorem dX6_gap_18 : decode cX6_gap 18 = .ok (.getfield 10, 3) := by decide +kernel
theorem dX6_gap_21 : decode cX6_gap 21 = .ok (.iconst 1, 1) := by decide +kernel
theorem dX6_gap_22 : decode cX6_gap 22 = .ok (.invokevirtual 157, 3) := by decide +kernel
theorem dX6_gap_25 : decode cX6_gap 25 = .ok (.istore_n 3, 1) := by decide +kernel
theorem dX6_gap_26 : decode cX6_gap 26 = .ok (.iconst 2, 1) := by decide +kernel
theorem dX6_gap_27 : decode cX6_gap 27 = .ok (.istore 4, 2) := by decide +kernel
theorem dX6_gap_29 : decode cX6_gap 29 = .ok (.iload 4, 2) := by decide +kernel
theorem dX6_gap_31 : decode cX6_gap 31 = .ok (.bipush 50, 2) := by decide +kernel
theorem dX6_gap_33 : decode cX6_gap 33 = .ok (.if_icmp .gt 32, 3) := by decide +kernel
theorem dX6_gap_36 : decode cX6_gap 36 = .ok (.aload_n 0, 1) := by decide +kernel
theorem dX6_gap_37 : decode cX6_gap 37 = .ok (.getfield 10, 3) := by decide +kernel
theorem dX6_gap_40 : decode cX6_gap 40 = .ok (.iload 4, 2) := by decide +kernel
theorem dX6_gap_42 : decode cX6_gap 42 = .ok (.invokevirtual 157, 3) := by decide +kernel
theorem dX6_gap_45 : decode cX6_gap 45 = .ok (.istore 5, 2) := by decide +kernel
theorem dX6_gap_47 : decode cX6_gap 47 = .ok (.iload 5, 2) := by decide +kernel
theorem dX6_gap_49 : decode cX6_gap 49 = .ok (.iload_n 3, 1) := by decide +kernel
theorem dX6_gap_50 : decode cX6_gap 50 = .ok (.if_icmp .ge 9, 3) := by decide +kernel
theorem dX6_gap_53 : decode cX6_gap 53 = .ok (.iload 4, 2) := by decide +kernel
theorem dX6_gap_55 : decode cX6_gap 55 = .ok (.istore_n 2, 1) := by decide +kernel
theorem dX6_gap_56 : decode cX6_gap 56 = .ok (.iload 5, 2) := by decide +kernel
theorem dX6_gap_58 : decode cX6_gap 58 = .ok (.istore_n 3, 1) := by decide +kernel
theorem dX6_gap_59 : decode cX6_gap 59 = .ok (.iinc 4 1, 3) := by decide +kernel
theorem dX6_gap_62 : decode cX6_gap 62 = .ok (.goto (-33), 3) := by decide +kernel
theorem dX6_gap_65 : decode cX6_gap 65 = .ok (.iload_n 1, 1) := by decide +kernel
theorem dX6_gap_66 : decode cX6_gap 66 = .ok (.ifCond .ne 7, 3) := by decide +kernel
theorem dX6_gap_69 : decode cX6_gap 69 = .ok (.iload_n 2, 1) := by decide +kernel
theorem dX6_gap_70 : decode cX6_gap 70 = .ok (.goto 4, 3) := by decide +kernel
theorem dX6_gap_73 : decode cX6_gap 73 = .ok (.iload_n 3, 1) := by decide +kernel
theorem dX6_gap_74 : decode cX6_gap 74 = .ok (.ireturn, 1) := by decide +kernel
theorem dX6_least_0 : decode cX6_least 0 = .ok (.iload_n 1, 1) := by decide +kernel
theorem dX6_least_1 : decode cX6_least 1 = .ok (.iconst (-1), 1) := by decide +kernel
theorem dX6_least_2 : decode cX6_least 2 = .ok (.if_icmp .lt 9, 3) := by decide +kernel
theorem dX6_least_5 : decode cX6_least 5 = .ok (.iload_n 1, 1) := by decide +kernel
theorem dX6_least_6 : decode cX6_least 6 = .ok (.bipush 10, 2) := by decide +kernel
theorem dX6_least_8 : decode cX6_least 8 = .ok (.if_icmp .lt 9, 3) := by decide +kernel
theorem dX6_least_11 : decode cX6_least 11 = .ok (.aload_n 0, 1) := by decide +kernel
theorem dX6_least_12 : decode cX6_least 12 = .ok (.iconst 1, 1) := by decide +kernel
theorem dX6_least_13 : decode cX6_least 13 = .ok (.invokevirtual 65, 3) := by decide +kernel
theorem dX6_least_16 : decode cX6_least 16 = .ok (.ireturn, 1) := by decide +kernel
theorem dX6_least_17 : decode cX6_least 17 = .ok (.iload_n 1, 1) := by decide +kernel
theorem dX6_least_18 : decode cX6_least 18 = .ok (.aload_n 0, 1) := by decide +kernel
theorem dX6_least_19 : decode cX6_least 19 = .ok (.getfield 10, 3) := by decide +kernel
theorem dX6_least_22 : decode cX6_least 22 = .ok (.getfield 59, 3) := by decide +kernel
theorem dX6_least_25 : decode cX6_least 25 = .ok (.if_icmp .lt 9, 3) := by decide +kernel
theorem dX6_least_28 : decode cX6_least 28 = .ok (.aload_n 0, 1) := by decide +kernel
theorem dX6_least_29 : decode cX6_least 29 = .ok (.iconst 2, 1) := by decide +kernel
theorem dX6_least_30 : decode cX6_least 30 = .ok (.invokevirtual 65, 3) := by decide +kernel
theorem dX6_least_33 : decode cX6_least 33 = .ok (.ireturn, 1) := by decide +kernel
theorem dX6_least_34 : decode cX6_least 34 = .ok (.aload_n 0, 1) := by decide +kernel
theorem dX6_least_35 : decode cX6_least 35 = .ok (.getfield 29, 3) := by decide +kernel
theorem dX6_least_38 : decode cX6_least 38 = .ok (.aload_n 0, 1) := by decide +kernel
theorem dX6_least_39 : decode cX6_least 39 = .ok (.getfield 10, 3) := by decide +kernel
theorem dX6_least_42 : decode cX6_least 42 = .ok (.invokevirtual 160, 3) := by decide +kernel
theorem dX6_least_45 : decode cX6_least 45 = .ok (.istore_n 2, 1) := by decide +kernel
theorem dX6_least_46 : decode cX6_least 46 = .ok (.iload_n 1, 1) := by decide +kernel
theorem dX6_least_47 : decode cX6_least 47 = .ok (.ifCond .ge 7, 3) := by decide +kernel
theorem dX6_least_50 : decode cX6_least 50 = .ok (.iload_n 2, 1) := by decide +kernel
theorem dX6_least_51 : decode cX6_least 51 = .ok (.goto 18, 3) := by decide +kernel
theorem dX6_least_54 : decode cX6_least 54 = .ok (.aload_n 0, 1) := by decide +kernel
theorem dX6_least_55 : decode cX6_least 55 = .ok (.getfield 29, 3) := by decide +kernel
theorem dX6_least_58 : decode cX6_least 58 = .ok (.aload_n 0, 1) := by decide +kernel
theorem dX6_least_59 : decode cX6_least 59 = .ok (.getfield 10, 3) := by decide +kernel
theorem dX6_least_62 : decode cX6_least 62 = .ok (.iload_n 1, 1) := by decide +kernel
theorem dX6_least_63 : decode cX6_least 63 = .ok (.invokevirtual 85, 3) := by decide +kernel
theorem dX6_least_66 : decode cX6_least 66 = .ok (.invokevirtual 164, 3) := by decide +kernel
theorem dX6_least_69 : decode cX6_least 69 = .ok (.ireturn, 1) := by decide +kernel
theorem dX6_between_0 : decode cX6_between 0 = .ok (.iload_n 1, 1) := by decide +kernel
theorem dX6_between_1 : decode cX6_between 1 = .ok (.ifCond .lt 14, 3) := by decide +kernel
theorem dX6_between_4 : decode cX6_between 4 = .ok (.iload_n 1, 1) := by decide +kernel
theorem dX6_between_5 : decode cX6_between 5 = .ok (.aload_n 0, 1) := by decide +kernel
theorem dX6_between_6 : decode cX6_between 6 = .ok (.getfield 10, 3) := by decide +kernel
theorem dX6_between_9 : decode cX6_between 9 = .ok (.getfield 59, 3) := by decide +kernel
theorem dX6_between_12 : decode cX6_between 12 = .ok (.if_icmp .le 9, 3) := by decide +kernel
theorem dX6_between_15 : decode cX6_between 15 = .ok (.aload_n 0, 1) := by decide +kernel
theorem dX6_between_16 : decode cX6_between 16 = .ok (.iconst 1, 1) := by decide +kernel
theorem dX6_between_17 : decode cX6_between 17 = .ok (.invokevirtual 65, 3) := by decide +kernel
theorem dX6_between_20 : decode cX6_between 20 = .ok (.ireturn, 1) := by decide +kernel
theorem dX6_between_21 : decode cX6_between 21 = .ok (.aload_n 0, 1) := by decide +kernel
theorem dX6_between_22 : decode cX6_between 22 = .ok (.getfield 10, 3) := by decide +kernel
theorem dX6_between_25 : decode cX6_between 25 = .ok (.iload_n 1, 1) := by decide +kernel
theorem dX6_between_26 : decode cX6_between 26 = .ok (.invokevirtual 167, 3) := by decide +kernel
theorem dX6_between_29 : decode cX6_between 29 = .ok (.istore_n 2, 1) := by decide +kernel
theorem dX6_between_30 : decode cX6_between 30 = .ok (.iload_n 2, 1) := by decide +kernel
theorem dX6_between_31 : decode cX6_between 31 = .ok (.ifCond .ge 11, 3) := by decide +kernel
theorem dX6_between_34 : decode cX6_between 34 = .ok (.aload_n 0, 1) := by decide +kernel
theorem dX6_between_35 : decode cX6_between 35 = .ok (.iconst 2, 1) := by decide +kernel
theorem dX6_between_36 : decode cX6_between 36 = .ok (.invokevirtual 65, 3) := by decide +kernel
theorem dX6_between_39 : decode cX6_between 39 = .ok (.goto 4, 3) := by decide +kernel
theorem dX6_between_42 : decode cX6_between 42 = .ok (.iload_n 2, 1) := by decide +kernel
theorem dX6_between_43 : decode cX6_between 43 = .ok (.ireturn, 1) := by decide +kernel
theorem dX6_fewest_0 : decode cX6_fewest 0 = .ok (.aload_n 0, 1) := by decide +kernel
theorem dX6_fewest_1 : decode cX6_fewest 1 = .ok (.getfield 10, 3) := by decide +kernel
theorem dX6_fewest_4 : decode cX6_fewest 4 = .ok (.getfield 59, 3) := by decide +kernel
theorem dX6_fewest_7 : decode cX6_fewest 7 = .ok (.aload_n 0, 1) := by decide +kernel
theorem dX6_fewest_8 : decode cX6_fewest 8 = .ok (.getfield 29, 3) := by decide +kernel
theorem dX6_fewest_11 : decode cX6_fewest 11 = .ok (.aload_n 0, 1) := by decide +kernel
theorem dX6_fewest_12 : decode cX6_fewest 12 = .ok (.getfield 10, 3) := by decide +kernel
theorem dX6_fewest_15 : decode cX6_fewest 15 = .ok (.invokevirtual 170, 3) := by decide +kernel
theorem dX6_fewest_18 : decode cX6_fewest 18 = .ok (.isub, 1) := by decide +kernel
theorem dX6_fewest_19 : decode cX6_fewest 19 = .ok (.ireturn, 1) := by decide +kernel
theorem dX6_search_0 : decode cX6_search 0 = .ok (.iload_n 1, 1) := by decide +kernel
theorem dX6_search_1 : decode cX6_search 1 = .ok (.invokestatic 62, 3) := by decide +kernel
theorem dX6_search_4 : decode cX6_search 4 = .ok (.ifCond .eq 12, 3) := by decide +kernel
theorem dX6_search_7 : decode cX6_search 7 = .ok (.iload_n 2, 1) := by decide +kernel
theorem dX6_search_8 : decode cX6_search 8 = .ok (.ifCond .lt 8, 3) := by decide +kernel
theorem dX6_search_11 : decode cX6_search 11 = .ok (.iload_n 2, 1) := by decide +kernel
theorem dX6_search_12 : decode cX6_search 12 = .ok (.iconst 1, 1) := by decide +kernel
theorem dX6_search_13 : decode cX6_search 13 = .ok (.if_icmp .le 9, 3) := by decide +kernel
theorem dX6_search_16 : decode cX6_search 16 = .ok (.aload_n 0, 1) := by decide +kernel
theorem dX6_search_17 : decode cX6_search 17 = .ok (.iconst 1, 1) := by decide +kernel
theorem dX6_search_18 : decode cX6_search 18 = .ok (.invokevirtual 65, 3) := by decide +kernel
theorem dX6_search_21 : decode cX6_search 21 = .ok (.ireturn, 1) := by decide +kernel
theorem dX6_search_22 : decode cX6_search 22 = .ok (.aload_n 0, 1) := by decide +kernel
theorem dX6_search_23 : decode cX6_search 23 = .ok (.getfield 29, 3) := by decide +kernel
theorem dX6_search_26 : decode cX6_search 26 = .ok (.aload_n 0, 1) := by decide +kernel
theorem dX6_search_27 : decode cX6_search 27 = .ok (.getfield 10, 3) := by decide +kernel
theorem dX6_search_30 : decode cX6_search 30 = .ok (.iload_n 1, 1) := by decide +kernel
theorem dX6_search_31 : decode cX6_search 31 = .ok (.invokevirtual 173, 3) := by decide +kernel
theorem dX6_search_34 : decode cX6_search 34 = .ok (.istore_n 3, 1) := by decide +kernel
theorem dX6_search_35 : decode cX6_search 35 = .ok (.iload_n 2, 1) := by decide +kernel
theorem dX6_search_36 : decode cX6_search 36 = .ok (.iconst 1, 1) := by decide +kernel
theorem dX6_search_37 : decode cX6_search 37 = .ok (.if_icmp .ne 11, 3) := by decide +kernel
theorem dX6_search_40 : decode cX6_search 40 = .ok (.aload_n 0, 1) := by decide +kernel
theorem dX6_search_41 : decode cX6_search 41 = .ok (.getfield 29, 3) := by decide +kernel
theorem dX6_search_44 : decode cX6_search 44 = .ok (.getfield 177, 3) := by decide +kernel
theorem dX6_search_47 : decode cX6_search 47 = .ok (.ireturn, 1) := by decide +kernel
theorem dX6_search_48 : decode cX6_search 48 = .ok (.iload_n 3, 1) := by decide +kernel
theorem dX6_search_49 : decode cX6_search 49 = .ok (.ifCond .ge 11, 3) := by decide +kernel
theorem dX6_search_52 : decode cX6_search 52 = .ok (.aload_n 0, 1) := by decide +kernel
theorem dX6_search_53 : decode cX6_search 53 = .ok (.iconst 2, 1) := by decide +kernel
theorem dX6_search_54 : decode cX6_search 54 = .ok (.invokevirtual 65, 3) := by decide +kernel
theorem dX6_search_57 : decode cX6_search 57 = .ok (.goto 11, 3) := by decide +kernel
theorem dX6_search_60 : decode cX6_search 60 = .ok (.aload_n 0, 1) := by decide +kernel
theorem dX6_search_61 : decode cX6_search 61 = .ok (.getfield 10, 3) := by decide +kernel
theorem dX6_search_64 : decode cX6_search 64 = .ok (.iload_n 3, 1) := by decide +kernel
theorem dX6_search_65 : decode cX6_search 65 = .ok (.invokevirtual 94, 3) := by decide +kernel
theorem dX6_search_68 : decode cX6_search 68 = .ok (.ireturn, 1) := by decide +kernel
theorem dX6_odds_0 : decode cX6_odds 0 = .ok (.iload_n 1, 1) := by decide +kernel
theorem dX6_odds_1 : decode cX6_odds 1 = .ok (.ifCond .lt 8, 3) := by decide +kernel
theorem dX6_odds_4 : decode cX6_odds 4 = .ok (.iload_n 1, 1) := by decide +kernel
theorem dX6_odds_5 : decode cX6_odds 5 = .ok (.iconst 1, 1) := by decide +kernel
theorem dX6_odds_6 : decode cX6_odds 6 = .ok (.if_icmp .le 9, 3) := by decide +kernel
theorem dX6_odds_9 : decode cX6_odds 9 = .ok (.aload_n 0, 1) := by decide +kernel
theorem dX6_odds_10 : decode cX6_odds 10 = .ok (.iconst 1, 1) := by decide +kernel
theorem dX6_odds_11 : decode cX6_odds 11 = .ok (.invokevirtual 65, 3) := by decide +kernel
theorem dX6_odds_14 : decode cX6_odds 14 = .ok (.ireturn, 1) := by decide +kernel
theorem dX6_odds_15 : decode cX6_odds 15 = .ok (.aload_n 0, 1) := by decide +kernel
theorem dX6_odds_16 : decode cX6_odds 16 = .ok (.getfield 10, 3) := by decide +kernel
theorem dX6_odds_19 : decode cX6_odds 19 = .ok (.getfield 59, 3) := by decide +kernel
theorem dX6_odds_22 : decode cX6_odds 22 = .ok (.ifCond .ne 9, 3) := by decide +kernel
theorem dX6_odds_25 : decode cX6_odds 25 = .ok (.aload_n 0, 1) := by decide +kernel
theorem dX6_odds_26 : decode cX6_odds 26 = .ok (.iconst 3, 1) := by decide +kernel
theorem dX6_odds_27 : decode cX6_odds 27 = .ok (.invokevirtual 65, 3) := by decide +kernel
theorem dX6_odds_30 : decode cX6_odds 30 = .ok (.ireturn, 1) := by decide +kernel
theorem dX6_odds_31 : decode cX6_odds 31 = .ok (.aload_n 0, 1) := by decide +kernel
theorem dX6_odds_32 : decode cX6_odds 32 = .ok (.getfield 29, 3) := by decide +kernel
theorem dX6_odds_35 : decode cX6_odds 35 = .ok (.aload_n 0, 1) := by decide +kernel
theorem dX6_odds_36 : decode cX6_odds 36 = .ok (.getfield 10, 3) := by decide +kernel
theorem dX6_odds_39 : decode cX6_odds 39 = .ok (.invokevirtual 180, 3) := by decide +kernel
theorem dX6_odds_42 : decode cX6_odds 42 = .ok (.istore_n 2, 1) := by decide +kernel
theorem dX6_odds_43 : decode cX6_odds 43 = .ok (.iload_n 2, 1) := by decide +kernel
theorem dX6_odds_44 : decode cX6_odds 44 = .ok (.aload_n 0, 1) := by decide +kernel
theorem dX6_odds_45 : decode cX6_odds 45 = .ok (.getfield 10, 3) := by decide +kernel
theorem dX6_odds_48 : decode cX6_odds 48 = .ok (.getfield 59, 3) := by decide +kernel
theorem dX6_odds_51 : decode cX6_odds 51 = .ok (.invokestatic 183, 3) := by decide +kernel
theorem dX6_odds_54 : decode cX6_odds 54 = .ok (.istore_n 3, 1) := by decide +kernel
theorem dX6_odds_55 : decode cX6_odds 55 = .ok (.iload_n 1, 1) := by decide +kernel
theorem dX6_odds_56 : decode cX6_odds 56 = .ok (.ifCond .ne 7, 3) := by decide +kernel
theorem dX6_odds_59 : decode cX6_odds 59 = .ok (.iload_n 2, 1) := by decide +kernel
theorem dX6_odds_60 : decode cX6_odds 60 = .ok (.goto 10, 3) := by decide +kernel
theorem dX6_odds_63 : decode cX6_odds 63 = .ok (.aload_n 0, 1) := by decide +kernel
theorem dX6_odds_64 : decode cX6_odds 64 = .ok (.getfield 10, 3) := by decide +kernel
theorem dX6_odds_67 : decode cX6_odds 67 = .ok (.getfield 59, 3) := by decide +kernel
theorem dX6_odds_70 : decode cX6_odds 70 = .ok (.iload_n 3, 1) := by decide +kernel
theorem dX6_odds_71 : decode cX6_odds 71 = .ok (.invokestatic 186, 3) := by decide +kernel
theorem dX6_odds_74 : decode cX6_odds 74 = .ok (.ireturn, 1) := by decide +kernel
theorem dX6_order_0 : decode cX6_order 0 = .ok (.iconst 1, 1) := by decide +kernel
theorem dX6_order_1 : decode cX6_order 1 = .ok (.istore_n 1, 1) := by decide +kernel
theorem dX6_order_2 : decode cX6_order 2 = .ok (.iload_n 1, 1) := by decide +kernel
theorem dX6_order_3 : decode cX6_order 3 = .ok (.aload_n 0, 1) := by decide +kernel
theorem dX6_order_4 : decode cX6_order 4 = .ok (.getfield 10, 3) := by decide +kernel
theorem dX6_order_7 : decode cX6_order 7 = .ok (.getfield 59, 3) := by decide +kernel
theorem dX6_order_10 : decode cX6_order 10 = .ok (.if_icmp .ge 32, 3) := by decide +kernel
theorem dX6_order_13 : decode cX6_order 13 = .ok (.aload_n 0, 1) := by decide +kernel
theorem dX6_order_14 : decode cX6_order 14 = .ok (.getfield 10, 3) := by decide +kernel
theorem dX6_order_17 : decode cX6_order 17 = .ok (.iload_n 1, 1) := by decide +kernel
theorem dX6_order_18 : decode cX6_order 18 = .ok (.invokevirtual 189, 3) := by decide +kernel
theorem dX6_order_21 : decode cX6_order 21 = .ok (.aload_n 0, 1) := by decide +kernel
theorem dX6_order_22 : decode cX6_order 22 = .ok (.getfield 10, 3) := by decide +kernel
theorem dX6_order_25 : decode cX6_order 25 = .ok (.iload_n 1, 1) := by decide +kernel
theorem dX6_order_26 : decode cX6_order 26 = .ok (.iconst 1, 1) := by decide +kernel
theorem dX6_order_27 : decode cX6_order 27 = .ok (.isub, 1) := by decide +kernel
theorem dX6_order_28 : decode cX6_order 28 = .ok (.invokevirtual 189, 3) := by decide +kernel
theorem dX6_order_31 : decode cX6_order 31 = .ok (.if_icmp .gt 5, 3) := by decide +kernel
theorem dX6_order_34 : decode cX6_order 34 = .ok (.iconst 0, 1) := by decide +kernel
theorem dX6_order_35 : decode cX6_order 35 = .ok (.ireturn, 1) := by decide +kernel
theorem dX6_order_36 : decode cX6_order 36 = .ok (.iinc 1 1, 3) := by decide +kernel
theorem dX6_order_39 : decode cX6_order 39 = .ok (.goto (-37), 3) := by decide +kernel
theorem dX6_order_42 : decode cX6_order 42 = .ok (.iconst 1, 1) := by decide +kernel
theorem dX6_order_43 : decode cX6_order 43 = .ok (.ireturn, 1) := by decide +kernel
theorem dX6_fits_0 : decode cX6_fits 0 = .ok (.iload_n 1, 1) := by decide +kernel
theorem dX6_fits_1 : decode cX6_fits 1 = .ok (.invokestatic 192, 3) := by decide +kernel
theorem dX6_fits_4 : decode cX6_fits 4 = .ok (.ifCond .eq 12, 3) := by decide +kernel
theorem dX6_fits_7 : decode cX6_fits 7 = .ok (.iload_n 2, 1) := by decide +kernel
theorem dX6_fits_8 : decode cX6_fits 8 = .ok (.ifCond .lt 8, 3) := by decide +kernel
theorem dX6_fits_11 : decode cX6_fits 11 = .ok (.iload_n 2, 1) := by decide +kernel
theorem dX6_fits_12 : decode cX6_fits 12 = .ok (.iconst 1, 1) := by decide +kernel
theorem dX6_fits_13 : decode cX6_fits 13 = .ok (.if_icmp .le 9, 3) := by decide +kernel
theorem dX6_fits_16 : decode cX6_fits 16 = .ok (.aload_n 0, 1) := by decide +kernel
theorem dX6_fits_17 : decode cX6_fits 17 = .ok (.iconst 1, 1) := by decide +kernel
theorem dX6_fits_18 : decode cX6_fits 18 = .ok (.invokevirtual 65, 3) := by decide +kernel
theorem dX6_fits_21 : decode cX6_fits 21 = .ok (.ireturn, 1) := by decide +kernel
theorem dX6_fits_22 : decode cX6_fits 22 = .ok (.aload_n 0, 1) := by decide +kernel
theorem dX6_fits_23 : decode cX6_fits 23 = .ok (.getfield 43, 3) := by decide +kernel
theorem dX6_fits_26 : decode cX6_fits 26 = .ok (.iload_n 1, 1) := by decide +kernel
theorem dX6_fits_27 : decode cX6_fits 27 = .ok (.invokevirtual 195, 3) := by decide +kernel
theorem dX6_fits_30 : decode cX6_fits 30 = .ok (.ifCond .eq 9, 3) := by decide +kernel
theorem dX6_fits_33 : decode cX6_fits 33 = .ok (.aload_n 0, 1) := by decide +kernel
theorem dX6_fits_34 : decode cX6_fits 34 = .ok (.iconst 2, 1) := by decide +kernel
theorem dX6_fits_35 : decode cX6_fits 35 = .ok (.invokevirtual 65, 3) := by decide +kernel
theorem dX6_fits_38 : decode cX6_fits 38 = .ok (.ireturn, 1) := by decide +kernel
theorem dX6_fits_39 : decode cX6_fits 39 = .ok (.iconst 0, 1) := by decide +kernel
theorem dX6_fits_40 : decode cX6_fits 40 = .ok (.istore_n 3, 1) := by decide +kernel
theorem dX6_fits_41 : decode cX6_fits 41 = .ok (.iconst 0, 1) := by decide +kernel
theorem dX6_fits_42 : decode cX6_fits 42 = .ok (.istore 4, 2) := by decide +kernel
theorem dX6_fits_44 : decode cX6_fits 44 = .ok (.bipush 50, 2) := by decide +kernel
theorem dX6_fits_46 : decode cX6_fits 46 = .ok (.istore 5, 2) := by decide +kernel
theorem dX6_fits_48 : decode cX6_fits 48 = .ok (.iload 5, 2) := by decide +kernel
theorem dX6_fits_50 : decode cX6_fits 50 = .ok (.iconst 1, 1) := by decide +kernel
theorem dX6_fits_51 : decode cX6_fits 51 = .ok (.if_icmp .lt 26, 3) := by decide +kernel
theorem dX6_fits_54 : decode cX6_fits 54 = .ok (.aload_n 0, 1) := by decide +kernel
theorem dX6_fits_55 : decode cX6_fits 55 = .ok (.iload_n 1, 1) := by decide +kernel
theorem dX6_fits_56 : decode cX6_fits 56 = .ok (.iload 5, 2) := by decide +kernel
theorem dX6_fits_58 : decode cX6_fits 58 = .ok (.invokevirtual 198, 3) := by decide +kernel
theorem dX6_fits_61 : decode cX6_fits 61 = .ok (.ifCond .eq 10, 3) := by decide +kernel
theorem dX6_fits_64 : decode cX6_fits 64 = .ok (.iinc 3 1, 3) := by decide +kernel
theorem dX6_fits_67 : decode cX6_fits 67 = .ok (.iload 5, 2) := by decide +kernel
theorem dX6_fits_69 : decode cX6_fits 69 = .ok (.istore 4, 2) := by decide +kernel
theorem dX6_fits_71 : decode cX6_fits 71 = .ok (.iinc 5 (-1), 3) := by decide +kernel
theorem dX6_fits_74 : decode cX6_fits 74 = .ok (.goto (-26), 3) := by decide +kernel
theorem dX6_fits_77 : decode cX6_fits 77 = .ok (.iload_n 2, 1) := by decide +kernel
theorem dX6_fits_78 : decode cX6_fits 78 = .ok (.ifCond .ne 5, 3) := by decide +kernel
theorem dX6_fits_81 : decode cX6_fits 81 = .ok (.iload_n 3, 1) := by decide +kernel
theorem dX6_fits_82 : decode cX6_fits 82 = .ok (.ireturn, 1) := by decide +kernel
theorem dX6_fits_83 : decode cX6_fits 83 = .ok (.iload_n 3, 1) := by decide +kernel
theorem dX6_fits_84 : decode cX6_fits 84 = .ok (.ifCond .ne 11, 3) := by decide +kernel
theorem dX6_fits_87 : decode cX6_fits 87 = .ok (.aload_n 0, 1) := by decide +kernel
theorem dX6_fits_88 : decode cX6_fits 88 = .ok (.iconst 2, 1) := by decide +kernel
theorem dX6_fits_89 : decode cX6_fits 89 = .ok (.invokevirtual 65, 3) := by decide +kernel
theorem dX6_fits_92 : decode cX6_fits 92 = .ok (.goto 5, 3) := by decide +kernel
theorem dX6_fits_95 : decode cX6_fits 95 = .ok (.iload 4, 2) := by decide +kernel
theorem dX6_fits_97 : decode cX6_fits 97 = .ok (.ireturn, 1) := by decide +kernel
theorem dX6_loose_0 : decode cX6_loose 0 = .ok (.iload_n 1, 1) := by decide +kernel
theorem dX6_loose_1 : decode cX6_loose 1 = .ok (.iconst 1, 1) := by decide +kernel
theorem dX6_loose_2 : decode cX6_loose 2 = .ok (.if_icmp .lt 9, 3) := by decide +kernel
theorem dX6_loose_5 : decode cX6_loose 5 = .ok (.iload_n 1, 1) := by decide +kernel
theorem dX6_loose_6 : decode cX6_loose 6 = .ok (.bipush 30, 2) := by decide +kernel
theorem dX6_loose_8 : decode cX6_loose 8 = .ok (.if_icmp .le 9, 3) := by decide +kernel
theorem dX6_loose_11 : decode cX6_loose 11 = .ok (.aload_n 0, 1) := by decide +kernel
theorem dX6_loose_12 : decode cX6_loose 12 = .ok (.iconst 1, 1) := by decide +kernel
theorem dX6_loose_13 : decode cX6_loose 13 = .ok (.invokevirtual 65, 3) := by decide +kernel
theorem dX6_loose_16 : decode cX6_loose 16 = .ok (.ireturn, 1) := by decide +kernel
theorem dX6_loose_17 : decode cX6_loose 17 = .ok (.aload_n 0, 1) := by decide +kernel
theorem dX6_loose_18 : decode cX6_loose 18 = .ok (.getfield 10, 3) := by decide +kernel
theorem dX6_loose_21 : decode cX6_loose 21 = .ok (.getfield 112, 3) := by decide +kernel
theorem dX6_loose_24 : decode cX6_loose 24 = .ok (.iload_n 1, 1) := by decide +kernel
theorem dX6_loose_25 : decode cX6_loose 25 = .ok (.iadd, 1) := by decide +kernel
theorem dX6_loose_26 : decode cX6_loose 26 = .ok (.sipush 9999, 3) := by decide +kernel
theorem dX6_loose_29 : decode cX6_loose 29 = .ok (.if_icmp .le 9, 3) := by decide +kernel
theorem dX6_loose_32 : decode cX6_loose 32 = .ok (.aload_n 0, 1) := by decide +kernel
theorem dX6_loose_33 : decode cX6_loose 33 = .ok (.iconst 3, 1) := by decide +kernel
theorem dX6_loose_34 : decode cX6_loose 34 = .ok (.invokevirtual 65, 3) := by decide +kernel
theorem dX6_loose_37 : decode cX6_loose 37 = .ok (.ireturn, 1) := by decide +kernel
theorem dX6_loose_38 : decode cX6_loose 38 = .ok (.iconst 0, 1) := by decide +kernel
theorem dX6_loose_39 : decode cX6_loose 39 = .ok (.istore_n 2, 1) := by decide +kernel
theorem dX6_loose_40 : decode cX6_loose 40 = .ok (.iconst 0, 1) := by decide +kernel
theorem dX6_loose_41 : decode cX6_loose 41 = .ok (.istore_n 3, 1) := by decide +kernel
theorem dX6_loose_42 : decode cX6_loose 42 = .ok (.iload_n 3, 1) := by decide +kernel
theorem dX6_loose_43 : decode cX6_loose 43 = .ok (.iload_n 1, 1) := by decide +kernel
theorem dX6_loose_44 : decode cX6_loose 44 = .ok (.if_icmp .ge 19, 3) := by decide +kernel
theorem dX6_loose_47 : decode cX6_loose 47 = .ok (.iload_n 2, 1) := by decide +kernel
theorem dX6_loose_48 : decode cX6_loose 48 = .ok (.aload_n 0, 1) := by decide +kernel
theorem dX6_loose_49 : decode cX6_loose 49 = .ok (.getfield 10, 3) := by decide +kernel
theorem dX6_loose_52 : decode cX6_loose 52 = .ok (.invokevirtual 201, 3) := by decide +kernel
theorem dX6_loose_55 : decode cX6_loose 55 = .ok (.iadd, 1) := by decide +kernel
theorem dX6_loose_56 : decode cX6_loose 56 = .ok (.istore_n 2, 1) := by decide +kernel
theorem dX6_loose_57 : decode cX6_loose 57 = .ok (.iinc 3 1, 3) := by decide +kernel
theorem dX6_loose_60 : decode cX6_loose 60 = .ok (.goto (-18), 3) := by decide +kernel
theorem dX6_loose_63 : decode cX6_loose 63 = .ok (.iload_n 2, 1) := by decide +kernel
theorem dX6_loose_64 : decode cX6_loose 64 = .ok (.ireturn, 1) := by decide +kernel
theorem dX6_seed_0 : decode cX6_seed 0 = .ok (.aload_n 0, 1) := by decide +kernel
theorem dX6_seed_1 : decode cX6_seed 1 = .ok (.getfield 10, 3) := by decide +kernel
theorem dX6_seed_4 : decode cX6_seed 4 = .ok (.getfield 205, 3) := by decide +kernel
theorem dX6_seed_7 : decode cX6_seed 7 = .ok (.istore_n 2, 1) := by decide +kernel
theorem dX6_seed_8 : decode cX6_seed 8 = .ok (.aload_n 0, 1) := by decide +kernel
theorem dX6_seed_9 : decode cX6_seed 9 = .ok (.getfield 10, 3) := by decide +kernel
theorem dX6_seed_12 : decode cX6_seed 12 = .ok (.iload_n 1, 1) := by decide +kernel
theorem dX6_seed_13 : decode cX6_seed 13 = .ok (.putfield 205, 3) := by decide +kernel
theorem dX6_seed_16 : decode cX6_seed 16 = .ok (.iload_n 2, 1) := by decide +kernel
theorem dX6_seed_17 : decode cX6_seed 17 = .ok (.ireturn, 1) := by decide +kernel
theorem dX6_voice_0 : decode cX6_voice 0 = .ok (.aload_n 0, 1) := by decide +kernel
theorem dX6_voice_1 : decode cX6_voice 1 = .ok (.getfield 10, 3) := by decide +kernel
theorem dX6_voice_4 : decode cX6_voice 4 = .ok (.iload_n 1, 1) := by decide +kernel
theorem dX6_voice_5 : decode cX6_voice 5 = .ok (.invokevirtual 73, 3) := by decide +kernel
theorem dX6_voice_8 : decode cX6_voice 8 = .ok (.ifCond .eq 12, 3) := by decide +kernel
theorem dX6_voice_11 : decode cX6_voice 11 = .ok (.iload_n 2, 1) := by decide +kernel
theorem dX6_voice_12 : decode cX6_voice 12 = .ok (.ifCond .lt 8, 3) := by decide +kernel
theorem dX6_voice_15 : decode cX6_voice 15 = .ok (.iload_n 2, 1) := by decide +kernel
theorem dX6_voice_16 : decode cX6_voice 16 = .ok (.iconst 4, 1) := by decide +kernel
theorem dX6_voice_17 : decode cX6_voice 17 = .ok (.if_icmp .lt 9, 3) := by decide +kernel
theorem dX6_voice_20 : decode cX6_voice 20 = .ok (.aload_n 0, 1) := by decide +kernel
theorem dX6_voice_21 : decode cX6_voice 21 = .ok (.iconst 1, 1) := by decide +kernel
theorem dX6_voice_22 : decode cX6_voice 22 = .ok (.invokevirtual 65, 3) := by decide +kernel
theorem dX6_voice_25 : decode cX6_voice 25 = .ok (.ireturn, 1) := by decide +kernel
theorem dX6_voice_26 : decode cX6_voice 26 = .ok (.aload_n 0, 1) := by decide +kernel
theorem dX6_voice_27 : decode cX6_voice 27 = .ok (.getfield 36, 3) := by decide +kernel
theorem dX6_voice_30 : decode cX6_voice 30 = .ok (.aload_n 0, 1) := by decide +kernel
theorem dX6_voice_31 : decode cX6_voice 31 = .ok (.getfield 10, 3) := by decide +kernel
theorem dX6_voice_34 : decode cX6_voice 34 = .ok (.iload_n 1, 1) := by decide +kernel
theorem dX6_voice_35 : decode cX6_voice 35 = .ok (.invokevirtual 76, 3) := by decide +kernel
theorem dX6_voice_38 : decode cX6_voice 38 = .ok (.iload_n 1, 1) := by decide +kernel
theorem dX6_voice_39 : decode cX6_voice 39 = .ok (.aload_n 0, 1) := by decide +kernel
theorem dX6_voice_40 : decode cX6_voice 40 = .ok (.getfield 10, 3) := by decide +kernel
theorem dX6_voice_43 : decode cX6_voice 43 = .ok (.iload_n 1, 1) := by decide +kernel
theorem dX6_voice_44 : decode cX6_voice 44 = .ok (.invokevirtual 79, 3) := by decide +kernel
theorem dX6_voice_47 : decode cX6_voice 47 = .ok (.iload_n 2, 1) := by decide +kernel
theorem dX6_voice_48 : decode cX6_voice 48 = .ok (.iload_n 3, 1) := by decide +kernel
theorem dX6_voice_49 : decode cX6_voice 49 = .ok (.invokevirtual 208, 3) := by decide +kernel
theorem dX6_voice_52 : decode cX6_voice 52 = .ok (.istore 4, 2) := by decide +kernel
theorem dX6_voice_54 : decode cX6_voice 54 = .ok (.aload_n 0, 1) := by decide +kernel
theorem dX6_voice_55 : decode cX6_voice 55 = .ok (.getfield 36, 3) := by decide +kernel
theorem dX6_voice_58 : decode cX6_voice 58 = .ok (.getfield 212, 3) := by decide +kernel
theorem dX6_voice_61 : decode cX6_voice 61 = .ok (.ifCond .eq 12, 3) := by decide +kernel
theorem dX6_voice_64 : decode cX6_voice 64 = .ok (.aload_n 0, 1) := by decide +kernel
theorem dX6_voice_65 : decode cX6_voice 65 = .ok (.bipush 6, 2) := by decide +kernel
theorem dX6_voice_67 : decode cX6_voice 67 = .ok (.invokevirtual 65, 3) := by decide +kernel
theorem dX6_voice_70 : decode cX6_voice 70 = .ok (.goto 5, 3) := by decide +kernel
theorem dX6_voice_73 : decode cX6_voice 73 = .ok (.iload 4, 2) := by decide +kernel
theorem dX6_voice_75 : decode cX6_voice 75 = .ok (.ireturn, 1) := by decide +kernel
theorem dX6_body_0 : decode cX6_body 0 = .ok (.iload_n 1, 1) := by decide +kernel
theorem dX6_body_1 : decode cX6_body 1 = .ok (.ifCond .lt 14, 3) := by decide +kernel
theorem dX6_body_4 : decode cX6_body 4 = .ok (.iload_n 1, 1) := by decide +kernel
theorem dX6_body_5 : decode cX6_body 5 = .ok (.aload_n 0, 1) := by decide +kernel
theorem dX6_body_6 : decode cX6_body 6 = .ok (.getfield 36, 3) := by decide +kernel
theorem dX6_body_9 : decode cX6_body 9 = .ok (.getfield 216, 3) := by decide +kernel
theorem dX6_body_12 : decode cX6_body 12 = .ok (.if_icmp .lt 9, 3) := by decide +kernel
theorem dX6_body_15 : decode cX6_body 15 = .ok (.aload_n 0, 1) := by decide +kernel
theorem dX6_body_16 : decode cX6_body 16 = .ok (.iconst 2, 1) := by decide +kernel
theorem dX6_body_17 : decode cX6_body 17 = .ok (.invokevirtual 65, 3) := by decide +kernel
theorem dX6_body_20 : decode cX6_body 20 = .ok (.ireturn, 1) := by decide +kernel
theorem dX6_body_21 : decode cX6_body 21 = .ok (.aload_n 0, 1) := by decide +kernel
theorem dX6_body_22 : decode cX6_body 22 = .ok (.getfield 36, 3) := by decide +kernel
theorem dX6_body_25 : decode cX6_body 25 = .ok (.iload_n 1, 1) := by decide +kernel
theorem dX6_body_26 : decode cX6_body 26 = .ok (.invokevirtual 219, 3) := by decide +kernel
theorem dX6_body_29 : decode cX6_body 29 = .ok (.ireturn, 1) := by decide +kernel
theorem dX6_sheet_0 : decode cX6_sheet 0 = .ok (.iload_n 1, 1) := by decide +kernel
theorem dX6_sheet_1 : decode cX6_sheet 1 = .ok (.invokestatic 192, 3) := by decide +kernel
theorem dX6_sheet_4 : decode cX6_sheet 4 = .ok (.ifCond .eq 25, 3) := by decide +kernel
theorem dX6_sheet_7 : decode cX6_sheet 7 = .ok (.iload_n 2, 1) := by decide +kernel
theorem dX6_sheet_8 : decode cX6_sheet 8 = .ok (.ifCond .eq 27, 3) := by decide +kernel
theorem dX6_sheet_11 : decode cX6_sheet 11 = .ok (.iload_n 2, 1) := by decide +kernel
theorem dX6_sheet_12 : decode cX6_sheet 12 = .ok (.bipush 8, 2) := by decide +kernel
theorem dX6_sheet_14 : decode cX6_sheet 14 = .ok (.if_icmp .eq 21, 3) := by decide +kernel
theorem dX6_sheet_17 : decode cX6_sheet 17 = .ok (.iload_n 2, 1) := by decide +kernel
theorem dX6_sheet_18 : decode cX6_sheet 18 = .ok (.bipush 16, 2) := by decide +kernel
theorem dX6_sheet_20 : decode cX6_sheet 20 = .ok (.if_icmp .eq 15, 3) := by decide +kernel
theorem dX6_sheet_23 : decode cX6_sheet 23 = .ok (.iload_n 2, 1) := by decide +kernel
theorem dX6_sheet_24 : decode cX6_sheet 24 = .ok (.bipush 32, 2) := by decide +kernel
theorem dX6_sheet_26 : decode cX6_sheet 26 = .ok (.if_icmp .eq 9, 3) := by decide +kernel
theorem dX6_sheet_29 : decode cX6_sheet 29 = .ok (.aload_n 0, 1) := by decide +kernel
theorem dX6_sheet_30 : decode cX6_sheet 30 = .ok (.iconst 1, 1) := by decide +kernel
theorem dX6_sheet_31 : decode cX6_sheet 31 = .ok (.invokevirtual 65, 3) := by decide +kernel
theorem dX6_sheet_34 : decode cX6_sheet 34 = .ok (.ireturn, 1) := by decide +kernel
theorem dX6_sheet_35 : decode cX6_sheet 35 = .ok (.iload_n 2, 1) := by decide +kernel
theorem dX6_sheet_36 : decode cX6_sheet 36 = .ok (.ifCond .ne 15, 3) := by decide +kernel
theorem dX6_sheet_39 : decode cX6_sheet 39 = .ok (.aload_n 0, 1) := by decide +kernel
theorem dX6_sheet_40 : decode cX6_sheet 40 = .ok (.getfield 43, 3) := by decide +kernel
theorem dX6_sheet_43 : decode cX6_sheet 43 = .ok (.iload_n 1, 1) := by decide +kernel
theorem dX6_sheet_44 : decode cX6_sheet 44 = .ok (.iconst 0, 1) := by decide +kernel
theorem dX6_sheet_45 : decode cX6_sheet 45 = .ok (.iconst 0, 1) := by decide +kernel
theorem dX6_sheet_46 : decode cX6_sheet 46 = .ok (.invokevirtual 222, 3) := by decide +kernel
theorem dX6_sheet_49 : decode cX6_sheet 49 = .ok (.iconst 1, 1) := by decide +kernel
theorem dX6_sheet_50 : decode cX6_sheet 50 = .ok (.ireturn, 1) := by decide +kernel
theorem dX6_sheet_51 : decode cX6_sheet 51 = .ok (.iload_n 3, 1) := by decide +kernel
theorem dX6_sheet_52 : decode cX6_sheet 52 = .ok (.ifCond .ge 9, 3) := by decide +kernel
theorem dX6_sheet_55 : decode cX6_sheet 55 = .ok (.aload_n 0, 1) := by decide +kernel
theorem dX6_sheet_56 : decode cX6_sheet 56 = .ok (.iconst 3, 1) := by decide +kernel
theorem dX6_sheet_57 : decode cX6_sheet 57 = .ok (.invokevirtual 65, 3) := by decide +kernel
theorem dX6_sheet_60 : decode cX6_sheet 60 = .ok (.ireturn, 1) := by decide +kernel
theorem dX6_sheet_61 : decode cX6_sheet 61 = .ok (.iload_n 3, 1) := by decide +kernel
theorem dX6_sheet_62 : decode cX6_sheet 62 = .ok (.bipush 24, 2) := by decide +kernel
theorem dX6_sheet_64 : decode cX6_sheet 64 = .ok (.if_icmp .le 9, 3) := by decide +kernel
theorem dX6_sheet_67 : decode cX6_sheet 67 = .ok (.aload_n 0, 1) := by decide +kernel
theorem dX6_sheet_68 : decode cX6_sheet 68 = .ok (.iconst 1, 1) := by decide +kernel
theorem dX6_sheet_69 : decode cX6_sheet 69 = .ok (.invokevirtual 65, 3) := by decide +kernel
theorem dX6_sheet_72 : decode cX6_sheet 72 = .ok (.ireturn, 1) := by decide +kernel
theorem dX6_sheet_73 : decode cX6_sheet 73 = .ok (.aload_n 0, 1) := by decide +kernel
theorem dX6_sheet_74 : decode cX6_sheet 74 = .ok (.getfield 43, 3) := by decide +kernel
theorem dX6_sheet_77 : decode cX6_sheet 77 = .ok (.iload_n 1, 1) := by decide +kernel
theorem dX6_sheet_78 : decode cX6_sheet 78 = .ok (.iload_n 2, 1) := by decide +kernel
theorem dX6_sheet_79 : decode cX6_sheet 79 = .ok (.iload_n 3, 1) := by decide +kernel
theorem dX6_sheet_80 : decode cX6_sheet 80 = .ok (.invokevirtual 222, 3) := by decide +kernel
theorem dX6_sheet_83 : decode cX6_sheet 83 = .ok (.iconst 1, 1) := by decide +kernel
theorem dX6_sheet_84 : decode cX6_sheet 84 = .ok (.ireturn, 1) := by decide +kernel
theorem dX6_put_0 : decode cX6_put 0 = .ok (.iload_n 1, 1) := by decide +kernel
theorem dX6_put_1 : decode cX6_put 1 = .ok (.invokestatic 192, 3) := by decide +kernel
theorem dX6_put_4 : decode cX6_put 4 = .ok (.ifCond .ne 9, 3) := by decide +kernel
theorem dX6_put_7 : decode cX6_put 7 = .ok (.aload_n 0, 1) := by decide +kernel
theorem dX6_put_8 : decode cX6_put 8 = .ok (.iconst 1, 1) := by decide +kernel
theorem dX6_put_9 : decode cX6_put 9 = .ok (.invokevirtual 65, 3) := by decide +kernel
theorem dX6_put_12 : decode cX6_put 12 = .ok (.ireturn, 1) := by decide +kernel
theorem dX6_put_13 : decode cX6_put 13 = .ok (.aload_n 0, 1) := by decide +kernel
theorem dX6_put_14 : decode cX6_put 14 = .ok (.getfield 43, 3) := by decide +kernel
theorem dX6_put_17 : decode cX6_put 17 = .ok (.iload_n 1, 1) := by decide +kernel
theorem dX6_put_18 : decode cX6_put 18 = .ok (.invokevirtual 195, 3) := by decide +kernel
theorem dX6_put_21 : decode cX6_put 21 = .ok (.ifCond .eq 9, 3) := by decide +kernel
theorem dX6_put_24 : decode cX6_put 24 = .ok (.aload_n 0, 1) := by decide +kernel
theorem dX6_put_25 : decode cX6_put 25 = .ok (.iconst 2, 1) := by decide +kernel
theorem dX6_put_26 : decode cX6_put 26 = .ok (.invokevirtual 65, 3) := by decide +kernel
theorem dX6_put_29 : decode cX6_put 29 = .ok (.ireturn, 1) := by decide +kernel
theorem dX6_put_30 : decode cX6_put 30 = .ok (.iload_n 2, 1) := by decide +kernel
theorem dX6_put_31 : decode cX6_put 31 = .ok (.ifCond .lt 15, 3) := by decide +kernel
theorem dX6_put_34 : decode cX6_put 34 = .ok (.iload_n 2, 1) := by decide +kernel
theorem dX6_put_35 : decode cX6_put 35 = .ok (.aload_n 0, 1) := by decide +kernel
theorem dX6_put_36 : decode cX6_put 36 = .ok (.getfield 43, 3) := by decide +kernel
theorem dX6_put_39 : decode cX6_put 39 = .ok (.iload_n 1, 1) := by decide +kernel
theorem dX6_put_40 : decode cX6_put 40 = .ok (.invokevirtual 225, 3) := by decide +kernel
theorem dX6_put_43 : decode cX6_put 43 = .ok (.if_icmp .lt 9, 3) := by decide +kernel
theorem dX6_put_46 : decode cX6_put 46 = .ok (.aload_n 0, 1) := by decide +kernel
theorem dX6_put_47 : decode cX6_put 47 = .ok (.iconst 1, 1) := by decide +kernel
theorem dX6_put_48 : decode cX6_put 48 = .ok (.invokevirtual 65, 3) := by decide +kernel
theorem dX6_put_51 : decode cX6_put 51 = .ok (.ireturn, 1) := by decide +kernel
theorem dX6_put_52 : decode cX6_put 52 = .ok (.aload_n 0, 1) := by decide +kernel
theorem dX6_put_53 : decode cX6_put 53 = .ok (.getfield 43, 3) := by decide +kernel
theorem dX6_put_56 : decode cX6_put 56 = .ok (.iload_n 1, 1) := by decide +kernel
theorem dX6_put_57 : decode cX6_put 57 = .ok (.iload_n 2, 1) := by decide +kernel
theorem dX6_put_58 : decode cX6_put 58 = .ok (.iload_n 3, 1) := by decide +kernel
theorem dX6_put_59 : decode cX6_put 59 = .ok (.invokevirtual 228, 3) := by decide +kernel
theorem dX6_put_62 : decode cX6_put 62 = .ok (.iconst 1, 1) := by decide +kernel
theorem dX6_put_63 : decode cX6_put 63 = .ok (.ireturn, 1) := by decide +kernel
theorem dX6_move_0 : decode cX6_move 0 = .ok (.iload_n 1, 1) := by decide +kernel
theorem dX6_move_1 : decode cX6_move 1 = .ok (.invokestatic 192, 3) := by decide +kernel
theorem dX6_move_4 : decode cX6_move 4 = .ok (.ifCond .eq 10, 3) := by decide +kernel
theorem dX6_move_7 : decode cX6_move 7 = .ok (.iload_n 3, 1) := by decide +kernel
theorem dX6_move_8 : decode cX6_move 8 = .ok (.invokestatic 192, 3) := by decide +kernel
theorem dX6_move_11 : decode cX6_move 11 = .ok (.ifCond .ne 9, 3) := by decide +kernel
theorem dX6_move_14 : decode cX6_move 14 = .ok (.aload_n 0, 1) := by decide +kernel
theorem dX6_move_15 : decode cX6_move 15 = .ok (.iconst 1, 1) := by decide +kernel
theorem dX6_move_16 : decode cX6_move 16 = .ok (.invokevirtual 65, 3) := by decide +kernel
theorem dX6_move_19 : decode cX6_move 19 = .ok (.ireturn, 1) := by decide +kernel
theorem dX6_move_20 : decode cX6_move 20 = .ok (.aload_n 0, 1) := by decide +kernel
theorem dX6_move_21 : decode cX6_move 21 = .ok (.getfield 43, 3) := by decide +kernel
theorem dX6_move_24 : decode cX6_move 24 = .ok (.iload_n 1, 1) := by decide +kernel
theorem dX6_move_25 : decode cX6_move 25 = .ok (.invokevirtual 195, 3) := by decide +kernel
theorem dX6_move_28 : decode cX6_move 28 = .ok (.ifCond .ne 14, 3) := by decide +kernel
theorem dX6_move_31 : decode cX6_move 31 = .ok (.aload_n 0, 1) := by decide +kernel
theorem dX6_move_32 : decode cX6_move 32 = .ok (.getfield 43, 3) := by decide +kernel
theorem dX6_move_35 : decode cX6_move 35 = .ok (.iload_n 3, 1) := by decide +kernel
theorem dX6_move_36 : decode cX6_move 36 = .ok (.invokevirtual 195, 3) := by decide +kernel
theorem dX6_move_39 : decode cX6_move 39 = .ok (.ifCond .eq 9, 3) := by decide +kernel
theorem dX6_move_42 : decode cX6_move 42 = .ok (.aload_n 0, 1) := by decide +kernel
theorem dX6_move_43 : decode cX6_move 43 = .ok (.iconst 2, 1) := by decide +kernel
theorem dX6_move_44 : decode cX6_move 44 = .ok (.invokevirtual 65, 3) := by decide +kernel
theorem dX6_move_47 : decode cX6_move 47 = .ok (.ireturn, 1) := by decide +kernel
theorem dX6_move_48 : decode cX6_move 48 = .ok (.aload_n 0, 1) := by decide +kernel
theorem dX6_move_49 : decode cX6_move 49 = .ok (.getfield 43, 3) := by decide +kernel
theorem dX6_move_52 : decode cX6_move 52 = .ok (.iload_n 1, 1) := by decide +kernel
theorem dX6_move_53 : decode cX6_move 53 = .ok (.invokevirtual 231, 3) := by decide +kernel
theorem dX6_move_56 : decode cX6_move 56 = .ok (.aload_n 0, 1) := by decide +kernel
theorem dX6_move_57 : decode cX6_move 57 = .ok (.getfield 43, 3) := by decide +kernel
theorem dX6_move_60 : decode cX6_move 60 = .ok (.iload_n 3, 1) := by decide +kernel
theorem dX6_move_61 : decode cX6_move 61 = .ok (.invokevirtual 231, 3) := by decide +kernel
theorem dX6_move_64 : decode cX6_move 64 = .ok (.if_icmp .eq 9, 3) := by decide +kernel
theorem dX6_move_67 : decode cX6_move 67 = .ok (.aload_n 0, 1) := by decide +kernel
theorem dX6_move_68 : decode cX6_move 68 = .ok (.iconst 5, 1) := by decide +kernel
theorem dX6_move_69 : decode cX6_move 69 = .ok (.invokevirtual 65, 3) := by decide +kernel
theorem dX6_move_72 : decode cX6_move 72 = .ok (.ireturn, 1) := by decide +kernel
theorem dX6_move_73 : decode cX6_move 73 = .ok (.aload_n 0, 1) := by decide +kernel
theorem dX6_move_74 : decode cX6_move 74 = .ok (.getfield 43, 3) := by decide +kernel
theorem dX6_move_77 : decode cX6_move 77 = .ok (.iload_n 1, 1) := by decide +kernel
theorem dX6_move_78 : decode cX6_move 78 = .ok (.iload_n 2, 1) := by decide +kernel
theorem dX6_move_79 : decode cX6_move 79 = .ok (.iload 5, 2) := by decide +kernel
theorem dX6_move_81 : decode cX6_move 81 = .ok (.invokevirtual 234, 3) := by decide +kernel
theorem dX6_move_84 : decode cX6_move 84 = .ok (.ifCond .eq 18, 3) := by decide +kernel
theorem dX6_move_87 : decode cX6_move 87 = .ok (.aload_n 0, 1) := by decide +kernel
theorem dX6_move_88 : decode cX6_move 88 = .ok (.getfield 43, 3) := by decide +kernel
theorem dX6_move_91 : decode cX6_move 91 = .ok (.iload_n 3, 1) := by decide +kernel
theorem dX6_move_92 : decode cX6_move 92 = .ok (.iload 4, 2) := by decide +kernel
theorem dX6_move_94 : decode cX6_move 94 = .ok (.iload 5, 2) := by decide +kernel
theorem dX6_move_96 : decode cX6_move 96 = .ok (.invokevirtual 234, 3) := by decide +kernel
theorem dX6_move_99 : decode cX6_move 99 = .ok (.ifCond .ne 9, 3) := by decide +kernel
theorem dX6_move_102 : decode cX6_move 102 = .ok (.aload_n 0, 1) := by decide +kernel
theorem dX6_move_103 : decode cX6_move 103 = .ok (.iconst 1, 1) := by decide +kernel
theorem dX6_move_104 : decode cX6_move 104 = .ok (.invokevirtual 65, 3) := by decide +kernel
theorem dX6_move_107 : decode cX6_move 107 = .ok (.ireturn, 1) := by decide +kernel
theorem dX6_move_108 : decode cX6_move 108 = .ok (.aload_n 0, 1) := by decide +kernel
theorem dX6_move_109 : decode cX6_move 109 = .ok (.getfield 43, 3) := by decide +kernel
theorem dX6_move_112 : decode cX6_move 112 = .ok (.iload_n 1, 1) := by decide +kernel
theorem dX6_move_113 : decode cX6_move 113 = .ok (.iload_n 2, 1) := by decide +kernel
theorem dX6_move_114 : decode cX6_move 114 = .ok (.iload_n 3, 1) := by decide +kernel
theorem dX6_move_115 : decode cX6_move 115 = .ok (.iload 4, 2) := by decide +kernel
theorem dX6_move_117 : decode cX6_move 117 = .ok (.iload 5, 2) := by decide +kernel
theorem dX6_move_119 : decode cX6_move 119 = .ok (.invokevirtual 238, 3) := by decide +kernel
theorem dX6_move_122 : decode cX6_move 122 = .ok (.iload 5, 2) := by decide +kernel
theorem dX6_move_124 : decode cX6_move 124 = .ok (.ireturn, 1) := by decide +kernel
theorem dX6_plates_0 : decode cX6_plates 0 = .ok (.iload_n 1, 1) := by decide +kernel
theorem dX6_plates_1 : decode cX6_plates 1 = .ok (.invokestatic 192, 3) := by decide +kernel
theorem dX6_plates_4 : decode cX6_plates 4 = .ok (.ifCond .ne 9, 3) := by decide +kernel
theorem dX6_plates_7 : decode cX6_plates 7 = .ok (.aload_n 0, 1) := by decide +kernel
theorem dX6_plates_8 : decode cX6_plates 8 = .ok (.iconst 1, 1) := by decide +kernel
theorem dX6_plates_9 : decode cX6_plates 9 = .ok (.invokevirtual 65, 3) := by decide +kernel
theorem dX6_plates_12 : decode cX6_plates 12 = .ok (.ireturn, 1) := by decide +kernel
theorem dX6_plates_13 : decode cX6_plates 13 = .ok (.aload_n 0, 1) := by decide +kernel
theorem dX6_plates_14 : decode cX6_plates 14 = .ok (.getfield 43, 3) := by decide +kernel
theorem dX6_plates_17 : decode cX6_plates 17 = .ok (.iload_n 1, 1) := by decide +kernel
theorem dX6_plates_18 : decode cX6_plates 18 = .ok (.invokevirtual 195, 3) := by decide +kernel
theorem dX6_plates_21 : decode cX6_plates 21 = .ok (.ifCond .eq 9, 3) := by decide +kernel
theorem dX6_plates_24 : decode cX6_plates 24 = .ok (.aload_n 0, 1) := by decide +kernel
theorem dX6_plates_25 : decode cX6_plates 25 = .ok (.iconst 2, 1) := by decide +kernel
theorem dX6_plates_26 : decode cX6_plates 26 = .ok (.invokevirtual 65, 3) := by decide +kernel
theorem dX6_plates_29 : decode cX6_plates 29 = .ok (.ireturn, 1) := by decide +kernel
theorem dX6_plates_30 : decode cX6_plates 30 = .ok (.aload_n 0, 1) := by decide +kernel
theorem dX6_plates_31 : decode cX6_plates 31 = .ok (.getfield 43, 3) := by decide +kernel
theorem dX6_plates_34 : decode cX6_plates 34 = .ok (.iload_n 1, 1) := by decide +kernel
theorem dX6_plates_35 : decode cX6_plates 35 = .ok (.invokevirtual 225, 3) := by decide +kernel
theorem dX6_plates_38 : decode cX6_plates 38 = .ok (.aload_n 0, 1) := by decide +kernel
theorem dX6_plates_39 : decode cX6_plates 39 = .ok (.getfield 10, 3) := by decide +kernel
theorem dX6_plates_42 : decode cX6_plates 42 = .ok (.getfield 59, 3) := by decide +kernel
theorem dX6_plates_45 : decode cX6_plates 45 = .ok (.invokestatic 242, 3) := by decide +kernel
theorem dX6_plates_48 : decode cX6_plates 48 = .ok (.istore_n 2, 1) := by decide +kernel
theorem dX6_plates_49 : decode cX6_plates 49 = .ok (.iconst 0, 1) := by decide +kernel
theorem dX6_plates_50 : decode cX6_plates 50 = .ok (.istore_n 3, 1) := by decide +kernel
theorem dX6_plates_51 : decode cX6_plates 51 = .ok (.iload_n 3, 1) := by decide +kernel
theorem dX6_plates_52 : decode cX6_plates 52 = .ok (.iload_n 2, 1) := by decide +kernel
theorem dX6_plates_53 : decode cX6_plates 53 = .ok (.if_icmp .ge 40, 3) := by decide +kernel
theorem dX6_plates_56 : decode cX6_plates 56 = .ok (.aload_n 0, 1) := by decide +kernel
theorem dX6_plates_57 : decode cX6_plates 57 = .ok (.getfield 43, 3) := by decide +kernel
theorem dX6_plates_60 : decode cX6_plates 60 = .ok (.iload_n 1, 1) := by decide +kernel
theorem dX6_plates_61 : decode cX6_plates 61 = .ok (.iload_n 3, 1) := by decide +kernel
theorem dX6_plates_62 : decode cX6_plates 62 = .ok (.invokevirtual 247, 3) := by decide +kernel
theorem dX6_plates_65 : decode cX6_plates 65 = .ok (.istore 4, 2) := by decide +kernel
theorem dX6_plates_67 : decode cX6_plates 67 = .ok (.iload 4, 2) := by decide +kernel
theorem dX6_plates_69 : decode cX6_plates 69 = .ok (.invokestatic 62, 3) := by decide +kernel
theorem dX6_plates_72 : decode cX6_plates 72 = .ok (.ifCond .ne 5, 3) := by decide +kernel
theorem dX6_plates_75 : decode cX6_plates 75 = .ok (.iload_n 3, 1) := by decide +kernel
theorem dX6_plates_76 : decode cX6_plates 76 = .ok (.ireturn, 1) := by decide +kernel
theorem dX6_plates_77 : decode cX6_plates 77 = .ok (.aload_n 0, 1) := by decide +kernel
theorem dX6_plates_78 : decode cX6_plates 78 = .ok (.getfield 10, 3) := by decide +kernel
theorem dX6_plates_81 : decode cX6_plates 81 = .ok (.iload_n 3, 1) := by decide +kernel
theorem dX6_plates_82 : decode cX6_plates 82 = .ok (.iload 4, 2) := by decide +kernel
theorem dX6_plates_84 : decode cX6_plates 84 = .ok (.invokevirtual 250, 3) := by decide +kernel
theorem dX6_plates_87 : decode cX6_plates 87 = .ok (.iinc 3 1, 3) := by decide +kernel
theorem dX6_plates_90 : decode cX6_plates 90 = .ok (.goto (-39), 3) := by decide +kernel
theorem dX6_plates_93 : decode cX6_plates 93 = .ok (.iload_n 2, 1) := by decide +kernel
theorem dX6_plates_94 : decode cX6_plates 94 = .ok (.ireturn, 1) := by decide +kernel
theorem dX6_judge_0 : decode cX6_judge 0 = .ok (.iload_n 1, 1) := by decide +kernel
theorem dX6_judge_1 : decode cX6_judge 1 = .ok (.invokestatic 192, 3) := by decide +kernel
theorem dX6_judge_4 : decode cX6_judge 4 = .ok (.ifCond .ne 9, 3) := by decide +kernel
theorem dX6_judge_7 : decode cX6_judge 7 = .ok (.aload_n 0, 1) := by decide +kernel
theorem dX6_judge_8 : decode cX6_judge 8 = .ok (.iconst 1, 1) := by decide +kernel
theorem dX6_judge_9 : decode cX6_judge 9 = .ok (.invokevirtual 65, 3) := by decide +kernel
theorem dX6_judge_12 : decode cX6_judge 12 = .ok (.ireturn, 1) := by decide +kernel
theorem dX6_judge_13 : decode cX6_judge 13 = .ok (.aload_n 0, 1) := by decide +kernel
theorem dX6_judge_14 : decode cX6_judge 14 = .ok (.getfield 43, 3) := by decide +kernel
theorem dX6_judge_17 : decode cX6_judge 17 = .ok (.iload_n 1, 1) := by decide +kernel
theorem dX6_judge_18 : decode cX6_judge 18 = .ok (.invokevirtual 195, 3) := by decide +kernel
theorem dX6_judge_21 : decode cX6_judge 21 = .ok (.ifCond .eq 9, 3) := by decide +kernel
theorem dX6_judge_24 : decode cX6_judge 24 = .ok (.aload_n 0, 1) := by decide +kernel
theorem dX6_judge_25 : decode cX6_judge 25 = .ok (.iconst 2, 1) := by decide +kernel
theorem dX6_judge_26 : decode cX6_judge 26 = .ok (.invokevirtual 65, 3) := by decide +kernel
theorem dX6_judge_29 : decode cX6_judge 29 = .ok (.ireturn, 1) := by decide +kernel
theorem dX6_judge_30 : decode cX6_judge 30 = .ok (.aload_n 0, 1) := by decide +kernel
theorem dX6_judge_31 : decode cX6_judge 31 = .ok (.getfield 43, 3) := by decide +kernel
theorem dX6_judge_34 : decode cX6_judge 34 = .ok (.iload_n 1, 1) := by decide +kernel
theorem dX6_judge_35 : decode cX6_judge 35 = .ok (.invokevirtual 225, 3) := by decide +kernel
theorem dX6_judge_38 : decode cX6_judge 38 = .ok (.aload_n 0, 1) := by decide +kernel
theorem dX6_judge_39 : decode cX6_judge 39 = .ok (.getfield 10, 3) := by decide +kernel
theorem dX6_judge_42 : decode cX6_judge 42 = .ok (.getfield 59, 3) := by decide +kernel
theorem dX6_judge_45 : decode cX6_judge 45 = .ok (.invokestatic 242, 3) := by decide +kernel
theorem dX6_judge_48 : decode cX6_judge 48 = .ok (.istore_n 2, 1) := by decide +kernel
theorem dX6_judge_49 : decode cX6_judge 49 = .ok (.iconst 0, 1) := by decide +kernel
theorem dX6_judge_50 : decode cX6_judge 50 = .ok (.istore_n 3, 1) := by decide +kernel
theorem dX6_judge_51 : decode cX6_judge 51 = .ok (.iconst 0, 1) := by decide +kernel
theorem dX6_judge_52 : decode cX6_judge 52 = .ok (.istore 4, 2) := by decide +kernel
theorem dX6_judge_54 : decode cX6_judge 54 = .ok (.iload 4, 2) := by decide +kernel
theorem dX6_judge_56 : decode cX6_judge 56 = .ok (.iload_n 2, 1) := by decide +kernel
theorem dX6_judge_57 : decode cX6_judge 57 = .ok (.if_icmp .ge 38, 3) := by decide +kernel
theorem dX6_judge_60 : decode cX6_judge 60 = .ok (.aload_n 0, 1) := by decide +kernel
theorem dX6_judge_61 : decode cX6_judge 61 = .ok (.getfield 43, 3) := by decide +kernel
theorem dX6_judge_64 : decode cX6_judge 64 = .ok (.iload_n 1, 1) := by decide +kernel
theorem dX6_judge_65 : decode cX6_judge 65 = .ok (.iload 4, 2) := by decide +kernel
theorem dX6_judge_67 : decode cX6_judge 67 = .ok (.invokevirtual 247, 3) := by decide +kernel
theorem dX6_judge_70 : decode cX6_judge 70 = .ok (.iload_n 3, 1) := by decide +kernel
theorem dX6_judge_71 : decode cX6_judge 71 = .ok (.if_icmp .eq 6, 3) := by decide +kernel
theorem dX6_judge_74 : decode cX6_judge 74 = .ok (.iload 4, 2) := by decide +kernel
theorem dX6_judge_76 : decode cX6_judge 76 = .ok (.ireturn, 1) := by decide +kernel
theorem dX6_judge_77 : decode cX6_judge 77 = .ok (.iload_n 3, 1) := by decide +kernel
theorem dX6_judge_78 : decode cX6_judge 78 = .ok (.aload_n 0, 1) := by decide +kernel
theorem dX6_judge_79 : decode cX6_judge 79 = .ok (.getfield 10, 3) := by decide +kernel
theorem dX6_judge_82 : decode cX6_judge 82 = .ok (.iload 4, 2) := by decide +kernel
theorem dX6_judge_84 : decode cX6_judge 84 = .ok (.invokevirtual 88, 3) := by decide +kernel
theorem dX6_judge_87 : decode cX6_judge 87 = .ok (.iadd, 1) := by decide +kernel
theorem dX6_judge_88 : decode cX6_judge 88 = .ok (.istore_n 3, 1) := by decide +kernel
theorem dX6_judge_89 : decode cX6_judge 89 = .ok (.iinc 4 1, 3) := by decide +kernel
theorem dX6_judge_92 : decode cX6_judge 92 = .ok (.goto (-38), 3) := by decide +kernel
theorem dX6_judge_95 : decode cX6_judge 95 = .ok (.iload_n 2, 1) := by decide +kernel
theorem dX6_judge_96 : decode cX6_judge 96 = .ok (.ireturn, 1) := by decide +kernel
theorem dX6_image_0 : decode cX6_image 0 = .ok (.aload_n 0, 1) := by decide +kernel
theorem dX6_image_1 : decode cX6_image 1 = .ok (.getfield 16, 3) := by decide +kernel
theorem dX6_image_4 : decode cX6_image 4 = .ok (.aload_n 0, 1) := by decide +kernel
theorem dX6_image_5 : decode cX6_image 5 = .ok (.getfield 10, 3) := by decide +kernel
theorem dX6_image_8 : decode cX6_image 8 = .ok (.invokevirtual 254, 3) := by decide +kernel
theorem dX6_image_11 : decode cX6_image 11 = .ok (.aload_n 0, 1) := by decide +kernel
theorem dX6_image_12 : decode cX6_image 12 = .ok (.dup, 1) := by decide +kernel
theorem dX6_image_13 : decode cX6_image 13 = .ok (.getfield 51, 3) := by decide +kernel
theorem dX6_image_16 : decode cX6_image 16 = .ok (.iconst 1, 1) := by decide +kernel
theorem dX6_image_17 : decode cX6_image 17 = .ok (.iadd, 1) := by decide +kernel
theorem dX6_image_18 : decode cX6_image 18 = .ok (.putfield 51, 3) := by decide +kernel
theorem dX6_image_21 : decode cX6_image 21 = .ok (.aload_n 0, 1) := by decide +kernel
theorem dX6_image_22 : decode cX6_image 22 = .ok (.getfield 51, 3) := by decide +kernel
theorem dX6_image_25 : decode cX6_image 25 = .ok (.ireturn, 1) := by decide +kernel
theorem dX6_restore_0 : decode cX6_restore 0 = .ok (.aload_n 0, 1) := by decide +kernel
theorem dX6_restore_1 : decode cX6_restore 1 = .ok (.getfield 51, 3) := by decide +kernel
theorem dX6_restore_4 : decode cX6_restore 4 = .ok (.ifCond .ne 9, 3) := by decide +kernel
theorem dX6_restore_7 : decode cX6_restore 7 = .ok (.aload_n 0, 1) := by decide +kernel
theorem dX6_restore_8 : decode cX6_restore 8 = .ok (.iconst 2, 1) := by decide +kernel
theorem dX6_restore_9 : decode cX6_restore 9 = .ok (.invokevirtual 65, 3) := by decide +kernel
theorem dX6_restore_12 : decode cX6_restore 12 = .ok (.ireturn, 1) := by decide +kernel
theorem dX6_restore_13 : decode cX6_restore 13 = .ok (.aload_n 0, 1) := by decide +kernel
theorem dX6_restore_14 : decode cX6_restore 14 = .ok (.getfield 10, 3) := by decide +kernel
theorem dX6_restore_17 : decode cX6_restore 17 = .ok (.aload_n 0, 1) := by decide +kernel
theorem dX6_restore_18 : decode cX6_restore 18 = .ok (.getfield 16, 3) := by decide +kernel
theorem dX6_restore_21 : decode cX6_restore 21 = .ok (.invokevirtual 254, 3) := by decide +kernel
theorem dX6_restore_24 : decode cX6_restore 24 = .ok (.aload_n 0, 1) := by decide +kernel
theorem dX6_restore_25 : decode cX6_restore 25 = .ok (.getfield 10, 3) := by decide +kernel
theorem dX6_restore_28 : decode cX6_restore 28 = .ok (.getfield 112, 3) := by decide +kernel
theorem dX6_restore_31 : decode cX6_restore 31 = .ok (.ireturn, 1) := by decide +kernel
theorem dX6_tell_0 : decode cX6_tell 0 = .ok (.aload_n 0, 1) := by decide +kernel
theorem dX6_tell_1 : decode cX6_tell 1 = .ok (.getfield 10, 3) := by decide +kernel
theorem dX6_tell_4 : decode cX6_tell 4 = .ok (.getfield 258, 3) := by decide +kernel
theorem dX6_tell_7 : decode cX6_tell 7 = .ok (.bipush 24, 2) := by decide +kernel
theorem dX6_tell_9 : decode cX6_tell 9 = .ok (.if_icmp .lt 11, 3) := by decide +kernel
theorem dX6_tell_12 : decode cX6_tell 12 = .ok (.aload_n 0, 1) := by decide +kernel
theorem dX6_tell_13 : decode cX6_tell 13 = .ok (.iconst 4, 1) := by decide +kernel
theorem dX6_tell_14 : decode cX6_tell 14 = .ok (.invokevirtual 65, 3) := by decide +kernel
theorem dX6_tell_17 : decode cX6_tell 17 = .ok (.goto 11, 3) := by decide +kernel
theorem dX6_tell_20 : decode cX6_tell 20 = .ok (.aload_n 0, 1) := by decide +kernel
theorem dX6_tell_21 : decode cX6_tell 21 = .ok (.getfield 10, 3) := by decide +kernel
theorem dX6_tell_24 : decode cX6_tell 24 = .ok (.iload_n 1, 1) := by decide +kernel
theorem dX6_tell_25 : decode cX6_tell 25 = .ok (.invokevirtual 261, 3) := by decide +kernel
theorem dX6_tell_28 : decode cX6_tell 28 = .ok (.ireturn, 1) := by decide +kernel
theorem dX6_check_0 : decode cX6_check 0 = .ok (.aload_n 0, 1) := by decide +kernel
theorem dX6_check_1 : decode cX6_check 1 = .ok (.getfield 10, 3) := by decide +kernel
theorem dX6_check_4 : decode cX6_check 4 = .ok (.getfield 258, 3) := by decide +kernel
theorem dX6_check_7 : decode cX6_check 7 = .ok (.istore_n 1, 1) := by decide +kernel
theorem dX6_check_8 : decode cX6_check 8 = .ok (.aload_n 0, 1) := by decide +kernel
theorem dX6_check_9 : decode cX6_check 9 = .ok (.getfield 10, 3) := by decide +kernel
theorem dX6_check_12 : decode cX6_check 12 = .ok (.iconst 0, 1) := by decide +kernel
theorem dX6_check_13 : decode cX6_check 13 = .ok (.putfield 258, 3) := by decide +kernel
theorem dX6_check_16 : decode cX6_check 16 = .ok (.iconst 0, 1) := by decide +kernel
theorem dX6_check_17 : decode cX6_check 17 = .ok (.istore_n 2, 1) := by decide +kernel
theorem dX6_check_18 : decode cX6_check 18 = .ok (.iload_n 2, 1) := by decide +kernel
theorem dX6_check_19 : decode cX6_check 19 = .ok (.iload_n 1, 1) := by decide +kernel
theorem dX6_check_20 : decode cX6_check 20 = .ok (.if_icmp .ge 43, 3) := by decide +kernel
theorem dX6_check_23 : decode cX6_check 23 = .ok (.aload_n 0, 1) := by decide +kernel
theorem dX6_check_24 : decode cX6_check 24 = .ok (.getfield 10, 3) := by decide +kernel
theorem dX6_check_27 : decode cX6_check 27 = .ok (.iload_n 2, 1) := by decide +kernel
theorem dX6_check_28 : decode cX6_check 28 = .ok (.invokevirtual 73, 3) := by decide +kernel
theorem dX6_check_31 : decode cX6_check 31 = .ok (.ifCond .eq 22, 3) := by decide +kernel
theorem dX6_check_34 : decode cX6_check 34 = .ok (.aload_n 0, 1) := by decide +kernel
theorem dX6_check_35 : decode cX6_check 35 = .ok (.getfield 10, 3) := by decide +kernel
theorem dX6_check_38 : decode cX6_check 38 = .ok (.iload_n 2, 1) := by decide +kernel
theorem dX6_check_39 : decode cX6_check 39 = .ok (.invokevirtual 264, 3) := by decide +kernel
theorem dX6_check_42 : decode cX6_check 42 = .ok (.aload_n 0, 1) := by decide +kernel
theorem dX6_check_43 : decode cX6_check 43 = .ok (.getfield 10, 3) := by decide +kernel
theorem dX6_check_46 : decode cX6_check 46 = .ok (.iload_n 2, 1) := by decide +kernel
theorem dX6_check_47 : decode cX6_check 47 = .ok (.invokevirtual 82, 3) := by decide +kernel
theorem dX6_check_50 : decode cX6_check 50 = .ok (.if_icmp .eq 7, 3) := by decide +kernel
theorem dX6_check_53 : decode cX6_check 53 = .ok (.iconst 1, 1) := by decide +kernel
theorem dX6_check_54 : decode cX6_check 54 = .ok (.iload_n 2, 1) := by decide +kernel
theorem dX6_check_55 : decode cX6_check 55 = .ok (.iadd, 1) := by decide +kernel
theorem dX6_check_56 : decode cX6_check 56 = .ok (.ireturn, 1) := by decide +kernel
theorem dX6_check_57 : decode cX6_check 57 = .ok (.iinc 2 1, 3) := by decide +kernel
theorem dX6_check_60 : decode cX6_check 60 = .ok (.goto (-42), 3) := by decide +kernel
theorem dX6_check_63 : decode cX6_check 63 = .ok (.iconst 0, 1) := by decide +kernel
theorem dX6_check_64 : decode cX6_check 64 = .ok (.ireturn, 1) := by decide +kernel
theorem dX6_count_0 : decode cX6_count 0 = .ok (.iload_n 1, 1) := by decide +kernel
theorem dX6_count_1 : decode cX6_count 1 = .ok (.tableswitch 102 0 6 #[43, 51, 59, 67, 78, 86, 94], 43) := by decide +kernel
theorem dX6_count_44 : decode cX6_count 44 = .ok (.aload_n 0, 1) := by decide +kernel
theorem dX6_count_45 : decode cX6_count 45 = .ok (.getfield 10, 3) := by decide +kernel
theorem dX6_count_48 : decode cX6_count 48 = .ok (.getfield 59, 3) := by decide +kernel
theorem dX6_count_51 : decode cX6_count 51 = .ok (.ireturn, 1) := by decide +kernel
theorem dX6_count_52 : decode cX6_count 52 = .ok (.aload_n 0, 1) := by decide +kernel
theorem dX6_count_53 : decode cX6_count 53 = .ok (.getfield 10, 3) := by decide +kernel
theorem dX6_count_56 : decode cX6_count 56 = .ok (.getfield 112, 3) := by decide +kernel
theorem dX6_count_59 : decode cX6_count 59 = .ok (.ireturn, 1) := by decide +kernel
theorem dX6_count_60 : decode cX6_count 60 = .ok (.aload_n 0, 1) := by decide +kernel
theorem dX6_count_61 : decode cX6_count 61 = .ok (.getfield 10, 3) := by decide +kernel
theorem dX6_count_64 : decode cX6_count 64 = .ok (.getfield 267, 3) := by decide +kernel
theorem dX6_count_67 : decode cX6_count 67 = .ok (.ireturn, 1) := by decide +kernel
theorem dX6_count_68 : decode cX6_count 68 = .ok (.aload_n 0, 1) := by decide +kernel
theorem dX6_count_69 : decode cX6_count 69 = .ok (.getfield 10, 3) := by decide +kernel
theorem dX6_count_72 : decode cX6_count 72 = .ok (.getfield 115, 3) := by decide +kernel
theorem dX6_count_75 : decode cX6_count 75 = .ok (.getfield 119, 3) := by decide +kernel
theorem dX6_count_78 : decode cX6_count 78 = .ok (.ireturn, 1) := by decide +kernel
theorem dX6_count_79 : decode cX6_count 79 = .ok (.aload_n 0, 1) := by decide +kernel
theorem dX6_count_80 : decode cX6_count 80 = .ok (.getfield 10, 3) := by decide +kernel
theorem dX6_count_83 : decode cX6_count 83 = .ok (.getfield 258, 3) := by decide +kernel
theorem dX6_count_86 : decode cX6_count 86 = .ok (.ireturn, 1) := by decide +kernel
theorem dX6_count_87 : decode cX6_count 87 = .ok (.aload_n 0, 1) := by decide +kernel
theorem dX6_count_88 : decode cX6_count 88 = .ok (.getfield 36, 3) := by decide +kernel
theorem dX6_count_91 : decode cX6_count 91 = .ok (.getfield 216, 3) := by decide +kernel
theorem dX6_count_94 : decode cX6_count 94 = .ok (.ireturn, 1) := by decide +kernel
theorem dX6_count_95 : decode cX6_count 95 = .ok (.aload_n 0, 1) := by decide +kernel
theorem dX6_count_96 : decode cX6_count 96 = .ok (.getfield 10, 3) := by decide +kernel
theorem dX6_count_99 : decode cX6_count 99 = .ok (.getfield 205, 3) := by decide +kernel
theorem dX6_count_102 : decode cX6_count 102 = .ok (.ireturn, 1) := by decide +kernel
theorem dX6_count_103 : decode cX6_count 103 = .ok (.aload_n 0, 1) := by decide +kernel
theorem dX6_count_104 : decode cX6_count 104 = .ok (.iconst 1, 1) := by decide +kernel
theorem dX6_count_105 : decode cX6_count 105 = .ok (.invokevirtual 65, 3) := by decide +kernel
theorem dX6_count_108 : decode cX6_count 108 = .ok (.ireturn, 1) := by decide +kernel
theorem dX6_told_0 : decode cX6_told 0 = .ok (.iload_n 1, 1) := by decide +kernel
theorem dX6_told_1 : decode cX6_told 1 = .ok (.iconst 1, 1) := by decide +kernel
theorem dX6_told_2 : decode cX6_told 2 = .ok (.if_icmp .lt 18, 3) := by decide +kernel
theorem dX6_told_5 : decode cX6_told 5 = .ok (.iload_n 1, 1) := by decide +kernel
theorem dX6_told_6 : decode cX6_told 6 = .ok (.bipush 6, 2) := by decide +kernel
theorem dX6_told_8 : decode cX6_told 8 = .ok (.if_icmp .gt 12, 3) := by decide +kernel
theorem dX6_told_11 : decode cX6_told 11 = .ok (.iload_n 1, 1) := by decide +kernel
theorem dX6_told_12 : decode cX6_told 12 = .ok (.aload_n 0, 1) := by decide +kernel
theorem dX6_told_13 : decode cX6_told 13 = .ok (.getfield 47, 3) := by decide +kernel
theorem dX6_told_16 : decode cX6_told 16 = .ok (.arraylength, 1) := by decide +kernel
theorem dX6_told_17 : decode cX6_told 17 = .ok (.if_icmp .lt 9, 3) := by decide +kernel
theorem dX6_told_20 : decode cX6_told 20 = .ok (.aload_n 0, 1) := by decide +kernel
theorem dX6_told_21 : decode cX6_told 21 = .ok (.iconst 1, 1) := by decide +kernel
theorem dX6_told_22 : decode cX6_told 22 = .ok (.invokevirtual 65, 3) := by decide +kernel
theorem dX6_told_25 : decode cX6_told 25 = .ok (.ireturn, 1) := by decide +kernel
theorem dX6_told_26 : decode cX6_told 26 = .ok (.aload_n 0, 1) := by decide +kernel
theorem dX6_told_27 : decode cX6_told 27 = .ok (.getfield 47, 3) := by decide +kernel
theorem dX6_told_30 : decode cX6_told 30 = .ok (.iload_n 1, 1) := by decide +kernel
theorem dX6_told_31 : decode cX6_told 31 = .ok (.iaload, 1) := by decide +kernel
theorem dX6_told_32 : decode cX6_told 32 = .ok (.ireturn, 1) := by decide +kernel
theorem dX6_failing_0 : decode cX6_failing 0 = .ok (.iload_n 1, 1) := by decide +kernel
theorem dX6_failing_1 : decode cX6_failing 1 = .ok (.ifCond .lt 22, 3) := by decide +kernel
theorem dX6_failing_4 : decode cX6_failing 4 = .ok (.iload_n 1, 1) := by decide +kernel
theorem dX6_failing_5 : decode cX6_failing 5 = .ok (.aload_n 0, 1) := by decide +kernel
theorem dX6_failing_6 : decode cX6_failing 6 = .ok (.getfield 47, 3) := by decide +kernel
theorem dX6_failing_9 : decode cX6_failing 9 = .ok (.arraylength, 1) := by decide +kernel
theorem dX6_failing_10 : decode cX6_failing 10 = .ok (.if_icmp .ge 13, 3) := by decide +kernel
theorem dX6_failing_13 : decode cX6_failing 13 = .ok (.aload_n 0, 1) := by decide +kernel
theorem dX6_failing_14 : decode cX6_failing 14 = .ok (.getfield 47, 3) := by decide +kernel
theorem dX6_failing_17 : decode cX6_failing 17 = .ok (.iload_n 1, 1) := by decide +kernel
theorem dX6_failing_18 : decode cX6_failing 18 = .ok (.dup2, 1) := by decide +kernel
theorem dX6_failing_19 : decode cX6_failing 19 = .ok (.iaload, 1) := by decide +kernel
theorem dX6_failing_20 : decode cX6_failing 20 = .ok (.iconst 1, 1) := by decide +kernel
theorem dX6_failing_21 : decode cX6_failing 21 = .ok (.iadd, 1) := by decide +kernel
theorem dX6_failing_22 : decode cX6_failing 22 = .ok (.iastore, 1) := by decide +kernel
theorem dX6_failing_23 : decode cX6_failing 23 = .ok (.ldc_w 270, 3) := by decide +kernel
theorem dX6_failing_26 : decode cX6_failing 26 = .ok (.iload_n 1, 1) := by decide +kernel
theorem dX6_failing_27 : decode cX6_failing 27 = .ok (.isub, 1) := by decide +kernel
theorem dX6_failing_28 : decode cX6_failing 28 = .ok (.ireturn, 1) := by decide +kernel
theorem dX6_tellsHarmOfGap_0 : decode cX6_tellsHarmOfGap 0 = .ok (.aload_n 0, 1) := by decide +kernel
theorem dX6_tellsHarmOfGap_1 : decode cX6_tellsHarmOfGap 1 = .ok (.getfield 43, 3) := by decide +kernel
theorem dX6_tellsHarmOfGap_4 : decode cX6_tellsHarmOfGap 4 = .ok (.iload_n 1, 1) := by decide +kernel
theorem dX6_tellsHarmOfGap_5 : decode cX6_tellsHarmOfGap 5 = .ok (.invokevirtual 225, 3) := by decide +kernel
theorem dX6_tellsHarmOfGap_8 : decode cX6_tellsHarmOfGap 8 = .ok (.istore_n 3, 1) := by decide +kernel
theorem dX6_tellsHarmOfGap_9 : decode cX6_tellsHarmOfGap 9 = .ok (.iload_n 3, 1) := by decide +kernel
theorem dX6_tellsHarmOfGap_10 : decode cX6_tellsHarmOfGap 10 = .ok (.aload_n 0, 1) := by decide +kernel
theorem dX6_tellsHarmOfGap_11 : decode cX6_tellsHarmOfGap 11 = .ok (.getfield 10, 3) := by decide +kernel
theorem dX6_tellsHarmOfGap_14 : decode cX6_tellsHarmOfGap 14 = .ok (.getfield 59, 3) := by decide +kernel
theorem dX6_tellsHarmOfGap_17 : decode cX6_tellsHarmOfGap 17 = .ok (.if_icmp .le 5, 3) := by decide +kernel
theorem dX6_tellsHarmOfGap_20 : decode cX6_tellsHarmOfGap 20 = .ok (.iconst 0, 1) := by decide +kernel
theorem dX6_tellsHarmOfGap_21 : decode cX6_tellsHarmOfGap 21 = .ok (.ireturn, 1) := by decide +kernel
theorem dX6_tellsHarmOfGap_22 : decode cX6_tellsHarmOfGap 22 = .ok (.iconst 0, 1) := by decide +kernel
theorem dX6_tellsHarmOfGap_23 : decode cX6_tellsHarmOfGap 23 = .ok (.istore 4, 2) := by decide +kernel
theorem dX6_tellsHarmOfGap_25 : decode cX6_tellsHarmOfGap 25 = .ok (.iload 4, 2) := by decide +kernel
theorem dX6_tellsHarmOfGap_27 : decode cX6_tellsHarmOfGap 27 = .ok (.iload_n 3, 1) := by decide +kernel
theorem dX6_tellsHarmOfGap_28 : decode cX6_tellsHarmOfGap 28 = .ok (.if_icmp .ge 50, 3) := by decide +kernel
theorem dX6_tellsHarmOfGap_31 : decode cX6_tellsHarmOfGap 31 = .ok (.aload_n 0, 1) := by decide +kernel
theorem dX6_tellsHarmOfGap_32 : decode cX6_tellsHarmOfGap 32 = .ok (.getfield 10, 3) := by decide +kernel
theorem dX6_tellsHarmOfGap_35 : decode cX6_tellsHarmOfGap 35 = .ok (.aload_n 0, 1) := by decide +kernel
theorem dX6_tellsHarmOfGap_36 : decode cX6_tellsHarmOfGap 36 = .ok (.getfield 10, 3) := by decide +kernel
theorem dX6_tellsHarmOfGap_39 : decode cX6_tellsHarmOfGap 39 = .ok (.iload 4, 2) := by decide +kernel
theorem dX6_tellsHarmOfGap_41 : decode cX6_tellsHarmOfGap 41 = .ok (.invokevirtual 94, 3) := by decide +kernel
theorem dX6_tellsHarmOfGap_44 : decode cX6_tellsHarmOfGap 44 = .ok (.iload_n 2, 1) := by decide +kernel
theorem dX6_tellsHarmOfGap_45 : decode cX6_tellsHarmOfGap 45 = .ok (.iload 4, 2) := by decide +kernel
theorem dX6_tellsHarmOfGap_47 : decode cX6_tellsHarmOfGap 47 = .ok (.iconst 1, 1) := by decide +kernel
theorem dX6_tellsHarmOfGap_48 : decode cX6_tellsHarmOfGap 48 = .ok (.iadd, 1) := by decide +kernel
theorem dX6_tellsHarmOfGap_49 : decode cX6_tellsHarmOfGap 49 = .ok (.imul, 1) := by decide +kernel
theorem dX6_tellsHarmOfGap_50 : decode cX6_tellsHarmOfGap 50 = .ok (.invokevirtual 105, 3) := by decide +kernel
theorem dX6_tellsHarmOfGap_53 : decode cX6_tellsHarmOfGap 53 = .ok (.istore 5, 2) := by decide +kernel
theorem dX6_tellsHarmOfGap_55 : decode cX6_tellsHarmOfGap 55 = .ok (.aload_n 0, 1) := by decide +kernel
theorem dX6_tellsHarmOfGap_56 : decode cX6_tellsHarmOfGap 56 = .ok (.getfield 43, 3) := by decide +kernel
theorem dX6_tellsHarmOfGap_59 : decode cX6_tellsHarmOfGap 59 = .ok (.iload_n 1, 1) := by decide +kernel
theorem dX6_tellsHarmOfGap_60 : decode cX6_tellsHarmOfGap 60 = .ok (.iload 4, 2) := by decide +kernel
theorem dX6_tellsHarmOfGap_62 : decode cX6_tellsHarmOfGap 62 = .ok (.invokevirtual 247, 3) := by decide +kernel
theorem dX6_tellsHarmOfGap_65 : decode cX6_tellsHarmOfGap 65 = .ok (.iload 5, 2) := by decide +kernel
theorem dX6_tellsHarmOfGap_67 : decode cX6_tellsHarmOfGap 67 = .ok (.if_icmp .eq 5, 3) := by decide +kernel
theorem dX6_tellsHarmOfGap_70 : decode cX6_tellsHarmOfGap 70 = .ok (.iconst 0, 1) := by decide +kernel
theorem dX6_tellsHarmOfGap_71 : decode cX6_tellsHarmOfGap 71 = .ok (.ireturn, 1) := by decide +kernel
theorem dX6_tellsHarmOfGap_72 : decode cX6_tellsHarmOfGap 72 = .ok (.iinc 4 1, 3) := by decide +kernel
theorem dX6_tellsHarmOfGap_75 : decode cX6_tellsHarmOfGap 75 = .ok (.goto (-50), 3) := by decide +kernel
theorem dX6_tellsHarmOfGap_78 : decode cX6_tellsHarmOfGap 78 = .ok (.iconst 1, 1) := by decide +kernel
theorem dX6_tellsHarmOfGap_79 : decode cX6_tellsHarmOfGap 79 = .ok (.ireturn, 1) := by decide +kernel
theorem dX6_isKindWithM_0 : decode cX6_isKindWithM 0 = .ok (.iload_n 0, 1) := by decide +kernel
theorem dX6_isKindWithM_1 : decode cX6_isKindWithM 1 = .ok (.ifCond .lt 13, 3) := by decide +kernel
theorem dX6_isKindWithM_4 : decode cX6_isKindWithM 4 = .ok (.iload_n 0, 1) := by decide +kernel
theorem dX6_isKindWithM_5 : decode cX6_isKindWithM 5 = .ok (.bipush 70, 2) := by decide +kernel
theorem dX6_isKindWithM_7 : decode cX6_isKindWithM 7 = .ok (.if_icmp .ge 7, 3) := by decide +kernel
theorem dX6_isKindWithM_10 : decode cX6_isKindWithM 10 = .ok (.iconst 1, 1) := by decide +kernel
theorem dX6_isKindWithM_11 : decode cX6_isKindWithM 11 = .ok (.goto 4, 3) := by decide +kernel
theorem dX6_isKindWithM_14 : decode cX6_isKindWithM 14 = .ok (.iconst 0, 1) := by decide +kernel
theorem dX6_isKindWithM_15 : decode cX6_isKindWithM 15 = .ok (.ireturn, 1) := by decide +kernel
theorem dX6_isPlate_0 : decode cX6_isPlate 0 = .ok (.iload_n 0, 1) := by decide +kernel
theorem dX6_isPlate_1 : decode cX6_isPlate 1 = .ok (.iconst 1, 1) := by decide +kernel
theorem dX6_isPlate_2 : decode cX6_isPlate 2 = .ok (.if_icmp .lt 14, 3) := by decide +kernel
theorem dX6_isPlate_5 : decode cX6_isPlate 5 = .ok (.iload_n 0, 1) := by decide +kernel
theorem dX6_isPlate_6 : decode cX6_isPlate 6 = .ok (.sipush 999, 3) := by decide +kernel
theorem dX6_isPlate_9 : decode cX6_isPlate 9 = .ok (.if_icmp .gt 7, 3) := by decide +kernel
theorem dX6_isPlate_12 : decode cX6_isPlate 12 = .ok (.iconst 1, 1) := by decide +kernel
theorem dX6_isPlate_13 : decode cX6_isPlate 13 = .ok (.goto 4, 3) := by decide +kernel
theorem dX6_isPlate_16 : decode cX6_isPlate 16 = .ok (.iconst 0, 1) := by decide +kernel
theorem dX6_isPlate_17 : decode cX6_isPlate 17 = .ok (.ireturn, 1) := by decide +kernel
theorem dX6_isUse_0 : decode cX6_isUse 0 = .ok (.iload_n 0, 1) := by decide +kernel
theorem dX6_isUse_1 : decode cX6_isUse 1 = .ok (.ifCond .lt 12, 3) := by decide +kernel
theorem dX6_isUse_4 : decode cX6_isUse 4 = .ok (.iload_n 0, 1) := by decide +kernel
theorem dX6_isUse_5 : decode cX6_isUse 5 = .ok (.iconst 2, 1) := by decide +kernel
theorem dX6_isUse_6 : decode cX6_isUse 6 = .ok (.if_icmp .ge 7, 3) := by decide +kernel
theorem dX6_isUse_9 : decode cX6_isUse 9 = .ok (.iconst 1, 1) := by decide +kernel
theorem dX6_isUse_10 : decode cX6_isUse 10 = .ok (.goto 4, 3) := by decide +kernel
theorem dX6_isUse_13 : decode cX6_isUse 13 = .ok (.iconst 0, 1) := by decide +kernel
theorem dX6_isUse_14 : decode cX6_isUse 14 = .ok (.ireturn, 1) := by decide +kernel
theorem dX6_isSheet_0 : decode cX6_isSheet 0 = .ok (.iload_n 0, 1) := by decide +kernel
theorem dX6_isSheet_1 : decode cX6_isSheet 1 = .ok (.ifCond .lt 12, 3) := by decide +kernel
theorem dX6_isSheet_4 : decode cX6_isSheet 4 = .ok (.iload_n 0, 1) := by decide +kernel
theorem dX6_isSheet_5 : decode cX6_isSheet 5 = .ok (.iconst 4, 1) := by decide +kernel
theorem dX6_isSheet_6 : decode cX6_isSheet 6 = .ok (.if_icmp .ge 7, 3) := by decide +kernel
theorem dX6_isSheet_9 : decode cX6_isSheet 9 = .ok (.iconst 1, 1) := by decide +kernel
theorem dX6_isSheet_10 : decode cX6_isSheet 10 = .ok (.goto 4, 3) := by decide +kernel
theorem dX6_isSheet_13 : decode cX6_isSheet 13 = .ok (.iconst 0, 1) := by decide +kernel
theorem dX6_isSheet_14 : decode cX6_isSheet 14 = .ok (.ireturn, 1) := by decide +kernel
theorem dX6_isOrIsUnder_0 : decode cX6_isOrIsUnder 0 = .ok (.iload_n 0, 1) := by decide +kernel
theorem dX6_isOrIsUnder_1 : decode cX6_isOrIsUnder 1 = .ok (.istore_n 2, 1) := by decide +kernel
theorem dX6_isOrIsUnder_2 : decode cX6_isOrIsUnder 2 = .ok (.iconst 0, 1) := by decide +kernel
theorem dX6_isOrIsUnder_3 : decode cX6_isOrIsUnder 3 = .ok (.istore_n 3, 1) := by decide +kernel
theorem dX6_isOrIsUnder_4 : decode cX6_isOrIsUnder 4 = .ok (.iload_n 3, 1) := by decide +kernel
theorem dX6_isOrIsUnder_5 : decode cX6_isOrIsUnder 5 = .ok (.bipush 7, 2) := by decide +kernel
theorem dX6_isOrIsUnder_7 : decode cX6_isOrIsUnder 7 = .ok (.if_icmp .ge 25, 3) := by decide +kernel
theorem dX6_isOrIsUnder_10 : decode cX6_isOrIsUnder 10 = .ok (.iload_n 2, 1) := by decide +kernel
theorem dX6_isOrIsUnder_11 : decode cX6_isOrIsUnder 11 = .ok (.ifCond .lt 21, 3) := by decide +kernel
theorem dX6_isOrIsUnder_14 : decode cX6_isOrIsUnder 14 = .ok (.iload_n 2, 1) := by decide +kernel
theorem dX6_isOrIsUnder_15 : decode cX6_isOrIsUnder 15 = .ok (.iload_n 1, 1) := by decide +kernel
theorem dX6_isOrIsUnder_16 : decode cX6_isOrIsUnder 16 = .ok (.if_icmp .ne 5, 3) := by decide +kernel
theorem dX6_isOrIsUnder_19 : decode cX6_isOrIsUnder 19 = .ok (.iconst 1, 1) := by decide +kernel
theorem dX6_isOrIsUnder_20 : decode cX6_isOrIsUnder 20 = .ok (.ireturn, 1) := by decide +kernel
theorem dX6_isOrIsUnder_21 : decode cX6_isOrIsUnder 21 = .ok (.iload_n 2, 1) := by decide +kernel
theorem dX6_isOrIsUnder_22 : decode cX6_isOrIsUnder 22 = .ok (.invokestatic 271, 3) := by decide +kernel
theorem dX6_isOrIsUnder_25 : decode cX6_isOrIsUnder 25 = .ok (.istore_n 2, 1) := by decide +kernel
theorem dX6_isOrIsUnder_26 : decode cX6_isOrIsUnder 26 = .ok (.iinc 3 1, 3) := by decide +kernel
theorem dX6_isOrIsUnder_29 : decode cX6_isOrIsUnder 29 = .ok (.goto (-25), 3) := by decide +kernel
theorem dX6_isOrIsUnder_32 : decode cX6_isOrIsUnder 32 = .ok (.iconst 0, 1) := by decide +kernel
theorem dX6_isOrIsUnder_33 : decode cX6_isOrIsUnder 33 = .ok (.ireturn, 1) := by decide +kernel
theorem dX6_kindAbove_0 : decode cX6_kindAbove 0 = .ok (.iload_n 0, 1) := by decide +kernel
theorem dX6_kindAbove_1 : decode cX6_kindAbove 1 = .ok (.ifCond .lt 19, 3) := by decide +kernel
theorem dX6_kindAbove_4 : decode cX6_kindAbove 4 = .ok (.iload_n 0, 1) := by decide +kernel
theorem dX6_kindAbove_5 : decode cX6_kindAbove 5 = .ok (.getstatic 274, 3) := by decide +kernel
theorem dX6_kindAbove_8 : decode cX6_kindAbove 8 = .ok (.arraylength, 1) := by decide +kernel
theorem dX6_kindAbove_9 : decode cX6_kindAbove 9 = .ok (.if_icmp .ge 11, 3) := by decide +kernel
theorem dX6_kindAbove_12 : decode cX6_kindAbove 12 = .ok (.getstatic 274, 3) := by decide +kernel
theorem dX6_kindAbove_15 : decode cX6_kindAbove 15 = .ok (.iload_n 0, 1) := by decide +kernel
theorem dX6_kindAbove_16 : decode cX6_kindAbove 16 = .ok (.iaload, 1) := by decide +kernel
theorem dX6_kindAbove_17 : decode cX6_kindAbove 17 = .ok (.goto 4, 3) := by decide +kernel
theorem dX6_kindAbove_20 : decode cX6_kindAbove 20 = .ok (.iconst (-1), 1) := by decide +kernel
theorem dX6_kindAbove_21 : decode cX6_kindAbove 21 = .ok (.ireturn, 1) := by decide +kernel
theorem dX6_quotient_0 : decode cX6_quotient 0 = .ok (.iload_n 1, 1) := by decide +kernel
theorem dX6_quotient_1 : decode cX6_quotient 1 = .ok (.ifCond .ne 7, 3) := by decide +kernel
theorem dX6_quotient_4 : decode cX6_quotient 4 = .ok (.iconst 0, 1) := by decide +kernel
theorem dX6_quotient_5 : decode cX6_quotient 5 = .ok (.goto 6, 3) := by decide +kernel
theorem dX6_quotient_8 : decode cX6_quotient 8 = .ok (.iload_n 0, 1) := by decide +kernel
theorem dX6_quotient_9 : decode cX6_quotient 9 = .ok (.iload_n 1, 1) := by decide +kernel
theorem dX6_quotient_10 : decode cX6_quotient 10 = .ok (.idiv, 1) := by decide +kernel
theorem dX6_quotient_11 : decode cX6_quotient 11 = .ok (.ireturn, 1) := by decide +kernel
theorem dX6_rest_0 : decode cX6_rest 0 = .ok (.iload_n 1, 1) := by decide +kernel
theorem dX6_rest_1 : decode cX6_rest 1 = .ok (.ifCond .ne 7, 3) := by decide +kernel
theorem dX6_rest_4 : decode cX6_rest 4 = .ok (.iconst 0, 1) := by decide +kernel
theorem dX6_rest_5 : decode cX6_rest 5 = .ok (.goto 6, 3) := by decide +kernel
theorem dX6_rest_8 : decode cX6_rest 8 = .ok (.iload_n 0, 1) := by decide +kernel
theorem dX6_rest_9 : decode cX6_rest 9 = .ok (.iload_n 1, 1) := by decide +kernel
theorem dX6_rest_10 : decode cX6_rest 10 = .ok (.irem, 1) := by decide +kernel
theorem dX6_rest_11 : decode cX6_rest 11 = .ok (.ireturn, 1) := by decide +kernel
theorem dX6_held_0 : decode cX6_held 0 = .ok (.iload_n 1, 1) := by decide +kernel
theorem dX6_held_1 : decode cX6_held 1 = .ok (.iload_n 2, 1) := by decide +kernel
theorem dX6_held_2 : decode cX6_held 2 = .ok (.iload_n 0, 1) := by decide +kernel
theorem dX6_held_3 : decode cX6_held 3 = .ok (.invokestatic 242, 3) := by decide +kernel
theorem dX6_held_6 : decode cX6_held 6 = .ok (.invokestatic 277, 3) := by decide +kernel
theorem dX6_held_9 : decode cX6_held 9 = .ok (.ireturn, 1) := by decide +kernel
