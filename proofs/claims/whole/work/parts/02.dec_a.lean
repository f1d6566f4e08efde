theorem dX0_init_0 : decode cX0_init 0 = .ok (.aload_n 0, 1) := by decide +kernel
theorem dX0_init_1 : decode cX0_init 1 = .ok (.invokespecial 3, 3) := by decide +kernel
theorem dX0_init_4 : decode cX0_init 4 = .ok (.aload_n 0, 1) := by decide +kernel
theorem dX0_init_5 : decode cX0_init 5 = .ok (.bipush 60, 2) := by decide +kernel
theorem dX0_init_7 : decode cX0_init 7 = .ok (.newarray .int, 2) := by decide +kernel
theorem dX0_init_9 : decode cX0_init 9 = .ok (.putfield 9, 3) := by decide +kernel
theorem dX0_init_12 : decode cX0_init 12 = .ok (.aload_n 0, 1) := by decide +kernel
theorem dX0_init_13 : decode cX0_init 13 = .ok (.iconst 2, 1) := by decide +kernel
theorem dX0_init_14 : decode cX0_init 14 = .ok (.bipush 60, 2) := by decide +kernel
theorem dX0_init_16 : decode cX0_init 16 = .ok (.multianewarray 15 2, 4) := by decide +kernel
theorem dX0_init_20 : decode cX0_init 20 = .ok (.putfield 17, 3) := by decide +kernel
theorem dX0_init_23 : decode cX0_init 23 = .ok (.aload_n 0, 1) := by decide +kernel
theorem dX0_init_24 : decode cX0_init 24 = .ok (.iconst 2, 1) := by decide +kernel
theorem dX0_init_25 : decode cX0_init 25 = .ok (.newarray .int, 2) := by decide +kernel
theorem dX0_init_27 : decode cX0_init 27 = .ok (.putfield 20, 3) := by decide +kernel
theorem dX0_init_30 : decode cX0_init 30 = .ok (.aload_n 0, 1) := by decide +kernel
theorem dX0_init_31 : decode cX0_init 31 = .ok (.bipush 60, 2) := by decide +kernel
theorem dX0_init_33 : decode cX0_init 33 = .ok (.newarray .int, 2) := by decide +kernel
theorem dX0_init_35 : decode cX0_init 35 = .ok (.putfield 23, 3) := by decide +kernel
theorem dX0_init_38 : decode cX0_init 38 = .ok (.return_, 1) := by decide +kernel
theorem dX0_becomeLike_0 : decode cX0_becomeLike 0 = .ok (.aload_n 0, 1) := by decide +kernel
theorem dX0_becomeLike_1 : decode cX0_becomeLike 1 = .ok (.aload_n 1, 1) := by decide +kernel
theorem dX0_becomeLike_2 : decode cX0_becomeLike 2 = .ok (.getfield 26, 3) := by decide +kernel
theorem dX0_becomeLike_5 : decode cX0_becomeLike 5 = .ok (.putfield 26, 3) := by decide +kernel
theorem dX0_becomeLike_8 : decode cX0_becomeLike 8 = .ok (.aload_n 1, 1) := by decide +kernel
theorem dX0_becomeLike_9 : decode cX0_becomeLike 9 = .ok (.getfield 9, 3) := by decide +kernel
theorem dX0_becomeLike_12 : decode cX0_becomeLike 12 = .ok (.iconst 0, 1) := by decide +kernel
theorem dX0_becomeLike_13 : decode cX0_becomeLike 13 = .ok (.aload_n 0, 1) := by decide +kernel
theorem dX0_becomeLike_14 : decode cX0_becomeLike 14 = .ok (.getfield 9, 3) := by decide +kernel
theorem dX0_becomeLike_17 : decode cX0_becomeLike 17 = .ok (.iconst 0, 1) := by decide +kernel
theorem dX0_becomeLike_18 : decode cX0_becomeLike 18 = .ok (.bipush 60, 2) := by decide +kernel
theorem dX0_becomeLike_20 : decode cX0_becomeLike 20 = .ok (.invokestatic 30, 3) := by decide +kernel
theorem dX0_becomeLike_23 : decode cX0_becomeLike 23 = .ok (.iconst 0, 1) := by decide +kernel
theorem dX0_becomeLike_24 : decode cX0_becomeLike 24 = .ok (.istore_n 2, 1) := by decide +kernel
theorem dX0_becomeLike_25 : decode cX0_becomeLike 25 = .ok (.iload_n 2, 1) := by decide +kernel
theorem dX0_becomeLike_26 : decode cX0_becomeLike 26 = .ok (.iconst 2, 1) := by decide +kernel
theorem dX0_becomeLike_27 : decode cX0_becomeLike 27 = .ok (.if_icmp .ge 26, 3) := by decide +kernel
theorem dX0_becomeLike_30 : decode cX0_becomeLike 30 = .ok (.aload_n 0, 1) := by decide +kernel
theorem dX0_becomeLike_31 : decode cX0_becomeLike 31 = .ok (.iload_n 2, 1) := by decide +kernel
theorem dX0_becomeLike_32 : decode cX0_becomeLike 32 = .ok (.aload_n 1, 1) := by decide +kernel
theorem dX0_becomeLike_33 : decode cX0_becomeLike 33 = .ok (.getfield 17, 3) := by decide +kernel
theorem dX0_becomeLike_36 : decode cX0_becomeLike 36 = .ok (.iload_n 2, 1) := by decide +kernel
theorem dX0_becomeLike_37 : decode cX0_becomeLike 37 = .ok (.aaload, 1) := by decide +kernel
theorem dX0_becomeLike_38 : decode cX0_becomeLike 38 = .ok (.aload_n 1, 1) := by decide +kernel
theorem dX0_becomeLike_39 : decode cX0_becomeLike 39 = .ok (.getfield 20, 3) := by decide +kernel
theorem dX0_becomeLike_42 : decode cX0_becomeLike 42 = .ok (.iload_n 2, 1) := by decide +kernel
theorem dX0_becomeLike_43 : decode cX0_becomeLike 43 = .ok (.iaload, 1) := by decide +kernel
theorem dX0_becomeLike_44 : decode cX0_becomeLike 44 = .ok (.invokevirtual 36, 3) := by decide +kernel
theorem dX0_becomeLike_47 : decode cX0_becomeLike 47 = .ok (.iinc 2 1, 3) := by decide +kernel
theorem dX0_becomeLike_50 : decode cX0_becomeLike 50 = .ok (.goto (-25), 3) := by decide +kernel
theorem dX0_becomeLike_53 : decode cX0_becomeLike 53 = .ok (.return_, 1) := by decide +kernel
theorem dX0_addBytes_0 : decode cX0_addBytes 0 = .ok (.lload_n 1, 1) := by decide +kernel
theorem dX0_addBytes_1 : decode cX0_addBytes 1 = .ok (.lstore 4, 2) := by decide +kernel
theorem dX0_addBytes_3 : decode cX0_addBytes 3 = .ok (.iconst 0, 1) := by decide +kernel
theorem dX0_addBytes_4 : decode cX0_addBytes 4 = .ok (.istore 6, 2) := by decide +kernel
theorem dX0_addBytes_6 : decode cX0_addBytes 6 = .ok (.iload 6, 2) := by decide +kernel
theorem dX0_addBytes_8 : decode cX0_addBytes 8 = .ok (.iload_n 3, 1) := by decide +kernel
theorem dX0_addBytes_9 : decode cX0_addBytes 9 = .ok (.if_icmp .ge 51, 3) := by decide +kernel
theorem dX0_addBytes_12 : decode cX0_addBytes 12 = .ok (.aload_n 0, 1) := by decide +kernel
theorem dX0_addBytes_13 : decode cX0_addBytes 13 = .ok (.getfield 26, 3) := by decide +kernel
theorem dX0_addBytes_16 : decode cX0_addBytes 16 = .ok (.bipush 60, 2) := by decide +kernel
theorem dX0_addBytes_18 : decode cX0_addBytes 18 = .ok (.if_icmp .ge 42, 3) := by decide +kernel
theorem dX0_addBytes_21 : decode cX0_addBytes 21 = .ok (.aload_n 0, 1) := by decide +kernel
theorem dX0_addBytes_22 : decode cX0_addBytes 22 = .ok (.getfield 9, 3) := by decide +kernel
theorem dX0_addBytes_25 : decode cX0_addBytes 25 = .ok (.aload_n 0, 1) := by decide +kernel
theorem dX0_addBytes_26 : decode cX0_addBytes 26 = .ok (.getfield 26, 3) := by decide +kernel
theorem dX0_addBytes_29 : decode cX0_addBytes 29 = .ok (.lload 4, 2) := by decide +kernel
theorem dX0_addBytes_31 : decode cX0_addBytes 31 = .ok (.ldc2_w 40, 3) := by decide +kernel
theorem dX0_addBytes_34 : decode cX0_addBytes 34 = .ok (.land, 1) := by decide +kernel
theorem dX0_addBytes_35 : decode cX0_addBytes 35 = .ok (.l2i, 1) := by decide +kernel
theorem dX0_addBytes_36 : decode cX0_addBytes 36 = .ok (.iastore, 1) := by decide +kernel
theorem dX0_addBytes_37 : decode cX0_addBytes 37 = .ok (.aload_n 0, 1) := by decide +kernel
theorem dX0_addBytes_38 : decode cX0_addBytes 38 = .ok (.dup, 1) := by decide +kernel
theorem dX0_addBytes_39 : decode cX0_addBytes 39 = .ok (.getfield 26, 3) := by decide +kernel
theorem dX0_addBytes_42 : decode cX0_addBytes 42 = .ok (.iconst 1, 1) := by decide +kernel
theorem dX0_addBytes_43 : decode cX0_addBytes 43 = .ok (.iadd, 1) := by decide +kernel
theorem dX0_addBytes_44 : decode cX0_addBytes 44 = .ok (.putfield 26, 3) := by decide +kernel
theorem dX0_addBytes_47 : decode cX0_addBytes 47 = .ok (.lload 4, 2) := by decide +kernel
theorem dX0_addBytes_49 : decode cX0_addBytes 49 = .ok (.bipush 8, 2) := by decide +kernel
theorem dX0_addBytes_51 : decode cX0_addBytes 51 = .ok (.lushr, 1) := by decide +kernel
theorem dX0_addBytes_52 : decode cX0_addBytes 52 = .ok (.lstore 4, 2) := by decide +kernel
theorem dX0_addBytes_54 : decode cX0_addBytes 54 = .ok (.iinc 6 1, 3) := by decide +kernel
theorem dX0_addBytes_57 : decode cX0_addBytes 57 = .ok (.goto (-51), 3) := by decide +kernel
theorem dX0_addBytes_60 : decode cX0_addBytes 60 = .ok (.aload_n 0, 1) := by decide +kernel
theorem dX0_addBytes_61 : decode cX0_addBytes 61 = .ok (.getfield 26, 3) := by decide +kernel
theorem dX0_addBytes_64 : decode cX0_addBytes 64 = .ok (.ireturn, 1) := by decide +kernel
theorem dX0_takeSteps_0 : decode cX0_takeSteps 0 = .ok (.iload_n 1, 1) := by decide +kernel
theorem dX0_takeSteps_1 : decode cX0_takeSteps 1 = .ok (.invokestatic 42, 3) := by decide +kernel
theorem dX0_takeSteps_4 : decode cX0_takeSteps 4 = .ok (.ifCond .eq 24, 3) := by decide +kernel
theorem dX0_takeSteps_7 : decode cX0_takeSteps 7 = .ok (.aload_n 2, 1) := by decide +kernel
theorem dX0_takeSteps_8 : decode cX0_takeSteps 8 = .ok (.iconst 0, 1) := by decide +kernel
theorem dX0_takeSteps_9 : decode cX0_takeSteps 9 = .ok (.aload_n 0, 1) := by decide +kernel
theorem dX0_takeSteps_10 : decode cX0_takeSteps 10 = .ok (.getfield 17, 3) := by decide +kernel
theorem dX0_takeSteps_13 : decode cX0_takeSteps 13 = .ok (.iload_n 1, 1) := by decide +kernel
theorem dX0_takeSteps_14 : decode cX0_takeSteps 14 = .ok (.aaload, 1) := by decide +kernel
theorem dX0_takeSteps_15 : decode cX0_takeSteps 15 = .ok (.iconst 0, 1) := by decide +kernel
theorem dX0_takeSteps_16 : decode cX0_takeSteps 16 = .ok (.bipush 60, 2) := by decide +kernel
theorem dX0_takeSteps_18 : decode cX0_takeSteps 18 = .ok (.invokestatic 30, 3) := by decide +kernel
theorem dX0_takeSteps_21 : decode cX0_takeSteps 21 = .ok (.aload_n 0, 1) := by decide +kernel
theorem dX0_takeSteps_22 : decode cX0_takeSteps 22 = .ok (.getfield 20, 3) := by decide +kernel
theorem dX0_takeSteps_25 : decode cX0_takeSteps 25 = .ok (.iload_n 1, 1) := by decide +kernel
theorem dX0_takeSteps_26 : decode cX0_takeSteps 26 = .ok (.iload_n 3, 1) := by decide +kernel
theorem dX0_takeSteps_27 : decode cX0_takeSteps 27 = .ok (.iastore, 1) := by decide +kernel
theorem dX0_takeSteps_28 : decode cX0_takeSteps 28 = .ok (.return_, 1) := by decide +kernel
theorem dX0_forget_0 : decode cX0_forget 0 = .ok (.iload_n 1, 1) := by decide +kernel
theorem dX0_forget_1 : decode cX0_forget 1 = .ok (.invokestatic 42, 3) := by decide +kernel
theorem dX0_forget_4 : decode cX0_forget 4 = .ok (.ifCond .eq 16, 3) := by decide +kernel
theorem dX0_forget_7 : decode cX0_forget 7 = .ok (.aload_n 0, 1) := by decide +kernel
theorem dX0_forget_8 : decode cX0_forget 8 = .ok (.getfield 20, 3) := by decide +kernel
theorem dX0_forget_11 : decode cX0_forget 11 = .ok (.iload_n 1, 1) := by decide +kernel
theorem dX0_forget_12 : decode cX0_forget 12 = .ok (.iaload, 1) := by decide +kernel
theorem dX0_forget_13 : decode cX0_forget 13 = .ok (.ifCond .le 7, 3) := by decide +kernel
theorem dX0_forget_16 : decode cX0_forget 16 = .ok (.iconst 1, 1) := by decide +kernel
theorem dX0_forget_17 : decode cX0_forget 17 = .ok (.goto 4, 3) := by decide +kernel
theorem dX0_forget_20 : decode cX0_forget 20 = .ok (.iconst 0, 1) := by decide +kernel
theorem dX0_forget_21 : decode cX0_forget 21 = .ok (.istore_n 2, 1) := by decide +kernel
theorem dX0_forget_22 : decode cX0_forget 22 = .ok (.iload_n 2, 1) := by decide +kernel
theorem dX0_forget_23 : decode cX0_forget 23 = .ok (.ifCond .eq 10, 3) := by decide +kernel
theorem dX0_forget_26 : decode cX0_forget 26 = .ok (.aload_n 0, 1) := by decide +kernel
theorem dX0_forget_27 : decode cX0_forget 27 = .ok (.getfield 20, 3) := by decide +kernel
theorem dX0_forget_30 : decode cX0_forget 30 = .ok (.iload_n 1, 1) := by decide +kernel
theorem dX0_forget_31 : decode cX0_forget 31 = .ok (.iconst 0, 1) := by decide +kernel
theorem dX0_forget_32 : decode cX0_forget 32 = .ok (.iastore, 1) := by decide +kernel
theorem dX0_forget_33 : decode cX0_forget 33 = .ok (.iload_n 2, 1) := by decide +kernel
theorem dX0_forget_34 : decode cX0_forget 34 = .ok (.ireturn, 1) := by decide +kernel
theorem dX0_give_0 : decode cX0_give 0 = .ok (.iload_n 1, 1) := by decide +kernel
theorem dX0_give_1 : decode cX0_give 1 = .ok (.invokestatic 42, 3) := by decide +kernel
theorem dX0_give_4 : decode cX0_give 4 = .ok (.ifCond .ne 5, 3) := by decide +kernel
theorem dX0_give_7 : decode cX0_give 7 = .ok (.iconst 0, 1) := by decide +kernel
theorem dX0_give_8 : decode cX0_give 8 = .ok (.ireturn, 1) := by decide +kernel
theorem dX0_give_9 : decode cX0_give 9 = .ok (.aload_n 0, 1) := by decide +kernel
theorem dX0_give_10 : decode cX0_give 10 = .ok (.getfield 20, 3) := by decide +kernel
theorem dX0_give_13 : decode cX0_give 13 = .ok (.iload_n 1, 1) := by decide +kernel
theorem dX0_give_14 : decode cX0_give 14 = .ok (.iaload, 1) := by decide +kernel
theorem dX0_give_15 : decode cX0_give 15 = .ok (.ifCond .ne 7, 3) := by decide +kernel
theorem dX0_give_18 : decode cX0_give 18 = .ok (.iload_n 2, 1) := by decide +kernel
theorem dX0_give_19 : decode cX0_give 19 = .ok (.goto 23, 3) := by decide +kernel
theorem dX0_give_22 : decode cX0_give 22 = .ok (.aload_n 0, 1) := by decide +kernel
theorem dX0_give_23 : decode cX0_give 23 = .ok (.aload_n 0, 1) := by decide +kernel
theorem dX0_give_24 : decode cX0_give 24 = .ok (.getfield 17, 3) := by decide +kernel
theorem dX0_give_27 : decode cX0_give 27 = .ok (.iload_n 1, 1) := by decide +kernel
theorem dX0_give_28 : decode cX0_give 28 = .ok (.aaload, 1) := by decide +kernel
theorem dX0_give_29 : decode cX0_give 29 = .ok (.aload_n 0, 1) := by decide +kernel
theorem dX0_give_30 : decode cX0_give 30 = .ok (.getfield 20, 3) := by decide +kernel
theorem dX0_give_33 : decode cX0_give 33 = .ok (.iload_n 1, 1) := by decide +kernel
theorem dX0_give_34 : decode cX0_give 34 = .ok (.iaload, 1) := by decide +kernel
theorem dX0_give_35 : decode cX0_give 35 = .ok (.iload_n 2, 1) := by decide +kernel
theorem dX0_give_36 : decode cX0_give 36 = .ok (.iload_n 3, 1) := by decide +kernel
theorem dX0_give_37 : decode cX0_give 37 = .ok (.iload 4, 2) := by decide +kernel
theorem dX0_give_39 : decode cX0_give 39 = .ok (.invokevirtual 46, 3) := by decide +kernel
theorem dX0_give_42 : decode cX0_give 42 = .ok (.istore 5, 2) := by decide +kernel
theorem dX0_give_44 : decode cX0_give 44 = .ok (.iload_n 1, 1) := by decide +kernel
theorem dX0_give_45 : decode cX0_give 45 = .ok (.ifCond .ne 15, 3) := by decide +kernel
theorem dX0_give_48 : decode cX0_give 48 = .ok (.iload 5, 2) := by decide +kernel
theorem dX0_give_50 : decode cX0_give 50 = .ok (.iconst 0, 1) := by decide +kernel
theorem dX0_give_51 : decode cX0_give 51 = .ok (.sipush 999, 3) := by decide +kernel
theorem dX0_give_54 : decode cX0_give 54 = .ok (.invokestatic 50, 3) := by decide +kernel
theorem dX0_give_57 : decode cX0_give 57 = .ok (.goto 11, 3) := by decide +kernel
theorem dX0_give_60 : decode cX0_give 60 = .ok (.iload 5, 2) := by decide +kernel
theorem dX0_give_62 : decode cX0_give 62 = .ok (.iconst 1, 1) := by decide +kernel
theorem dX0_give_63 : decode cX0_give 63 = .ok (.bipush 99, 2) := by decide +kernel
theorem dX0_give_65 : decode cX0_give 65 = .ok (.invokestatic 50, 3) := by decide +kernel
theorem dX0_give_68 : decode cX0_give 68 = .ok (.ireturn, 1) := by decide +kernel
theorem dX0_workOut_0 : decode cX0_workOut 0 = .ok (.iconst (-1), 1) := by decide +kernel
theorem dX0_workOut_1 : decode cX0_workOut 1 = .ok (.istore 6, 2) := by decide +kernel
theorem dX0_workOut_3 : decode cX0_workOut 3 = .ok (.iconst 0, 1) := by decide +kernel
theorem dX0_workOut_4 : decode cX0_workOut 4 = .ok (.istore 7, 2) := by decide +kernel
theorem dX0_workOut_6 : decode cX0_workOut 6 = .ok (.iload 7, 2) := by decide +kernel
theorem dX0_workOut_8 : decode cX0_workOut 8 = .ok (.iload_n 2, 1) := by decide +kernel
theorem dX0_workOut_9 : decode cX0_workOut 9 = .ok (.if_icmp .ge 155, 3) := by decide +kernel
theorem dX0_workOut_12 : decode cX0_workOut 12 = .ok (.iload 7, 2) := by decide +kernel
theorem dX0_workOut_14 : decode cX0_workOut 14 = .ok (.aload_n 1, 1) := by decide +kernel
theorem dX0_workOut_15 : decode cX0_workOut 15 = .ok (.arraylength, 1) := by decide +kernel
theorem dX0_workOut_16 : decode cX0_workOut 16 = .ok (.if_icmp .ge 148, 3) := by decide +kernel
theorem dX0_workOut_19 : decode cX0_workOut 19 = .ok (.aload_n 1, 1) := by decide +kernel
theorem dX0_workOut_20 : decode cX0_workOut 20 = .ok (.iload 7, 2) := by decide +kernel
theorem dX0_workOut_22 : decode cX0_workOut 22 = .ok (.iaload, 1) := by decide +kernel
theorem dX0_workOut_23 : decode cX0_workOut 23 = .ok (.istore 8, 2) := by decide +kernel
theorem dX0_workOut_25 : decode cX0_workOut 25 = .ok (.iload 8, 2) := by decide +kernel
theorem dX0_workOut_27 : decode cX0_workOut 27 = .ok (.ifCond .lt 56, 3) := by decide +kernel
theorem dX0_workOut_30 : decode cX0_workOut 30 = .ok (.iload 6, 2) := by decide +kernel
theorem dX0_workOut_32 : decode cX0_workOut 32 = .ok (.iconst 1, 1) := by decide +kernel
theorem dX0_workOut_33 : decode cX0_workOut 33 = .ok (.iadd, 1) := by decide +kernel
theorem dX0_workOut_34 : decode cX0_workOut 34 = .ok (.aload_n 0, 1) := by decide +kernel
theorem dX0_workOut_35 : decode cX0_workOut 35 = .ok (.getfield 23, 3) := by decide +kernel
theorem dX0_workOut_38 : decode cX0_workOut 38 = .ok (.arraylength, 1) := by decide +kernel
theorem dX0_workOut_39 : decode cX0_workOut 39 = .ok (.iconst 1, 1) := by decide +kernel
theorem dX0_workOut_40 : decode cX0_workOut 40 = .ok (.isub, 1) := by decide +kernel
theorem dX0_workOut_41 : decode cX0_workOut 41 = .ok (.invokestatic 54, 3) := by decide +kernel
theorem dX0_workOut_44 : decode cX0_workOut 44 = .ok (.istore 6, 2) := by decide +kernel
theorem dX0_workOut_46 : decode cX0_workOut 46 = .ok (.aload_n 0, 1) := by decide +kernel
theorem dX0_workOut_47 : decode cX0_workOut 47 = .ok (.getfield 23, 3) := by decide +kernel
theorem dX0_workOut_50 : decode cX0_workOut 50 = .ok (.iload 6, 2) := by decide +kernel
theorem dX0_workOut_52 : decode cX0_workOut 52 = .ok (.iload 8, 2) := by decide +kernel
theorem dX0_workOut_54 : decode cX0_workOut 54 = .ok (.sipush 10000, 3) := by decide +kernel
theorem dX0_workOut_57 : decode cX0_workOut 57 = .ok (.if_icmp .ge 8, 3) := by decide +kernel
theorem dX0_workOut_60 : decode cX0_workOut 60 = .ok (.iload 8, 2) := by decide +kernel
theorem dX0_workOut_62 : decode cX0_workOut 62 = .ok (.goto 17, 3) := by decide +kernel
theorem dX0_workOut_65 : decode cX0_workOut 65 = .ok (.iload 8, 2) := by decide +kernel
theorem dX0_workOut_67 : decode cX0_workOut 67 = .ok (.sipush 10000, 3) := by decide +kernel
theorem dX0_workOut_70 : decode cX0_workOut 70 = .ok (.isub, 1) := by decide +kernel
theorem dX0_workOut_71 : decode cX0_workOut 71 = .ok (.iload_n 3, 1) := by decide +kernel
theorem dX0_workOut_72 : decode cX0_workOut 72 = .ok (.iload 4, 2) := by decide +kernel
theorem dX0_workOut_74 : decode cX0_workOut 74 = .ok (.iload 5, 2) := by decide +kernel
theorem dX0_workOut_76 : decode cX0_workOut 76 = .ok (.invokestatic 60, 3) := by decide +kernel
theorem dX0_workOut_79 : decode cX0_workOut 79 = .ok (.iastore, 1) := by decide +kernel
theorem dX0_workOut_80 : decode cX0_workOut 80 = .ok (.goto 78, 3) := by decide +kernel
theorem dX0_workOut_83 : decode cX0_workOut 83 = .ok (.iload 8, 2) := by decide +kernel
theorem dX0_workOut_85 : decode cX0_workOut 85 = .ok (.bipush (-33), 2) := by decide +kernel
theorem dX0_workOut_87 : decode cX0_workOut 87 = .ok (.if_icmp .ne 33, 3) := by decide +kernel
theorem dX0_workOut_90 : decode cX0_workOut 90 = .ok (.iload 6, 2) := by decide +kernel
theorem dX0_workOut_92 : decode cX0_workOut 92 = .ok (.ifCond .lt 66, 3) := by decide +kernel
theorem dX0_workOut_95 : decode cX0_workOut 95 = .ok (.aload_n 0, 1) := by decide +kernel
theorem dX0_workOut_96 : decode cX0_workOut 96 = .ok (.getfield 23, 3) := by decide +kernel
theorem dX0_workOut_99 : decode cX0_workOut 99 = .ok (.iload 6, 2) := by decide +kernel
theorem dX0_workOut_101 : decode cX0_workOut 101 = .ok (.aload_n 0, 1) := by decide +kernel
theorem dX0_workOut_102 : decode cX0_workOut 102 = .ok (.getfield 23, 3) := by decide +kernel
theorem dX0_workOut_105 : decode cX0_workOut 105 = .ok (.iload 6, 2) := by decide +kernel
theorem dX0_workOut_107 : decode cX0_workOut 107 = .ok (.iaload, 1) := by decide +kernel
theorem dX0_workOut_108 : decode cX0_workOut 108 = .ok (.ifCond .ne 7, 3) := by decide +kernel
theorem dX0_workOut_111 : decode cX0_workOut 111 = .ok (.iconst 1, 1) := by decide +kernel
theorem dX0_workOut_112 : decode cX0_workOut 112 = .ok (.goto 4, 3) := by decide +kernel
theorem dX0_workOut_115 : decode cX0_workOut 115 = .ok (.iconst 0, 1) := by decide +kernel
theorem dX0_workOut_116 : decode cX0_workOut 116 = .ok (.iastore, 1) := by decide +kernel
theorem dX0_workOut_117 : decode cX0_workOut 117 = .ok (.goto 41, 3) := by decide +kernel
theorem dX0_workOut_120 : decode cX0_workOut 120 = .ok (.iload 6, 2) := by decide +kernel
theorem dX0_workOut_122 : decode cX0_workOut 122 = .ok (.iconst 1, 1) := by decide +kernel
theorem dX0_workOut_123 : decode cX0_workOut 123 = .ok (.if_icmp .lt 35, 3) := by decide +kernel
theorem dX0_workOut_126 : decode cX0_workOut 126 = .ok (.iinc 6 (-1), 3) := by decide +kernel
theorem dX0_workOut_129 : decode cX0_workOut 129 = .ok (.aload_n 0, 1) := by decide +kernel
theorem dX0_workOut_130 : decode cX0_workOut 130 = .ok (.getfield 23, 3) := by decide +kernel
theorem dX0_workOut_133 : decode cX0_workOut 133 = .ok (.iload 6, 2) := by decide +kernel
theorem dX0_workOut_135 : decode cX0_workOut 135 = .ok (.iload 8, 2) := by decide +kernel
theorem dX0_workOut_137 : decode cX0_workOut 137 = .ok (.ineg, 1) := by decide +kernel
theorem dX0_workOut_138 : decode cX0_workOut 138 = .ok (.aload_n 0, 1) := by decide +kernel
theorem dX0_workOut_139 : decode cX0_workOut 139 = .ok (.getfield 23, 3) := by decide +kernel
theorem dX0_workOut_142 : decode cX0_workOut 142 = .ok (.iload 6, 2) := by decide +kernel
theorem dX0_workOut_144 : decode cX0_workOut 144 = .ok (.iaload, 1) := by decide +kernel
theorem dX0_workOut_145 : decode cX0_workOut 145 = .ok (.aload_n 0, 1) := by decide +kernel
theorem dX0_workOut_146 : decode cX0_workOut 146 = .ok (.getfield 23, 3) := by decide +kernel
theorem dX0_workOut_149 : decode cX0_workOut 149 = .ok (.iload 6, 2) := by decide +kernel
theorem dX0_workOut_151 : decode cX0_workOut 151 = .ok (.iconst 1, 1) := by decide +kernel
theorem dX0_workOut_152 : decode cX0_workOut 152 = .ok (.iadd, 1) := by decide +kernel
theorem dX0_workOut_153 : decode cX0_workOut 153 = .ok (.iaload, 1) := by decide +kernel
theorem dX0_workOut_154 : decode cX0_workOut 154 = .ok (.invokestatic 64, 3) := by decide +kernel
theorem dX0_workOut_157 : decode cX0_workOut 157 = .ok (.iastore, 1) := by decide +kernel
theorem dX0_workOut_158 : decode cX0_workOut 158 = .ok (.iinc 7 1, 3) := by decide +kernel
theorem dX0_workOut_161 : decode cX0_workOut 161 = .ok (.goto (-155), 3) := by decide +kernel
theorem dX0_workOut_164 : decode cX0_workOut 164 = .ok (.iload 6, 2) := by decide +kernel
theorem dX0_workOut_166 : decode cX0_workOut 166 = .ok (.ifCond .lt 13, 3) := by decide +kernel
theorem dX0_workOut_169 : decode cX0_workOut 169 = .ok (.aload_n 0, 1) := by decide +kernel
theorem dX0_workOut_170 : decode cX0_workOut 170 = .ok (.getfield 23, 3) := by decide +kernel
theorem dX0_workOut_173 : decode cX0_workOut 173 = .ok (.iload 6, 2) := by decide +kernel
theorem dX0_workOut_175 : decode cX0_workOut 175 = .ok (.iaload, 1) := by decide +kernel
theorem dX0_workOut_176 : decode cX0_workOut 176 = .ok (.goto 4, 3) := by decide +kernel
theorem dX0_workOut_179 : decode cX0_workOut 179 = .ok (.iconst 0, 1) := by decide +kernel
theorem dX0_workOut_180 : decode cX0_workOut 180 = .ok (.ireturn, 1) := by decide +kernel
theorem dX0_named_0 : decode cX0_named 0 = .ok (.iload_n 0, 1) := by decide +kernel
theorem dX0_named_1 : decode cX0_named 1 = .ok (.ifCond .ne 5, 3) := by decide +kernel
theorem dX0_named_4 : decode cX0_named 4 = .ok (.iload_n 1, 1) := by decide +kernel
theorem dX0_named_5 : decode cX0_named 5 = .ok (.ireturn, 1) := by decide +kernel
theorem dX0_named_6 : decode cX0_named 6 = .ok (.iload_n 0, 1) := by decide +kernel
theorem dX0_named_7 : decode cX0_named 7 = .ok (.iconst 1, 1) := by decide +kernel
theorem dX0_named_8 : decode cX0_named 8 = .ok (.if_icmp .ne 7, 3) := by decide +kernel
theorem dX0_named_11 : decode cX0_named 11 = .ok (.iload_n 2, 1) := by decide +kernel
theorem dX0_named_12 : decode cX0_named 12 = .ok (.goto 4, 3) := by decide +kernel
theorem dX0_named_15 : decode cX0_named 15 = .ok (.iload_n 3, 1) := by decide +kernel
theorem dX0_named_16 : decode cX0_named 16 = .ok (.ireturn, 1) := by decide +kernel
theorem dX0_joined_0 : decode cX0_joined 0 = .ok (.iload_n 0, 1) := by decide +kernel
theorem dX0_joined_1 : decode cX0_joined 1 = .ok (.lookupswitch 168 #[(38, 97), (42, 152), (43, 144), (45, 148), (47, 156), (60, 111), (61, 122), (62, 133), (124, 83)], 83) := by decide +kernel
theorem dX0_joined_84 : decode cX0_joined 84 = .ok (.iload_n 1, 1) := by decide +kernel
theorem dX0_joined_85 : decode cX0_joined 85 = .ok (.ifCond .ne 7, 3) := by decide +kernel
theorem dX0_joined_88 : decode cX0_joined 88 = .ok (.iload_n 2, 1) := by decide +kernel
theorem dX0_joined_89 : decode cX0_joined 89 = .ok (.ifCond .eq 7, 3) := by decide +kernel
theorem dX0_joined_92 : decode cX0_joined 92 = .ok (.iconst 1, 1) := by decide +kernel
theorem dX0_joined_93 : decode cX0_joined 93 = .ok (.goto 4, 3) := by decide +kernel
theorem dX0_joined_96 : decode cX0_joined 96 = .ok (.iconst 0, 1) := by decide +kernel
theorem dX0_joined_97 : decode cX0_joined 97 = .ok (.ireturn, 1) := by decide +kernel
theorem dX0_joined_98 : decode cX0_joined 98 = .ok (.iload_n 1, 1) := by decide +kernel
theorem dX0_joined_99 : decode cX0_joined 99 = .ok (.ifCond .eq 11, 3) := by decide +kernel
theorem dX0_joined_102 : decode cX0_joined 102 = .ok (.iload_n 2, 1) := by decide +kernel
theorem dX0_joined_103 : decode cX0_joined 103 = .ok (.ifCond .eq 7, 3) := by decide +kernel
theorem dX0_joined_106 : decode cX0_joined 106 = .ok (.iconst 1, 1) := by decide +kernel
theorem dX0_joined_107 : decode cX0_joined 107 = .ok (.goto 4, 3) := by decide +kernel
theorem dX0_joined_110 : decode cX0_joined 110 = .ok (.iconst 0, 1) := by decide +kernel
theorem dX0_joined_111 : decode cX0_joined 111 = .ok (.ireturn, 1) := by decide +kernel
theorem dX0_joined_112 : decode cX0_joined 112 = .ok (.iload_n 1, 1) := by decide +kernel
theorem dX0_joined_113 : decode cX0_joined 113 = .ok (.iload_n 2, 1) := by decide +kernel
theorem dX0_joined_114 : decode cX0_joined 114 = .ok (.if_icmp .ge 7, 3) := by decide +kernel
theorem dX0_joined_117 : decode cX0_joined 117 = .ok (.iconst 1, 1) := by decide +kernel
theorem dX0_joined_118 : decode cX0_joined 118 = .ok (.goto 4, 3) := by decide +kernel
theorem dX0_joined_121 : decode cX0_joined 121 = .ok (.iconst 0, 1) := by decide +kernel
theorem dX0_joined_122 : decode cX0_joined 122 = .ok (.ireturn, 1) := by decide +kernel
theorem dX0_joined_123 : decode cX0_joined 123 = .ok (.iload_n 1, 1) := by decide +kernel
theorem dX0_joined_124 : decode cX0_joined 124 = .ok (.iload_n 2, 1) := by decide +kernel
theorem dX0_joined_125 : decode cX0_joined 125 = .ok (.if_icmp .ne 7, 3) := by decide +kernel
theorem dX0_joined_128 : decode cX0_joined 128 = .ok (.iconst 1, 1) := by decide +kernel
theorem dX0_joined_129 : decode cX0_joined 129 = .ok (.goto 4, 3) := by decide +kernel
theorem dX0_joined_132 : decode cX0_joined 132 = .ok (.iconst 0, 1) := by decide +kernel
theorem dX0_joined_133 : decode cX0_joined 133 = .ok (.ireturn, 1) := by decide +kernel
theorem dX0_joined_134 : decode cX0_joined 134 = .ok (.iload_n 1, 1) := by decide +kernel
theorem dX0_joined_135 : decode cX0_joined 135 = .ok (.iload_n 2, 1) := by decide +kernel
theorem dX0_joined_136 : decode cX0_joined 136 = .ok (.if_icmp .le 7, 3) := by decide +kernel
theorem dX0_joined_139 : decode cX0_joined 139 = .ok (.iconst 1, 1) := by decide +kernel
theorem dX0_joined_140 : decode cX0_joined 140 = .ok (.goto 4, 3) := by decide +kernel
theorem dX0_joined_143 : decode cX0_joined 143 = .ok (.iconst 0, 1) := by decide +kernel
theorem dX0_joined_144 : decode cX0_joined 144 = .ok (.ireturn, 1) := by decide +kernel
theorem dX0_joined_145 : decode cX0_joined 145 = .ok (.iload_n 1, 1) := by decide +kernel
theorem dX0_joined_146 : decode cX0_joined 146 = .ok (.iload_n 2, 1) := by decide +kernel
theorem dX0_joined_147 : decode cX0_joined 147 = .ok (.iadd, 1) := by decide +kernel
theorem dX0_joined_148 : decode cX0_joined 148 = .ok (.ireturn, 1) := by decide +kernel
theorem dX0_joined_149 : decode cX0_joined 149 = .ok (.iload_n 1, 1) := by decide +kernel
theorem dX0_joined_150 : decode cX0_joined 150 = .ok (.iload_n 2, 1) := by decide +kernel
theorem dX0_joined_151 : decode cX0_joined 151 = .ok (.isub, 1) := by decide +kernel
theorem dX0_joined_152 : decode cX0_joined 152 = .ok (.ireturn, 1) := by decide +kernel
theorem dX0_joined_153 : decode cX0_joined 153 = .ok (.iload_n 1, 1) := by decide +kernel
theorem dX0_joined_154 : decode cX0_joined 154 = .ok (.iload_n 2, 1) := by decide +kernel
theorem dX0_joined_155 : decode cX0_joined 155 = .ok (.imul, 1) := by decide +kernel
theorem dX0_joined_156 : decode cX0_joined 156 = .ok (.ireturn, 1) := by decide +kernel
theorem dX0_joined_157 : decode cX0_joined 157 = .ok (.iload_n 2, 1) := by decide +kernel
theorem dX0_joined_158 : decode cX0_joined 158 = .ok (.ifCond .ne 7, 3) := by decide +kernel
theorem dX0_joined_161 : decode cX0_joined 161 = .ok (.iconst 0, 1) := by decide +kernel
theorem dX0_joined_162 : decode cX0_joined 162 = .ok (.goto 6, 3) := by decide +kernel
theorem dX0_joined_165 : decode cX0_joined 165 = .ok (.iload_n 1, 1) := by decide +kernel
theorem dX0_joined_166 : decode cX0_joined 166 = .ok (.iload_n 2, 1) := by decide +kernel
theorem dX0_joined_167 : decode cX0_joined 167 = .ok (.idiv, 1) := by decide +kernel
theorem dX0_joined_168 : decode cX0_joined 168 = .ok (.ireturn, 1) := by decide +kernel
theorem dX0_joined_169 : decode cX0_joined 169 = .ok (.iload_n 2, 1) := by decide +kernel
theorem dX0_joined_170 : decode cX0_joined 170 = .ok (.ifCond .ne 7, 3) := by decide +kernel
theorem dX0_joined_173 : decode cX0_joined 173 = .ok (.iconst 0, 1) := by decide +kernel
theorem dX0_joined_174 : decode cX0_joined 174 = .ok (.goto 6, 3) := by decide +kernel
theorem dX0_joined_177 : decode cX0_joined 177 = .ok (.iload_n 1, 1) := by decide +kernel
theorem dX0_joined_178 : decode cX0_joined 178 = .ok (.iload_n 2, 1) := by decide +kernel
theorem dX0_joined_179 : decode cX0_joined 179 = .ok (.irem, 1) := by decide +kernel
theorem dX0_joined_180 : decode cX0_joined 180 = .ok (.ireturn, 1) := by decide +kernel
theorem dX1_init_0 : decode cX1_init 0 = .ok (.aload_n 0, 1) := by decide +kernel
theorem dX1_init_1 : decode cX1_init 1 = .ok (.invokespecial 3, 3) := by decide +kernel
theorem dX1_init_4 : decode cX1_init 4 = .ok (.aload_n 0, 1) := by decide +kernel
theorem dX1_init_5 : decode cX1_init 5 = .ok (.bipush 60, 2) := by decide +kernel
theorem dX1_init_7 : decode cX1_init 7 = .ok (.newarray .int, 2) := by decide +kernel
theorem dX1_init_9 : decode cX1_init 9 = .ok (.putfield 9, 3) := by decide +kernel
theorem dX1_init_12 : decode cX1_init 12 = .ok (.aload_n 0, 1) := by decide +kernel
theorem dX1_init_13 : decode cX1_init 13 = .ok (.bipush 60, 2) := by decide +kernel
theorem dX1_init_15 : decode cX1_init 15 = .ok (.newarray .int, 2) := by decide +kernel
theorem dX1_init_17 : decode cX1_init 17 = .ok (.putfield 15, 3) := by decide +kernel
theorem dX1_init_20 : decode cX1_init 20 = .ok (.return_, 1) := by decide +kernel
theorem dX1_faultOf_0 : decode cX1_faultOf 0 = .ok (.aload_n 1, 1) := by decide +kernel
theorem dX1_faultOf_1 : decode cX1_faultOf 1 = .ok (.iconst 0, 1) := by decide +kernel
theorem dX1_faultOf_2 : decode cX1_faultOf 2 = .ok (.aload_n 0, 1) := by decide +kernel
theorem dX1_faultOf_3 : decode cX1_faultOf 3 = .ok (.getfield 15, 3) := by decide +kernel
theorem dX1_faultOf_6 : decode cX1_faultOf 6 = .ok (.iconst 0, 1) := by decide +kernel
theorem dX1_faultOf_7 : decode cX1_faultOf 7 = .ok (.bipush 60, 2) := by decide +kernel
theorem dX1_faultOf_9 : decode cX1_faultOf 9 = .ok (.invokestatic 18, 3) := by decide +kernel
theorem dX1_faultOf_12 : decode cX1_faultOf 12 = .ok (.aload_n 0, 1) := by decide +kernel
theorem dX1_faultOf_13 : decode cX1_faultOf 13 = .ok (.iload_n 2, 1) := by decide +kernel
theorem dX1_faultOf_14 : decode cX1_faultOf 14 = .ok (.iconst 0, 1) := by decide +kernel
theorem dX1_faultOf_15 : decode cX1_faultOf 15 = .ok (.bipush 60, 2) := by decide +kernel
theorem dX1_faultOf_17 : decode cX1_faultOf 17 = .ok (.invokestatic 24, 3) := by decide +kernel
theorem dX1_faultOf_20 : decode cX1_faultOf 20 = .ok (.putfield 28, 3) := by decide +kernel
theorem dX1_faultOf_23 : decode cX1_faultOf 23 = .ok (.aload_n 0, 1) := by decide +kernel
theorem dX1_faultOf_24 : decode cX1_faultOf 24 = .ok (.iconst 0, 1) := by decide +kernel
theorem dX1_faultOf_25 : decode cX1_faultOf 25 = .ok (.putfield 32, 3) := by decide +kernel
theorem dX1_faultOf_28 : decode cX1_faultOf 28 = .ok (.aload_n 0, 1) := by decide +kernel
theorem dX1_faultOf_29 : decode cX1_faultOf 29 = .ok (.iconst 0, 1) := by decide +kernel
theorem dX1_faultOf_30 : decode cX1_faultOf 30 = .ok (.putfield 35, 3) := by decide +kernel
theorem dX1_faultOf_33 : decode cX1_faultOf 33 = .ok (.aload_n 0, 1) := by decide +kernel
theorem dX1_faultOf_34 : decode cX1_faultOf 34 = .ok (.iload_n 3, 1) := by decide +kernel
theorem dX1_faultOf_35 : decode cX1_faultOf 35 = .ok (.iconst 3, 1) := by decide +kernel
theorem dX1_faultOf_36 : decode cX1_faultOf 36 = .ok (.imul, 1) := by decide +kernel
theorem dX1_faultOf_37 : decode cX1_faultOf 37 = .ok (.putfield 38, 3) := by decide +kernel
theorem dX1_faultOf_40 : decode cX1_faultOf 40 = .ok (.aload_n 0, 1) := by decide +kernel
theorem dX1_faultOf_41 : decode cX1_faultOf 41 = .ok (.iconst 0, 1) := by decide +kernel
theorem dX1_faultOf_42 : decode cX1_faultOf 42 = .ok (.iconst 0, 1) := by decide +kernel
theorem dX1_faultOf_43 : decode cX1_faultOf 43 = .ok (.invokevirtual 41, 3) := by decide +kernel
theorem dX1_faultOf_46 : decode cX1_faultOf 46 = .ok (.ifCond .eq 18, 3) := by decide +kernel
theorem dX1_faultOf_49 : decode cX1_faultOf 49 = .ok (.aload_n 0, 1) := by decide +kernel
theorem dX1_faultOf_50 : decode cX1_faultOf 50 = .ok (.getfield 32, 3) := by decide +kernel
theorem dX1_faultOf_53 : decode cX1_faultOf 53 = .ok (.aload_n 0, 1) := by decide +kernel
theorem dX1_faultOf_54 : decode cX1_faultOf 54 = .ok (.getfield 28, 3) := by decide +kernel
theorem dX1_faultOf_57 : decode cX1_faultOf 57 = .ok (.if_icmp .ne 7, 3) := by decide +kernel
theorem dX1_faultOf_60 : decode cX1_faultOf 60 = .ok (.iconst (-1), 1) := by decide +kernel
theorem dX1_faultOf_61 : decode cX1_faultOf 61 = .ok (.goto 7, 3) := by decide +kernel
theorem dX1_faultOf_64 : decode cX1_faultOf 64 = .ok (.aload_n 0, 1) := by decide +kernel
theorem dX1_faultOf_65 : decode cX1_faultOf 65 = .ok (.getfield 32, 3) := by decide +kernel
theorem dX1_faultOf_68 : decode cX1_faultOf 68 = .ok (.ireturn, 1) := by decide +kernel
theorem dX1_sign_0 : decode cX1_sign 0 = .ok (.aload_n 0, 1) := by decide +kernel
theorem dX1_sign_1 : decode cX1_sign 1 = .ok (.getfield 32, 3) := by decide +kernel
theorem dX1_sign_4 : decode cX1_sign 4 = .ok (.ifCond .lt 38, 3) := by decide +kernel
theorem dX1_sign_7 : decode cX1_sign 7 = .ok (.aload_n 0, 1) := by decide +kernel
theorem dX1_sign_8 : decode cX1_sign 8 = .ok (.getfield 32, 3) := by decide +kernel
theorem dX1_sign_11 : decode cX1_sign 11 = .ok (.aload_n 0, 1) := by decide +kernel
theorem dX1_sign_12 : decode cX1_sign 12 = .ok (.getfield 28, 3) := by decide +kernel
theorem dX1_sign_15 : decode cX1_sign 15 = .ok (.if_icmp .ge 27, 3) := by decide +kernel
theorem dX1_sign_18 : decode cX1_sign 18 = .ok (.aload_n 0, 1) := by decide +kernel
theorem dX1_sign_19 : decode cX1_sign 19 = .ok (.getfield 32, 3) := by decide +kernel
theorem dX1_sign_22 : decode cX1_sign 22 = .ok (.aload_n 0, 1) := by decide +kernel
theorem dX1_sign_23 : decode cX1_sign 23 = .ok (.getfield 15, 3) := by decide +kernel
theorem dX1_sign_26 : decode cX1_sign 26 = .ok (.arraylength, 1) := by decide +kernel
theorem dX1_sign_27 : decode cX1_sign 27 = .ok (.if_icmp .ge 15, 3) := by decide +kernel
theorem dX1_sign_30 : decode cX1_sign 30 = .ok (.aload_n 0, 1) := by decide +kernel
theorem dX1_sign_31 : decode cX1_sign 31 = .ok (.getfield 15, 3) := by decide +kernel
theorem dX1_sign_34 : decode cX1_sign 34 = .ok (.aload_n 0, 1) := by decide +kernel
theorem dX1_sign_35 : decode cX1_sign 35 = .ok (.getfield 32, 3) := by decide +kernel
theorem dX1_sign_38 : decode cX1_sign 38 = .ok (.iaload, 1) := by decide +kernel
theorem dX1_sign_39 : decode cX1_sign 39 = .ok (.goto 4, 3) := by decide +kernel
theorem dX1_sign_42 : decode cX1_sign 42 = .ok (.iconst (-1), 1) := by decide +kernel
theorem dX1_sign_43 : decode cX1_sign 43 = .ok (.ireturn, 1) := by decide +kernel
theorem dX1_write_0 : decode cX1_write 0 = .ok (.aload_n 0, 1) := by decide +kernel
theorem dX1_write_1 : decode cX1_write 1 = .ok (.getfield 35, 3) := by decide +kernel
theorem dX1_write_4 : decode cX1_write 4 = .ok (.ifCond .lt 35, 3) := by decide +kernel
theorem dX1_write_7 : decode cX1_write 7 = .ok (.aload_n 0, 1) := by decide +kernel
theorem dX1_write_8 : decode cX1_write 8 = .ok (.getfield 35, 3) := by decide +kernel
theorem dX1_write_11 : decode cX1_write 11 = .ok (.aload_n 0, 1) := by decide +kernel
theorem dX1_write_12 : decode cX1_write 12 = .ok (.getfield 9, 3) := by decide +kernel
theorem dX1_write_15 : decode cX1_write 15 = .ok (.arraylength, 1) := by decide +kernel
theorem dX1_write_16 : decode cX1_write 16 = .ok (.if_icmp .ge 23, 3) := by decide +kernel
theorem dX1_write_19 : decode cX1_write 19 = .ok (.aload_n 0, 1) := by decide +kernel
theorem dX1_write_20 : decode cX1_write 20 = .ok (.getfield 9, 3) := by decide +kernel
theorem dX1_write_23 : decode cX1_write 23 = .ok (.aload_n 0, 1) := by decide +kernel
theorem dX1_write_24 : decode cX1_write 24 = .ok (.getfield 35, 3) := by decide +kernel
theorem dX1_write_27 : decode cX1_write 27 = .ok (.iload_n 1, 1) := by decide +kernel
theorem dX1_write_28 : decode cX1_write 28 = .ok (.iastore, 1) := by decide +kernel
theorem dX1_write_29 : decode cX1_write 29 = .ok (.aload_n 0, 1) := by decide +kernel
theorem dX1_write_30 : decode cX1_write 30 = .ok (.dup, 1) := by decide +kernel
theorem dX1_write_31 : decode cX1_write 31 = .ok (.getfield 35, 3) := by decide +kernel
theorem dX1_write_34 : decode cX1_write 34 = .ok (.iconst 1, 1) := by decide +kernel
theorem dX1_write_35 : decode cX1_write 35 = .ok (.iadd, 1) := by decide +kernel
theorem dX1_write_36 : decode cX1_write 36 = .ok (.putfield 35, 3) := by decide +kernel
theorem dX1_write_39 : decode cX1_write 39 = .ok (.return_, 1) := by decide +kernel
theorem dX1_reads_0 : decode cX1_reads 0 = .ok (.iload_n 1, 1) := by decide +kernel
theorem dX1_reads_1 : decode cX1_reads 1 = .ok (.iconst 5, 1) := by decide +kernel
theorem dX1_reads_2 : decode cX1_reads 2 = .ok (.if_icmp .lt 9, 3) := by decide +kernel
theorem dX1_reads_5 : decode cX1_reads 5 = .ok (.aload_n 0, 1) := by decide +kernel
theorem dX1_reads_6 : decode cX1_reads 6 = .ok (.iload_n 2, 1) := by decide +kernel
theorem dX1_reads_7 : decode cX1_reads 7 = .ok (.invokevirtual 45, 3) := by decide +kernel
theorem dX1_reads_10 : decode cX1_reads 10 = .ok (.ireturn, 1) := by decide +kernel
theorem dX1_reads_11 : decode cX1_reads 11 = .ok (.aload_n 0, 1) := by decide +kernel
theorem dX1_reads_12 : decode cX1_reads 12 = .ok (.iload_n 1, 1) := by decide +kernel
theorem dX1_reads_13 : decode cX1_reads 13 = .ok (.iconst 1, 1) := by decide +kernel
theorem dX1_reads_14 : decode cX1_reads 14 = .ok (.iadd, 1) := by decide +kernel
theorem dX1_reads_15 : decode cX1_reads 15 = .ok (.iload_n 2, 1) := by decide +kernel
theorem dX1_reads_16 : decode cX1_reads 16 = .ok (.invokevirtual 41, 3) := by decide +kernel
theorem dX1_reads_19 : decode cX1_reads 19 = .ok (.ifCond .ne 5, 3) := by decide +kernel
theorem dX1_reads_22 : decode cX1_reads 22 = .ok (.iconst 0, 1) := by decide +kernel
theorem dX1_reads_23 : decode cX1_reads 23 = .ok (.ireturn, 1) := by decide +kernel
theorem dX1_reads_24 : decode cX1_reads 24 = .ok (.iload_n 1, 1) := by decide +kernel
theorem dX1_reads_25 : decode cX1_reads 25 = .ok (.iconst 2, 1) := by decide +kernel
theorem dX1_reads_26 : decode cX1_reads 26 = .ok (.if_icmp .ne 7, 3) := by decide +kernel
theorem dX1_reads_29 : decode cX1_reads 29 = .ok (.iconst 1, 1) := by decide +kernel
theorem dX1_reads_30 : decode cX1_reads 30 = .ok (.goto 5, 3) := by decide +kernel
theorem dX1_reads_33 : decode cX1_reads 33 = .ok (.bipush 60, 2) := by decide +kernel
theorem dX1_reads_35 : decode cX1_reads 35 = .ok (.istore_n 3, 1) := by decide +kernel
theorem dX1_reads_36 : decode cX1_reads 36 = .ok (.iconst 0, 1) := by decide +kernel
theorem dX1_reads_37 : decode cX1_reads 37 = .ok (.istore 4, 2) := by decide +kernel
theorem dX1_reads_39 : decode cX1_reads 39 = .ok (.iload 4, 2) := by decide +kernel
theorem dX1_reads_41 : decode cX1_reads 41 = .ok (.iload_n 3, 1) := by decide +kernel
theorem dX1_reads_42 : decode cX1_reads 42 = .ok (.if_icmp .ge 56, 3) := by decide +kernel
theorem dX1_reads_45 : decode cX1_reads 45 = .ok (.iload_n 1, 1) := by decide +kernel
theorem dX1_reads_46 : decode cX1_reads 46 = .ok (.aload_n 0, 1) := by decide +kernel
theorem dX1_reads_47 : decode cX1_reads 47 = .ok (.invokevirtual 49, 3) := by decide +kernel
theorem dX1_reads_50 : decode cX1_reads 50 = .ok (.invokestatic 53, 3) := by decide +kernel
theorem dX1_reads_53 : decode cX1_reads 53 = .ok (.ifCond .eq 45, 3) := by decide +kernel
theorem dX1_reads_56 : decode cX1_reads 56 = .ok (.aload_n 0, 1) := by decide +kernel
theorem dX1_reads_57 : decode cX1_reads 57 = .ok (.invokevirtual 49, 3) := by decide +kernel
theorem dX1_reads_60 : decode cX1_reads 60 = .ok (.istore 5, 2) := by decide +kernel
theorem dX1_reads_62 : decode cX1_reads 62 = .ok (.aload_n 0, 1) := by decide +kernel
theorem dX1_reads_63 : decode cX1_reads 63 = .ok (.dup, 1) := by decide +kernel
theorem dX1_reads_64 : decode cX1_reads 64 = .ok (.getfield 32, 3) := by decide +kernel
theorem dX1_reads_67 : decode cX1_reads 67 = .ok (.iconst 1, 1) := by decide +kernel
theorem dX1_reads_68 : decode cX1_reads 68 = .ok (.iadd, 1) := by decide +kernel
theorem dX1_reads_69 : decode cX1_reads 69 = .ok (.putfield 32, 3) := by decide +kernel
theorem dX1_reads_72 : decode cX1_reads 72 = .ok (.aload_n 0, 1) := by decide +kernel
theorem dX1_reads_73 : decode cX1_reads 73 = .ok (.iload_n 1, 1) := by decide +kernel
theorem dX1_reads_74 : decode cX1_reads 74 = .ok (.iconst 1, 1) := by decide +kernel
theorem dX1_reads_75 : decode cX1_reads 75 = .ok (.iadd, 1) := by decide +kernel
theorem dX1_reads_76 : decode cX1_reads 76 = .ok (.iload_n 2, 1) := by decide +kernel
theorem dX1_reads_77 : decode cX1_reads 77 = .ok (.invokevirtual 41, 3) := by decide +kernel
theorem dX1_reads_80 : decode cX1_reads 80 = .ok (.ifCond .ne 5, 3) := by decide +kernel
theorem dX1_reads_83 : decode cX1_reads 83 = .ok (.iconst 0, 1) := by decide +kernel
theorem dX1_reads_84 : decode cX1_reads 84 = .ok (.ireturn, 1) := by decide +kernel
theorem dX1_reads_85 : decode cX1_reads 85 = .ok (.aload_n 0, 1) := by decide +kernel
theorem dX1_reads_86 : decode cX1_reads 86 = .ok (.iload 5, 2) := by decide +kernel
theorem dX1_reads_88 : decode cX1_reads 88 = .ok (.ineg, 1) := by decide +kernel
theorem dX1_reads_89 : decode cX1_reads 89 = .ok (.invokevirtual 56, 3) := by decide +kernel
theorem dX1_reads_92 : decode cX1_reads 92 = .ok (.iinc 4 1, 3) := by decide +kernel
theorem dX1_reads_95 : decode cX1_reads 95 = .ok (.goto (-56), 3) := by decide +kernel
theorem dX1_reads_98 : decode cX1_reads 98 = .ok (.iconst 1, 1) := by decide +kernel
theorem dX1_reads_99 : decode cX1_reads 99 = .ok (.ireturn, 1) := by decide +kernel
theorem dX1_joins_0 : decode cX1_joins 0 = .ok (.iload_n 0, 1) := by decide +kernel
theorem dX1_joins_1 : decode cX1_joins 1 = .ok (.tableswitch 97 0 3 #[31, 43, 55, 79], 31) := by decide +kernel
theorem dX1_joins_32 : decode cX1_joins 32 = .ok (.iload_n 1, 1) := by decide +kernel
theorem dX1_joins_33 : decode cX1_joins 33 = .ok (.bipush 124, 2) := by decide +kernel
theorem dX1_joins_35 : decode cX1_joins 35 = .ok (.if_icmp .ne 7, 3) := by decide +kernel
theorem dX1_joins_38 : decode cX1_joins 38 = .ok (.iconst 1, 1) := by decide +kernel
theorem dX1_joins_39 : decode cX1_joins 39 = .ok (.goto 4, 3) := by decide +kernel
theorem dX1_joins_42 : decode cX1_joins 42 = .ok (.iconst 0, 1) := by decide +kernel
theorem dX1_joins_43 : decode cX1_joins 43 = .ok (.ireturn, 1) := by decide +kernel
theorem dX1_joins_44 : decode cX1_joins 44 = .ok (.iload_n 1, 1) := by decide +kernel
theorem dX1_joins_45 : decode cX1_joins 45 = .ok (.bipush 38, 2) := by decide +kernel
theorem dX1_joins_47 : decode cX1_joins 47 = .ok (.if_icmp .ne 7, 3) := by decide +kernel
theorem dX1_joins_50 : decode cX1_joins 50 = .ok (.iconst 1, 1) := by decide +kernel
theorem dX1_joins_51 : decode cX1_joins 51 = .ok (.goto 4, 3) := by decide +kernel
theorem dX1_joins_54 : decode cX1_joins 54 = .ok (.iconst 0, 1) := by decide +kernel
theorem dX1_joins_55 : decode cX1_joins 55 = .ok (.ireturn, 1) := by decide +kernel
theorem dX1_joins_56 : decode cX1_joins 56 = .ok (.iload_n 1, 1) := by decide +kernel
theorem dX1_joins_57 : decode cX1_joins 57 = .ok (.bipush 60, 2) := by decide +kernel
theorem dX1_joins_59 : decode cX1_joins 59 = .ok (.if_icmp .eq 15, 3) := by decide +kernel
theorem dX1_joins_62 : decode cX1_joins 62 = .ok (.iload_n 1, 1) := by decide +kernel
theorem dX1_joins_63 : decode cX1_joins 63 = .ok (.bipush 61, 2) := by decide +kernel
theorem dX1_joins_65 : decode cX1_joins 65 = .ok (.if_icmp .eq 9, 3) := by decide +kernel
theorem dX1_joins_68 : decode cX1_joins 68 = .ok (.iload_n 1, 1) := by decide +kernel
theorem dX1_joins_69 : decode cX1_joins 69 = .ok (.bipush 62, 2) := by decide +kernel
theorem dX1_joins_71 : decode cX1_joins 71 = .ok (.if_icmp .ne 7, 3) := by decide +kernel
theorem dX1_joins_74 : decode cX1_joins 74 = .ok (.iconst 1, 1) := by decide +kernel
theorem dX1_joins_75 : decode cX1_joins 75 = .ok (.goto 4, 3) := by decide +kernel
theorem dX1_joins_78 : decode cX1_joins 78 = .ok (.iconst 0, 1) := by decide +kernel
theorem dX1_joins_79 : decode cX1_joins 79 = .ok (.ireturn, 1) := by decide +kernel
theorem dX1_joins_80 : decode cX1_joins 80 = .ok (.iload_n 1, 1) := by decide +kernel
theorem dX1_joins_81 : decode cX1_joins 81 = .ok (.bipush 43, 2) := by decide +kernel
theorem dX1_joins_83 : decode cX1_joins 83 = .ok (.if_icmp .eq 9, 3) := by decide +kernel
theorem dX1_joins_86 : decode cX1_joins 86 = .ok (.iload_n 1, 1) := by decide +kernel
theorem dX1_joins_87 : decode cX1_joins 87 = .ok (.bipush 45, 2) := by decide +kernel
theorem dX1_joins_89 : decode cX1_joins 89 = .ok (.if_icmp .ne 7, 3) := by decide +kernel
theorem dX1_joins_92 : decode cX1_joins 92 = .ok (.iconst 1, 1) := by decide +kernel
theorem dX1_joins_93 : decode cX1_joins 93 = .ok (.goto 4, 3) := by decide +kernel
theorem dX1_joins_96 : decode cX1_joins 96 = .ok (.iconst 0, 1) := by decide +kernel
theorem dX1_joins_97 : decode cX1_joins 97 = .ok (.ireturn, 1) := by decide +kernel
theorem dX1_joins_98 : decode cX1_joins 98 = .ok (.iload_n 1, 1) := by decide +kernel
theorem dX1_joins_99 : decode cX1_joins 99 = .ok (.bipush 42, 2) := by decide +kernel
theorem dX1_joins_101 : decode cX1_joins 101 = .ok (.if_icmp .eq 15, 3) := by decide +kernel
theorem dX1_joins_104 : decode cX1_joins 104 = .ok (.iload_n 1, 1) := by decide +kernel
theorem dX1_joins_105 : decode cX1_joins 105 = .ok (.bipush 47, 2) := by decide +kernel
theorem dX1_joins_107 : decode cX1_joins 107 = .ok (.if_icmp .eq 9, 3) := by decide +kernel
theorem dX1_joins_110 : decode cX1_joins 110 = .ok (.iload_n 1, 1) := by decide +kernel
theorem dX1_joins_111 : decode cX1_joins 111 = .ok (.bipush 37, 2) := by decide +kernel
theorem dX1_joins_113 : decode cX1_joins 113 = .ok (.if_icmp .ne 7, 3) := by decide +kernel
theorem dX1_joins_116 : decode cX1_joins 116 = .ok (.iconst 1, 1) := by decide +kernel
theorem dX1_joins_117 : decode cX1_joins 117 = .ok (.goto 4, 3) := by decide +kernel
theorem dX1_joins_120 : decode cX1_joins 120 = .ok (.iconst 0, 1) := by decide +kernel
theorem dX1_joins_121 : decode cX1_joins 121 = .ok (.ireturn, 1) := by decide +kernel
theorem dX1_readsSmallest_0 : decode cX1_readsSmallest 0 = .ok (.aload_n 0, 1) := by decide +kernel
theorem dX1_readsSmallest_1 : decode cX1_readsSmallest 1 = .ok (.invokevirtual 49, 3) := by decide +kernel
theorem dX1_readsSmallest_4 : decode cX1_readsSmallest 4 = .ok (.istore_n 2, 1) := by decide +kernel
theorem dX1_readsSmallest_5 : decode cX1_readsSmallest 5 = .ok (.iload_n 2, 1) := by decide +kernel
theorem dX1_readsSmallest_6 : decode cX1_readsSmallest 6 = .ok (.invokestatic 60, 3) := by decide +kernel
theorem dX1_readsSmallest_9 : decode cX1_readsSmallest 9 = .ok (.ifCond .eq 9, 3) := by decide +kernel
theorem dX1_readsSmallest_12 : decode cX1_readsSmallest 12 = .ok (.aload_n 0, 1) := by decide +kernel
theorem dX1_readsSmallest_13 : decode cX1_readsSmallest 13 = .ok (.invokevirtual 63, 3) := by decide +kernel
theorem dX1_readsSmallest_16 : decode cX1_readsSmallest 16 = .ok (.iconst 1, 1) := by decide +kernel
theorem dX1_readsSmallest_17 : decode cX1_readsSmallest 17 = .ok (.ireturn, 1) := by decide +kernel
theorem dX1_readsSmallest_18 : decode cX1_readsSmallest 18 = .ok (.iload_n 2, 1) := by decide +kernel
theorem dX1_readsSmallest_19 : decode cX1_readsSmallest 19 = .ok (.bipush 33, 2) := by decide +kernel
theorem dX1_readsSmallest_21 : decode cX1_readsSmallest 21 = .ok (.if_icmp .eq 9, 3) := by decide +kernel
theorem dX1_readsSmallest_24 : decode cX1_readsSmallest 24 = .ok (.iload_n 2, 1) := by decide +kernel
theorem dX1_readsSmallest_25 : decode cX1_readsSmallest 25 = .ok (.bipush 40, 2) := by decide +kernel
theorem dX1_readsSmallest_27 : decode cX1_readsSmallest 27 = .ok (.if_icmp .ne 25, 3) := by decide +kernel
theorem dX1_readsSmallest_30 : decode cX1_readsSmallest 30 = .ok (.iload_n 1, 1) := by decide +kernel
theorem dX1_readsSmallest_31 : decode cX1_readsSmallest 31 = .ok (.iconst 5, 1) := by decide +kernel
theorem dX1_readsSmallest_32 : decode cX1_readsSmallest 32 = .ok (.if_icmp .ge 18, 3) := by decide +kernel
theorem dX1_readsSmallest_35 : decode cX1_readsSmallest 35 = .ok (.aload_n 0, 1) := by decide +kernel
theorem dX1_readsSmallest_36 : decode cX1_readsSmallest 36 = .ok (.iload_n 2, 1) := by decide +kernel
theorem dX1_readsSmallest_37 : decode cX1_readsSmallest 37 = .ok (.iload_n 1, 1) := by decide +kernel
theorem dX1_readsSmallest_38 : decode cX1_readsSmallest 38 = .ok (.iconst 1, 1) := by decide +kernel
theorem dX1_readsSmallest_39 : decode cX1_readsSmallest 39 = .ok (.iadd, 1) := by decide +kernel
theorem dX1_readsSmallest_40 : decode cX1_readsSmallest 40 = .ok (.invokevirtual 66, 3) := by decide +kernel
theorem dX1_readsSmallest_43 : decode cX1_readsSmallest 43 = .ok (.ifCond .eq 7, 3) := by decide +kernel
theorem dX1_readsSmallest_46 : decode cX1_readsSmallest 46 = .ok (.iconst 1, 1) := by decide +kernel
theorem dX1_readsSmallest_47 : decode cX1_readsSmallest 47 = .ok (.goto 4, 3) := by decide +kernel
theorem dX1_readsSmallest_50 : decode cX1_readsSmallest 50 = .ok (.iconst 0, 1) := by decide +kernel
theorem dX1_readsSmallest_51 : decode cX1_readsSmallest 51 = .ok (.ireturn, 1) := by decide +kernel
theorem dX1_readsSmallest_52 : decode cX1_readsSmallest 52 = .ok (.aload_n 0, 1) := by decide +kernel
theorem dX1_readsSmallest_53 : decode cX1_readsSmallest 53 = .ok (.iload_n 2, 1) := by decide +kernel
theorem dX1_readsSmallest_54 : decode cX1_readsSmallest 54 = .ok (.invokevirtual 69, 3) := by decide +kernel
theorem dX1_readsSmallest_57 : decode cX1_readsSmallest 57 = .ok (.ireturn, 1) := by decide +kernel
theorem dX1_readsOpened_0 : decode cX1_readsOpened 0 = .ok (.aload_n 0, 1) := by decide +kernel
theorem dX1_readsOpened_1 : decode cX1_readsOpened 1 = .ok (.dup, 1) := by decide +kernel
theorem dX1_readsOpened_2 : decode cX1_readsOpened 2 = .ok (.getfield 32, 3) := by decide +kernel
theorem dX1_readsOpened_5 : decode cX1_readsOpened 5 = .ok (.iconst 1, 1) := by decide +kernel
theorem dX1_readsOpened_6 : decode cX1_readsOpened 6 = .ok (.iadd, 1) := by decide +kernel
theorem dX1_readsOpened_7 : decode cX1_readsOpened 7 = .ok (.putfield 32, 3) := by decide +kernel
theorem dX1_readsOpened_10 : decode cX1_readsOpened 10 = .ok (.iload_n 1, 1) := by decide +kernel
theorem dX1_readsOpened_11 : decode cX1_readsOpened 11 = .ok (.bipush 33, 2) := by decide +kernel
theorem dX1_readsOpened_13 : decode cX1_readsOpened 13 = .ok (.if_icmp .ne 21, 3) := by decide +kernel
theorem dX1_readsOpened_16 : decode cX1_readsOpened 16 = .ok (.aload_n 0, 1) := by decide +kernel
theorem dX1_readsOpened_17 : decode cX1_readsOpened 17 = .ok (.iload_n 2, 1) := by decide +kernel
theorem dX1_readsOpened_18 : decode cX1_readsOpened 18 = .ok (.invokevirtual 45, 3) := by decide +kernel
theorem dX1_readsOpened_21 : decode cX1_readsOpened 21 = .ok (.ifCond .ne 5, 3) := by decide +kernel
theorem dX1_readsOpened_24 : decode cX1_readsOpened 24 = .ok (.iconst 0, 1) := by decide +kernel
theorem dX1_readsOpened_25 : decode cX1_readsOpened 25 = .ok (.ireturn, 1) := by decide +kernel
theorem dX1_readsOpened_26 : decode cX1_readsOpened 26 = .ok (.aload_n 0, 1) := by decide +kernel
theorem dX1_readsOpened_27 : decode cX1_readsOpened 27 = .ok (.bipush (-33), 2) := by decide +kernel
theorem dX1_readsOpened_29 : decode cX1_readsOpened 29 = .ok (.invokevirtual 56, 3) := by decide +kernel
theorem dX1_readsOpened_32 : decode cX1_readsOpened 32 = .ok (.iconst 1, 1) := by decide +kernel
theorem dX1_readsOpened_33 : decode cX1_readsOpened 33 = .ok (.ireturn, 1) := by decide +kernel
theorem dX1_readsOpened_34 : decode cX1_readsOpened 34 = .ok (.aload_n 0, 1) := by decide +kernel
theorem dX1_readsOpened_35 : decode cX1_readsOpened 35 = .ok (.iconst 0, 1) := by decide +kernel
theorem dX1_readsOpened_36 : decode cX1_readsOpened 36 = .ok (.iload_n 2, 1) := by decide +kernel
theorem dX1_readsOpened_37 : decode cX1_readsOpened 37 = .ok (.invokevirtual 41, 3) := by decide +kernel
theorem dX1_readsOpened_40 : decode cX1_readsOpened 40 = .ok (.ifCond .eq 12, 3) := by decide +kernel
theorem dX1_readsOpened_43 : decode cX1_readsOpened 43 = .ok (.aload_n 0, 1) := by decide +kernel
theorem dX1_readsOpened_44 : decode cX1_readsOpened 44 = .ok (.invokevirtual 49, 3) := by decide +kernel
theorem dX1_readsOpened_47 : decode cX1_readsOpened 47 = .ok (.bipush 41, 2) := by decide +kernel
theorem dX1_readsOpened_49 : decode cX1_readsOpened 49 = .ok (.if_icmp .eq 5, 3) := by decide +kernel
theorem dX1_readsOpened_52 : decode cX1_readsOpened 52 = .ok (.iconst 0, 1) := by decide +kernel
theorem dX1_readsOpened_53 : decode cX1_readsOpened 53 = .ok (.ireturn, 1) := by decide +kernel
theorem dX1_readsOpened_54 : decode cX1_readsOpened 54 = .ok (.aload_n 0, 1) := by decide +kernel
theorem dX1_readsOpened_55 : decode cX1_readsOpened 55 = .ok (.dup, 1) := by decide +kernel
theorem dX1_readsOpened_56 : decode cX1_readsOpened 56 = .ok (.getfield 32, 3) := by decide +kernel
theorem dX1_readsOpened_59 : decode cX1_readsOpened 59 = .ok (.iconst 1, 1) := by decide +kernel
theorem dX1_readsOpened_60 : decode cX1_readsOpened 60 = .ok (.iadd, 1) := by decide +kernel
theorem dX1_readsOpened_61 : decode cX1_readsOpened 61 = .ok (.putfield 32, 3) := by decide +kernel
theorem dX1_readsOpened_64 : decode cX1_readsOpened 64 = .ok (.iconst 1, 1) := by decide +kernel
theorem dX1_readsOpened_65 : decode cX1_readsOpened 65 = .ok (.ireturn, 1) := by decide +kernel
theorem dX1_readsName_0 : decode cX1_readsName 0 = .ok (.iconst 0, 1) := by decide +kernel
theorem dX1_readsName_1 : decode cX1_readsName 1 = .ok (.istore_n 2, 1) := by decide +kernel
theorem dX1_readsName_2 : decode cX1_readsName 2 = .ok (.iload_n 2, 1) := by decide +kernel
theorem dX1_readsName_3 : decode cX1_readsName 3 = .ok (.iconst 3, 1) := by decide +kernel
theorem dX1_readsName_4 : decode cX1_readsName 4 = .ok (.if_icmp .ge 58, 3) := by decide +kernel
theorem dX1_readsName_7 : decode cX1_readsName 7 = .ok (.aload_n 0, 1) := by decide +kernel
theorem dX1_readsName_8 : decode cX1_readsName 8 = .ok (.getfield 38, 3) := by decide +kernel
theorem dX1_readsName_11 : decode cX1_readsName 11 = .ok (.iload_n 2, 1) := by decide +kernel
theorem dX1_readsName_12 : decode cX1_readsName 12 = .ok (.iadd, 1) := by decide +kernel
theorem dX1_readsName_13 : decode cX1_readsName 13 = .ok (.istore_n 3, 1) := by decide +kernel
theorem dX1_readsName_14 : decode cX1_readsName 14 = .ok (.iload_n 3, 1) := by decide +kernel
theorem dX1_readsName_15 : decode cX1_readsName 15 = .ok (.ifCond .lt 41, 3) := by decide +kernel
theorem dX1_readsName_18 : decode cX1_readsName 18 = .ok (.iload_n 3, 1) := by decide +kernel
theorem dX1_readsName_19 : decode cX1_readsName 19 = .ok (.getstatic 72, 3) := by decide +kernel
theorem dX1_readsName_22 : decode cX1_readsName 22 = .ok (.arraylength, 1) := by decide +kernel
theorem dX1_readsName_23 : decode cX1_readsName 23 = .ok (.if_icmp .ge 33, 3) := by decide +kernel
theorem dX1_readsName_26 : decode cX1_readsName 26 = .ok (.getstatic 72, 3) := by decide +kernel
theorem dX1_readsName_29 : decode cX1_readsName 29 = .ok (.iload_n 3, 1) := by decide +kernel
theorem dX1_readsName_30 : decode cX1_readsName 30 = .ok (.caload, 1) := by decide +kernel
theorem dX1_readsName_31 : decode cX1_readsName 31 = .ok (.iload_n 1, 1) := by decide +kernel
theorem dX1_readsName_32 : decode cX1_readsName 32 = .ok (.if_icmp .ne 24, 3) := by decide +kernel
theorem dX1_readsName_35 : decode cX1_readsName 35 = .ok (.aload_n 0, 1) := by decide +kernel
theorem dX1_readsName_36 : decode cX1_readsName 36 = .ok (.dup, 1) := by decide +kernel
theorem dX1_readsName_37 : decode cX1_readsName 37 = .ok (.getfield 32, 3) := by decide +kernel
theorem dX1_readsName_40 : decode cX1_readsName 40 = .ok (.iconst 1, 1) := by decide +kernel
theorem dX1_readsName_41 : decode cX1_readsName 41 = .ok (.iadd, 1) := by decide +kernel
theorem dX1_readsName_42 : decode cX1_readsName 42 = .ok (.putfield 32, 3) := by decide +kernel
theorem dX1_readsName_45 : decode cX1_readsName 45 = .ok (.aload_n 0, 1) := by decide +kernel
theorem dX1_readsName_46 : decode cX1_readsName 46 = .ok (.sipush 10000, 3) := by decide +kernel
theorem dX1_readsName_49 : decode cX1_readsName 49 = .ok (.iload_n 2, 1) := by decide +kernel
theorem dX1_readsName_50 : decode cX1_readsName 50 = .ok (.iadd, 1) := by decide +kernel
theorem dX1_readsName_51 : decode cX1_readsName 51 = .ok (.invokevirtual 56, 3) := by decide +kernel
theorem dX1_readsName_54 : decode cX1_readsName 54 = .ok (.iconst 1, 1) := by decide +kernel
theorem dX1_readsName_55 : decode cX1_readsName 55 = .ok (.ireturn, 1) := by decide +kernel
theorem dX1_readsName_56 : decode cX1_readsName 56 = .ok (.iinc 2 1, 3) := by decide +kernel
theorem dX1_readsName_59 : decode cX1_readsName 59 = .ok (.goto (-57), 3) := by decide +kernel
theorem dX1_readsName_62 : decode cX1_readsName 62 = .ok (.iconst 0, 1) := by decide +kernel
theorem dX1_readsName_63 : decode cX1_readsName 63 = .ok (.ireturn, 1) := by decide +kernel
theorem dX1_readNumber_0 : decode cX1_readNumber 0 = .ok (.iconst 0, 1) := by decide +kernel
theorem dX1_readNumber_1 : decode cX1_readNumber 1 = .ok (.istore_n 1, 1) := by decide +kernel
theorem dX1_readNumber_2 : decode cX1_readNumber 2 = .ok (.iconst 0, 1) := by decide +kernel
theorem dX1_readNumber_3 : decode cX1_readNumber 3 = .ok (.istore_n 2, 1) := by decide +kernel
theorem dX1_readNumber_4 : decode cX1_readNumber 4 = .ok (.iload_n 2, 1) := by decide +kernel
theorem dX1_readNumber_5 : decode cX1_readNumber 5 = .ok (.iconst 4, 1) := by decide +kernel
theorem dX1_readNumber_6 : decode cX1_readNumber 6 = .ok (.if_icmp .ge 42, 3) := by decide +kernel
theorem dX1_readNumber_9 : decode cX1_readNumber 9 = .ok (.aload_n 0, 1) := by decide +kernel
theorem dX1_readNumber_10 : decode cX1_readNumber 10 = .ok (.invokevirtual 49, 3) := by decide +kernel
theorem dX1_readNumber_13 : decode cX1_readNumber 13 = .ok (.invokestatic 60, 3) := by decide +kernel
theorem dX1_readNumber_16 : decode cX1_readNumber 16 = .ok (.ifCond .eq 32, 3) := by decide +kernel
theorem dX1_readNumber_19 : decode cX1_readNumber 19 = .ok (.iload_n 1, 1) := by decide +kernel
theorem dX1_readNumber_20 : decode cX1_readNumber 20 = .ok (.bipush 10, 2) := by decide +kernel
theorem dX1_readNumber_22 : decode cX1_readNumber 22 = .ok (.imul, 1) := by decide +kernel
theorem dX1_readNumber_23 : decode cX1_readNumber 23 = .ok (.aload_n 0, 1) := by decide +kernel
theorem dX1_readNumber_24 : decode cX1_readNumber 24 = .ok (.invokevirtual 49, 3) := by decide +kernel
theorem dX1_readNumber_27 : decode cX1_readNumber 27 = .ok (.bipush 48, 2) := by decide +kernel
theorem dX1_readNumber_29 : decode cX1_readNumber 29 = .ok (.isub, 1) := by decide +kernel
theorem dX1_readNumber_30 : decode cX1_readNumber 30 = .ok (.iadd, 1) := by decide +kernel
theorem dX1_readNumber_31 : decode cX1_readNumber 31 = .ok (.istore_n 1, 1) := by decide +kernel
theorem dX1_readNumber_32 : decode cX1_readNumber 32 = .ok (.aload_n 0, 1) := by decide +kernel
theorem dX1_readNumber_33 : decode cX1_readNumber 33 = .ok (.dup, 1) := by decide +kernel
theorem dX1_readNumber_34 : decode cX1_readNumber 34 = .ok (.getfield 32, 3) := by decide +kernel
theorem dX1_readNumber_37 : decode cX1_readNumber 37 = .ok (.iconst 1, 1) := by decide +kernel
theorem dX1_readNumber_38 : decode cX1_readNumber 38 = .ok (.iadd, 1) := by decide +kernel
theorem dX1_readNumber_39 : decode cX1_readNumber 39 = .ok (.putfield 32, 3) := by decide +kernel
theorem dX1_readNumber_42 : decode cX1_readNumber 42 = .ok (.iinc 2 1, 3) := by decide +kernel
theorem dX1_readNumber_45 : decode cX1_readNumber 45 = .ok (.goto (-41), 3) := by decide +kernel
theorem dX1_readNumber_48 : decode cX1_readNumber 48 = .ok (.aload_n 0, 1) := by decide +kernel
theorem dX1_readNumber_49 : decode cX1_readNumber 49 = .ok (.iload_n 1, 1) := by decide +kernel
theorem dX1_readNumber_50 : decode cX1_readNumber 50 = .ok (.invokevirtual 56, 3) := by decide +kernel
theorem dX1_readNumber_53 : decode cX1_readNumber 53 = .ok (.return_, 1) := by decide +kernel
theorem dX1_isDigit_0 : decode cX1_isDigit 0 = .ok (.iload_n 0, 1) := by decide +kernel
theorem dX1_isDigit_1 : decode cX1_isDigit 1 = .ok (.bipush 48, 2) := by decide +kernel
theorem dX1_isDigit_3 : decode cX1_isDigit 3 = .ok (.if_icmp .lt 13, 3) := by decide +kernel
theorem dX1_isDigit_6 : decode cX1_isDigit 6 = .ok (.iload_n 0, 1) := by decide +kernel
theorem dX1_isDigit_7 : decode cX1_isDigit 7 = .ok (.bipush 57, 2) := by decide +kernel
theorem dX1_isDigit_9 : decode cX1_isDigit 9 = .ok (.if_icmp .gt 7, 3) := by decide +kernel
theorem dX1_isDigit_12 : decode cX1_isDigit 12 = .ok (.iconst 1, 1) := by decide +kernel
theorem dX1_isDigit_13 : decode cX1_isDigit 13 = .ok (.goto 4, 3) := by decide +kernel
theorem dX1_isDigit_16 : decode cX1_isDigit 16 = .ok (.iconst 0, 1) := by decide +kernel
theorem dX1_isDigit_17 : decode cX1_isDigit 17 = .ok (.ireturn, 1) := by decide +kernel
theorem dX2_init_0 : decode cX2_init 0 = .ok (.aload_n 0, 1) := by decide +kernel
theorem dX2_init_1 : decode cX2_init 1 = .ok (.invokespecial 1, 3) := by decide +kernel
theorem dX2_init_4 : decode cX2_init 4 = .ok (.aload_n 0, 1) := by decide +kernel
theorem dX2_init_5 : decode cX2_init 5 = .ok (.iconst 4, 1) := by decide +kernel
theorem dX2_init_6 : decode cX2_init 6 = .ok (.bipush 24, 2) := by decide +kernel
theorem dX2_init_8 : decode cX2_init 8 = .ok (.multianewarray 9 2, 4) := by decide +kernel
theorem dX2_init_12 : decode cX2_init 12 = .ok (.putfield 11, 3) := by decide +kernel
theorem dX2_init_15 : decode cX2_init 15 = .ok (.aload_n 0, 1) := by decide +kernel
theorem dX2_init_16 : decode cX2_init 16 = .ok (.iconst 4, 1) := by decide +kernel
theorem dX2_init_17 : decode cX2_init 17 = .ok (.newarray .int, 2) := by decide +kernel
theorem dX2_init_19 : decode cX2_init 19 = .ok (.putfield 14, 3) := by decide +kernel
theorem dX2_init_22 : decode cX2_init 22 = .ok (.aload_n 0, 1) := by decide +kernel
theorem dX2_init_23 : decode cX2_init 23 = .ok (.iconst 4, 1) := by decide +kernel
theorem dX2_init_24 : decode cX2_init 24 = .ok (.newarray .int, 2) := by decide +kernel
theorem dX2_init_26 : decode cX2_init 26 = .ok (.putfield 18, 3) := by decide +kernel
theorem dX2_init_29 : decode cX2_init 29 = .ok (.return_, 1) := by decide +kernel
theorem dX2_bits_0 : decode cX2_bits 0 = .ok (.iload_n 1, 1) := by decide +kernel
theorem dX2_bits_1 : decode cX2_bits 1 = .ok (.invokestatic 21, 3) := by decide +kernel
theorem dX2_bits_4 : decode cX2_bits 4 = .ok (.ifCond .eq 12, 3) := by decide +kernel
theorem dX2_bits_7 : decode cX2_bits 7 = .ok (.aload_n 0, 1) := by decide +kernel
theorem dX2_bits_8 : decode cX2_bits 8 = .ok (.getfield 14, 3) := by decide +kernel
theorem dX2_bits_11 : decode cX2_bits 11 = .ok (.iload_n 1, 1) := by decide +kernel
theorem dX2_bits_12 : decode cX2_bits 12 = .ok (.iaload, 1) := by decide +kernel
theorem dX2_bits_13 : decode cX2_bits 13 = .ok (.goto 4, 3) := by decide +kernel
theorem dX2_bits_16 : decode cX2_bits 16 = .ok (.iconst 0, 1) := by decide +kernel
theorem dX2_bits_17 : decode cX2_bits 17 = .ok (.ireturn, 1) := by decide +kernel
theorem dX2_isMissing_0 : decode cX2_isMissing 0 = .ok (.aload_n 0, 1) := by decide +kernel
theorem dX2_isMissing_1 : decode cX2_isMissing 1 = .ok (.iload_n 1, 1) := by decide +kernel
theorem dX2_isMissing_2 : decode cX2_isMissing 2 = .ok (.invokevirtual 27, 3) := by decide +kernel
theorem dX2_isMissing_5 : decode cX2_isMissing 5 = .ok (.ifCond .ne 7, 3) := by decide +kernel
theorem dX2_isMissing_8 : decode cX2_isMissing 8 = .ok (.iconst 1, 1) := by decide +kernel
theorem dX2_isMissing_9 : decode cX2_isMissing 9 = .ok (.goto 4, 3) := by decide +kernel
theorem dX2_isMissing_12 : decode cX2_isMissing 12 = .ok (.iconst 0, 1) := by decide +kernel
theorem dX2_isMissing_13 : decode cX2_isMissing 13 = .ok (.ireturn, 1) := by decide +kernel
theorem dX2_size_0 : decode cX2_size 0 = .ok (.iload_n 1, 1) := by decide +kernel
theorem dX2_size_1 : decode cX2_size 1 = .ok (.invokestatic 21, 3) := by decide +kernel
theorem dX2_size_4 : decode cX2_size 4 = .ok (.ifCond .eq 12, 3) := by decide +kernel
theorem dX2_size_7 : decode cX2_size 7 = .ok (.aload_n 0, 1) := by decide +kernel
theorem dX2_size_8 : decode cX2_size 8 = .ok (.getfield 18, 3) := by decide +kernel
theorem dX2_size_11 : decode cX2_size 11 = .ok (.iload_n 1, 1) := by decide +kernel
theorem dX2_size_12 : decode cX2_size 12 = .ok (.iaload, 1) := by decide +kernel
theorem dX2_size_13 : decode cX2_size 13 = .ok (.goto 4, 3) := by decide +kernel
theorem dX2_size_16 : decode cX2_size 16 = .ok (.iconst 0, 1) := by decide +kernel
theorem dX2_size_17 : decode cX2_size 17 = .ok (.ireturn, 1) := by decide +kernel
theorem dX2_holds_0 : decode cX2_holds 0 = .ok (.iload_n 3, 1) := by decide +kernel
theorem dX2_holds_1 : decode cX2_holds 1 = .ok (.ifCond .lt 31, 3) := by decide +kernel
theorem dX2_holds_4 : decode cX2_holds 4 = .ok (.iload_n 2, 1) := by decide +kernel
theorem dX2_holds_5 : decode cX2_holds 5 = .ok (.ifCond .lt 27, 3) := by decide +kernel
theorem dX2_holds_8 : decode cX2_holds 8 = .ok (.iload_n 3, 1) := by decide +kernel
theorem dX2_holds_9 : decode cX2_holds 9 = .ok (.aload_n 0, 1) := by decide +kernel
theorem dX2_holds_10 : decode cX2_holds 10 = .ok (.iload_n 1, 1) := by decide +kernel
theorem dX2_holds_11 : decode cX2_holds 11 = .ok (.invokevirtual 31, 3) := by decide +kernel
theorem dX2_holds_14 : decode cX2_holds 14 = .ok (.if_icmp .gt 18, 3) := by decide +kernel
theorem dX2_holds_17 : decode cX2_holds 17 = .ok (.iload_n 2, 1) := by decide +kernel
theorem dX2_holds_18 : decode cX2_holds 18 = .ok (.aload_n 0, 1) := by decide +kernel
theorem dX2_holds_19 : decode cX2_holds 19 = .ok (.iload_n 1, 1) := by decide +kernel
theorem dX2_holds_20 : decode cX2_holds 20 = .ok (.invokevirtual 31, 3) := by decide +kernel
theorem dX2_holds_23 : decode cX2_holds 23 = .ok (.iload_n 3, 1) := by decide +kernel
theorem dX2_holds_24 : decode cX2_holds 24 = .ok (.isub, 1) := by decide +kernel
theorem dX2_holds_25 : decode cX2_holds 25 = .ok (.if_icmp .gt 7, 3) := by decide +kernel
theorem dX2_holds_28 : decode cX2_holds 28 = .ok (.iconst 1, 1) := by decide +kernel
theorem dX2_holds_29 : decode cX2_holds 29 = .ok (.goto 4, 3) := by decide +kernel
theorem dX2_holds_32 : decode cX2_holds 32 = .ok (.iconst 0, 1) := by decide +kernel
theorem dX2_holds_33 : decode cX2_holds 33 = .ok (.ireturn, 1) := by decide +kernel
theorem dX2_number_0 : decode cX2_number 0 = .ok (.aload_n 0, 1) := by decide +kernel
theorem dX2_number_1 : decode cX2_number 1 = .ok (.iload_n 1, 1) := by decide +kernel
theorem dX2_number_2 : decode cX2_number 2 = .ok (.iload_n 2, 1) := by decide +kernel
theorem dX2_number_3 : decode cX2_number 3 = .ok (.iconst 1, 1) := by decide +kernel
theorem dX2_number_4 : decode cX2_number 4 = .ok (.invokevirtual 34, 3) := by decide +kernel
theorem dX2_number_7 : decode cX2_number 7 = .ok (.ifCond .eq 14, 3) := by decide +kernel
theorem dX2_number_10 : decode cX2_number 10 = .ok (.aload_n 0, 1) := by decide +kernel
theorem dX2_number_11 : decode cX2_number 11 = .ok (.getfield 11, 3) := by decide +kernel
theorem dX2_number_14 : decode cX2_number 14 = .ok (.iload_n 1, 1) := by decide +kernel
theorem dX2_number_15 : decode cX2_number 15 = .ok (.aaload, 1) := by decide +kernel
theorem dX2_number_16 : decode cX2_number 16 = .ok (.iload_n 2, 1) := by decide +kernel
theorem dX2_number_17 : decode cX2_number 17 = .ok (.iaload, 1) := by decide +kernel
theorem dX2_number_18 : decode cX2_number 18 = .ok (.goto 4, 3) := by decide +kernel
theorem dX2_number_21 : decode cX2_number 21 = .ok (.iconst 0, 1) := by decide +kernel
theorem dX2_number_22 : decode cX2_number 22 = .ok (.ireturn, 1) := by decide +kernel
theorem dX2_renew_0 : decode cX2_renew 0 = .ok (.iload_n 1, 1) := by decide +kernel
theorem dX2_renew_1 : decode cX2_renew 1 = .ok (.invokestatic 21, 3) := by decide +kernel
theorem dX2_renew_4 : decode cX2_renew 4 = .ok (.ifCond .ne 4, 3) := by decide +kernel
theorem dX2_renew_7 : decode cX2_renew 7 = .ok (.return_, 1) := by decide +kernel
theorem dX2_renew_8 : decode cX2_renew 8 = .ok (.aload_n 0, 1) := by decide +kernel
theorem dX2_renew_9 : decode cX2_renew 9 = .ok (.getfield 14, 3) := by decide +kernel
theorem dX2_renew_12 : decode cX2_renew 12 = .ok (.iload_n 1, 1) := by decide +kernel
theorem dX2_renew_13 : decode cX2_renew 13 = .ok (.iload_n 2, 1) := by decide +kernel
theorem dX2_renew_14 : decode cX2_renew 14 = .ok (.iastore, 1) := by decide +kernel
theorem dX2_renew_15 : decode cX2_renew 15 = .ok (.aload_n 0, 1) := by decide +kernel
theorem dX2_renew_16 : decode cX2_renew 16 = .ok (.getfield 18, 3) := by decide +kernel
theorem dX2_renew_19 : decode cX2_renew 19 = .ok (.iload_n 1, 1) := by decide +kernel
theorem dX2_renew_20 : decode cX2_renew 20 = .ok (.iload_n 3, 1) := by decide +kernel
theorem dX2_renew_21 : decode cX2_renew 21 = .ok (.iconst 0, 1) := by decide +kernel
theorem dX2_renew_22 : decode cX2_renew 22 = .ok (.bipush 24, 2) := by decide +kernel
theorem dX2_renew_24 : decode cX2_renew 24 = .ok (.invokestatic 38, 3) := by decide +kernel
theorem dX2_renew_27 : decode cX2_renew 27 = .ok (.iastore, 1) := by decide +kernel
theorem dX2_renew_28 : decode cX2_renew 28 = .ok (.iconst 0, 1) := by decide +kernel
theorem dX2_renew_29 : decode cX2_renew 29 = .ok (.istore 4, 2) := by decide +kernel
theorem dX2_renew_31 : decode cX2_renew 31 = .ok (.iload 4, 2) := by decide +kernel
theorem dX2_renew_33 : decode cX2_renew 33 = .ok (.bipush 24, 2) := by decide +kernel
theorem dX2_renew_35 : decode cX2_renew 35 = .ok (.if_icmp .ge 19, 3) := by decide +kernel
theorem dX2_renew_38 : decode cX2_renew 38 = .ok (.aload_n 0, 1) := by decide +kernel
theorem dX2_renew_39 : decode cX2_renew 39 = .ok (.getfield 11, 3) := by decide +kernel
theorem dX2_renew_42 : decode cX2_renew 42 = .ok (.iload_n 1, 1) := by decide +kernel
theorem dX2_renew_43 : decode cX2_renew 43 = .ok (.aaload, 1) := by decide +kernel
theorem dX2_renew_44 : decode cX2_renew 44 = .ok (.iload 4, 2) := by decide +kernel
theorem dX2_renew_46 : decode cX2_renew 46 = .ok (.iconst 0, 1) := by decide +kernel
theorem dX2_renew_47 : decode cX2_renew 47 = .ok (.iastore, 1) := by decide +kernel
theorem dX2_renew_48 : decode cX2_renew 48 = .ok (.iinc 4 1, 3) := by decide +kernel
theorem dX2_renew_51 : decode cX2_renew 51 = .ok (.goto (-20), 3) := by decide +kernel
theorem dX2_renew_54 : decode cX2_renew 54 = .ok (.return_, 1) := by decide +kernel
theorem dX2_write_0 : decode cX2_write 0 = .ok (.aload_n 0, 1) := by decide +kernel
theorem dX2_write_1 : decode cX2_write 1 = .ok (.iload_n 1, 1) := by decide +kernel
theorem dX2_write_2 : decode cX2_write 2 = .ok (.iload_n 2, 1) := by decide +kernel
theorem dX2_write_3 : decode cX2_write 3 = .ok (.iconst 1, 1) := by decide +kernel
theorem dX2_write_4 : decode cX2_write 4 = .ok (.invokevirtual 34, 3) := by decide +kernel
theorem dX2_write_7 : decode cX2_write 7 = .ok (.ifCond .eq 21, 3) := by decide +kernel
theorem dX2_write_10 : decode cX2_write 10 = .ok (.aload_n 0, 1) := by decide +kernel
theorem dX2_write_11 : decode cX2_write 11 = .ok (.getfield 11, 3) := by decide +kernel
theorem dX2_write_14 : decode cX2_write 14 = .ok (.iload_n 1, 1) := by decide +kernel
theorem dX2_write_15 : decode cX2_write 15 = .ok (.aaload, 1) := by decide +kernel
theorem dX2_write_16 : decode cX2_write 16 = .ok (.iload_n 2, 1) := by decide +kernel
theorem dX2_write_17 : decode cX2_write 17 = .ok (.iload_n 3, 1) := by decide +kernel
theorem dX2_write_18 : decode cX2_write 18 = .ok (.aload_n 0, 1) := by decide +kernel
theorem dX2_write_19 : decode cX2_write 19 = .ok (.getfield 14, 3) := by decide +kernel
theorem dX2_write_22 : decode cX2_write 22 = .ok (.iload_n 1, 1) := by decide +kernel
theorem dX2_write_23 : decode cX2_write 23 = .ok (.iaload, 1) := by decide +kernel
theorem dX2_write_24 : decode cX2_write 24 = .ok (.invokestatic 42, 3) := by decide +kernel
theorem dX2_write_27 : decode cX2_write 27 = .ok (.iastore, 1) := by decide +kernel
theorem dX2_write_28 : decode cX2_write 28 = .ok (.return_, 1) := by decide +kernel
theorem dX2_copy_0 : decode cX2_copy 0 = .ok (.aload_n 0, 1) := by decide +kernel
theorem dX2_copy_1 : decode cX2_copy 1 = .ok (.iload_n 1, 1) := by decide +kernel
theorem dX2_copy_2 : decode cX2_copy 2 = .ok (.iload_n 2, 1) := by decide +kernel
theorem dX2_copy_3 : decode cX2_copy 3 = .ok (.iload 5, 2) := by decide +kernel
theorem dX2_copy_5 : decode cX2_copy 5 = .ok (.invokevirtual 34, 3) := by decide +kernel
theorem dX2_copy_8 : decode cX2_copy 8 = .ok (.ifCond .eq 49, 3) := by decide +kernel
theorem dX2_copy_11 : decode cX2_copy 11 = .ok (.aload_n 0, 1) := by decide +kernel
theorem dX2_copy_12 : decode cX2_copy 12 = .ok (.iload_n 3, 1) := by decide +kernel
theorem dX2_copy_13 : decode cX2_copy 13 = .ok (.iload 4, 2) := by decide +kernel
theorem dX2_copy_15 : decode cX2_copy 15 = .ok (.iload 5, 2) := by decide +kernel
theorem dX2_copy_17 : decode cX2_copy 17 = .ok (.invokevirtual 34, 3) := by decide +kernel
theorem dX2_copy_20 : decode cX2_copy 20 = .ok (.ifCond .eq 37, 3) := by decide +kernel
theorem dX2_copy_23 : decode cX2_copy 23 = .ok (.iload_n 1, 1) := by decide +kernel
theorem dX2_copy_24 : decode cX2_copy 24 = .ok (.invokestatic 21, 3) := by decide +kernel
theorem dX2_copy_27 : decode cX2_copy 27 = .ok (.ifCond .eq 30, 3) := by decide +kernel
theorem dX2_copy_30 : decode cX2_copy 30 = .ok (.iload_n 3, 1) := by decide +kernel
theorem dX2_copy_31 : decode cX2_copy 31 = .ok (.invokestatic 21, 3) := by decide +kernel
theorem dX2_copy_34 : decode cX2_copy 34 = .ok (.ifCond .eq 23, 3) := by decide +kernel
theorem dX2_copy_37 : decode cX2_copy 37 = .ok (.aload_n 0, 1) := by decide +kernel
theorem dX2_copy_38 : decode cX2_copy 38 = .ok (.getfield 11, 3) := by decide +kernel
theorem dX2_copy_41 : decode cX2_copy 41 = .ok (.iload_n 1, 1) := by decide +kernel
theorem dX2_copy_42 : decode cX2_copy 42 = .ok (.aaload, 1) := by decide +kernel
theorem dX2_copy_43 : decode cX2_copy 43 = .ok (.iload_n 2, 1) := by decide +kernel
theorem dX2_copy_44 : decode cX2_copy 44 = .ok (.aload_n 0, 1) := by decide +kernel
theorem dX2_copy_45 : decode cX2_copy 45 = .ok (.getfield 11, 3) := by decide +kernel
theorem dX2_copy_48 : decode cX2_copy 48 = .ok (.iload_n 3, 1) := by decide +kernel
theorem dX2_copy_49 : decode cX2_copy 49 = .ok (.aaload, 1) := by decide +kernel
theorem dX2_copy_50 : decode cX2_copy 50 = .ok (.iload 4, 2) := by decide +kernel
theorem dX2_copy_52 : decode cX2_copy 52 = .ok (.iload 5, 2) := by decide +kernel
theorem dX2_copy_54 : decode cX2_copy 54 = .ok (.invokestatic 46, 3) := by decide +kernel
theorem dX2_copy_57 : decode cX2_copy 57 = .ok (.return_, 1) := by decide +kernel
theorem dX2_lowest_0 : decode cX2_lowest 0 = .ok (.iload_n 1, 1) := by decide +kernel
theorem dX2_lowest_1 : decode cX2_lowest 1 = .ok (.bipush 8, 2) := by decide +kernel
theorem dX2_lowest_3 : decode cX2_lowest 3 = .ok (.if_icmp .ne 6, 3) := by decide +kernel
theorem dX2_lowest_6 : decode cX2_lowest 6 = .ok (.iload_n 0, 1) := by decide +kernel
theorem dX2_lowest_7 : decode cX2_lowest 7 = .ok (.i2b, 1) := by decide +kernel
theorem dX2_lowest_8 : decode cX2_lowest 8 = .ok (.ireturn, 1) := by decide +kernel
theorem dX2_lowest_9 : decode cX2_lowest 9 = .ok (.iload_n 1, 1) := by decide +kernel
theorem dX2_lowest_10 : decode cX2_lowest 10 = .ok (.bipush 16, 2) := by decide +kernel
theorem dX2_lowest_12 : decode cX2_lowest 12 = .ok (.if_icmp .ne 8, 3) := by decide +kernel
theorem dX2_lowest_15 : decode cX2_lowest 15 = .ok (.iload_n 0, 1) := by decide +kernel
theorem dX2_lowest_16 : decode cX2_lowest 16 = .ok (.i2s, 1) := by decide +kernel
theorem dX2_lowest_17 : decode cX2_lowest 17 = .ok (.goto 4, 3) := by decide +kernel
theorem dX2_lowest_20 : decode cX2_lowest 20 = .ok (.iload_n 0, 1) := by decide +kernel
theorem dX2_lowest_21 : decode cX2_lowest 21 = .ok (.ireturn, 1) := by decide +kernel
theorem dX4_init_0 : decode cX4_init 0 = .ok (.aload_n 0, 1) := by decide +kernel
theorem dX4_init_1 : decode cX4_init 1 = .ok (.invokespecial 3, 3) := by decide +kernel
theorem dX4_init_4 : decode cX4_init 4 = .ok (.aload_n 0, 1) := by decide +kernel
theorem dX4_init_5 : decode cX4_init 5 = .ok (.bipush 10, 2) := by decide +kernel
theorem dX4_init_7 : decode cX4_init 7 = .ok (.bipush 121, 2) := by decide +kernel
theorem dX4_init_9 : decode cX4_init 9 = .ok (.multianewarray 11 2, 4) := by decide +kernel
theorem dX4_init_13 : decode cX4_init 13 = .ok (.putfield 13, 3) := by decide +kernel
theorem dX4_init_16 : decode cX4_init 16 = .ok (.aload_n 0, 1) := by decide +kernel
theorem dX4_init_17 : decode cX4_init 17 = .ok (.bipush 10, 2) := by decide +kernel
theorem dX4_init_19 : decode cX4_init 19 = .ok (.bipush 121, 2) := by decide +kernel
theorem dX4_init_21 : decode cX4_init 21 = .ok (.multianewarray 11 2, 4) := by decide +kernel
theorem dX4_init_25 : decode cX4_init 25 = .ok (.putfield 16, 3) := by decide +kernel
theorem dX4_init_28 : decode cX4_init 28 = .ok (.aload_n 0, 1) := by decide +kernel
theorem dX4_init_29 : decode cX4_init 29 = .ok (.bipush 10, 2) := by decide +kernel
theorem dX4_init_31 : decode cX4_init 31 = .ok (.newarray .int, 2) := by decide +kernel
theorem dX4_init_33 : decode cX4_init 33 = .ok (.putfield 19, 3) := by decide +kernel
theorem dX4_init_36 : decode cX4_init 36 = .ok (.aload_n 0, 1) := by decide +kernel
theorem dX4_init_37 : decode cX4_init 37 = .ok (.bipush 10, 2) := by decide +kernel
theorem dX4_init_39 : decode cX4_init 39 = .ok (.newarray .int, 2) := by decide +kernel
theorem dX4_init_41 : decode cX4_init 41 = .ok (.putfield 23, 3) := by decide +kernel
theorem dX4_init_44 : decode cX4_init 44 = .ok (.return_, 1) := by decide +kernel
theorem dX4_leastRising_0 : decode cX4_leastRising 0 = .ok (.aload_n 1, 1) := by decide +kernel
theorem dX4_leastRising_1 : decode cX4_leastRising 1 = .ok (.getfield 26, 3) := by decide +kernel
theorem dX4_leastRising_4 : decode cX4_leastRising 4 = .ok (.bipush 10, 2) := by decide +kernel
theorem dX4_leastRising_6 : decode cX4_leastRising 6 = .ok (.invokestatic 32, 3) := by decide +kernel
theorem dX4_leastRising_9 : decode cX4_leastRising 9 = .ok (.istore_n 2, 1) := by decide +kernel
theorem dX4_leastRising_10 : decode cX4_leastRising 10 = .ok (.iconst 0, 1) := by decide +kernel
theorem dX4_leastRising_11 : decode cX4_leastRising 11 = .ok (.istore_n 3, 1) := by decide +kernel
theorem dX4_leastRising_12 : decode cX4_leastRising 12 = .ok (.iload_n 3, 1) := by decide +kernel
theorem dX4_leastRising_13 : decode cX4_leastRising 13 = .ok (.iload_n 2, 1) := by decide +kernel
theorem dX4_leastRising_14 : decode cX4_leastRising 14 = .ok (.if_icmp .ge 15, 3) := by decide +kernel
theorem dX4_leastRising_17 : decode cX4_leastRising 17 = .ok (.aload_n 0, 1) := by decide +kernel
theorem dX4_leastRising_18 : decode cX4_leastRising 18 = .ok (.aload_n 1, 1) := by decide +kernel
theorem dX4_leastRising_19 : decode cX4_leastRising 19 = .ok (.iload_n 3, 1) := by decide +kernel
theorem dX4_leastRising_20 : decode cX4_leastRising 20 = .ok (.invokevirtual 38, 3) := by decide +kernel
theorem dX4_leastRising_23 : decode cX4_leastRising 23 = .ok (.iinc 3 1, 3) := by decide +kernel
theorem dX4_leastRising_26 : decode cX4_leastRising 26 = .ok (.goto (-14), 3) := by decide +kernel
theorem dX4_leastRising_29 : decode cX4_leastRising 29 = .ok (.bipush 120, 2) := by decide +kernel
theorem dX4_leastRising_31 : decode cX4_leastRising 31 = .ok (.istore_n 3, 1) := by decide +kernel
theorem dX4_leastRising_32 : decode cX4_leastRising 32 = .ok (.iload_n 2, 1) := by decide +kernel
theorem dX4_leastRising_33 : decode cX4_leastRising 33 = .ok (.iconst 1, 1) := by decide +kernel
theorem dX4_leastRising_34 : decode cX4_leastRising 34 = .ok (.isub, 1) := by decide +kernel
theorem dX4_leastRising_35 : decode cX4_leastRising 35 = .ok (.istore 4, 2) := by decide +kernel
theorem dX4_leastRising_37 : decode cX4_leastRising 37 = .ok (.iload 4, 2) := by decide +kernel
theorem dX4_leastRising_39 : decode cX4_leastRising 39 = .ok (.ifCond .lt 43, 3) := by decide +kernel
theorem dX4_leastRising_42 : decode cX4_leastRising 42 = .ok (.aload_n 0, 1) := by decide +kernel
theorem dX4_leastRising_43 : decode cX4_leastRising 43 = .ok (.getfield 19, 3) := by decide +kernel
theorem dX4_leastRising_46 : decode cX4_leastRising 46 = .ok (.iload 4, 2) := by decide +kernel
theorem dX4_leastRising_48 : decode cX4_leastRising 48 = .ok (.iload_n 3, 1) := by decide +kernel
theorem dX4_leastRising_49 : decode cX4_leastRising 49 = .ok (.ifCond .lt 15, 3) := by decide +kernel
theorem dX4_leastRising_52 : decode cX4_leastRising 52 = .ok (.aload_n 0, 1) := by decide +kernel
theorem dX4_leastRising_53 : decode cX4_leastRising 53 = .ok (.getfield 16, 3) := by decide +kernel
theorem dX4_leastRising_56 : decode cX4_leastRising 56 = .ok (.iload 4, 2) := by decide +kernel
theorem dX4_leastRising_58 : decode cX4_leastRising 58 = .ok (.aaload, 1) := by decide +kernel
theorem dX4_leastRising_59 : decode cX4_leastRising 59 = .ok (.iload_n 3, 1) := by decide +kernel
theorem dX4_leastRising_60 : decode cX4_leastRising 60 = .ok (.iaload, 1) := by decide +kernel
theorem dX4_leastRising_61 : decode cX4_leastRising 61 = .ok (.goto 4, 3) := by decide +kernel
theorem dX4_leastRising_64 : decode cX4_leastRising 64 = .ok (.iconst 0, 1) := by decide +kernel
theorem dX4_leastRising_65 : decode cX4_leastRising 65 = .ok (.iastore, 1) := by decide +kernel
theorem dX4_leastRising_66 : decode cX4_leastRising 66 = .ok (.aload_n 0, 1) := by decide +kernel
theorem dX4_leastRising_67 : decode cX4_leastRising 67 = .ok (.getfield 19, 3) := by decide +kernel
theorem dX4_leastRising_70 : decode cX4_leastRising 70 = .ok (.iload 4, 2) := by decide +kernel
theorem dX4_leastRising_72 : decode cX4_leastRising 72 = .ok (.iaload, 1) := by decide +kernel
theorem dX4_leastRising_73 : decode cX4_leastRising 73 = .ok (.iconst 1, 1) := by decide +kernel
theorem dX4_leastRising_74 : decode cX4_leastRising 74 = .ok (.isub, 1) := by decide +kernel
theorem dX4_leastRising_75 : decode cX4_leastRising 75 = .ok (.istore_n 3, 1) := by decide +kernel
theorem dX4_leastRising_76 : decode cX4_leastRising 76 = .ok (.iinc 4 (-1), 3) := by decide +kernel
theorem dX4_leastRising_79 : decode cX4_leastRising 79 = .ok (.goto (-42), 3) := by decide +kernel
theorem dX4_leastRising_82 : decode cX4_leastRising 82 = .ok (.iload_n 2, 1) := by decide +kernel
theorem dX4_leastRising_83 : decode cX4_leastRising 83 = .ok (.ifCond .le 17, 3) := by decide +kernel
theorem dX4_leastRising_86 : decode cX4_leastRising 86 = .ok (.aload_n 0, 1) := by decide +kernel
theorem dX4_leastRising_87 : decode cX4_leastRising 87 = .ok (.getfield 13, 3) := by decide +kernel
theorem dX4_leastRising_90 : decode cX4_leastRising 90 = .ok (.iload_n 2, 1) := by decide +kernel
theorem dX4_leastRising_91 : decode cX4_leastRising 91 = .ok (.iconst 1, 1) := by decide +kernel
theorem dX4_leastRising_92 : decode cX4_leastRising 92 = .ok (.isub, 1) := by decide +kernel
theorem dX4_leastRising_93 : decode cX4_leastRising 93 = .ok (.aaload, 1) := by decide +kernel
theorem dX4_leastRising_94 : decode cX4_leastRising 94 = .ok (.bipush 120, 2) := by decide +kernel
theorem dX4_leastRising_96 : decode cX4_leastRising 96 = .ok (.iaload, 1) := by decide +kernel
theorem dX4_leastRising_97 : decode cX4_leastRising 97 = .ok (.goto 4, 3) := by decide +kernel
theorem dX4_leastRising_100 : decode cX4_leastRising 100 = .ok (.iconst 0, 1) := by decide +kernel
theorem dX4_leastRising_101 : decode cX4_leastRising 101 = .ok (.ireturn, 1) := by decide +kernel
theorem dX4_risingOf_0 : decode cX4_risingOf 0 = .ok (.iload_n 1, 1) := by decide +kernel
theorem dX4_risingOf_1 : decode cX4_risingOf 1 = .ok (.ifCond .lt 18, 3) := by decide +kernel
theorem dX4_risingOf_4 : decode cX4_risingOf 4 = .ok (.iload_n 1, 1) := by decide +kernel
theorem dX4_risingOf_5 : decode cX4_risingOf 5 = .ok (.bipush 10, 2) := by decide +kernel
theorem dX4_risingOf_7 : decode cX4_risingOf 7 = .ok (.if_icmp .ge 12, 3) := by decide +kernel
theorem dX4_risingOf_10 : decode cX4_risingOf 10 = .ok (.aload_n 0, 1) := by decide +kernel
theorem dX4_risingOf_11 : decode cX4_risingOf 11 = .ok (.getfield 19, 3) := by decide +kernel
theorem dX4_risingOf_14 : decode cX4_risingOf 14 = .ok (.iload_n 1, 1) := by decide +kernel
theorem dX4_risingOf_15 : decode cX4_risingOf 15 = .ok (.iaload, 1) := by decide +kernel
theorem dX4_risingOf_16 : decode cX4_risingOf 16 = .ok (.goto 4, 3) := by decide +kernel
theorem dX4_risingOf_19 : decode cX4_risingOf 19 = .ok (.iconst 0, 1) := by decide +kernel
theorem dX4_risingOf_20 : decode cX4_risingOf 20 = .ok (.ireturn, 1) := by decide +kernel
theorem dX4_sumUpTo_0 : decode cX4_sumUpTo 0 = .ok (.iload_n 2, 1) := by decide +kernel
theorem dX4_sumUpTo_1 : decode cX4_sumUpTo 1 = .ok (.ifCond .lt 9, 3) := by decide +kernel
theorem dX4_sumUpTo_4 : decode cX4_sumUpTo 4 = .ok (.iload_n 2, 1) := by decide +kernel
theorem dX4_sumUpTo_5 : decode cX4_sumUpTo 5 = .ok (.bipush 10, 2) := by decide +kernel
theorem dX4_sumUpTo_7 : decode cX4_sumUpTo 7 = .ok (.if_icmp .lt 4, 3) := by decide +kernel
theorem dX4_sumUpTo_10 : decode cX4_sumUpTo 10 = .ok (.return_, 1) := by decide +kernel
theorem dX4_sumUpTo_11 : decode cX4_sumUpTo 11 = .ok (.aload_n 1, 1) := by decide +kernel
theorem dX4_sumUpTo_12 : decode cX4_sumUpTo 12 = .ok (.iload_n 2, 1) := by decide +kernel
theorem dX4_sumUpTo_13 : decode cX4_sumUpTo 13 = .ok (.invokevirtual 42, 3) := by decide +kernel
theorem dX4_sumUpTo_16 : decode cX4_sumUpTo 16 = .ok (.istore_n 3, 1) := by decide +kernel
theorem dX4_sumUpTo_17 : decode cX4_sumUpTo 17 = .ok (.ldc 46, 2) := by decide +kernel
theorem dX4_sumUpTo_19 : decode cX4_sumUpTo 19 = .ok (.istore 4, 2) := by decide +kernel
theorem dX4_sumUpTo_21 : decode cX4_sumUpTo 21 = .ok (.iconst 0, 1) := by decide +kernel
theorem dX4_sumUpTo_22 : decode cX4_sumUpTo 22 = .ok (.istore 5, 2) := by decide +kernel
theorem dX4_sumUpTo_24 : decode cX4_sumUpTo 24 = .ok (.aload_n 0, 1) := by decide +kernel
theorem dX4_sumUpTo_25 : decode cX4_sumUpTo 25 = .ok (.getfield 13, 3) := by decide +kernel
theorem dX4_sumUpTo_28 : decode cX4_sumUpTo 28 = .ok (.iload_n 2, 1) := by decide +kernel
theorem dX4_sumUpTo_29 : decode cX4_sumUpTo 29 = .ok (.aaload, 1) := by decide +kernel
theorem dX4_sumUpTo_30 : decode cX4_sumUpTo 30 = .ok (.iconst 0, 1) := by decide +kernel
theorem dX4_sumUpTo_31 : decode cX4_sumUpTo 31 = .ok (.iload 4, 2) := by decide +kernel
theorem dX4_sumUpTo_33 : decode cX4_sumUpTo 33 = .ok (.iastore, 1) := by decide +kernel
theorem dX4_sumUpTo_34 : decode cX4_sumUpTo 34 = .ok (.aload_n 0, 1) := by decide +kernel
theorem dX4_sumUpTo_35 : decode cX4_sumUpTo 35 = .ok (.getfield 16, 3) := by decide +kernel
theorem dX4_sumUpTo_38 : decode cX4_sumUpTo 38 = .ok (.iload_n 2, 1) := by decide +kernel
theorem dX4_sumUpTo_39 : decode cX4_sumUpTo 39 = .ok (.aaload, 1) := by decide +kernel
theorem dX4_sumUpTo_40 : decode cX4_sumUpTo 40 = .ok (.iconst 0, 1) := by decide +kernel
theorem dX4_sumUpTo_41 : decode cX4_sumUpTo 41 = .ok (.iload 5, 2) := by decide +kernel
theorem dX4_sumUpTo_43 : decode cX4_sumUpTo 43 = .ok (.iastore, 1) := by decide +kernel
theorem dX4_sumUpTo_44 : decode cX4_sumUpTo 44 = .ok (.iconst 1, 1) := by decide +kernel
theorem dX4_sumUpTo_45 : decode cX4_sumUpTo 45 = .ok (.istore 6, 2) := by decide +kernel
theorem dX4_sumUpTo_47 : decode cX4_sumUpTo 47 = .ok (.iload 6, 2) := by decide +kernel
theorem dX4_sumUpTo_49 : decode cX4_sumUpTo 49 = .ok (.bipush 120, 2) := by decide +kernel
theorem dX4_sumUpTo_51 : decode cX4_sumUpTo 51 = .ok (.if_icmp .gt 88, 3) := by decide +kernel
theorem dX4_sumUpTo_54 : decode cX4_sumUpTo 54 = .ok (.iload_n 2, 1) := by decide +kernel
theorem dX4_sumUpTo_55 : decode cX4_sumUpTo 55 = .ok (.ifCond .le 19, 3) := by decide +kernel
theorem dX4_sumUpTo_58 : decode cX4_sumUpTo 58 = .ok (.aload_n 0, 1) := by decide +kernel
theorem dX4_sumUpTo_59 : decode cX4_sumUpTo 59 = .ok (.getfield 13, 3) := by decide +kernel
theorem dX4_sumUpTo_62 : decode cX4_sumUpTo 62 = .ok (.iload_n 2, 1) := by decide +kernel
theorem dX4_sumUpTo_63 : decode cX4_sumUpTo 63 = .ok (.iconst 1, 1) := by decide +kernel
theorem dX4_sumUpTo_64 : decode cX4_sumUpTo 64 = .ok (.isub, 1) := by decide +kernel
theorem dX4_sumUpTo_65 : decode cX4_sumUpTo 65 = .ok (.aaload, 1) := by decide +kernel
theorem dX4_sumUpTo_66 : decode cX4_sumUpTo 66 = .ok (.iload 6, 2) := by decide +kernel
theorem dX4_sumUpTo_68 : decode cX4_sumUpTo 68 = .ok (.iconst 1, 1) := by decide +kernel
theorem dX4_sumUpTo_69 : decode cX4_sumUpTo 69 = .ok (.isub, 1) := by decide +kernel
theorem dX4_sumUpTo_70 : decode cX4_sumUpTo 70 = .ok (.iaload, 1) := by decide +kernel
theorem dX4_sumUpTo_71 : decode cX4_sumUpTo 71 = .ok (.goto 4, 3) := by decide +kernel
theorem dX4_sumUpTo_74 : decode cX4_sumUpTo 74 = .ok (.iconst 0, 1) := by decide +kernel
theorem dX4_sumUpTo_75 : decode cX4_sumUpTo 75 = .ok (.istore 7, 2) := by decide +kernel
theorem dX4_sumUpTo_77 : decode cX4_sumUpTo 77 = .ok (.iload 7, 2) := by decide +kernel
theorem dX4_sumUpTo_79 : decode cX4_sumUpTo 79 = .ok (.aload_n 1, 1) := by decide +kernel
theorem dX4_sumUpTo_80 : decode cX4_sumUpTo 80 = .ok (.iload_n 3, 1) := by decide +kernel
theorem dX4_sumUpTo_81 : decode cX4_sumUpTo 81 = .ok (.iload 6, 2) := by decide +kernel
theorem dX4_sumUpTo_83 : decode cX4_sumUpTo 83 = .ok (.invokevirtual 47, 3) := by decide +kernel
theorem dX4_sumUpTo_86 : decode cX4_sumUpTo 86 = .ok (.iadd, 1) := by decide +kernel
theorem dX4_sumUpTo_87 : decode cX4_sumUpTo 87 = .ok (.istore 8, 2) := by decide +kernel
theorem dX4_sumUpTo_89 : decode cX4_sumUpTo 89 = .ok (.iload 7, 2) := by decide +kernel
theorem dX4_sumUpTo_91 : decode cX4_sumUpTo 91 = .ok (.ldc 46, 2) := by decide +kernel
theorem dX4_sumUpTo_93 : decode cX4_sumUpTo 93 = .ok (.if_icmp .ge 18, 3) := by decide +kernel
theorem dX4_sumUpTo_96 : decode cX4_sumUpTo 96 = .ok (.iload 8, 2) := by decide +kernel
theorem dX4_sumUpTo_98 : decode cX4_sumUpTo 98 = .ok (.iload 4, 2) := by decide +kernel
theorem dX4_sumUpTo_100 : decode cX4_sumUpTo 100 = .ok (.if_icmp .ge 11, 3) := by decide +kernel
theorem dX4_sumUpTo_103 : decode cX4_sumUpTo 103 = .ok (.iload 8, 2) := by decide +kernel
theorem dX4_sumUpTo_105 : decode cX4_sumUpTo 105 = .ok (.istore 4, 2) := by decide +kernel
theorem dX4_sumUpTo_107 : decode cX4_sumUpTo 107 = .ok (.iload 6, 2) := by decide +kernel
theorem dX4_sumUpTo_109 : decode cX4_sumUpTo 109 = .ok (.istore 5, 2) := by decide +kernel
theorem dX4_sumUpTo_111 : decode cX4_sumUpTo 111 = .ok (.aload_n 0, 1) := by decide +kernel
theorem dX4_sumUpTo_112 : decode cX4_sumUpTo 112 = .ok (.getfield 13, 3) := by decide +kernel
theorem dX4_sumUpTo_115 : decode cX4_sumUpTo 115 = .ok (.iload_n 2, 1) := by decide +kernel
theorem dX4_sumUpTo_116 : decode cX4_sumUpTo 116 = .ok (.aaload, 1) := by decide +kernel
theorem dX4_sumUpTo_117 : decode cX4_sumUpTo 117 = .ok (.iload 6, 2) := by decide +kernel
theorem dX4_sumUpTo_119 : decode cX4_sumUpTo 119 = .ok (.iload 4, 2) := by decide +kernel
theorem dX4_sumUpTo_121 : decode cX4_sumUpTo 121 = .ok (.iastore, 1) := by decide +kernel
theorem dX4_sumUpTo_122 : decode cX4_sumUpTo 122 = .ok (.aload_n 0, 1) := by decide +kernel
theorem dX4_sumUpTo_123 : decode cX4_sumUpTo 123 = .ok (.getfield 16, 3) := by decide +kernel
theorem dX4_sumUpTo_126 : decode cX4_sumUpTo 126 = .ok (.iload_n 2, 1) := by decide +kernel
theorem dX4_sumUpTo_127 : decode cX4_sumUpTo 127 = .ok (.aaload, 1) := by decide +kernel
theorem dX4_sumUpTo_128 : decode cX4_sumUpTo 128 = .ok (.iload 6, 2) := by decide +kernel
theorem dX4_sumUpTo_130 : decode cX4_sumUpTo 130 = .ok (.iload 5, 2) := by decide +kernel
theorem dX4_sumUpTo_132 : decode cX4_sumUpTo 132 = .ok (.iastore, 1) := by decide +kernel
theorem dX4_sumUpTo_133 : decode cX4_sumUpTo 133 = .ok (.iinc 6 1, 3) := by decide +kernel
theorem dX4_sumUpTo_136 : decode cX4_sumUpTo 136 = .ok (.goto (-89), 3) := by decide +kernel
theorem dX4_sumUpTo_139 : decode cX4_sumUpTo 139 = .ok (.return_, 1) := by decide +kernel
theorem dX4_longestRising_0 : decode cX4_longestRising 0 = .ok (.iconst 0, 1) := by decide +kernel
theorem dX4_longestRising_1 : decode cX4_longestRising 1 = .ok (.istore_n 2, 1) := by decide +kernel
theorem dX4_longestRising_2 : decode cX4_longestRising 2 = .ok (.iconst 0, 1) := by decide +kernel
theorem dX4_longestRising_3 : decode cX4_longestRising 3 = .ok (.istore_n 3, 1) := by decide +kernel
theorem dX4_longestRising_4 : decode cX4_longestRising 4 = .ok (.iload_n 3, 1) := by decide +kernel
theorem dX4_longestRising_5 : decode cX4_longestRising 5 = .ok (.bipush 10, 2) := by decide +kernel
theorem dX4_longestRising_7 : decode cX4_longestRising 7 = .ok (.if_icmp .ge 80, 3) := by decide +kernel
theorem dX4_longestRising_10 : decode cX4_longestRising 10 = .ok (.iload_n 3, 1) := by decide +kernel
theorem dX4_longestRising_11 : decode cX4_longestRising 11 = .ok (.aload_n 1, 1) := by decide +kernel
theorem dX4_longestRising_12 : decode cX4_longestRising 12 = .ok (.getfield 26, 3) := by decide +kernel
theorem dX4_longestRising_15 : decode cX4_longestRising 15 = .ok (.if_icmp .ge 72, 3) := by decide +kernel
theorem dX4_longestRising_18 : decode cX4_longestRising 18 = .ok (.iconst 1, 1) := by decide +kernel
theorem dX4_longestRising_19 : decode cX4_longestRising 19 = .ok (.istore 4, 2) := by decide +kernel
theorem dX4_longestRising_21 : decode cX4_longestRising 21 = .ok (.iconst 0, 1) := by decide +kernel
theorem dX4_longestRising_22 : decode cX4_longestRising 22 = .ok (.istore 5, 2) := by decide +kernel
theorem dX4_longestRising_24 : decode cX4_longestRising 24 = .ok (.iload 5, 2) := by decide +kernel
theorem dX4_longestRising_26 : decode cX4_longestRising 26 = .ok (.iload_n 3, 1) := by decide +kernel
theorem dX4_longestRising_27 : decode cX4_longestRising 27 = .ok (.if_icmp .ge 39, 3) := by decide +kernel
theorem dX4_longestRising_30 : decode cX4_longestRising 30 = .ok (.aload_n 1, 1) := by decide +kernel
theorem dX4_longestRising_31 : decode cX4_longestRising 31 = .ok (.iload 5, 2) := by decide +kernel
theorem dX4_longestRising_33 : decode cX4_longestRising 33 = .ok (.invokevirtual 50, 3) := by decide +kernel
theorem dX4_longestRising_36 : decode cX4_longestRising 36 = .ok (.aload_n 1, 1) := by decide +kernel
theorem dX4_longestRising_37 : decode cX4_longestRising 37 = .ok (.iload_n 3, 1) := by decide +kernel
theorem dX4_longestRising_38 : decode cX4_longestRising 38 = .ok (.invokevirtual 50, 3) := by decide +kernel
theorem dX4_longestRising_41 : decode cX4_longestRising 41 = .ok (.if_icmp .ge 19, 3) := by decide +kernel
theorem dX4_longestRising_44 : decode cX4_longestRising 44 = .ok (.iload 4, 2) := by decide +kernel
theorem dX4_longestRising_46 : decode cX4_longestRising 46 = .ok (.aload_n 0, 1) := by decide +kernel
theorem dX4_longestRising_47 : decode cX4_longestRising 47 = .ok (.getfield 23, 3) := by decide +kernel
theorem dX4_longestRising_50 : decode cX4_longestRising 50 = .ok (.iload 5, 2) := by decide +kernel
theorem dX4_longestRising_52 : decode cX4_longestRising 52 = .ok (.iaload, 1) := by decide +kernel
theorem dX4_longestRising_53 : decode cX4_longestRising 53 = .ok (.iconst 1, 1) := by decide +kernel
theorem dX4_longestRising_54 : decode cX4_longestRising 54 = .ok (.iadd, 1) := by decide +kernel
theorem dX4_longestRising_55 : decode cX4_longestRising 55 = .ok (.invokestatic 53, 3) := by decide +kernel
theorem dX4_longestRising_58 : decode cX4_longestRising 58 = .ok (.istore 4, 2) := by decide +kernel
theorem dX4_longestRising_60 : decode cX4_longestRising 60 = .ok (.iinc 5 1, 3) := by decide +kernel
theorem dX4_longestRising_63 : decode cX4_longestRising 63 = .ok (.goto (-39), 3) := by decide +kernel
theorem dX4_longestRising_66 : decode cX4_longestRising 66 = .ok (.aload_n 0, 1) := by decide +kernel
theorem dX4_longestRising_67 : decode cX4_longestRising 67 = .ok (.getfield 23, 3) := by decide +kernel
theorem dX4_longestRising_70 : decode cX4_longestRising 70 = .ok (.iload_n 3, 1) := by decide +kernel
theorem dX4_longestRising_71 : decode cX4_longestRising 71 = .ok (.iload 4, 2) := by decide +kernel
theorem dX4_longestRising_73 : decode cX4_longestRising 73 = .ok (.iastore, 1) := by decide +kernel
theorem dX4_longestRising_74 : decode cX4_longestRising 74 = .ok (.iload_n 2, 1) := by decide +kernel
theorem dX4_longestRising_75 : decode cX4_longestRising 75 = .ok (.iload 4, 2) := by decide +kernel
theorem dX4_longestRising_77 : decode cX4_longestRising 77 = .ok (.invokestatic 53, 3) := by decide +kernel
theorem dX4_longestRising_80 : decode cX4_longestRising 80 = .ok (.istore_n 2, 1) := by decide +kernel
theorem dX4_longestRising_81 : decode cX4_longestRising 81 = .ok (.iinc 3 1, 3) := by decide +kernel
theorem dX4_longestRising_84 : decode cX4_longestRising 84 = .ok (.goto (-80), 3) := by decide +kernel
theorem dX4_longestRising_87 : decode cX4_longestRising 87 = .ok (.iload_n 2, 1) := by decide +kernel
theorem dX4_longestRising_88 : decode cX4_longestRising 88 = .ok (.ireturn, 1) := by decide +kernel
theorem dX4_placeFound_0 : decode cX4_placeFound 0 = .ok (.iconst 0, 1) := by decide +kernel
theorem dX4_placeFound_1 : decode cX4_placeFound 1 = .ok (.istore_n 3, 1) := by decide +kernel
theorem dX4_placeFound_2 : decode cX4_placeFound 2 = .ok (.aload_n 1, 1) := by decide +kernel
theorem dX4_placeFound_3 : decode cX4_placeFound 3 = .ok (.getfield 26, 3) := by decide +kernel
theorem dX4_placeFound_6 : decode cX4_placeFound 6 = .ok (.iconst 1, 1) := by decide +kernel
theorem dX4_placeFound_7 : decode cX4_placeFound 7 = .ok (.isub, 1) := by decide +kernel
theorem dX4_placeFound_8 : decode cX4_placeFound 8 = .ok (.istore 4, 2) := by decide +kernel
theorem dX4_placeFound_10 : decode cX4_placeFound 10 = .ok (.aload_n 0, 1) := by decide +kernel
theorem dX4_placeFound_11 : decode cX4_placeFound 11 = .ok (.iconst 0, 1) := by decide +kernel
theorem dX4_placeFound_12 : decode cX4_placeFound 12 = .ok (.putfield 56, 3) := by decide +kernel
theorem dX4_placeFound_15 : decode cX4_placeFound 15 = .ok (.iconst 0, 1) := by decide +kernel
theorem dX4_placeFound_16 : decode cX4_placeFound 16 = .ok (.istore 5, 2) := by decide +kernel
theorem dX4_placeFound_18 : decode cX4_placeFound 18 = .ok (.iload 5, 2) := by decide +kernel
theorem dX4_placeFound_20 : decode cX4_placeFound 20 = .ok (.bipush 10, 2) := by decide +kernel
theorem dX4_placeFound_22 : decode cX4_placeFound 22 = .ok (.if_icmp .ge 70, 3) := by decide +kernel
theorem dX4_placeFound_25 : decode cX4_placeFound 25 = .ok (.iload_n 3, 1) := by decide +kernel
theorem dX4_placeFound_26 : decode cX4_placeFound 26 = .ok (.iload 4, 2) := by decide +kernel
theorem dX4_placeFound_28 : decode cX4_placeFound 28 = .ok (.if_icmp .gt 64, 3) := by decide +kernel
theorem dX4_placeFound_31 : decode cX4_placeFound 31 = .ok (.iload_n 3, 1) := by decide +kernel
theorem dX4_placeFound_32 : decode cX4_placeFound 32 = .ok (.iload 4, 2) := by decide +kernel
theorem dX4_placeFound_34 : decode cX4_placeFound 34 = .ok (.iadd, 1) := by decide +kernel
theorem dX4_placeFound_35 : decode cX4_placeFound 35 = .ok (.iconst 2, 1) := by decide +kernel
theorem dX4_placeFound_36 : decode cX4_placeFound 36 = .ok (.idiv, 1) := by decide +kernel
theorem dX4_placeFound_37 : decode cX4_placeFound 37 = .ok (.istore 6, 2) := by decide +kernel
theorem dX4_placeFound_39 : decode cX4_placeFound 39 = .ok (.aload_n 1, 1) := by decide +kernel
theorem dX4_placeFound_40 : decode cX4_placeFound 40 = .ok (.iload 6, 2) := by decide +kernel
theorem dX4_placeFound_42 : decode cX4_placeFound 42 = .ok (.invokevirtual 50, 3) := by decide +kernel
theorem dX4_placeFound_45 : decode cX4_placeFound 45 = .ok (.istore 7, 2) := by decide +kernel
theorem dX4_placeFound_47 : decode cX4_placeFound 47 = .ok (.aload_n 0, 1) := by decide +kernel
theorem dX4_placeFound_48 : decode cX4_placeFound 48 = .ok (.dup, 1) := by decide +kernel
theorem dX4_placeFound_49 : decode cX4_placeFound 49 = .ok (.getfield 56, 3) := by decide +kernel
theorem dX4_placeFound_52 : decode cX4_placeFound 52 = .ok (.iconst 1, 1) := by decide +kernel
theorem dX4_placeFound_53 : decode cX4_placeFound 53 = .ok (.iadd, 1) := by decide +kernel
theorem dX4_placeFound_54 : decode cX4_placeFound 54 = .ok (.putfield 56, 3) := by decide +kernel
theorem dX4_placeFound_57 : decode cX4_placeFound 57 = .ok (.iload 7, 2) := by decide +kernel
theorem dX4_placeFound_59 : decode cX4_placeFound 59 = .ok (.iload_n 2, 1) := by decide +kernel
theorem dX4_placeFound_60 : decode cX4_placeFound 60 = .ok (.if_icmp .ne 6, 3) := by decide +kernel
theorem dX4_placeFound_63 : decode cX4_placeFound 63 = .ok (.iload 6, 2) := by decide +kernel
theorem dX4_placeFound_65 : decode cX4_placeFound 65 = .ok (.ireturn, 1) := by decide +kernel
theorem dX4_placeFound_66 : decode cX4_placeFound 66 = .ok (.iload 7, 2) := by decide +kernel
theorem dX4_placeFound_68 : decode cX4_placeFound 68 = .ok (.iload_n 2, 1) := by decide +kernel
theorem dX4_placeFound_69 : decode cX4_placeFound 69 = .ok (.if_icmp .ge 11, 3) := by decide +kernel
theorem dX4_placeFound_72 : decode cX4_placeFound 72 = .ok (.iload 6, 2) := by decide +kernel
theorem dX4_placeFound_74 : decode cX4_placeFound 74 = .ok (.iconst 1, 1) := by decide +kernel
theorem dX4_placeFound_75 : decode cX4_placeFound 75 = .ok (.iadd, 1) := by decide +kernel
theorem dX4_placeFound_76 : decode cX4_placeFound 76 = .ok (.istore_n 3, 1) := by decide +kernel
theorem dX4_placeFound_77 : decode cX4_placeFound 77 = .ok (.goto 9, 3) := by decide +kernel
theorem dX4_placeFound_80 : decode cX4_placeFound 80 = .ok (.iload 6, 2) := by decide +kernel
theorem dX4_placeFound_82 : decode cX4_placeFound 82 = .ok (.iconst 1, 1) := by decide +kernel
theorem dX4_placeFound_83 : decode cX4_placeFound 83 = .ok (.isub, 1) := by decide +kernel
theorem dX4_placeFound_84 : decode cX4_placeFound 84 = .ok (.istore 4, 2) := by decide +kernel
theorem dX4_placeFound_86 : decode cX4_placeFound 86 = .ok (.iinc 5 1, 3) := by decide +kernel
theorem dX4_placeFound_89 : decode cX4_placeFound 89 = .ok (.goto (-71), 3) := by decide +kernel
theorem dX4_placeFound_92 : decode cX4_placeFound 92 = .ok (.iconst (-1), 1) := by decide +kernel
theorem dX4_placeFound_93 : decode cX4_placeFound 93 = .ok (.ireturn, 1) := by decide +kernel
theorem dX4_housesFound_0 : decode cX4_housesFound 0 = .ok (.iconst 0, 1) := by decide +kernel
theorem dX4_housesFound_1 : decode cX4_housesFound 1 = .ok (.istore_n 2, 1) := by decide +kernel
theorem dX4_housesFound_2 : decode cX4_housesFound 2 = .ok (.iconst 0, 1) := by decide +kernel
theorem dX4_housesFound_3 : decode cX4_housesFound 3 = .ok (.istore_n 3, 1) := by decide +kernel
theorem dX4_housesFound_4 : decode cX4_housesFound 4 = .ok (.iload_n 3, 1) := by decide +kernel
theorem dX4_housesFound_5 : decode cX4_housesFound 5 = .ok (.aload_n 1, 1) := by decide +kernel
theorem dX4_housesFound_6 : decode cX4_housesFound 6 = .ok (.getfield 26, 3) := by decide +kernel
theorem dX4_housesFound_9 : decode cX4_housesFound 9 = .ok (.if_icmp .ge 26, 3) := by decide +kernel
theorem dX4_housesFound_12 : decode cX4_housesFound 12 = .ok (.aload_n 0, 1) := by decide +kernel
theorem dX4_housesFound_13 : decode cX4_housesFound 13 = .ok (.aload_n 1, 1) := by decide +kernel
theorem dX4_housesFound_14 : decode cX4_housesFound 14 = .ok (.aload_n 1, 1) := by decide +kernel
theorem dX4_housesFound_15 : decode cX4_housesFound 15 = .ok (.iload_n 3, 1) := by decide +kernel
theorem dX4_housesFound_16 : decode cX4_housesFound 16 = .ok (.invokevirtual 50, 3) := by decide +kernel
theorem dX4_housesFound_19 : decode cX4_housesFound 19 = .ok (.invokevirtual 59, 3) := by decide +kernel
theorem dX4_housesFound_22 : decode cX4_housesFound 22 = .ok (.iload_n 3, 1) := by decide +kernel
theorem dX4_housesFound_23 : decode cX4_housesFound 23 = .ok (.if_icmp .ne 6, 3) := by decide +kernel
theorem dX4_housesFound_26 : decode cX4_housesFound 26 = .ok (.iinc 2 1, 3) := by decide +kernel
theorem dX4_housesFound_29 : decode cX4_housesFound 29 = .ok (.iinc 3 1, 3) := by decide +kernel
theorem dX4_housesFound_32 : decode cX4_housesFound 32 = .ok (.goto (-28), 3) := by decide +kernel
theorem dX4_housesFound_35 : decode cX4_housesFound 35 = .ok (.iload_n 2, 1) := by decide +kernel
theorem dX4_housesFound_36 : decode cX4_housesFound 36 = .ok (.ireturn, 1) := by decide +kernel
theorem dX4_commonDivisor_0 : decode cX4_commonDivisor 0 = .ok (.iload_n 1, 1) := by decide +kernel
theorem dX4_commonDivisor_1 : decode cX4_commonDivisor 1 = .ok (.istore_n 2, 1) := by decide +kernel
theorem dX4_commonDivisor_2 : decode cX4_commonDivisor 2 = .ok (.iload_n 2, 1) := by decide +kernel
theorem dX4_commonDivisor_3 : decode cX4_commonDivisor 3 = .ok (.iconst 1, 1) := by decide +kernel
theorem dX4_commonDivisor_4 : decode cX4_commonDivisor 4 = .ok (.if_icmp .le 23, 3) := by decide +kernel
theorem dX4_commonDivisor_7 : decode cX4_commonDivisor 7 = .ok (.iload_n 0, 1) := by decide +kernel
theorem dX4_commonDivisor_8 : decode cX4_commonDivisor 8 = .ok (.iload_n 2, 1) := by decide +kernel
theorem dX4_commonDivisor_9 : decode cX4_commonDivisor 9 = .ok (.irem, 1) := by decide +kernel
theorem dX4_commonDivisor_10 : decode cX4_commonDivisor 10 = .ok (.ifCond .ne 11, 3) := by decide +kernel
theorem dX4_commonDivisor_13 : decode cX4_commonDivisor 13 = .ok (.iload_n 1, 1) := by decide +kernel
theorem dX4_commonDivisor_14 : decode cX4_commonDivisor 14 = .ok (.iload_n 2, 1) := by decide +kernel
theorem dX4_commonDivisor_15 : decode cX4_commonDivisor 15 = .ok (.irem, 1) := by decide +kernel
theorem dX4_commonDivisor_16 : decode cX4_commonDivisor 16 = .ok (.ifCond .ne 5, 3) := by decide +kernel
theorem dX4_commonDivisor_19 : decode cX4_commonDivisor 19 = .ok (.iload_n 2, 1) := by decide +kernel
theorem dX4_commonDivisor_20 : decode cX4_commonDivisor 20 = .ok (.ireturn, 1) := by decide +kernel
theorem dX4_commonDivisor_21 : decode cX4_commonDivisor 21 = .ok (.iinc 2 (-1), 3) := by decide +kernel
theorem dX4_commonDivisor_24 : decode cX4_commonDivisor 24 = .ok (.goto (-22), 3) := by decide +kernel
theorem dX4_commonDivisor_27 : decode cX4_commonDivisor 27 = .ok (.iconst 1, 1) := by decide +kernel
theorem dX4_commonDivisor_28 : decode cX4_commonDivisor 28 = .ok (.ireturn, 1) := by decide +kernel
theorem dX5_init_0 : decode cX5_init 0 = .ok (.aload_n 0, 1) := by decide +kernel
theorem dX5_init_1 : decode cX5_init 1 = .ok (.invokespecial 3, 3) := by decide +kernel
theorem dX5_init_4 : decode cX5_init 4 = .ok (.aload_n 0, 1) := by decide +kernel
theorem dX5_init_5 : decode cX5_init 5 = .ok (.bipush 30, 2) := by decide +kernel
theorem dX5_init_7 : decode cX5_init 7 = .ok (.newarray .int, 2) := by decide +kernel
theorem dX5_init_9 : decode cX5_init 9 = .ok (.putfield 11, 3) := by decide +kernel
theorem dX5_init_12 : decode cX5_init 12 = .ok (.return_, 1) := by decide +kernel
theorem dX5_answerOf_0 : decode cX5_answerOf 0 = .ok (.aload_n 0, 1) := by decide +kernel
theorem dX5_answerOf_1 : decode cX5_answerOf 1 = .ok (.iload_n 1, 1) := by decide +kernel
theorem dX5_answerOf_2 : decode cX5_answerOf 2 = .ok (.putfield 15, 3) := by decide +kernel
theorem dX5_answerOf_5 : decode cX5_answerOf 5 = .ok (.aload_n 0, 1) := by decide +kernel
theorem dX5_answerOf_6 : decode cX5_answerOf 6 = .ok (.iload_n 2, 1) := by decide +kernel
theorem dX5_answerOf_7 : decode cX5_answerOf 7 = .ok (.putfield 19, 3) := by decide +kernel
theorem dX5_answerOf_10 : decode cX5_answerOf 10 = .ok (.aload_n 0, 1) := by decide +kernel
theorem dX5_answerOf_11 : decode cX5_answerOf 11 = .ok (.iload_n 3, 1) := by decide +kernel
theorem dX5_answerOf_12 : decode cX5_answerOf 12 = .ok (.putfield 22, 3) := by decide +kernel
theorem dX5_answerOf_15 : decode cX5_answerOf 15 = .ok (.aload_n 0, 1) := by decide +kernel
theorem dX5_answerOf_16 : decode cX5_answerOf 16 = .ok (.iconst 0, 1) := by decide +kernel
theorem dX5_answerOf_17 : decode cX5_answerOf 17 = .ok (.putfield 25, 3) := by decide +kernel
theorem dX5_answerOf_20 : decode cX5_answerOf 20 = .ok (.aload_n 0, 1) := by decide +kernel
theorem dX5_answerOf_21 : decode cX5_answerOf 21 = .ok (.iconst 0, 1) := by decide +kernel
theorem dX5_answerOf_22 : decode cX5_answerOf 22 = .ok (.putfield 29, 3) := by decide +kernel
theorem dX5_answerOf_25 : decode cX5_answerOf 25 = .ok (.aload_n 0, 1) := by decide +kernel
theorem dX5_answerOf_26 : decode cX5_answerOf 26 = .ok (.iload_n 1, 1) := by decide +kernel
theorem dX5_answerOf_27 : decode cX5_answerOf 27 = .ok (.iload 4, 2) := by decide +kernel
theorem dX5_answerOf_29 : decode cX5_answerOf 29 = .ok (.iload 5, 2) := by decide +kernel
theorem dX5_answerOf_31 : decode cX5_answerOf 31 = .ok (.iconst 0, 1) := by decide +kernel
theorem dX5_answerOf_32 : decode cX5_answerOf 32 = .ok (.invokevirtual 32, 3) := by decide +kernel
theorem dX5_answerOf_35 : decode cX5_answerOf 35 = .ok (.ireturn, 1) := by decide +kernel
theorem dX5_bodyAt_0 : decode cX5_bodyAt 0 = .ok (.iload_n 1, 1) := by decide +kernel
theorem dX5_bodyAt_1 : decode cX5_bodyAt 1 = .ok (.ifCond .lt 18, 3) := by decide +kernel
theorem dX5_bodyAt_4 : decode cX5_bodyAt 4 = .ok (.iload_n 1, 1) := by decide +kernel
theorem dX5_bodyAt_5 : decode cX5_bodyAt 5 = .ok (.bipush 30, 2) := by decide +kernel
theorem dX5_bodyAt_7 : decode cX5_bodyAt 7 = .ok (.if_icmp .ge 12, 3) := by decide +kernel
theorem dX5_bodyAt_10 : decode cX5_bodyAt 10 = .ok (.aload_n 0, 1) := by decide +kernel
theorem dX5_bodyAt_11 : decode cX5_bodyAt 11 = .ok (.getfield 11, 3) := by decide +kernel
theorem dX5_bodyAt_14 : decode cX5_bodyAt 14 = .ok (.iload_n 1, 1) := by decide +kernel
theorem dX5_bodyAt_15 : decode cX5_bodyAt 15 = .ok (.iaload, 1) := by decide +kernel
theorem dX5_bodyAt_16 : decode cX5_bodyAt 16 = .ok (.goto 4, 3) := by decide +kernel
theorem dX5_bodyAt_19 : decode cX5_bodyAt 19 = .ok (.iconst 0, 1) := by decide +kernel
theorem dX5_bodyAt_20 : decode cX5_bodyAt 20 = .ok (.ireturn, 1) := by decide +kernel
theorem dX5_ownBody_0 : decode cX5_ownBody 0 = .ok (.iload_n 0, 1) := by decide +kernel
theorem dX5_ownBody_1 : decode cX5_ownBody 1 = .ok (.iconst 4, 1) := by decide +kernel
theorem dX5_ownBody_2 : decode cX5_ownBody 2 = .ok (.imul, 1) := by decide +kernel
theorem dX5_ownBody_3 : decode cX5_ownBody 3 = .ok (.iload_n 1, 1) := by decide +kernel
theorem dX5_ownBody_4 : decode cX5_ownBody 4 = .ok (.iadd, 1) := by decide +kernel
theorem dX5_ownBody_5 : decode cX5_ownBody 5 = .ok (.istore_n 2, 1) := by decide +kernel
theorem dX5_ownBody_6 : decode cX5_ownBody 6 = .ok (.iload_n 0, 1) := by decide +kernel
theorem dX5_ownBody_7 : decode cX5_ownBody 7 = .ok (.ifCond .lt 28, 3) := by decide +kernel
theorem dX5_ownBody_10 : decode cX5_ownBody 10 = .ok (.iload_n 1, 1) := by decide +kernel
theorem dX5_ownBody_11 : decode cX5_ownBody 11 = .ok (.ifCond .lt 24, 3) := by decide +kernel
theorem dX5_ownBody_14 : decode cX5_ownBody 14 = .ok (.iload_n 1, 1) := by decide +kernel
theorem dX5_ownBody_15 : decode cX5_ownBody 15 = .ok (.iconst 4, 1) := by decide +kernel
theorem dX5_ownBody_16 : decode cX5_ownBody 16 = .ok (.if_icmp .ge 19, 3) := by decide +kernel
theorem dX5_ownBody_19 : decode cX5_ownBody 19 = .ok (.iload_n 2, 1) := by decide +kernel
theorem dX5_ownBody_20 : decode cX5_ownBody 20 = .ok (.getstatic 36, 3) := by decide +kernel
theorem dX5_ownBody_23 : decode cX5_ownBody 23 = .ok (.arraylength, 1) := by decide +kernel
theorem dX5_ownBody_24 : decode cX5_ownBody 24 = .ok (.if_icmp .ge 11, 3) := by decide +kernel
theorem dX5_ownBody_27 : decode cX5_ownBody 27 = .ok (.getstatic 36, 3) := by decide +kernel
theorem dX5_ownBody_30 : decode cX5_ownBody 30 = .ok (.iload_n 2, 1) := by decide +kernel
theorem dX5_ownBody_31 : decode cX5_ownBody 31 = .ok (.iaload, 1) := by decide +kernel
theorem dX5_ownBody_32 : decode cX5_ownBody 32 = .ok (.goto 4, 3) := by decide +kernel
theorem dX5_ownBody_35 : decode cX5_ownBody 35 = .ok (.iconst 0, 1) := by decide +kernel
theorem dX5_ownBody_36 : decode cX5_ownBody 36 = .ok (.ireturn, 1) := by decide +kernel
theorem dX5_speak_0 : decode cX5_speak 0 = .ok (.aload_n 0, 1) := by decide +kernel
theorem dX5_speak_1 : decode cX5_speak 1 = .ok (.getfield 25, 3) := by decide +kernel
theorem dX5_speak_4 : decode cX5_speak 4 = .ok (.ifCond .ne 10, 3) := by decide +kernel
theorem dX5_speak_7 : decode cX5_speak 7 = .ok (.iload 4, 2) := by decide +kernel
theorem dX5_speak_9 : decode cX5_speak 9 = .ok (.bipush 40, 2) := by decide +kernel
theorem dX5_speak_11 : decode cX5_speak 11 = .ok (.if_icmp .le 5, 3) := by decide +kernel
theorem dX5_speak_14 : decode cX5_speak 14 = .ok (.iconst 0, 1) := by decide +kernel
theorem dX5_speak_15 : decode cX5_speak 15 = .ok (.ireturn, 1) := by decide +kernel
theorem dX5_speak_16 : decode cX5_speak 16 = .ok (.iload_n 1, 1) := by decide +kernel
theorem dX5_speak_17 : decode cX5_speak 17 = .ok (.istore 5, 2) := by decide +kernel
theorem dX5_speak_19 : decode cX5_speak 19 = .ok (.iconst 0, 1) := by decide +kernel
theorem dX5_speak_20 : decode cX5_speak 20 = .ok (.istore 6, 2) := by decide +kernel
theorem dX5_speak_22 : decode cX5_speak 22 = .ok (.iload 6, 2) := by decide +kernel
theorem dX5_speak_24 : decode cX5_speak 24 = .ok (.bipush 7, 2) := by decide +kernel
theorem dX5_speak_26 : decode cX5_speak 26 = .ok (.if_icmp .ge 30, 3) := by decide +kernel
theorem dX5_speak_29 : decode cX5_speak 29 = .ok (.iload 5, 2) := by decide +kernel
theorem dX5_speak_31 : decode cX5_speak 31 = .ok (.ifCond .le 25, 3) := by decide +kernel
theorem dX5_speak_34 : decode cX5_speak 34 = .ok (.iload 5, 2) := by decide +kernel
theorem dX5_speak_36 : decode cX5_speak 36 = .ok (.iload_n 2, 1) := by decide +kernel
theorem dX5_speak_37 : decode cX5_speak 37 = .ok (.invokestatic 39, 3) := by decide +kernel
theorem dX5_speak_40 : decode cX5_speak 40 = .ok (.ifCond .ne 16, 3) := by decide +kernel
theorem dX5_speak_43 : decode cX5_speak 43 = .ok (.iload 5, 2) := by decide +kernel
theorem dX5_speak_45 : decode cX5_speak 45 = .ok (.invokestatic 43, 3) := by decide +kernel
theorem dX5_speak_48 : decode cX5_speak 48 = .ok (.istore 5, 2) := by decide +kernel
theorem dX5_speak_50 : decode cX5_speak 50 = .ok (.iinc 6 1, 3) := by decide +kernel
theorem dX5_speak_53 : decode cX5_speak 53 = .ok (.goto (-31), 3) := by decide +kernel
theorem dX5_speak_56 : decode cX5_speak 56 = .ok (.iload 5, 2) := by decide +kernel
theorem dX5_speak_58 : decode cX5_speak 58 = .ok (.iload_n 2, 1) := by decide +kernel
theorem dX5_speak_59 : decode cX5_speak 59 = .ok (.invokestatic 39, 3) := by decide +kernel
theorem dX5_speak_62 : decode cX5_speak 62 = .ok (.istore 6, 2) := by decide +kernel
theorem dX5_speak_64 : decode cX5_speak 64 = .ok (.aload_n 0, 1) := by decide +kernel
theorem dX5_speak_65 : decode cX5_speak 65 = .ok (.iload 6, 2) := by decide +kernel
theorem dX5_speak_67 : decode cX5_speak 67 = .ok (.invokevirtual 47, 3) := by decide +kernel
theorem dX5_speak_70 : decode cX5_speak 70 = .ok (.aload_n 0, 1) := by decide +kernel
theorem dX5_speak_71 : decode cX5_speak 71 = .ok (.iload 6, 2) := by decide +kernel
theorem dX5_speak_73 : decode cX5_speak 73 = .ok (.iload_n 3, 1) := by decide +kernel
theorem dX5_speak_74 : decode cX5_speak 74 = .ok (.iload 4, 2) := by decide +kernel
theorem dX5_speak_76 : decode cX5_speak 76 = .ok (.iconst 1, 1) := by decide +kernel
theorem dX5_speak_77 : decode cX5_speak 77 = .ok (.iadd, 1) := by decide +kernel
theorem dX5_speak_78 : decode cX5_speak 78 = .ok (.invokevirtual 51, 3) := by decide +kernel
theorem dX5_speak_81 : decode cX5_speak 81 = .ok (.ireturn, 1) := by decide +kernel
theorem dX5_begin_0 : decode cX5_begin 0 = .ok (.aload_n 0, 1) := by decide +kernel
theorem dX5_begin_1 : decode cX5_begin 1 = .ok (.getfield 29, 3) := by decide +kernel
theorem dX5_begin_4 : decode cX5_begin 4 = .ok (.ifCond .lt 32, 3) := by decide +kernel
theorem dX5_begin_7 : decode cX5_begin 7 = .ok (.aload_n 0, 1) := by decide +kernel
theorem dX5_begin_8 : decode cX5_begin 8 = .ok (.getfield 29, 3) := by decide +kernel
theorem dX5_begin_11 : decode cX5_begin 11 = .ok (.bipush 30, 2) := by decide +kernel
theorem dX5_begin_13 : decode cX5_begin 13 = .ok (.if_icmp .ge 23, 3) := by decide +kernel
theorem dX5_begin_16 : decode cX5_begin 16 = .ok (.aload_n 0, 1) := by decide +kernel
theorem dX5_begin_17 : decode cX5_begin 17 = .ok (.getfield 11, 3) := by decide +kernel
theorem dX5_begin_20 : decode cX5_begin 20 = .ok (.aload_n 0, 1) := by decide +kernel
theorem dX5_begin_21 : decode cX5_begin 21 = .ok (.getfield 29, 3) := by decide +kernel
theorem dX5_begin_24 : decode cX5_begin 24 = .ok (.iload_n 1, 1) := by decide +kernel
theorem dX5_begin_25 : decode cX5_begin 25 = .ok (.iastore, 1) := by decide +kernel
theorem dX5_begin_26 : decode cX5_begin 26 = .ok (.aload_n 0, 1) := by decide +kernel
theorem dX5_begin_27 : decode cX5_begin 27 = .ok (.dup, 1) := by decide +kernel
theorem dX5_begin_28 : decode cX5_begin 28 = .ok (.getfield 29, 3) := by decide +kernel
theorem dX5_begin_31 : decode cX5_begin 31 = .ok (.iconst 1, 1) := by decide +kernel
theorem dX5_begin_32 : decode cX5_begin 32 = .ok (.iadd, 1) := by decide +kernel
theorem dX5_begin_33 : decode cX5_begin 33 = .ok (.putfield 29, 3) := by decide +kernel
theorem dX5_begin_36 : decode cX5_begin 36 = .ok (.return_, 1) := by decide +kernel
theorem dX5_own_0 : decode cX5_own 0 = .ok (.aload_n 0, 1) := by decide +kernel
theorem dX5_own_1 : decode cX5_own 1 = .ok (.aload_n 0, 1) := by decide +kernel
theorem dX5_own_2 : decode cX5_own 2 = .ok (.getfield 15, 3) := by decide +kernel
theorem dX5_own_5 : decode cX5_own 5 = .ok (.iload_n 1, 1) := by decide +kernel
theorem dX5_own_6 : decode cX5_own 6 = .ok (.iload_n 2, 1) := by decide +kernel
theorem dX5_own_7 : decode cX5_own 7 = .ok (.iload_n 3, 1) := by decide +kernel
theorem dX5_own_8 : decode cX5_own 8 = .ok (.invokevirtual 32, 3) := by decide +kernel
theorem dX5_own_11 : decode cX5_own 11 = .ok (.ireturn, 1) := by decide +kernel
theorem dX5_above_0 : decode cX5_above 0 = .ok (.aload_n 0, 1) := by decide +kernel
theorem dX5_above_1 : decode cX5_above 1 = .ok (.iload_n 1, 1) := by decide +kernel
theorem dX5_above_2 : decode cX5_above 2 = .ok (.invokestatic 43, 3) := by decide +kernel
theorem dX5_above_5 : decode cX5_above 5 = .ok (.iload_n 2, 1) := by decide +kernel
theorem dX5_above_6 : decode cX5_above 6 = .ok (.iload_n 3, 1) := by decide +kernel
theorem dX5_above_7 : decode cX5_above 7 = .ok (.iload 4, 2) := by decide +kernel
theorem dX5_above_9 : decode cX5_above 9 = .ok (.invokevirtual 32, 3) := by decide +kernel
theorem dX5_above_12 : decode cX5_above 12 = .ok (.ireturn, 1) := by decide +kernel
theorem dX5_work_0 : decode cX5_work 0 = .ok (.iload_n 1, 1) := by decide +kernel
theorem dX5_work_1 : decode cX5_work 1 = .ok (.lookupswitch 264 #[(10, 115), (11, 122), (12, 132), (13, 145), (20, 160), (21, 171), (30, 188), (40, 199), (50, 210), (51, 221), (60, 235), (70, 246), (71, 249)], 115) := by decide +kernel
theorem dX5_work_116 : decode cX5_work 116 = .ok (.iload_n 2, 1) := by decide +kernel
theorem dX5_work_117 : decode cX5_work 117 = .ok (.aload_n 0, 1) := by decide +kernel
theorem dX5_work_118 : decode cX5_work 118 = .ok (.getfield 19, 3) := by decide +kernel
theorem dX5_work_121 : decode cX5_work 121 = .ok (.iadd, 1) := by decide +kernel
theorem dX5_work_122 : decode cX5_work 122 = .ok (.ireturn, 1) := by decide +kernel
theorem dX5_work_123 : decode cX5_work 123 = .ok (.aload_n 0, 1) := by decide +kernel
theorem dX5_work_124 : decode cX5_work 124 = .ok (.iconst 0, 1) := by decide +kernel
theorem dX5_work_125 : decode cX5_work 125 = .ok (.iload_n 2, 1) := by decide +kernel
theorem dX5_work_126 : decode cX5_work 126 = .ok (.iload_n 3, 1) := by decide +kernel
theorem dX5_work_127 : decode cX5_work 127 = .ok (.invokevirtual 55, 3) := by decide +kernel
theorem dX5_work_130 : decode cX5_work 130 = .ok (.iconst 2, 1) := by decide +kernel
theorem dX5_work_131 : decode cX5_work 131 = .ok (.imul, 1) := by decide +kernel
theorem dX5_work_132 : decode cX5_work 132 = .ok (.ireturn, 1) := by decide +kernel
theorem dX5_work_133 : decode cX5_work 133 = .ok (.aload_n 0, 1) := by decide +kernel
theorem dX5_work_134 : decode cX5_work 134 = .ok (.iconst 1, 1) := by decide +kernel
theorem dX5_work_135 : decode cX5_work 135 = .ok (.iload_n 2, 1) := by decide +kernel
theorem dX5_work_136 : decode cX5_work 136 = .ok (.iload_n 3, 1) := by decide +kernel
theorem dX5_work_137 : decode cX5_work 137 = .ok (.invokevirtual 55, 3) := by decide +kernel
theorem dX5_work_140 : decode cX5_work 140 = .ok (.aload_n 0, 1) := by decide +kernel
theorem dX5_work_141 : decode cX5_work 141 = .ok (.getfield 22, 3) := by decide +kernel
theorem dX5_work_144 : decode cX5_work 144 = .ok (.isub, 1) := by decide +kernel
theorem dX5_work_145 : decode cX5_work 145 = .ok (.ireturn, 1) := by decide +kernel
theorem dX5_work_146 : decode cX5_work 146 = .ok (.aload_n 0, 1) := by decide +kernel
theorem dX5_work_147 : decode cX5_work 147 = .ok (.aload_n 0, 1) := by decide +kernel
theorem dX5_work_148 : decode cX5_work 148 = .ok (.getfield 22, 3) := by decide +kernel
theorem dX5_work_151 : decode cX5_work 151 = .ok (.aload_n 0, 1) := by decide +kernel
theorem dX5_work_152 : decode cX5_work 152 = .ok (.getfield 19, 3) := by decide +kernel
theorem dX5_work_155 : decode cX5_work 155 = .ok (.isub, 1) := by decide +kernel
theorem dX5_work_156 : decode cX5_work 156 = .ok (.iload_n 2, 1) := by decide +kernel
theorem dX5_work_157 : decode cX5_work 157 = .ok (.invokevirtual 58, 3) := by decide +kernel
theorem dX5_work_160 : decode cX5_work 160 = .ok (.ireturn, 1) := by decide +kernel
theorem dX5_work_161 : decode cX5_work 161 = .ok (.aload_n 0, 1) := by decide +kernel
theorem dX5_work_162 : decode cX5_work 162 = .ok (.iconst 1, 1) := by decide +kernel
theorem dX5_work_163 : decode cX5_work 163 = .ok (.iconst 0, 1) := by decide +kernel
theorem dX5_work_164 : decode cX5_work 164 = .ok (.iload_n 2, 1) := by decide +kernel
theorem dX5_work_165 : decode cX5_work 165 = .ok (.iload_n 3, 1) := by decide +kernel
theorem dX5_work_166 : decode cX5_work 166 = .ok (.invokevirtual 61, 3) := by decide +kernel
theorem dX5_work_169 : decode cX5_work 169 = .ok (.iconst 4, 1) := by decide +kernel
theorem dX5_work_170 : decode cX5_work 170 = .ok (.isub, 1) := by decide +kernel
theorem dX5_work_171 : decode cX5_work 171 = .ok (.ireturn, 1) := by decide +kernel
theorem dX5_work_172 : decode cX5_work 172 = .ok (.aload_n 0, 1) := by decide +kernel
theorem dX5_work_173 : decode cX5_work 173 = .ok (.iconst 1, 1) := by decide +kernel
theorem dX5_work_174 : decode cX5_work 174 = .ok (.iconst 3, 1) := by decide +kernel
theorem dX5_work_175 : decode cX5_work 175 = .ok (.iload_n 2, 1) := by decide +kernel
theorem dX5_work_176 : decode cX5_work 176 = .ok (.iload_n 3, 1) := by decide +kernel
theorem dX5_work_177 : decode cX5_work 177 = .ok (.invokevirtual 61, 3) := by decide +kernel
theorem dX5_work_180 : decode cX5_work 180 = .ok (.aload_n 0, 1) := by decide +kernel
theorem dX5_work_181 : decode cX5_work 181 = .ok (.iconst 1, 1) := by decide +kernel
theorem dX5_work_182 : decode cX5_work 182 = .ok (.iconst 1, 1) := by decide +kernel
theorem dX5_work_183 : decode cX5_work 183 = .ok (.iload_n 3, 1) := by decide +kernel
theorem dX5_work_184 : decode cX5_work 184 = .ok (.invokevirtual 55, 3) := by decide +kernel
theorem dX5_work_187 : decode cX5_work 187 = .ok (.iadd, 1) := by decide +kernel
theorem dX5_work_188 : decode cX5_work 188 = .ok (.ireturn, 1) := by decide +kernel
theorem dX5_work_189 : decode cX5_work 189 = .ok (.iconst 0, 1) := by decide +kernel
theorem dX5_work_190 : decode cX5_work 190 = .ok (.aload_n 0, 1) := by decide +kernel
theorem dX5_work_191 : decode cX5_work 191 = .ok (.iconst 2, 1) := by decide +kernel
theorem dX5_work_192 : decode cX5_work 192 = .ok (.iconst 1, 1) := by decide +kernel
theorem dX5_work_193 : decode cX5_work 193 = .ok (.iload_n 2, 1) := by decide +kernel
theorem dX5_work_194 : decode cX5_work 194 = .ok (.iload_n 3, 1) := by decide +kernel
theorem dX5_work_195 : decode cX5_work 195 = .ok (.invokevirtual 61, 3) := by decide +kernel
theorem dX5_work_198 : decode cX5_work 198 = .ok (.isub, 1) := by decide +kernel
theorem dX5_work_199 : decode cX5_work 199 = .ok (.ireturn, 1) := by decide +kernel
theorem dX5_work_200 : decode cX5_work 200 = .ok (.aload_n 0, 1) := by decide +kernel
theorem dX5_work_201 : decode cX5_work 201 = .ok (.iconst 3, 1) := by decide +kernel
theorem dX5_work_202 : decode cX5_work 202 = .ok (.iconst 2, 1) := by decide +kernel
theorem dX5_work_203 : decode cX5_work 203 = .ok (.iload_n 2, 1) := by decide +kernel
theorem dX5_work_204 : decode cX5_work 204 = .ok (.iconst 2, 1) := by decide +kernel
theorem dX5_work_205 : decode cX5_work 205 = .ok (.idiv, 1) := by decide +kernel
theorem dX5_work_206 : decode cX5_work 206 = .ok (.iload_n 3, 1) := by decide +kernel
theorem dX5_work_207 : decode cX5_work 207 = .ok (.invokevirtual 61, 3) := by decide +kernel
theorem dX5_work_210 : decode cX5_work 210 = .ok (.ireturn, 1) := by decide +kernel
theorem dX5_work_211 : decode cX5_work 211 = .ok (.aload_n 0, 1) := by decide +kernel
theorem dX5_work_212 : decode cX5_work 212 = .ok (.iconst 4, 1) := by decide +kernel
theorem dX5_work_213 : decode cX5_work 213 = .ok (.iconst 0, 1) := by decide +kernel
theorem dX5_work_214 : decode cX5_work 214 = .ok (.iload_n 2, 1) := by decide +kernel
theorem dX5_work_215 : decode cX5_work 215 = .ok (.iload_n 3, 1) := by decide +kernel
theorem dX5_work_216 : decode cX5_work 216 = .ok (.invokevirtual 61, 3) := by decide +kernel
theorem dX5_work_219 : decode cX5_work 219 = .ok (.iconst 3, 1) := by decide +kernel
theorem dX5_work_220 : decode cX5_work 220 = .ok (.imul, 1) := by decide +kernel
theorem dX5_work_221 : decode cX5_work 221 = .ok (.ireturn, 1) := by decide +kernel
theorem dX5_work_222 : decode cX5_work 222 = .ok (.aload_n 0, 1) := by decide +kernel
theorem dX5_work_223 : decode cX5_work 223 = .ok (.iconst 4, 1) := by decide +kernel
theorem dX5_work_224 : decode cX5_work 224 = .ok (.iconst 2, 1) := by decide +kernel
theorem dX5_work_225 : decode cX5_work 225 = .ok (.iload_n 2, 1) := by decide +kernel
theorem dX5_work_226 : decode cX5_work 226 = .ok (.iload_n 3, 1) := by decide +kernel
theorem dX5_work_227 : decode cX5_work 227 = .ok (.invokevirtual 61, 3) := by decide +kernel
theorem dX5_work_230 : decode cX5_work 230 = .ok (.aload_n 0, 1) := by decide +kernel
theorem dX5_work_231 : decode cX5_work 231 = .ok (.getfield 19, 3) := by decide +kernel
theorem dX5_work_234 : decode cX5_work 234 = .ok (.ixor, 1) := by decide +kernel
theorem dX5_work_235 : decode cX5_work 235 = .ok (.ireturn, 1) := by decide +kernel
theorem dX5_work_236 : decode cX5_work 236 = .ok (.aload_n 0, 1) := by decide +kernel
theorem dX5_work_237 : decode cX5_work 237 = .ok (.iconst 5, 1) := by decide +kernel
theorem dX5_work_238 : decode cX5_work 238 = .ok (.iconst 1, 1) := by decide +kernel
theorem dX5_work_239 : decode cX5_work 239 = .ok (.iload_n 2, 1) := by decide +kernel
theorem dX5_work_240 : decode cX5_work 240 = .ok (.iconst 1, 1) := by decide +kernel
theorem dX5_work_241 : decode cX5_work 241 = .ok (.iadd, 1) := by decide +kernel
theorem dX5_work_242 : decode cX5_work 242 = .ok (.iload_n 3, 1) := by decide +kernel
theorem dX5_work_243 : decode cX5_work 243 = .ok (.invokevirtual 61, 3) := by decide +kernel
theorem dX5_work_246 : decode cX5_work 246 = .ok (.ireturn, 1) := by decide +kernel
theorem dX5_work_247 : decode cX5_work 247 = .ok (.bipush 9, 2) := by decide +kernel
theorem dX5_work_249 : decode cX5_work 249 = .ok (.ireturn, 1) := by decide +kernel
theorem dX5_work_250 : decode cX5_work 250 = .ok (.aload_n 0, 1) := by decide +kernel
theorem dX5_work_251 : decode cX5_work 251 = .ok (.bipush 6, 2) := by decide +kernel
theorem dX5_work_253 : decode cX5_work 253 = .ok (.iconst 1, 1) := by decide +kernel
theorem dX5_work_254 : decode cX5_work 254 = .ok (.iload_n 2, 1) := by decide +kernel
theorem dX5_work_255 : decode cX5_work 255 = .ok (.iload_n 3, 1) := by decide +kernel
theorem dX5_work_256 : decode cX5_work 256 = .ok (.invokevirtual 61, 3) := by decide +kernel
theorem dX5_work_259 : decode cX5_work 259 = .ok (.aload_n 0, 1) := by decide +kernel
theorem dX5_work_260 : decode cX5_work 260 = .ok (.getfield 22, 3) := by decide +kernel
theorem dX5_work_263 : decode cX5_work 263 = .ok (.iadd, 1) := by decide +kernel
theorem dX5_work_264 : decode cX5_work 264 = .ok (.ireturn, 1) := by decide +kernel
theorem dX5_work_265 : decode cX5_work 265 = .ok (.iconst 0, 1) := by decide +kernel
theorem dX5_work_266 : decode cX5_work 266 = .ok (.ireturn, 1) := by decide +kernel
theorem dX5_partedBy_0 : decode cX5_partedBy 0 = .ok (.aload_n 0, 1) := by decide +kernel
theorem dX5_partedBy_1 : decode cX5_partedBy 1 = .ok (.aload_n 0, 1) := by decide +kernel
theorem dX5_partedBy_2 : decode cX5_partedBy 2 = .ok (.getfield 25, 3) := by decide +kernel
theorem dX5_partedBy_5 : decode cX5_partedBy 5 = .ok (.ifCond .ne 7, 3) := by decide +kernel
theorem dX5_partedBy_8 : decode cX5_partedBy 8 = .ok (.iload_n 1, 1) := by decide +kernel
theorem dX5_partedBy_9 : decode cX5_partedBy 9 = .ok (.ifCond .ne 7, 3) := by decide +kernel
theorem dX5_partedBy_12 : decode cX5_partedBy 12 = .ok (.iconst 1, 1) := by decide +kernel
theorem dX5_partedBy_13 : decode cX5_partedBy 13 = .ok (.goto 4, 3) := by decide +kernel
theorem dX5_partedBy_16 : decode cX5_partedBy 16 = .ok (.iconst 0, 1) := by decide +kernel
theorem dX5_partedBy_17 : decode cX5_partedBy 17 = .ok (.putfield 25, 3) := by decide +kernel
theorem dX5_partedBy_20 : decode cX5_partedBy 20 = .ok (.iload_n 2, 1) := by decide +kernel
theorem dX5_partedBy_21 : decode cX5_partedBy 21 = .ok (.iload_n 1, 1) := by decide +kernel
theorem dX5_partedBy_22 : decode cX5_partedBy 22 = .ok (.invokestatic 64, 3) := by decide +kernel
theorem dX5_partedBy_25 : decode cX5_partedBy 25 = .ok (.ireturn, 1) := by decide +kernel
